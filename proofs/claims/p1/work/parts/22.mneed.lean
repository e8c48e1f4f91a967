theorem k_53_10 : Cond.methodLink RX12 472 yX12_findLot ∈ wsL_law := mr_53 _ (List.mem_of_getElem? (i := 10) rfl)
theorem k_53_11 : Cond.instanceMethod yX12_findLot ∈ wsL_law := mr_53 _ (List.mem_of_getElem? (i := 11) rfl)
theorem k_53_12 : Cond.selects RX12 yX12_findLot yX12_findLot ∈ wsL_law := mr_53 _ (List.mem_of_getElem? (i := 12) rfl)
theorem k_53_13 : Cond.code yX12_findLot cX12_findLot 7 none ∈ wsL_law := mr_53 _ (List.mem_of_getElem? (i := 13) rfl)
theorem k_53_9 : Cond.constantLong RX12 470 (1000000) ∈ wsL_law := mr_53 _ (List.mem_of_getElem? (i := 9) rfl)
theorem k_54_22 : Cond.constantLong RX12 481 (10000) ∈ wsL_law := mr_54 _ (List.mem_of_getElem? (i := 22) rfl)
theorem k_54_23 : Cond.methodLink RX12 478 yX12_findOnce ∈ wsL_law := mr_54 _ (List.mem_of_getElem? (i := 23) rfl)
theorem k_55_0 : Cond.instanceMethod yX12_findOnce ∈ wsL_law := mr_55 _ (List.mem_of_getElem? (i := 0) rfl)
theorem k_55_1 : Cond.selects RX12 yX12_findOnce yX12_findOnce ∈ wsL_law := mr_55 _ (List.mem_of_getElem? (i := 1) rfl)
theorem k_55_2 : Cond.code yX12_findOnce cX12_findOnce 3 none ∈ wsL_law := mr_55 _ (List.mem_of_getElem? (i := 2) rfl)
theorem dX12_findLot_0 : decode cX12_findLot 0 = .ok (.iconst 0, 1) := by decide +kernel
theorem dX12_findLot_1 : decode cX12_findLot 1 = .ok (.istore_n 1, 1) := by decide +kernel
theorem dX12_findLot_2 : decode cX12_findLot 2 = .ok (.iload_n 1, 1) := by decide +kernel
theorem dX12_findLot_3 : decode cX12_findLot 3 = .ok (.bipush 73, 2) := by decide +kernel
theorem dX12_findLot_5 : decode cX12_findLot 5 = .ok (.if_icmp .ge 26, 3) := by decide +kernel
theorem dX12_findLot_8 : decode cX12_findLot 8 = .ok (.aload_n 0, 1) := by decide +kernel
theorem dX12_findLot_9 : decode cX12_findLot 9 = .ok (.getfield 141, 3) := by decide +kernel
theorem dX12_findLot_12 : decode cX12_findLot 12 = .ok (.iload_n 1, 1) := by decide +kernel
theorem dX12_findLot_13 : decode cX12_findLot 13 = .ok (.iload_n 1, 1) := by decide +kernel
theorem dX12_findLot_14 : decode cX12_findLot 14 = .ok (.bipush 36, 2) := by decide +kernel
theorem dX12_findLot_16 : decode cX12_findLot 16 = .ok (.if_icmp .ne 7, 3) := by decide +kernel
theorem dX12_findLot_19 : decode cX12_findLot 19 = .ok (.lconst 1, 1) := by decide +kernel
theorem dX12_findLot_20 : decode cX12_findLot 20 = .ok (.goto 4, 3) := by decide +kernel
theorem dX12_findLot_23 : decode cX12_findLot 23 = .ok (.lconst 0, 1) := by decide +kernel
theorem dX12_findLot_24 : decode cX12_findLot 24 = .ok (.lastore, 1) := by decide +kernel
theorem dX12_findLot_25 : decode cX12_findLot 25 = .ok (.iinc 1 1, 3) := by decide +kernel
theorem dX12_findLot_28 : decode cX12_findLot 28 = .ok (.goto (-26), 3) := by decide +kernel
theorem dX12_findLot_31 : decode cX12_findLot 31 = .ok (.lconst 1, 1) := by decide +kernel
theorem dX12_findLot_32 : decode cX12_findLot 32 = .ok (.lstore_n 1, 1) := by decide +kernel
theorem dX12_findLot_33 : decode cX12_findLot 33 = .ok (.iconst 0, 1) := by decide +kernel
theorem dX12_findLot_34 : decode cX12_findLot 34 = .ok (.istore_n 3, 1) := by decide +kernel
theorem dX12_findLot_35 : decode cX12_findLot 35 = .ok (.iload_n 3, 1) := by decide +kernel
theorem dX12_findLot_36 : decode cX12_findLot 36 = .ok (.iconst 4, 1) := by decide +kernel
theorem dX12_findLot_37 : decode cX12_findLot 37 = .ok (.if_icmp .ge 141, 3) := by decide +kernel
theorem dX12_findLot_40 : decode cX12_findLot 40 = .ok (.aload_n 0, 1) := by decide +kernel
theorem dX12_findLot_41 : decode cX12_findLot 41 = .ok (.getfield 64, 3) := by decide +kernel
theorem dX12_findLot_44 : decode cX12_findLot 44 = .ok (.iload_n 3, 1) := by decide +kernel
theorem dX12_findLot_45 : decode cX12_findLot 45 = .ok (.iaload, 1) := by decide +kernel
theorem dX12_findLot_46 : decode cX12_findLot 46 = .ok (.istore 4, 2) := by decide +kernel
theorem dX12_findLot_48 : decode cX12_findLot 48 = .ok (.iconst 0, 1) := by decide +kernel
theorem dX12_findLot_49 : decode cX12_findLot 49 = .ok (.istore 5, 2) := by decide +kernel
theorem dX12_findLot_51 : decode cX12_findLot 51 = .ok (.iload 5, 2) := by decide +kernel
theorem dX12_findLot_53 : decode cX12_findLot 53 = .ok (.bipush 73, 2) := by decide +kernel
theorem dX12_findLot_55 : decode cX12_findLot 55 = .ok (.if_icmp .ge 77, 3) := by decide +kernel
theorem dX12_findLot_58 : decode cX12_findLot 58 = .ok (.aload_n 0, 1) := by decide +kernel
theorem dX12_findLot_59 : decode cX12_findLot 59 = .ok (.getfield 144, 3) := by decide +kernel
theorem dX12_findLot_62 : decode cX12_findLot 62 = .ok (.iload 5, 2) := by decide +kernel
theorem dX12_findLot_64 : decode cX12_findLot 64 = .ok (.lconst 0, 1) := by decide +kernel
theorem dX12_findLot_65 : decode cX12_findLot 65 = .ok (.lastore, 1) := by decide +kernel
theorem dX12_findLot_66 : decode cX12_findLot 66 = .ok (.iload 4, 2) := by decide +kernel
theorem dX12_findLot_68 : decode cX12_findLot 68 = .ok (.ineg, 1) := by decide +kernel
theorem dX12_findLot_69 : decode cX12_findLot 69 = .ok (.istore 6, 2) := by decide +kernel
theorem dX12_findLot_71 : decode cX12_findLot 71 = .ok (.iload 6, 2) := by decide +kernel
theorem dX12_findLot_73 : decode cX12_findLot 73 = .ok (.iload 4, 2) := by decide +kernel
theorem dX12_findLot_75 : decode cX12_findLot 75 = .ok (.if_icmp .gt 51, 3) := by decide +kernel
theorem dX12_findLot_78 : decode cX12_findLot 78 = .ok (.aload_n 0, 1) := by decide +kernel
theorem dX12_findLot_79 : decode cX12_findLot 79 = .ok (.getfield 144, 3) := by decide +kernel
theorem dX12_findLot_82 : decode cX12_findLot 82 = .ok (.iload 5, 2) := by decide +kernel
theorem dX12_findLot_84 : decode cX12_findLot 84 = .ok (.dup2, 1) := by decide +kernel
theorem dX12_findLot_85 : decode cX12_findLot 85 = .ok (.laload, 1) := by decide +kernel
theorem dX12_findLot_86 : decode cX12_findLot 86 = .ok (.iload 5, 2) := by decide +kernel
theorem dX12_findLot_88 : decode cX12_findLot 88 = .ok (.iload 6, 2) := by decide +kernel
theorem dX12_findLot_90 : decode cX12_findLot 90 = .ok (.isub, 1) := by decide +kernel
theorem dX12_findLot_91 : decode cX12_findLot 91 = .ok (.ifCond .lt 26, 3) := by decide +kernel
theorem dX12_findLot_94 : decode cX12_findLot 94 = .ok (.iload 5, 2) := by decide +kernel
theorem dX12_findLot_96 : decode cX12_findLot 96 = .ok (.iload 6, 2) := by decide +kernel
theorem dX12_findLot_98 : decode cX12_findLot 98 = .ok (.isub, 1) := by decide +kernel
theorem dX12_findLot_99 : decode cX12_findLot 99 = .ok (.bipush 73, 2) := by decide +kernel
theorem dX12_findLot_101 : decode cX12_findLot 101 = .ok (.if_icmp .ge 16, 3) := by decide +kernel
theorem dX12_findLot_104 : decode cX12_findLot 104 = .ok (.aload_n 0, 1) := by decide +kernel
theorem dX12_findLot_105 : decode cX12_findLot 105 = .ok (.getfield 141, 3) := by decide +kernel
theorem dX12_findLot_108 : decode cX12_findLot 108 = .ok (.iload 5, 2) := by decide +kernel
theorem dX12_findLot_110 : decode cX12_findLot 110 = .ok (.iload 6, 2) := by decide +kernel
theorem dX12_findLot_112 : decode cX12_findLot 112 = .ok (.isub, 1) := by decide +kernel
theorem dX12_findLot_113 : decode cX12_findLot 113 = .ok (.laload, 1) := by decide +kernel
theorem dX12_findLot_114 : decode cX12_findLot 114 = .ok (.goto 4, 3) := by decide +kernel
theorem dX12_findLot_118 : decode cX12_findLot 118 = .ok (.ladd, 1) := by decide +kernel
theorem dX12_findLot_119 : decode cX12_findLot 119 = .ok (.lastore, 1) := by decide +kernel
theorem dX12_findLot_120 : decode cX12_findLot 120 = .ok (.iinc 6 1, 3) := by decide +kernel
theorem dX12_findLot_123 : decode cX12_findLot 123 = .ok (.goto (-52), 3) := by decide +kernel
theorem dX12_findLot_126 : decode cX12_findLot 126 = .ok (.iinc 5 1, 3) := by decide +kernel
theorem dX12_findLot_129 : decode cX12_findLot 129 = .ok (.goto (-78), 3) := by decide +kernel
theorem dX12_findLot_132 : decode cX12_findLot 132 = .ok (.iconst 0, 1) := by decide +kernel
theorem dX12_findLot_133 : decode cX12_findLot 133 = .ok (.istore 5, 2) := by decide +kernel
theorem dX12_findLot_135 : decode cX12_findLot 135 = .ok (.iload 5, 2) := by decide +kernel
theorem dX12_findLot_137 : decode cX12_findLot 137 = .ok (.bipush 73, 2) := by decide +kernel
theorem dX12_findLot_139 : decode cX12_findLot 139 = .ok (.if_icmp .ge 23, 3) := by decide +kernel
theorem dX12_findLot_142 : decode cX12_findLot 142 = .ok (.aload_n 0, 1) := by decide +kernel
theorem dX12_findLot_143 : decode cX12_findLot 143 = .ok (.getfield 141, 3) := by decide +kernel
theorem dX12_findLot_146 : decode cX12_findLot 146 = .ok (.iload 5, 2) := by decide +kernel
theorem dX12_findLot_148 : decode cX12_findLot 148 = .ok (.aload_n 0, 1) := by decide +kernel
theorem dX12_findLot_149 : decode cX12_findLot 149 = .ok (.getfield 144, 3) := by decide +kernel
theorem dX12_findLot_152 : decode cX12_findLot 152 = .ok (.iload 5, 2) := by decide +kernel
theorem dX12_findLot_154 : decode cX12_findLot 154 = .ok (.laload, 1) := by decide +kernel
theorem dX12_findLot_155 : decode cX12_findLot 155 = .ok (.lastore, 1) := by decide +kernel
theorem dX12_findLot_156 : decode cX12_findLot 156 = .ok (.iinc 5 1, 3) := by decide +kernel
theorem dX12_findLot_159 : decode cX12_findLot 159 = .ok (.goto (-24), 3) := by decide +kernel
theorem dX12_findLot_162 : decode cX12_findLot 162 = .ok (.lload_n 1, 1) := by decide +kernel
theorem dX12_findLot_163 : decode cX12_findLot 163 = .ok (.iconst 2, 1) := by decide +kernel
theorem dX12_findLot_164 : decode cX12_findLot 164 = .ok (.iload 4, 2) := by decide +kernel
theorem dX12_findLot_166 : decode cX12_findLot 166 = .ok (.imul, 1) := by decide +kernel
theorem dX12_findLot_167 : decode cX12_findLot 167 = .ok (.iconst 1, 1) := by decide +kernel
theorem dX12_findLot_168 : decode cX12_findLot 168 = .ok (.iadd, 1) := by decide +kernel
theorem dX12_findLot_169 : decode cX12_findLot 169 = .ok (.i2l, 1) := by decide +kernel
theorem dX12_findLot_170 : decode cX12_findLot 170 = .ok (.lmul, 1) := by decide +kernel
theorem dX12_findLot_171 : decode cX12_findLot 171 = .ok (.lstore_n 1, 1) := by decide +kernel
theorem dX12_findLot_172 : decode cX12_findLot 172 = .ok (.iinc 3 1, 3) := by decide +kernel
theorem dX12_findLot_175 : decode cX12_findLot 175 = .ok (.goto (-140), 3) := by decide +kernel
theorem dX12_findLot_178 : decode cX12_findLot 178 = .ok (.iconst 0, 1) := by decide +kernel
theorem dX12_findLot_179 : decode cX12_findLot 179 = .ok (.istore_n 3, 1) := by decide +kernel
theorem dX12_findLot_180 : decode cX12_findLot 180 = .ok (.iload_n 3, 1) := by decide +kernel
theorem dX12_findLot_181 : decode cX12_findLot 181 = .ok (.bipush 73, 2) := by decide +kernel
theorem dX12_findLot_183 : decode cX12_findLot 183 = .ok (.if_icmp .ge 27, 3) := by decide +kernel
theorem dX12_findLot_186 : decode cX12_findLot 186 = .ok (.aload_n 0, 1) := by decide +kernel
theorem dX12_findLot_187 : decode cX12_findLot 187 = .ok (.getfield 147, 3) := by decide +kernel
theorem dX12_findLot_190 : decode cX12_findLot 190 = .ok (.iload_n 3, 1) := by decide +kernel
theorem dX12_findLot_191 : decode cX12_findLot 191 = .ok (.aload_n 0, 1) := by decide +kernel
theorem dX12_findLot_192 : decode cX12_findLot 192 = .ok (.getfield 141, 3) := by decide +kernel
theorem dX12_findLot_195 : decode cX12_findLot 195 = .ok (.iload_n 3, 1) := by decide +kernel
theorem dX12_findLot_196 : decode cX12_findLot 196 = .ok (.laload, 1) := by decide +kernel
theorem dX12_findLot_197 : decode cX12_findLot 197 = .ok (.ldc2_w 470, 3) := by decide +kernel
theorem dX12_findLot_200 : decode cX12_findLot 200 = .ok (.lmul, 1) := by decide +kernel
theorem dX12_findLot_201 : decode cX12_findLot 201 = .ok (.lload_n 1, 1) := by decide +kernel
theorem dX12_findLot_202 : decode cX12_findLot 202 = .ok (.ldiv, 1) := by decide +kernel
theorem dX12_findLot_203 : decode cX12_findLot 203 = .ok (.lastore, 1) := by decide +kernel
theorem dX12_findLot_204 : decode cX12_findLot 204 = .ok (.iinc 3 1, 3) := by decide +kernel
theorem dX12_findLot_207 : decode cX12_findLot 207 = .ok (.goto (-27), 3) := by decide +kernel
theorem dX12_findLot_210 : decode cX12_findLot 210 = .ok (.return_, 1) := by decide +kernel
theorem dX12_findOnce_0 : decode cX12_findOnce 0 = .ok (.iconst 0, 1) := by decide +kernel
theorem dX12_findOnce_1 : decode cX12_findOnce 1 = .ok (.istore_n 1, 1) := by decide +kernel
theorem dX12_findOnce_2 : decode cX12_findOnce 2 = .ok (.iload_n 1, 1) := by decide +kernel
theorem dX12_findOnce_3 : decode cX12_findOnce 3 = .ok (.sipush 145, 3) := by decide +kernel
theorem dX12_findOnce_6 : decode cX12_findOnce 6 = .ok (.if_icmp .ge 16, 3) := by decide +kernel
theorem dX12_findOnce_9 : decode cX12_findOnce 9 = .ok (.aload_n 0, 1) := by decide +kernel
theorem dX12_findOnce_10 : decode cX12_findOnce 10 = .ok (.getfield 159, 3) := by decide +kernel
theorem dX12_findOnce_13 : decode cX12_findOnce 13 = .ok (.iload_n 1, 1) := by decide +kernel
theorem dX12_findOnce_14 : decode cX12_findOnce 14 = .ok (.lconst 0, 1) := by decide +kernel
theorem dX12_findOnce_15 : decode cX12_findOnce 15 = .ok (.lastore, 1) := by decide +kernel
theorem dX12_findOnce_16 : decode cX12_findOnce 16 = .ok (.iinc 1 1, 3) := by decide +kernel
theorem dX12_findOnce_19 : decode cX12_findOnce 19 = .ok (.goto (-17), 3) := by decide +kernel
theorem dX12_findOnce_22 : decode cX12_findOnce 22 = .ok (.iconst 0, 1) := by decide +kernel
theorem dX12_findOnce_23 : decode cX12_findOnce 23 = .ok (.istore_n 1, 1) := by decide +kernel
theorem dX12_findOnce_24 : decode cX12_findOnce 24 = .ok (.iload_n 1, 1) := by decide +kernel
theorem dX12_findOnce_25 : decode cX12_findOnce 25 = .ok (.bipush 73, 2) := by decide +kernel
theorem dX12_findOnce_27 : decode cX12_findOnce 27 = .ok (.if_icmp .ge 54, 3) := by decide +kernel
theorem dX12_findOnce_30 : decode cX12_findOnce 30 = .ok (.iconst 0, 1) := by decide +kernel
theorem dX12_findOnce_31 : decode cX12_findOnce 31 = .ok (.istore_n 2, 1) := by decide +kernel
theorem dX12_findOnce_32 : decode cX12_findOnce 32 = .ok (.iload_n 2, 1) := by decide +kernel
theorem dX12_findOnce_33 : decode cX12_findOnce 33 = .ok (.bipush 73, 2) := by decide +kernel
theorem dX12_findOnce_35 : decode cX12_findOnce 35 = .ok (.if_icmp .ge 40, 3) := by decide +kernel
theorem dX12_findOnce_38 : decode cX12_findOnce 38 = .ok (.aload_n 0, 1) := by decide +kernel
theorem dX12_findOnce_39 : decode cX12_findOnce 39 = .ok (.getfield 159, 3) := by decide +kernel
theorem dX12_findOnce_42 : decode cX12_findOnce 42 = .ok (.iload_n 1, 1) := by decide +kernel
theorem dX12_findOnce_43 : decode cX12_findOnce 43 = .ok (.iload_n 2, 1) := by decide +kernel
theorem dX12_findOnce_44 : decode cX12_findOnce 44 = .ok (.isub, 1) := by decide +kernel
theorem dX12_findOnce_45 : decode cX12_findOnce 45 = .ok (.bipush 72, 2) := by decide +kernel
theorem dX12_findOnce_47 : decode cX12_findOnce 47 = .ok (.iadd, 1) := by decide +kernel
theorem dX12_findOnce_48 : decode cX12_findOnce 48 = .ok (.dup2, 1) := by decide +kernel
theorem dX12_findOnce_49 : decode cX12_findOnce 49 = .ok (.laload, 1) := by decide +kernel
theorem dX12_findOnce_50 : decode cX12_findOnce 50 = .ok (.aload_n 0, 1) := by decide +kernel
theorem dX12_findOnce_51 : decode cX12_findOnce 51 = .ok (.getfield 147, 3) := by decide +kernel
theorem dX12_findOnce_54 : decode cX12_findOnce 54 = .ok (.iload_n 1, 1) := by decide +kernel
theorem dX12_findOnce_55 : decode cX12_findOnce 55 = .ok (.laload, 1) := by decide +kernel
theorem dX12_findOnce_56 : decode cX12_findOnce 56 = .ok (.aload_n 0, 1) := by decide +kernel
theorem dX12_findOnce_57 : decode cX12_findOnce 57 = .ok (.getfield 147, 3) := by decide +kernel
theorem dX12_findOnce_60 : decode cX12_findOnce 60 = .ok (.iload_n 2, 1) := by decide +kernel
theorem dX12_findOnce_61 : decode cX12_findOnce 61 = .ok (.laload, 1) := by decide +kernel
theorem dX12_findOnce_62 : decode cX12_findOnce 62 = .ok (.lmul, 1) := by decide +kernel
theorem dX12_findOnce_63 : decode cX12_findOnce 63 = .ok (.ldc2_w 470, 3) := by decide +kernel
theorem dX12_findOnce_66 : decode cX12_findOnce 66 = .ok (.ldiv, 1) := by decide +kernel
theorem dX12_findOnce_67 : decode cX12_findOnce 67 = .ok (.ladd, 1) := by decide +kernel
theorem dX12_findOnce_68 : decode cX12_findOnce 68 = .ok (.lastore, 1) := by decide +kernel
theorem dX12_findOnce_69 : decode cX12_findOnce 69 = .ok (.iinc 2 1, 3) := by decide +kernel
theorem dX12_findOnce_72 : decode cX12_findOnce 72 = .ok (.goto (-40), 3) := by decide +kernel
theorem dX12_findOnce_75 : decode cX12_findOnce 75 = .ok (.iinc 1 1, 3) := by decide +kernel
theorem dX12_findOnce_78 : decode cX12_findOnce 78 = .ok (.goto (-54), 3) := by decide +kernel
theorem dX12_findOnce_81 : decode cX12_findOnce 81 = .ok (.return_, 1) := by decide +kernel
theorem dX12_need_0 : decode cX12_need 0 = .ok (.iload_n 1, 1) := by decide +kernel
theorem dX12_need_1 : decode cX12_need 1 = .ok (.iconst 1, 1) := by decide +kernel
theorem dX12_need_2 : decode cX12_need 2 = .ok (.bipush 40, 2) := by decide +kernel
theorem dX12_need_4 : decode cX12_need 4 = .ok (.invokestatic 182, 3) := by decide +kernel
theorem dX12_need_7 : decode cX12_need 7 = .ok (.ifCond .eq 13, 3) := by decide +kernel
theorem dX12_need_10 : decode cX12_need 10 = .ok (.iload_n 2, 1) := by decide +kernel
theorem dX12_need_11 : decode cX12_need 11 = .ok (.iconst 1, 1) := by decide +kernel
theorem dX12_need_12 : decode cX12_need 12 = .ok (.bipush 100, 2) := by decide +kernel
theorem dX12_need_14 : decode cX12_need 14 = .ok (.invokestatic 182, 3) := by decide +kernel
theorem dX12_need_17 : decode cX12_need 17 = .ok (.ifCond .ne 5, 3) := by decide +kernel
theorem dX12_need_20 : decode cX12_need 20 = .ok (.iconst (-1), 1) := by decide +kernel
theorem dX12_need_21 : decode cX12_need 21 = .ok (.ireturn, 1) := by decide +kernel
theorem dX12_need_22 : decode cX12_need 22 = .ok (.aload_n 0, 1) := by decide +kernel
theorem dX12_need_23 : decode cX12_need 23 = .ok (.invokevirtual 472, 3) := by decide +kernel
theorem dX12_need_26 : decode cX12_need 26 = .ok (.aload_n 0, 1) := by decide +kernel
theorem dX12_need_27 : decode cX12_need 27 = .ok (.invokevirtual 478, 3) := by decide +kernel
theorem dX12_need_30 : decode cX12_need 30 = .ok (.iconst 0, 1) := by decide +kernel
theorem dX12_need_31 : decode cX12_need 31 = .ok (.istore_n 3, 1) := by decide +kernel
theorem dX12_need_32 : decode cX12_need 32 = .ok (.iload_n 3, 1) := by decide +kernel
theorem dX12_need_33 : decode cX12_need 33 = .ok (.sipush 4321, 3) := by decide +kernel
theorem dX12_need_36 : decode cX12_need 36 = .ok (.if_icmp .ge 43, 3) := by decide +kernel
theorem dX12_need_39 : decode cX12_need 39 = .ok (.aload_n 0, 1) := by decide +kernel
theorem dX12_need_40 : decode cX12_need 40 = .ok (.getfield 153, 3) := by decide +kernel
theorem dX12_need_43 : decode cX12_need 43 = .ok (.iload_n 3, 1) := by decide +kernel
theorem dX12_need_44 : decode cX12_need 44 = .ok (.iload_n 3, 1) := by decide +kernel
theorem dX12_need_45 : decode cX12_need 45 = .ok (.sipush 2088, 3) := by decide +kernel
theorem dX12_need_48 : decode cX12_need 48 = .ok (.if_icmp .lt 10, 3) := by decide +kernel
theorem dX12_need_51 : decode cX12_need 51 = .ok (.iload_n 3, 1) := by decide +kernel
theorem dX12_need_52 : decode cX12_need 52 = .ok (.sipush 2232, 3) := by decide +kernel
theorem dX12_need_55 : decode cX12_need 55 = .ok (.if_icmp .le 7, 3) := by decide +kernel
theorem dX12_need_58 : decode cX12_need 58 = .ok (.lconst 0, 1) := by decide +kernel
theorem dX12_need_59 : decode cX12_need 59 = .ok (.goto 13, 3) := by decide +kernel
theorem dX12_need_62 : decode cX12_need 62 = .ok (.aload_n 0, 1) := by decide +kernel
theorem dX12_need_63 : decode cX12_need 63 = .ok (.getfield 159, 3) := by decide +kernel
theorem dX12_need_66 : decode cX12_need 66 = .ok (.iload_n 3, 1) := by decide +kernel
theorem dX12_need_67 : decode cX12_need 67 = .ok (.sipush 2088, 3) := by decide +kernel
theorem dX12_need_70 : decode cX12_need 70 = .ok (.isub, 1) := by decide +kernel
theorem dX12_need_71 : decode cX12_need 71 = .ok (.laload, 1) := by decide +kernel
theorem dX12_need_72 : decode cX12_need 72 = .ok (.lastore, 1) := by decide +kernel
theorem dX12_need_73 : decode cX12_need 73 = .ok (.iinc 3 1, 3) := by decide +kernel
theorem dX12_need_76 : decode cX12_need 76 = .ok (.goto (-44), 3) := by decide +kernel
theorem dX12_need_79 : decode cX12_need 79 = .ok (.iconst 1, 1) := by decide +kernel
theorem dX12_need_80 : decode cX12_need 80 = .ok (.istore_n 3, 1) := by decide +kernel
theorem dX12_need_81 : decode cX12_need 81 = .ok (.iload_n 3, 1) := by decide +kernel
theorem dX12_need_82 : decode cX12_need 82 = .ok (.bipush 30, 2) := by decide +kernel
theorem dX12_need_84 : decode cX12_need 84 = .ok (.if_icmp .gt 232, 3) := by decide +kernel
theorem dX12_need_87 : decode cX12_need 87 = .ok (.lconst 0, 1) := by decide +kernel
theorem dX12_need_88 : decode cX12_need 88 = .ok (.lstore 4, 2) := by decide +kernel
theorem dX12_need_90 : decode cX12_need 90 = .ok (.iconst 0, 1) := by decide +kernel
theorem dX12_need_91 : decode cX12_need 91 = .ok (.istore 6, 2) := by decide +kernel
theorem dX12_need_93 : decode cX12_need 93 = .ok (.iload 6, 2) := by decide +kernel
theorem dX12_need_95 : decode cX12_need 95 = .ok (.sipush 4321, 3) := by decide +kernel
theorem dX12_need_98 : decode cX12_need 98 = .ok (.if_icmp .ge 38, 3) := by decide +kernel
theorem dX12_need_101 : decode cX12_need 101 = .ok (.lload 4, 2) := by decide +kernel
theorem dX12_need_103 : decode cX12_need 103 = .ok (.iload 6, 2) := by decide +kernel
theorem dX12_need_105 : decode cX12_need 105 = .ok (.sipush 2160, 3) := by decide +kernel
theorem dX12_need_108 : decode cX12_need 108 = .ok (.isub, 1) := by decide +kernel
theorem dX12_need_109 : decode cX12_need 109 = .ok (.iload_n 3, 1) := by decide +kernel
theorem dX12_need_110 : decode cX12_need 110 = .ok (.iload_n 1, 1) := by decide +kernel
theorem dX12_need_111 : decode cX12_need 111 = .ok (.imul, 1) := by decide +kernel
theorem dX12_need_112 : decode cX12_need 112 = .ok (.iadd, 1) := by decide +kernel
theorem dX12_need_113 : decode cX12_need 113 = .ok (.ifCond .le 13, 3) := by decide +kernel
theorem dX12_need_116 : decode cX12_need 116 = .ok (.aload_n 0, 1) := by decide +kernel
theorem dX12_need_117 : decode cX12_need 117 = .ok (.getfield 153, 3) := by decide +kernel
theorem dX12_need_120 : decode cX12_need 120 = .ok (.iload 6, 2) := by decide +kernel
theorem dX12_need_122 : decode cX12_need 122 = .ok (.laload, 1) := by decide +kernel
theorem dX12_need_123 : decode cX12_need 123 = .ok (.goto 4, 3) := by decide +kernel
theorem dX12_need_126 : decode cX12_need 126 = .ok (.lconst 0, 1) := by decide +kernel
theorem dX12_need_127 : decode cX12_need 127 = .ok (.ladd, 1) := by decide +kernel
theorem dX12_need_128 : decode cX12_need 128 = .ok (.lstore 4, 2) := by decide +kernel
theorem dX12_need_130 : decode cX12_need 130 = .ok (.iinc 6 1, 3) := by decide +kernel
theorem dX12_need_133 : decode cX12_need 133 = .ok (.goto (-40), 3) := by decide +kernel
theorem dX12_need_136 : decode cX12_need 136 = .ok (.lload 4, 2) := by decide +kernel
theorem dX12_need_138 : decode cX12_need 138 = .ok (.iload_n 2, 1) := by decide +kernel
theorem dX12_need_139 : decode cX12_need 139 = .ok (.i2l, 1) := by decide +kernel
theorem dX12_need_140 : decode cX12_need 140 = .ok (.ldc2_w 481, 3) := by decide +kernel
theorem dX12_need_143 : decode cX12_need 143 = .ok (.lmul, 1) := by decide +kernel
theorem dX12_need_144 : decode cX12_need 144 = .ok (.lcmp, 1) := by decide +kernel
theorem dX12_need_145 : decode cX12_need 145 = .ok (.ifCond .lt 5, 3) := by decide +kernel
theorem dX12_need_148 : decode cX12_need 148 = .ok (.iload_n 3, 1) := by decide +kernel
theorem dX12_need_149 : decode cX12_need 149 = .ok (.ireturn, 1) := by decide +kernel
set_option maxHeartbeats 4000000 in
set_option maxRecDepth 100000 in
theorem cm_findLot (l : Launch) (D : va_G) (cI cJ cZ cB : ClassId) (cO : ClassId) (a : Nat → Nat) :
    CV l D [(cI, .int), (cJ, .long), (cZ, .boolean), (cB, .byte), (cO, .object "LuckLinks$World")] yX12_findLot cX12_findLot 7 ({ frames := 0, cells := 0, slots := 0, locals := 0 } : Room) [.ref (a 0)] [((a 0), .inr (12, (mF a))), ((a 42), .inl (cJ, 73, .inr (.inl (fun _ => (0 : Int64))))), ((a 43), .inl (cJ, 73, .inr (.inl (fun _ => (0 : Int64))))), ((a 44), .inl (cJ, 73, .inr (.inl (fun _ => (0 : Int64))))), ((a 18), .inl (cI, 8, .inl (fun _ => (0 : Int32))))] (fun (u : Unit) => (True)) (fun (_ : Unit) => [((a 0), .inr (12, (mF a))), ((a 44), .inl (cJ, 73, .inr (.inl (lotM))))]) := by
  intro sz
  refine body_of (y := yX12_findLot) (cc := cX12_findLot) (maxL := 7) (ret := none) (rm := ({ frames := 0, cells := 0, slots := 0, locals := 0 } : Room)) (wc := [((a 0), .inr (12, (mF a))), ((a 42), .inl (cJ, 73, .inr (.inl (fun _ => (0 : Int64))))), ((a 43), .inl (cJ, 73, .inr (.inl (fun _ => (0 : Int64))))), ((a 44), .inl (cJ, 73, .inr (.inl (fun _ => (0 : Int64))))), ((a 18), .inl (cI, 8, .inl (fun _ => (0 : Int32))))]) (tys := [(cI, .int), (cJ, .long), (cZ, .boolean), (cB, .byte), (cO, .object "LuckLinks$World")]) (D := D) (sz := sz) (own := RX12) (av := [.ref (a 0)]) (Qc := fun A => va_Qv (fun (u : Unit) => (True)) (fun u t => Aft D A ((fun (_ : Unit) => [((a 0), .inr (12, (mF a))), ((a 44), .inl (cJ, 73, .inr (.inl (lotM))))]) u) t) A) (by decide) rfl (Nat.le_of_ble_eq_true rfl) (fun p e s m below meth c A ls C hr hlk hin X hl => ?_)
  have hx := C.1
  have hb := C.2.1
  have hown := C.2.2.2.1
  have hts := C.2.2.2.2.1
  have hl : lv_has ls 7 [(0, .ref (a 0))] := hl
  show W p l e _ s m _ below meth c s.heap [] 0 0 (MQ below (va_Qv (fun (u : Unit) => (True)) (fun u t => Aft D A ((fun (_ : Unit) => [((a 0), .inr (12, (mF a))), ((a 44), .inl (cJ, 73, .inr (.inl (lotM))))]) u) t) A) ([.ref (a 0)] : List Value).toArray s 0 0 A) (F0 m 0 ls [])
  have X : Wd D A s [((a 0), .inr (12, (mF a))), ((a 42), .inl (cJ, 73, .inr (.inl (fun _ => (0 : Int64))))), ((a 43), .inl (cJ, 73, .inr (.inl (fun _ => (0 : Int64))))), ((a 44), .inl (cJ, 73, .inr (.inl (fun _ => (0 : Int64))))), ((a 18), .inl (cI, 8, .inl (fun _ => (0 : Int32))))] s.heap [] := X
  obtain ⟨H, locs, eH, eL⟩ : ∃ H locs, H = s.heap ∧ locs = ([] : List Loc) := ⟨_, _, rfl, rfl⟩
  rw [← eH, ← eL] at X ⊢
  clear eH eL
  refine lv_iconst (v := (0 : Int32)) hx hb dX12_findLot_0 (by decide) ?_
  have X := x_cng X 1 rfl (arr_eql _ _ (g := fun j => if j < 0 then ind36 j else 0) (fun j h => by rw [if_neg (by omega)]))
  have X : Wd D A s [((a 0), .inr (12, (mF a))), ((a 42), .inl (cJ, 73, .inr (.inl (fun j => if j < 0 then ind36 j else 0)))), ((a 43), .inl (cJ, 73, .inr (.inl (fun _ => (0 : Int64))))), ((a 44), .inl (cJ, 73, .inr (.inl (fun _ => (0 : Int64))))), ((a 18), .inl (cI, 8, .inl (fun _ => (0 : Int32))))] H locs := X
  refine lv_istore_n (lv' := [(1, .int (0 : Int32)), (0, .ref (a 0))]) hx hb dX12_findLot_1 rfl hl (by decide) rfl (fun ls hl => ?_)
  have L2 : ∀ (n : Nat) (i : Nat) (H : Heap) (locs : List Loc) (ls : Array Slot), (h1 : i ≤ 73) → 73 < i + n → Wd D A s [((a 0), .inr (12, (mF a))), ((a 42), .inl (cJ, 73, .inr (.inl (fun j => if j < i then ind36 j else 0)))), ((a 43), .inl (cJ, 73, .inr (.inl (fun _ => (0 : Int64))))), ((a 44), .inl (cJ, 73, .inr (.inl (fun _ => (0 : Int64))))), ((a 18), .inl (cI, 8, .inl (fun _ => (0 : Int32))))] H locs → lv_has ls 7 [(1, .int (nI (i))), (0, .ref (a 0))] → W p l e ({ frames := 0, cells := 0, slots := 0, locals := 0 } : Room) s m ([.ref (a 0)] : List Value).toArray below meth c H locs 0 0 (MQ below (va_Qv (fun (u : Unit) => (True)) (fun u t => Aft D A ((fun (_ : Unit) => [((a 0), .inr (12, (mF a))), ((a 44), .inl (cJ, 73, .inr (.inl (lotM))))]) u) t) A) ([.ref (a 0)] : List Value).toArray s 0 0 A) (F0 m 2 ls []) := by
    intro n
    induction n with
    | zero => intro i H locs ls h1 hn; exact absurd hn (by omega)
    | succ n ih =>
      intro i H locs ls h1 hn X hl
      have ih2 := ih
      refine lv_iload_n hx hb dX12_findLot_2 rfl (lv_at hl 0 rfl) ?_
      refine lv_bipush (v := (73 : Int32)) hx hb dX12_findLot_3 (by decide) ?_
      refine lv_icmp_ge (tgt := 31) hx hb dX12_findLot_5 (by decide) (fun c_1 => ?_) (fun c_1 => ?_)
      · have fc_1 : (73 : Int) ≤ ((i : Nat) : Int) := (by have h9 := i_le c_1; simp only [nI_toInt (n := i) (by omega)] at h9; exact h9)
        have X := x_cng X 1 rfl (arr_eql _ _ (g := ind36) (fun j h => by show (if j < i then ind36 j else 0) = ind36 j; exact if_pos (by omega)))
        have X : Wd D A s [((a 0), .inr (12, (mF a))), ((a 42), .inl (cJ, 73, .inr (.inl (ind36)))), ((a 43), .inl (cJ, 73, .inr (.inl (fun _ => (0 : Int64))))), ((a 44), .inl (cJ, 73, .inr (.inl (fun _ => (0 : Int64))))), ((a 18), .inl (cI, 8, .inl (fun _ => (0 : Int32))))] H locs := X
        refine lv_lconst (v := (1 : Int64)) hx hb dX12_findLot_31 (by decide) ?_
        refine lv_lstore_n (lv' := [(1, .long (1 : Int64)), (0, .ref (a 0))]) hx hb dX12_findLot_32 rfl hl (by decide) rfl (fun ls hl => ?_)
        refine lv_iconst (v := (0 : Int32)) hx hb dX12_findLot_33 (by decide) ?_
        refine lv_istore_n (lv' := [(3, .int (0 : Int32)), (1, .long (1 : Int64)), (0, .ref (a 0))]) hx hb dX12_findLot_34 rfl hl (by decide) rfl (fun ls hl => ?_)
        refine lv_iload_n hx hb dX12_findLot_35 rfl (lv_at hl 0 rfl) ?_
        refine lv_iconst (v := (4 : Int32)) hx hb dX12_findLot_36 (by decide) ?_
        refine lv_icmp_ge (tgt := 178) hx hb dX12_findLot_37 (by decide) (fun c0 => absurd c0 (by decide)) (fun _ => ?_)
        refine lv_aload_n hx hb dX12_findLot_40 rfl (lv_at hl 2 rfl) ?_
        refine x_get (own := RX12) (T := TX12) C X 0 rfl rfl 18 (by decide) k_10_10 rfl rfl (v := .ref (a 18)) rfl dX12_findLot_41 ?_
        refine lv_iload_n hx hb dX12_findLot_44 rfl (lv_at hl 0 rfl) ?_
        refine x_iald C X 4 0 rfl rfl (j := 0) rfl (vp_in_nI (n := 0) (by omega) (by omega)) (v := (0 : Int32)) (rfl) dX12_findLot_45 ?_
        refine lv_istore (lv' := [(4, .int (0 : Int32)), (3, .int (0 : Int32)), (1, .long (1 : Int64)), (0, .ref (a 0))]) hx hb dX12_findLot_46 hl (by decide) rfl (fun ls hl => ?_)
        refine lv_iconst (v := (0 : Int32)) hx hb dX12_findLot_48 (by decide) ?_
        refine lv_istore (lv' := [(5, .int (0 : Int32)), (4, .int (0 : Int32)), (3, .int (0 : Int32)), (1, .long (1 : Int64)), (0, .ref (a 0))]) hx hb dX12_findLot_49 hl (by decide) rfl (fun ls hl => ?_)
        have L51 : ∀ (n : Nat) (i : Nat) (g : Nat → Int64) (H : Heap) (locs : List Loc) (ls : Array Slot), (h1 : i ≤ 73) → (h2 : ∀ q, q < i → g q = ind36 q) → 73 < i + n → Wd D A s [((a 0), .inr (12, (mF a))), ((a 42), .inl (cJ, 73, .inr (.inl (ind36)))), ((a 43), .inl (cJ, 73, .inr (.inl (g)))), ((a 44), .inl (cJ, 73, .inr (.inl (fun _ => (0 : Int64))))), ((a 18), .inl (cI, 8, .inl (fun _ => (0 : Int32))))] H locs → lv_has ls 7 [(5, .int (nI (i))), (4, .int (0 : Int32)), (3, .int (0 : Int32)), (1, .long (1 : Int64)), (0, .ref (a 0))] → W p l e ({ frames := 0, cells := 0, slots := 0, locals := 0 } : Room) s m ([.ref (a 0)] : List Value).toArray below meth c H locs 0 0 (MQ below (va_Qv (fun (u : Unit) => (True)) (fun u t => Aft D A ((fun (_ : Unit) => [((a 0), .inr (12, (mF a))), ((a 44), .inl (cJ, 73, .inr (.inl (lotM))))]) u) t) A) ([.ref (a 0)] : List Value).toArray s 0 0 A) (F0 m 51 ls []) := by
          intro n
          induction n with
          | zero => intro i g H locs ls h1 h2 hn; exact absurd hn (by omega)
          | succ n ih =>
            intro i g H locs ls h1 h2 hn X hl
            have ih51 := ih
            refine lv_iload hx hb dX12_findLot_51 (lv_at hl 0 rfl) ?_
            refine lv_bipush (v := (73 : Int32)) hx hb dX12_findLot_53 (by decide) ?_
            refine lv_icmp_ge (tgt := 132) hx hb dX12_findLot_55 (by decide) (fun c_2 => ?_) (fun c_2 => ?_)
            · have fc_2 : (73 : Int) ≤ ((i : Nat) : Int) := (by have h9 := i_le c_2; simp only [nI_toInt (n := i) (by omega)] at h9; exact h9)
              have X := x_cng X 2 rfl (arr_eql _ _ (g := ind36) (fun j h => h2 j (by omega)))
              have X : Wd D A s [((a 0), .inr (12, (mF a))), ((a 42), .inl (cJ, 73, .inr (.inl (ind36)))), ((a 43), .inl (cJ, 73, .inr (.inl (ind36)))), ((a 44), .inl (cJ, 73, .inr (.inl (fun _ => (0 : Int64))))), ((a 18), .inl (cI, 8, .inl (fun _ => (0 : Int32))))] H locs := X
              refine lv_iconst (v := (0 : Int32)) hx hb dX12_findLot_132 (by decide) ?_
              refine lv_istore (lv' := [(5, .int (0 : Int32)), (4, .int (0 : Int32)), (3, .int (0 : Int32)), (1, .long (1 : Int64)), (0, .ref (a 0))]) hx hb dX12_findLot_133 hl (by decide) rfl (fun ls hl => ?_)
              have L135 : ∀ (n : Nat) (i : Nat) (H : Heap) (locs : List Loc) (ls : Array Slot), (h1 : i ≤ 73) → 73 < i + n → Wd D A s [((a 0), .inr (12, (mF a))), ((a 42), .inl (cJ, 73, .inr (.inl (ind36)))), ((a 43), .inl (cJ, 73, .inr (.inl (ind36)))), ((a 44), .inl (cJ, 73, .inr (.inl (fun _ => (0 : Int64))))), ((a 18), .inl (cI, 8, .inl (fun _ => (0 : Int32))))] H locs → lv_has ls 7 [(5, .int (nI (i))), (4, .int (0 : Int32)), (3, .int (0 : Int32)), (1, .long (1 : Int64)), (0, .ref (a 0))] → W p l e ({ frames := 0, cells := 0, slots := 0, locals := 0 } : Room) s m ([.ref (a 0)] : List Value).toArray below meth c H locs 0 0 (MQ below (va_Qv (fun (u : Unit) => (True)) (fun u t => Aft D A ((fun (_ : Unit) => [((a 0), .inr (12, (mF a))), ((a 44), .inl (cJ, 73, .inr (.inl (lotM))))]) u) t) A) ([.ref (a 0)] : List Value).toArray s 0 0 A) (F0 m 135 ls []) := by
                intro n
                induction n with
                | zero => intro i H locs ls h1 hn; exact absurd hn (by omega)
                | succ n ih =>
                  intro i H locs ls h1 hn X hl
                  have ih135 := ih
                  refine lv_iload hx hb dX12_findLot_135 (lv_at hl 0 rfl) ?_
                  refine lv_bipush (v := (73 : Int32)) hx hb dX12_findLot_137 (by decide) ?_
                  refine lv_icmp_ge (tgt := 162) hx hb dX12_findLot_139 (by decide) (fun c_3 => ?_) (fun c_3 => ?_)
                  · have fc_3 : (73 : Int) ≤ ((i : Nat) : Int) := (by have h9 := i_le c_3; simp only [nI_toInt (n := i) (by omega)] at h9; exact h9)
                    refine lv_lload_n hx hb dX12_findLot_162 rfl (lv_at hl 3 rfl) ?_
                    refine lv_iconst (v := (2 : Int32)) hx hb dX12_findLot_163 (by decide) ?_
                    refine lv_iload hx hb dX12_findLot_164 (lv_at hl 1 rfl) ?_
                    refine lv_imul hx hb dX12_findLot_166 ?_
                    refine x_eqi (show (2 : Int32) * (0 : Int32) = (0 : Int32) from by decide +kernel) ?_
                    refine lv_iconst (v := (1 : Int32)) hx hb dX12_findLot_167 (by decide) ?_
                    refine lv_iadd hx hb dX12_findLot_168 ?_
                    refine x_eqi (show (0 : Int32) + (1 : Int32) = (1 : Int32) from by decide +kernel) ?_
                    refine lv_i2l (v := (1 : Int64)) hx hb dX12_findLot_169 (by decide) ?_
                    refine lv_lmul hx hb dX12_findLot_170 ?_
                    refine x_eql (show (1 : Int64) * (1 : Int64) = (1 : Int64) from by decide +kernel) ?_
                    refine lv_lstore_n (lv' := [(1, .long (1 : Int64)), (5, .int (nI (i))), (4, .int (0 : Int32)), (3, .int (0 : Int32)), (0, .ref (a 0))]) hx hb dX12_findLot_171 rfl hl (by decide) rfl (fun ls hl => ?_)
                    refine lv_iinc (v := (1 : Int32)) (lv' := [(3, .int (1 : Int32)), (1, .long (1 : Int64)), (5, .int (nI (i))), (4, .int (0 : Int32)), (0, .ref (a 0))]) hx hb dX12_findLot_172 hl (k := 3) rfl (by decide) (by decide) rfl (fun ls hl => ?_)
                    refine lv_goto (tgt := 35) hx hb dX12_findLot_175 (by decide) ?_
                    refine lv_iload_n hx hb dX12_findLot_35 rfl (lv_at hl 0 rfl) ?_
                    refine lv_iconst (v := (4 : Int32)) hx hb dX12_findLot_36 (by decide) ?_
                    refine lv_icmp_ge (tgt := 178) hx hb dX12_findLot_37 (by decide) (fun c0 => absurd c0 (by decide)) (fun _ => ?_)
                    refine lv_aload_n hx hb dX12_findLot_40 rfl (lv_at hl 4 rfl) ?_
                    refine x_get (own := RX12) (T := TX12) C X 0 rfl rfl 18 (by decide) k_10_10 rfl rfl (v := .ref (a 18)) rfl dX12_findLot_41 ?_
                    refine lv_iload_n hx hb dX12_findLot_44 rfl (lv_at hl 0 rfl) ?_
                    refine x_iald C X 4 0 rfl rfl (j := 1) rfl (vp_in_nI (n := 1) (by omega) (by omega)) (v := (0 : Int32)) (rfl) dX12_findLot_45 ?_
                    refine lv_istore (lv' := [(4, .int (0 : Int32)), (3, .int (1 : Int32)), (1, .long (1 : Int64)), (5, .int (nI (i))), (0, .ref (a 0))]) hx hb dX12_findLot_46 hl (by decide) rfl (fun ls hl => ?_)
                    refine lv_iconst (v := (0 : Int32)) hx hb dX12_findLot_48 (by decide) ?_
                    refine lv_istore (lv' := [(5, .int (0 : Int32)), (4, .int (0 : Int32)), (3, .int (1 : Int32)), (1, .long (1 : Int64)), (0, .ref (a 0))]) hx hb dX12_findLot_49 hl (by decide) rfl (fun ls hl => ?_)
                    have L51 : ∀ (n : Nat) (i : Nat) (g : Nat → Int64) (H : Heap) (locs : List Loc) (ls : Array Slot), (h1 : i ≤ 73) → (h2 : ∀ q, q < i → g q = ind36 q) → 73 < i + n → Wd D A s [((a 0), .inr (12, (mF a))), ((a 42), .inl (cJ, 73, .inr (.inl (ind36)))), ((a 43), .inl (cJ, 73, .inr (.inl (g)))), ((a 44), .inl (cJ, 73, .inr (.inl (fun _ => (0 : Int64))))), ((a 18), .inl (cI, 8, .inl (fun _ => (0 : Int32))))] H locs → lv_has ls 7 [(5, .int (nI (i))), (4, .int (0 : Int32)), (3, .int (1 : Int32)), (1, .long (1 : Int64)), (0, .ref (a 0))] → W p l e ({ frames := 0, cells := 0, slots := 0, locals := 0 } : Room) s m ([.ref (a 0)] : List Value).toArray below meth c H locs 0 0 (MQ below (va_Qv (fun (u : Unit) => (True)) (fun u t => Aft D A ((fun (_ : Unit) => [((a 0), .inr (12, (mF a))), ((a 44), .inl (cJ, 73, .inr (.inl (lotM))))]) u) t) A) ([.ref (a 0)] : List Value).toArray s 0 0 A) (F0 m 51 ls []) := by
                      intro n
                      induction n with
                      | zero => intro i g H locs ls h1 h2 hn; exact absurd hn (by omega)
                      | succ n ih =>
                        intro i g H locs ls h1 h2 hn X hl
                        have ih51 := ih
                        refine lv_iload hx hb dX12_findLot_51 (lv_at hl 0 rfl) ?_
                        refine lv_bipush (v := (73 : Int32)) hx hb dX12_findLot_53 (by decide) ?_
                        refine lv_icmp_ge (tgt := 132) hx hb dX12_findLot_55 (by decide) (fun c_4 => ?_) (fun c_4 => ?_)
                        · have fc_4 : (73 : Int) ≤ ((i : Nat) : Int) := (by have h9 := i_le c_4; simp only [nI_toInt (n := i) (by omega)] at h9; exact h9)
                          have X := x_cng X 2 rfl (arr_eql _ _ (g := ind36) (fun j h => h2 j (by omega)))
                          have X : Wd D A s [((a 0), .inr (12, (mF a))), ((a 42), .inl (cJ, 73, .inr (.inl (ind36)))), ((a 43), .inl (cJ, 73, .inr (.inl (ind36)))), ((a 44), .inl (cJ, 73, .inr (.inl (fun _ => (0 : Int64))))), ((a 18), .inl (cI, 8, .inl (fun _ => (0 : Int32))))] H locs := X
                          refine lv_iconst (v := (0 : Int32)) hx hb dX12_findLot_132 (by decide) ?_
                          refine lv_istore (lv' := [(5, .int (0 : Int32)), (4, .int (0 : Int32)), (3, .int (1 : Int32)), (1, .long (1 : Int64)), (0, .ref (a 0))]) hx hb dX12_findLot_133 hl (by decide) rfl (fun ls hl => ?_)
                          have L135 : ∀ (n : Nat) (i : Nat) (H : Heap) (locs : List Loc) (ls : Array Slot), (h1 : i ≤ 73) → 73 < i + n → Wd D A s [((a 0), .inr (12, (mF a))), ((a 42), .inl (cJ, 73, .inr (.inl (ind36)))), ((a 43), .inl (cJ, 73, .inr (.inl (ind36)))), ((a 44), .inl (cJ, 73, .inr (.inl (fun _ => (0 : Int64))))), ((a 18), .inl (cI, 8, .inl (fun _ => (0 : Int32))))] H locs → lv_has ls 7 [(5, .int (nI (i))), (4, .int (0 : Int32)), (3, .int (1 : Int32)), (1, .long (1 : Int64)), (0, .ref (a 0))] → W p l e ({ frames := 0, cells := 0, slots := 0, locals := 0 } : Room) s m ([.ref (a 0)] : List Value).toArray below meth c H locs 0 0 (MQ below (va_Qv (fun (u : Unit) => (True)) (fun u t => Aft D A ((fun (_ : Unit) => [((a 0), .inr (12, (mF a))), ((a 44), .inl (cJ, 73, .inr (.inl (lotM))))]) u) t) A) ([.ref (a 0)] : List Value).toArray s 0 0 A) (F0 m 135 ls []) := by
                            intro n
                            induction n with
                            | zero => intro i H locs ls h1 hn; exact absurd hn (by omega)
                            | succ n ih =>
                              intro i H locs ls h1 hn X hl
                              have ih135 := ih
                              refine lv_iload hx hb dX12_findLot_135 (lv_at hl 0 rfl) ?_
                              refine lv_bipush (v := (73 : Int32)) hx hb dX12_findLot_137 (by decide) ?_
                              refine lv_icmp_ge (tgt := 162) hx hb dX12_findLot_139 (by decide) (fun c_5 => ?_) (fun c_5 => ?_)
                              · have fc_5 : (73 : Int) ≤ ((i : Nat) : Int) := (by have h9 := i_le c_5; simp only [nI_toInt (n := i) (by omega)] at h9; exact h9)
                                refine lv_lload_n hx hb dX12_findLot_162 rfl (lv_at hl 3 rfl) ?_
                                refine lv_iconst (v := (2 : Int32)) hx hb dX12_findLot_163 (by decide) ?_
                                refine lv_iload hx hb dX12_findLot_164 (lv_at hl 1 rfl) ?_
                                refine lv_imul hx hb dX12_findLot_166 ?_
                                refine x_eqi (show (2 : Int32) * (0 : Int32) = (0 : Int32) from by decide +kernel) ?_
                                refine lv_iconst (v := (1 : Int32)) hx hb dX12_findLot_167 (by decide) ?_
                                refine lv_iadd hx hb dX12_findLot_168 ?_
                                refine x_eqi (show (0 : Int32) + (1 : Int32) = (1 : Int32) from by decide +kernel) ?_
                                refine lv_i2l (v := (1 : Int64)) hx hb dX12_findLot_169 (by decide) ?_
                                refine lv_lmul hx hb dX12_findLot_170 ?_
                                refine x_eql (show (1 : Int64) * (1 : Int64) = (1 : Int64) from by decide +kernel) ?_
                                refine lv_lstore_n (lv' := [(1, .long (1 : Int64)), (5, .int (nI (i))), (4, .int (0 : Int32)), (3, .int (1 : Int32)), (0, .ref (a 0))]) hx hb dX12_findLot_171 rfl hl (by decide) rfl (fun ls hl => ?_)
                                refine lv_iinc (v := (2 : Int32)) (lv' := [(3, .int (2 : Int32)), (1, .long (1 : Int64)), (5, .int (nI (i))), (4, .int (0 : Int32)), (0, .ref (a 0))]) hx hb dX12_findLot_172 hl (k := 3) rfl (by decide) (by decide) rfl (fun ls hl => ?_)
                                refine lv_goto (tgt := 35) hx hb dX12_findLot_175 (by decide) ?_
                                refine lv_iload_n hx hb dX12_findLot_35 rfl (lv_at hl 0 rfl) ?_
                                refine lv_iconst (v := (4 : Int32)) hx hb dX12_findLot_36 (by decide) ?_
                                refine lv_icmp_ge (tgt := 178) hx hb dX12_findLot_37 (by decide) (fun c0 => absurd c0 (by decide)) (fun _ => ?_)
                                refine lv_aload_n hx hb dX12_findLot_40 rfl (lv_at hl 4 rfl) ?_
                                refine x_get (own := RX12) (T := TX12) C X 0 rfl rfl 18 (by decide) k_10_10 rfl rfl (v := .ref (a 18)) rfl dX12_findLot_41 ?_
                                refine lv_iload_n hx hb dX12_findLot_44 rfl (lv_at hl 0 rfl) ?_
                                refine x_iald C X 4 0 rfl rfl (j := 2) rfl (vp_in_nI (n := 2) (by omega) (by omega)) (v := (0 : Int32)) (rfl) dX12_findLot_45 ?_
                                refine lv_istore (lv' := [(4, .int (0 : Int32)), (3, .int (2 : Int32)), (1, .long (1 : Int64)), (5, .int (nI (i))), (0, .ref (a 0))]) hx hb dX12_findLot_46 hl (by decide) rfl (fun ls hl => ?_)
                                refine lv_iconst (v := (0 : Int32)) hx hb dX12_findLot_48 (by decide) ?_
                                refine lv_istore (lv' := [(5, .int (0 : Int32)), (4, .int (0 : Int32)), (3, .int (2 : Int32)), (1, .long (1 : Int64)), (0, .ref (a 0))]) hx hb dX12_findLot_49 hl (by decide) rfl (fun ls hl => ?_)
                                have L51 : ∀ (n : Nat) (i : Nat) (g : Nat → Int64) (H : Heap) (locs : List Loc) (ls : Array Slot), (h1 : i ≤ 73) → (h2 : ∀ q, q < i → g q = ind36 q) → 73 < i + n → Wd D A s [((a 0), .inr (12, (mF a))), ((a 42), .inl (cJ, 73, .inr (.inl (ind36)))), ((a 43), .inl (cJ, 73, .inr (.inl (g)))), ((a 44), .inl (cJ, 73, .inr (.inl (fun _ => (0 : Int64))))), ((a 18), .inl (cI, 8, .inl (fun _ => (0 : Int32))))] H locs → lv_has ls 7 [(5, .int (nI (i))), (4, .int (0 : Int32)), (3, .int (2 : Int32)), (1, .long (1 : Int64)), (0, .ref (a 0))] → W p l e ({ frames := 0, cells := 0, slots := 0, locals := 0 } : Room) s m ([.ref (a 0)] : List Value).toArray below meth c H locs 0 0 (MQ below (va_Qv (fun (u : Unit) => (True)) (fun u t => Aft D A ((fun (_ : Unit) => [((a 0), .inr (12, (mF a))), ((a 44), .inl (cJ, 73, .inr (.inl (lotM))))]) u) t) A) ([.ref (a 0)] : List Value).toArray s 0 0 A) (F0 m 51 ls []) := by
                                  intro n
                                  induction n with
                                  | zero => intro i g H locs ls h1 h2 hn; exact absurd hn (by omega)
                                  | succ n ih =>
                                    intro i g H locs ls h1 h2 hn X hl
                                    have ih51 := ih
                                    refine lv_iload hx hb dX12_findLot_51 (lv_at hl 0 rfl) ?_
                                    refine lv_bipush (v := (73 : Int32)) hx hb dX12_findLot_53 (by decide) ?_
                                    refine lv_icmp_ge (tgt := 132) hx hb dX12_findLot_55 (by decide) (fun c_6 => ?_) (fun c_6 => ?_)
                                    · have fc_6 : (73 : Int) ≤ ((i : Nat) : Int) := (by have h9 := i_le c_6; simp only [nI_toInt (n := i) (by omega)] at h9; exact h9)
                                      have X := x_cng X 2 rfl (arr_eql _ _ (g := ind36) (fun j h => h2 j (by omega)))
                                      have X : Wd D A s [((a 0), .inr (12, (mF a))), ((a 42), .inl (cJ, 73, .inr (.inl (ind36)))), ((a 43), .inl (cJ, 73, .inr (.inl (ind36)))), ((a 44), .inl (cJ, 73, .inr (.inl (fun _ => (0 : Int64))))), ((a 18), .inl (cI, 8, .inl (fun _ => (0 : Int32))))] H locs := X
                                      refine lv_iconst (v := (0 : Int32)) hx hb dX12_findLot_132 (by decide) ?_
                                      refine lv_istore (lv' := [(5, .int (0 : Int32)), (4, .int (0 : Int32)), (3, .int (2 : Int32)), (1, .long (1 : Int64)), (0, .ref (a 0))]) hx hb dX12_findLot_133 hl (by decide) rfl (fun ls hl => ?_)
                                      have L135 : ∀ (n : Nat) (i : Nat) (H : Heap) (locs : List Loc) (ls : Array Slot), (h1 : i ≤ 73) → 73 < i + n → Wd D A s [((a 0), .inr (12, (mF a))), ((a 42), .inl (cJ, 73, .inr (.inl (ind36)))), ((a 43), .inl (cJ, 73, .inr (.inl (ind36)))), ((a 44), .inl (cJ, 73, .inr (.inl (fun _ => (0 : Int64))))), ((a 18), .inl (cI, 8, .inl (fun _ => (0 : Int32))))] H locs → lv_has ls 7 [(5, .int (nI (i))), (4, .int (0 : Int32)), (3, .int (2 : Int32)), (1, .long (1 : Int64)), (0, .ref (a 0))] → W p l e ({ frames := 0, cells := 0, slots := 0, locals := 0 } : Room) s m ([.ref (a 0)] : List Value).toArray below meth c H locs 0 0 (MQ below (va_Qv (fun (u : Unit) => (True)) (fun u t => Aft D A ((fun (_ : Unit) => [((a 0), .inr (12, (mF a))), ((a 44), .inl (cJ, 73, .inr (.inl (lotM))))]) u) t) A) ([.ref (a 0)] : List Value).toArray s 0 0 A) (F0 m 135 ls []) := by
                                        intro n
                                        induction n with
                                        | zero => intro i H locs ls h1 hn; exact absurd hn (by omega)
                                        | succ n ih =>
                                          intro i H locs ls h1 hn X hl
                                          have ih135 := ih
                                          refine lv_iload hx hb dX12_findLot_135 (lv_at hl 0 rfl) ?_
                                          refine lv_bipush (v := (73 : Int32)) hx hb dX12_findLot_137 (by decide) ?_
                                          refine lv_icmp_ge (tgt := 162) hx hb dX12_findLot_139 (by decide) (fun c_7 => ?_) (fun c_7 => ?_)
                                          · have fc_7 : (73 : Int) ≤ ((i : Nat) : Int) := (by have h9 := i_le c_7; simp only [nI_toInt (n := i) (by omega)] at h9; exact h9)
                                            refine lv_lload_n hx hb dX12_findLot_162 rfl (lv_at hl 3 rfl) ?_
                                            refine lv_iconst (v := (2 : Int32)) hx hb dX12_findLot_163 (by decide) ?_
                                            refine lv_iload hx hb dX12_findLot_164 (lv_at hl 1 rfl) ?_
                                            refine lv_imul hx hb dX12_findLot_166 ?_
                                            refine x_eqi (show (2 : Int32) * (0 : Int32) = (0 : Int32) from by decide +kernel) ?_
                                            refine lv_iconst (v := (1 : Int32)) hx hb dX12_findLot_167 (by decide) ?_
                                            refine lv_iadd hx hb dX12_findLot_168 ?_
                                            refine x_eqi (show (0 : Int32) + (1 : Int32) = (1 : Int32) from by decide +kernel) ?_
                                            refine lv_i2l (v := (1 : Int64)) hx hb dX12_findLot_169 (by decide) ?_
                                            refine lv_lmul hx hb dX12_findLot_170 ?_
                                            refine x_eql (show (1 : Int64) * (1 : Int64) = (1 : Int64) from by decide +kernel) ?_
                                            refine lv_lstore_n (lv' := [(1, .long (1 : Int64)), (5, .int (nI (i))), (4, .int (0 : Int32)), (3, .int (2 : Int32)), (0, .ref (a 0))]) hx hb dX12_findLot_171 rfl hl (by decide) rfl (fun ls hl => ?_)
                                            refine lv_iinc (v := (3 : Int32)) (lv' := [(3, .int (3 : Int32)), (1, .long (1 : Int64)), (5, .int (nI (i))), (4, .int (0 : Int32)), (0, .ref (a 0))]) hx hb dX12_findLot_172 hl (k := 3) rfl (by decide) (by decide) rfl (fun ls hl => ?_)
                                            refine lv_goto (tgt := 35) hx hb dX12_findLot_175 (by decide) ?_
                                            refine lv_iload_n hx hb dX12_findLot_35 rfl (lv_at hl 0 rfl) ?_
                                            refine lv_iconst (v := (4 : Int32)) hx hb dX12_findLot_36 (by decide) ?_
                                            refine lv_icmp_ge (tgt := 178) hx hb dX12_findLot_37 (by decide) (fun c0 => absurd c0 (by decide)) (fun _ => ?_)
                                            refine lv_aload_n hx hb dX12_findLot_40 rfl (lv_at hl 4 rfl) ?_
                                            refine x_get (own := RX12) (T := TX12) C X 0 rfl rfl 18 (by decide) k_10_10 rfl rfl (v := .ref (a 18)) rfl dX12_findLot_41 ?_
                                            refine lv_iload_n hx hb dX12_findLot_44 rfl (lv_at hl 0 rfl) ?_
                                            refine x_iald C X 4 0 rfl rfl (j := 3) rfl (vp_in_nI (n := 3) (by omega) (by omega)) (v := (0 : Int32)) (rfl) dX12_findLot_45 ?_
                                            refine lv_istore (lv' := [(4, .int (0 : Int32)), (3, .int (3 : Int32)), (1, .long (1 : Int64)), (5, .int (nI (i))), (0, .ref (a 0))]) hx hb dX12_findLot_46 hl (by decide) rfl (fun ls hl => ?_)
                                            refine lv_iconst (v := (0 : Int32)) hx hb dX12_findLot_48 (by decide) ?_
                                            refine lv_istore (lv' := [(5, .int (0 : Int32)), (4, .int (0 : Int32)), (3, .int (3 : Int32)), (1, .long (1 : Int64)), (0, .ref (a 0))]) hx hb dX12_findLot_49 hl (by decide) rfl (fun ls hl => ?_)
                                            have L51 : ∀ (n : Nat) (i : Nat) (g : Nat → Int64) (H : Heap) (locs : List Loc) (ls : Array Slot), (h1 : i ≤ 73) → (h2 : ∀ q, q < i → g q = ind36 q) → 73 < i + n → Wd D A s [((a 0), .inr (12, (mF a))), ((a 42), .inl (cJ, 73, .inr (.inl (ind36)))), ((a 43), .inl (cJ, 73, .inr (.inl (g)))), ((a 44), .inl (cJ, 73, .inr (.inl (fun _ => (0 : Int64))))), ((a 18), .inl (cI, 8, .inl (fun _ => (0 : Int32))))] H locs → lv_has ls 7 [(5, .int (nI (i))), (4, .int (0 : Int32)), (3, .int (3 : Int32)), (1, .long (1 : Int64)), (0, .ref (a 0))] → W p l e ({ frames := 0, cells := 0, slots := 0, locals := 0 } : Room) s m ([.ref (a 0)] : List Value).toArray below meth c H locs 0 0 (MQ below (va_Qv (fun (u : Unit) => (True)) (fun u t => Aft D A ((fun (_ : Unit) => [((a 0), .inr (12, (mF a))), ((a 44), .inl (cJ, 73, .inr (.inl (lotM))))]) u) t) A) ([.ref (a 0)] : List Value).toArray s 0 0 A) (F0 m 51 ls []) := by
                                              intro n
                                              induction n with
                                              | zero => intro i g H locs ls h1 h2 hn; exact absurd hn (by omega)
                                              | succ n ih =>
                                                intro i g H locs ls h1 h2 hn X hl
                                                have ih51 := ih
                                                refine lv_iload hx hb dX12_findLot_51 (lv_at hl 0 rfl) ?_
                                                refine lv_bipush (v := (73 : Int32)) hx hb dX12_findLot_53 (by decide) ?_
                                                refine lv_icmp_ge (tgt := 132) hx hb dX12_findLot_55 (by decide) (fun c_8 => ?_) (fun c_8 => ?_)
                                                · have fc_8 : (73 : Int) ≤ ((i : Nat) : Int) := (by have h9 := i_le c_8; simp only [nI_toInt (n := i) (by omega)] at h9; exact h9)
                                                  have X := x_cng X 2 rfl (arr_eql _ _ (g := ind36) (fun j h => h2 j (by omega)))
                                                  have X : Wd D A s [((a 0), .inr (12, (mF a))), ((a 42), .inl (cJ, 73, .inr (.inl (ind36)))), ((a 43), .inl (cJ, 73, .inr (.inl (ind36)))), ((a 44), .inl (cJ, 73, .inr (.inl (fun _ => (0 : Int64))))), ((a 18), .inl (cI, 8, .inl (fun _ => (0 : Int32))))] H locs := X
                                                  refine lv_iconst (v := (0 : Int32)) hx hb dX12_findLot_132 (by decide) ?_
                                                  refine lv_istore (lv' := [(5, .int (0 : Int32)), (4, .int (0 : Int32)), (3, .int (3 : Int32)), (1, .long (1 : Int64)), (0, .ref (a 0))]) hx hb dX12_findLot_133 hl (by decide) rfl (fun ls hl => ?_)
                                                  have L135 : ∀ (n : Nat) (i : Nat) (H : Heap) (locs : List Loc) (ls : Array Slot), (h1 : i ≤ 73) → 73 < i + n → Wd D A s [((a 0), .inr (12, (mF a))), ((a 42), .inl (cJ, 73, .inr (.inl (ind36)))), ((a 43), .inl (cJ, 73, .inr (.inl (ind36)))), ((a 44), .inl (cJ, 73, .inr (.inl (fun _ => (0 : Int64))))), ((a 18), .inl (cI, 8, .inl (fun _ => (0 : Int32))))] H locs → lv_has ls 7 [(5, .int (nI (i))), (4, .int (0 : Int32)), (3, .int (3 : Int32)), (1, .long (1 : Int64)), (0, .ref (a 0))] → W p l e ({ frames := 0, cells := 0, slots := 0, locals := 0 } : Room) s m ([.ref (a 0)] : List Value).toArray below meth c H locs 0 0 (MQ below (va_Qv (fun (u : Unit) => (True)) (fun u t => Aft D A ((fun (_ : Unit) => [((a 0), .inr (12, (mF a))), ((a 44), .inl (cJ, 73, .inr (.inl (lotM))))]) u) t) A) ([.ref (a 0)] : List Value).toArray s 0 0 A) (F0 m 135 ls []) := by
                                                    intro n
                                                    induction n with
                                                    | zero => intro i H locs ls h1 hn; exact absurd hn (by omega)
                                                    | succ n ih =>
                                                      intro i H locs ls h1 hn X hl
                                                      have ih135 := ih
                                                      refine lv_iload hx hb dX12_findLot_135 (lv_at hl 0 rfl) ?_
                                                      refine lv_bipush (v := (73 : Int32)) hx hb dX12_findLot_137 (by decide) ?_
                                                      refine lv_icmp_ge (tgt := 162) hx hb dX12_findLot_139 (by decide) (fun c_9 => ?_) (fun c_9 => ?_)
                                                      · have fc_9 : (73 : Int) ≤ ((i : Nat) : Int) := (by have h9 := i_le c_9; simp only [nI_toInt (n := i) (by omega)] at h9; exact h9)
                                                        refine lv_lload_n hx hb dX12_findLot_162 rfl (lv_at hl 3 rfl) ?_
                                                        refine lv_iconst (v := (2 : Int32)) hx hb dX12_findLot_163 (by decide) ?_
                                                        refine lv_iload hx hb dX12_findLot_164 (lv_at hl 1 rfl) ?_
                                                        refine lv_imul hx hb dX12_findLot_166 ?_
                                                        refine x_eqi (show (2 : Int32) * (0 : Int32) = (0 : Int32) from by decide +kernel) ?_
                                                        refine lv_iconst (v := (1 : Int32)) hx hb dX12_findLot_167 (by decide) ?_
                                                        refine lv_iadd hx hb dX12_findLot_168 ?_
                                                        refine x_eqi (show (0 : Int32) + (1 : Int32) = (1 : Int32) from by decide +kernel) ?_
                                                        refine lv_i2l (v := (1 : Int64)) hx hb dX12_findLot_169 (by decide) ?_
                                                        refine lv_lmul hx hb dX12_findLot_170 ?_
                                                        refine x_eql (show (1 : Int64) * (1 : Int64) = (1 : Int64) from by decide +kernel) ?_
                                                        refine lv_lstore_n (lv' := [(1, .long (1 : Int64)), (5, .int (nI (i))), (4, .int (0 : Int32)), (3, .int (3 : Int32)), (0, .ref (a 0))]) hx hb dX12_findLot_171 rfl hl (by decide) rfl (fun ls hl => ?_)
                                                        refine lv_iinc (v := (4 : Int32)) (lv' := [(3, .int (4 : Int32)), (1, .long (1 : Int64)), (5, .int (nI (i))), (4, .int (0 : Int32)), (0, .ref (a 0))]) hx hb dX12_findLot_172 hl (k := 3) rfl (by decide) (by decide) rfl (fun ls hl => ?_)
                                                        refine lv_goto (tgt := 35) hx hb dX12_findLot_175 (by decide) ?_
                                                        refine lv_iload_n hx hb dX12_findLot_35 rfl (lv_at hl 0 rfl) ?_
                                                        refine lv_iconst (v := (4 : Int32)) hx hb dX12_findLot_36 (by decide) ?_
                                                        refine lv_icmp_ge (tgt := 178) hx hb dX12_findLot_37 (by decide) (fun _ => ?_) (fun c0 => absurd (by decide) c0)
                                                        have X := x_cng X 3 rfl (arr_eql _ _ (g := fun j => if j < 0 then lotM j else 0) (fun j h => by rw [if_neg (by omega)]))
                                                        have X : Wd D A s [((a 0), .inr (12, (mF a))), ((a 42), .inl (cJ, 73, .inr (.inl (ind36)))), ((a 43), .inl (cJ, 73, .inr (.inl (ind36)))), ((a 44), .inl (cJ, 73, .inr (.inl (fun j => if j < 0 then lotM j else 0)))), ((a 18), .inl (cI, 8, .inl (fun _ => (0 : Int32))))] H locs := X
                                                        refine lv_iconst (v := (0 : Int32)) hx hb dX12_findLot_178 (by decide) ?_
                                                        refine lv_istore_n (lv' := [(3, .int (0 : Int32)), (1, .long (1 : Int64)), (5, .int (nI (i))), (4, .int (0 : Int32)), (0, .ref (a 0))]) hx hb dX12_findLot_179 rfl hl (by decide) rfl (fun ls hl => ?_)
                                                        have L180 : ∀ (n : Nat) (i : Nat) (H : Heap) (locs : List Loc) (ls : Array Slot), (h1 : i ≤ 73) → 73 < i + n → Wd D A s [((a 0), .inr (12, (mF a))), ((a 42), .inl (cJ, 73, .inr (.inl (ind36)))), ((a 43), .inl (cJ, 73, .inr (.inl (ind36)))), ((a 44), .inl (cJ, 73, .inr (.inl (fun j => if j < i then lotM j else 0)))), ((a 18), .inl (cI, 8, .inl (fun _ => (0 : Int32))))] H locs → lv_has ls 7 [(3, .int (nI (i))), (1, .long (1 : Int64)), (0, .ref (a 0))] → W p l e ({ frames := 0, cells := 0, slots := 0, locals := 0 } : Room) s m ([.ref (a 0)] : List Value).toArray below meth c H locs 0 0 (MQ below (va_Qv (fun (u : Unit) => (True)) (fun u t => Aft D A ((fun (_ : Unit) => [((a 0), .inr (12, (mF a))), ((a 44), .inl (cJ, 73, .inr (.inl (lotM))))]) u) t) A) ([.ref (a 0)] : List Value).toArray s 0 0 A) (F0 m 180 ls []) := by
                                                          intro n
                                                          induction n with
                                                          | zero => intro i H locs ls h1 hn; exact absurd hn (by omega)
                                                          | succ n ih =>
                                                            intro i H locs ls h1 hn X hl
                                                            have ih180 := ih
                                                            refine lv_iload_n hx hb dX12_findLot_180 rfl (lv_at hl 0 rfl) ?_
                                                            refine lv_bipush (v := (73 : Int32)) hx hb dX12_findLot_181 (by decide) ?_
                                                            refine lv_icmp_ge (tgt := 210) hx hb dX12_findLot_183 (by decide) (fun c_10 => ?_) (fun c_10 => ?_)
                                                            · have fc_10 : (73 : Int) ≤ ((i : Nat) : Int) := (by have h9 := i_le c_10; simp only [nI_toInt (n := i) (by omega)] at h9; exact h9)
                                                              have X := x_cng X 3 rfl (arr_eql _ _ (g := lotM) (fun j h => by show (if j < i then lotM j else 0) = lotM j; exact if_pos (by omega)))
                                                              have X : Wd D A s [((a 0), .inr (12, (mF a))), ((a 42), .inl (cJ, 73, .inr (.inl (ind36)))), ((a 43), .inl (cJ, 73, .inr (.inl (ind36)))), ((a 44), .inl (cJ, 73, .inr (.inl (lotM)))), ((a 18), .inl (cI, 8, .inl (fun _ => (0 : Int32))))] H locs := X
                                                              exact x_vret C X hr hlk (()) [0, 3] (by decide) rfl (trivial) (Nat.le_of_ble_eq_true rfl) (Nat.le_of_ble_eq_true rfl) dX12_findLot_210
                                                            · have fc_10 : ((i : Nat) : Int) < (73 : Int) := (by have h9 := i_nle c_10; simp only [nI_toInt (n := i) (by omega)] at h9; exact h9)
                                                              by_cases hs186 : i = 36
                                                              · refine lv_aload_n hx hb dX12_findLot_186 rfl (lv_at hl 2 rfl) ?_
                                                                refine x_get (own := RX12) (T := TX12) C X 0 rfl rfl 63 (by decide) k_11_13 rfl rfl (v := .ref (a 44)) rfl dX12_findLot_187 ?_
                                                                refine lv_iload_n hx hb dX12_findLot_190 rfl (lv_at hl 0 rfl) ?_
                                                                refine lv_aload_n hx hb dX12_findLot_191 rfl (lv_at hl 2 rfl) ?_
                                                                refine x_get (own := RX12) (T := TX12) C X 0 rfl rfl 61 (by decide) k_11_11 rfl rfl (v := .ref (a 42)) rfl dX12_findLot_192 ?_
                                                                refine lv_iload_n hx hb dX12_findLot_195 rfl (lv_at hl 0 rfl) ?_
                                                                refine x_lald C X 1 1 rfl rfl (j := i) (nI_clamp (by omega)) (vp_in_nI (by omega) (by omega)) (v := (1 : Int64)) (by unfold ind36; exact if_pos hs186) dX12_findLot_196 ?_
                                                                refine lv_ldc2 (own := RX12) (v := (1000000 : Int64)) hx hb hown (hts _ k_53_9) dX12_findLot_197 ?_
                                                                refine lv_lmul hx hb dX12_findLot_200 ?_
                                                                refine x_eql (show (1 : Int64) * (1000000 : Int64) = (1000000 : Int64) from by decide +kernel) ?_
                                                                refine lv_lload_n hx hb dX12_findLot_201 rfl (lv_at hl 1 rfl) ?_
                                                                refine lv_ldiv hx hb dX12_findLot_202 (by decide) ?_
                                                                refine x_eql (show (1000000 : Int64) / (1 : Int64) = (1000000 : Int64) from by decide +kernel) ?_
                                                                refine x_last C X 3 1 rfl rfl (j := i) (nI_clamp (by omega)) (vp_in_nI (by omega) (by omega)) dX12_findLot_203 (fun H locs X => ?_)
                                                                have X : Wd D A s [((a 0), .inr (12, (mF a))), ((a 42), .inl (cJ, 73, .inr (.inl (ind36)))), ((a 43), .inl (cJ, 73, .inr (.inl (ind36)))), ((a 44), .inl (cJ, 73, .inr (.inl (vp_updL (fun j => if j < i then lotM j else 0) (i) ((1000000 : Int64)))))), ((a 18), .inl (cI, 8, .inl (fun _ => (0 : Int32))))] H locs := X
                                                                have X := x_cng X 3 rfl (arr_eql _ _ (g := fun j => if j < i + 1 then lotM j else 0) (fun j h => by simp only [vp_updL, lotM]; (repeat' split); all_goals first | rfl | omega))
                                                                have X : Wd D A s [((a 0), .inr (12, (mF a))), ((a 42), .inl (cJ, 73, .inr (.inl (ind36)))), ((a 43), .inl (cJ, 73, .inr (.inl (ind36)))), ((a 44), .inl (cJ, 73, .inr (.inl (fun j => if j < i + 1 then lotM j else 0)))), ((a 18), .inl (cI, 8, .inl (fun _ => (0 : Int32))))] H locs := X
                                                                refine lv_iinc (v := (nI (i + 1))) (lv' := [(3, .int (nI (i + 1))), (1, .long (1 : Int64)), (0, .ref (a 0))]) hx hb dX12_findLot_204 hl (k := 0) rfl (nI_add _ 1) (by decide) rfl (fun ls hl => ?_)
                                                                refine lv_goto (tgt := 180) hx hb dX12_findLot_207 (by decide) ?_
                                                                exact ih180  (i + 1) H locs ls (by omega) (by omega) (x_sub X [0, 1, 2, 3, 4] (by decide) rfl) (lv_sub hl [0, 1, 2] rfl)
                                                              · refine lv_aload_n hx hb dX12_findLot_186 rfl (lv_at hl 2 rfl) ?_
                                                                refine x_get (own := RX12) (T := TX12) C X 0 rfl rfl 63 (by decide) k_11_13 rfl rfl (v := .ref (a 44)) rfl dX12_findLot_187 ?_
                                                                refine lv_iload_n hx hb dX12_findLot_190 rfl (lv_at hl 0 rfl) ?_
                                                                refine lv_aload_n hx hb dX12_findLot_191 rfl (lv_at hl 2 rfl) ?_
                                                                refine x_get (own := RX12) (T := TX12) C X 0 rfl rfl 61 (by decide) k_11_11 rfl rfl (v := .ref (a 42)) rfl dX12_findLot_192 ?_
                                                                refine lv_iload_n hx hb dX12_findLot_195 rfl (lv_at hl 0 rfl) ?_
                                                                refine x_lald C X 1 1 rfl rfl (j := i) (nI_clamp (by omega)) (vp_in_nI (by omega) (by omega)) (v := (0 : Int64)) (by unfold ind36; exact if_neg hs186) dX12_findLot_196 ?_
                                                                refine lv_ldc2 (own := RX12) (v := (1000000 : Int64)) hx hb hown (hts _ k_53_9) dX12_findLot_197 ?_
                                                                refine lv_lmul hx hb dX12_findLot_200 ?_
                                                                refine x_eql (show (0 : Int64) * (1000000 : Int64) = (0 : Int64) from by decide +kernel) ?_
                                                                refine lv_lload_n hx hb dX12_findLot_201 rfl (lv_at hl 1 rfl) ?_
                                                                refine lv_ldiv hx hb dX12_findLot_202 (by decide) ?_
                                                                refine x_eql (show (0 : Int64) / (1 : Int64) = (0 : Int64) from by decide +kernel) ?_
                                                                refine x_last C X 3 1 rfl rfl (j := i) (nI_clamp (by omega)) (vp_in_nI (by omega) (by omega)) dX12_findLot_203 (fun H locs X => ?_)
                                                                have X : Wd D A s [((a 0), .inr (12, (mF a))), ((a 42), .inl (cJ, 73, .inr (.inl (ind36)))), ((a 43), .inl (cJ, 73, .inr (.inl (ind36)))), ((a 44), .inl (cJ, 73, .inr (.inl (vp_updL (fun j => if j < i then lotM j else 0) (i) ((0 : Int64)))))), ((a 18), .inl (cI, 8, .inl (fun _ => (0 : Int32))))] H locs := X
                                                                have X := x_cng X 3 rfl (arr_eql _ _ (g := fun j => if j < i + 1 then lotM j else 0) (fun j h => by simp only [vp_updL, lotM]; (repeat' split); all_goals first | rfl | omega))
                                                                have X : Wd D A s [((a 0), .inr (12, (mF a))), ((a 42), .inl (cJ, 73, .inr (.inl (ind36)))), ((a 43), .inl (cJ, 73, .inr (.inl (ind36)))), ((a 44), .inl (cJ, 73, .inr (.inl (fun j => if j < i + 1 then lotM j else 0)))), ((a 18), .inl (cI, 8, .inl (fun _ => (0 : Int32))))] H locs := X
                                                                refine lv_iinc (v := (nI (i + 1))) (lv' := [(3, .int (nI (i + 1))), (1, .long (1 : Int64)), (0, .ref (a 0))]) hx hb dX12_findLot_204 hl (k := 0) rfl (nI_add _ 1) (by decide) rfl (fun ls hl => ?_)
                                                                refine lv_goto (tgt := 180) hx hb dX12_findLot_207 (by decide) ?_
                                                                exact ih180  (i + 1) H locs ls (by omega) (by omega) (x_sub X [0, 1, 2, 3, 4] (by decide) rfl) (lv_sub hl [0, 1, 2] rfl)
                                                        exact L180 (73 + 1) (0) H locs ls (by omega) (by omega) (x_sub X [0, 1, 2, 3, 4] (by decide) rfl) (lv_sub hl [0, 1, 4] rfl)
                                                      · have fc_9 : ((i : Nat) : Int) < (73 : Int) := (by have h9 := i_nle c_9; simp only [nI_toInt (n := i) (by omega)] at h9; exact h9)
                                                        refine lv_aload_n hx hb dX12_findLot_142 rfl (lv_at hl 4 rfl) ?_
                                                        refine x_get (own := RX12) (T := TX12) C X 0 rfl rfl 61 (by decide) k_11_11 rfl rfl (v := .ref (a 42)) rfl dX12_findLot_143 ?_
                                                        refine lv_iload hx hb dX12_findLot_146 (lv_at hl 0 rfl) ?_
                                                        refine lv_aload_n hx hb dX12_findLot_148 rfl (lv_at hl 4 rfl) ?_
                                                        refine x_get (own := RX12) (T := TX12) C X 0 rfl rfl 62 (by decide) k_11_12 rfl rfl (v := .ref (a 43)) rfl dX12_findLot_149 ?_
                                                        refine lv_iload hx hb dX12_findLot_152 (lv_at hl 0 rfl) ?_
                                                        refine x_lald C X 2 1 rfl rfl (j := i) (nI_clamp (by omega)) (vp_in_nI (by omega) (by omega)) (v := (ind36 (i))) (rfl) dX12_findLot_154 ?_
                                                        refine x_last C X 1 1 rfl rfl (j := i) (nI_clamp (by omega)) (vp_in_nI (by omega) (by omega)) dX12_findLot_155 (fun H locs X => ?_)
                                                        have X : Wd D A s [((a 0), .inr (12, (mF a))), ((a 42), .inl (cJ, 73, .inr (.inl (vp_updL (ind36) (i) ((ind36 (i))))))), ((a 43), .inl (cJ, 73, .inr (.inl (ind36)))), ((a 44), .inl (cJ, 73, .inr (.inl (fun _ => (0 : Int64))))), ((a 18), .inl (cI, 8, .inl (fun _ => (0 : Int32))))] H locs := X
                                                        have X := x_cng X 1 rfl (arr_eql _ _ (g := ind36) (fun j h => by by_cases e8 : j = i; (subst e8; simp [vp_updL]); simp [vp_updL, e8]))
                                                        have X : Wd D A s [((a 0), .inr (12, (mF a))), ((a 42), .inl (cJ, 73, .inr (.inl (ind36)))), ((a 43), .inl (cJ, 73, .inr (.inl (ind36)))), ((a 44), .inl (cJ, 73, .inr (.inl (fun _ => (0 : Int64))))), ((a 18), .inl (cI, 8, .inl (fun _ => (0 : Int32))))] H locs := X
                                                        refine lv_iinc (v := (nI (i + 1))) (lv' := [(5, .int (nI (i + 1))), (4, .int (0 : Int32)), (3, .int (3 : Int32)), (1, .long (1 : Int64)), (0, .ref (a 0))]) hx hb dX12_findLot_156 hl (k := 0) rfl (nI_add _ 1) (by decide) rfl (fun ls hl => ?_)
                                                        refine lv_goto (tgt := 135) hx hb dX12_findLot_159 (by decide) ?_
                                                        exact ih135  (i + 1) H locs ls (by omega) (by omega) (x_sub X [0, 1, 2, 3, 4] (by decide) rfl) (lv_sub hl [0, 1, 2, 3, 4] rfl)
                                                  exact L135 (73 + 1) (0) H locs ls (by omega) (by omega) (x_sub X [0, 1, 2, 3, 4] (by decide) rfl) (lv_sub hl [0, 1, 2, 3, 4] rfl)
                                                · have fc_8 : ((i : Nat) : Int) < (73 : Int) := (by have h9 := i_nle c_8; simp only [nI_toInt (n := i) (by omega)] at h9; exact h9)
                                                  refine lv_aload_n hx hb dX12_findLot_58 rfl (lv_at hl 4 rfl) ?_
                                                  refine x_get (own := RX12) (T := TX12) C X 0 rfl rfl 62 (by decide) k_11_12 rfl rfl (v := .ref (a 43)) rfl dX12_findLot_59 ?_
                                                  refine lv_iload hx hb dX12_findLot_62 (lv_at hl 0 rfl) ?_
                                                  refine lv_lconst (v := (0 : Int64)) hx hb dX12_findLot_64 (by decide) ?_
                                                  refine x_last C X 2 1 rfl rfl (j := i) (nI_clamp (by omega)) (vp_in_nI (by omega) (by omega)) dX12_findLot_65 (fun H locs X => ?_)
                                                  have X : Wd D A s [((a 0), .inr (12, (mF a))), ((a 42), .inl (cJ, 73, .inr (.inl (ind36)))), ((a 43), .inl (cJ, 73, .inr (.inl (vp_updL (g) (i) ((0 : Int64)))))), ((a 44), .inl (cJ, 73, .inr (.inl (fun _ => (0 : Int64))))), ((a 18), .inl (cI, 8, .inl (fun _ => (0 : Int32))))] H locs := X
                                                  refine lv_iload hx hb dX12_findLot_66 (lv_at hl 1 rfl) ?_
                                                  refine lv_ineg hx hb dX12_findLot_68 ?_
                                                  refine x_eqi (show -(0 : Int32) = (0 : Int32) from by decide +kernel) ?_
                                                  refine lv_istore (lv' := [(6, .int (0 : Int32)), (5, .int (nI (i))), (4, .int (0 : Int32)), (3, .int (3 : Int32)), (1, .long (1 : Int64)), (0, .ref (a 0))]) hx hb dX12_findLot_69 hl (by decide) rfl (fun ls hl => ?_)
                                                  refine lv_iload hx hb dX12_findLot_71 (lv_at hl 0 rfl) ?_
                                                  refine lv_iload hx hb dX12_findLot_73 (lv_at hl 2 rfl) ?_
                                                  refine lv_icmp_gt (tgt := 126) hx hb dX12_findLot_75 (by decide) (fun c0 => absurd c0 (by decide)) (fun _ => ?_)
                                                  refine lv_aload_n hx hb dX12_findLot_78 rfl (lv_at hl 5 rfl) ?_
                                                  refine x_get (own := RX12) (T := TX12) C X 0 rfl rfl 62 (by decide) k_11_12 rfl rfl (v := .ref (a 43)) rfl dX12_findLot_79 ?_
                                                  refine lv_iload hx hb dX12_findLot_82 (lv_at hl 1 rfl) ?_
                                                  refine lv_dup2_11 hx hb dX12_findLot_84 rfl rfl ?_
                                                  refine x_lald C X 2 1 rfl rfl (j := i) (nI_clamp (by omega)) (vp_in_nI (by omega) (by omega)) (v := (0 : Int64)) (by simp [vp_updL]) dX12_findLot_85 ?_
                                                  refine lv_iload hx hb dX12_findLot_86 (lv_at hl 1 rfl) ?_
                                                  refine lv_iload hx hb dX12_findLot_88 (lv_at hl 0 rfl) ?_
                                                  refine lv_isub hx hb dX12_findLot_90 ?_
                                                  refine x_eqi (show (nI (i)) - (0 : Int32) = (nI (i)) from Int32.sub_zero _) ?_
                                                  refine lv_if_lt (tgt := 117) hx hb dX12_findLot_91 (by decide) (fun c_11 => by exfalso; have h8 : ((i : Nat) : Int) < (0 : Int) := (by have h9 := i_lt c_11; simp only [nI_toInt (n := i) (by omega)] at h9; exact h9); omega) (fun c_11 => ?_)
                                                  have fc_11 : (0 : Int) ≤ ((i : Nat) : Int) := (by have h9 := i_nlt c_11; simp only [nI_toInt (n := i) (by omega)] at h9; exact h9)
                                                  refine lv_iload hx hb dX12_findLot_94 (lv_at hl 1 rfl) ?_
                                                  refine lv_iload hx hb dX12_findLot_96 (lv_at hl 0 rfl) ?_
                                                  refine lv_isub hx hb dX12_findLot_98 ?_
                                                  refine x_eqi (show (nI (i)) - (0 : Int32) = (nI (i)) from Int32.sub_zero _) ?_
                                                  refine lv_bipush (v := (73 : Int32)) hx hb dX12_findLot_99 (by decide) ?_
                                                  refine lv_icmp_ge (tgt := 117) hx hb dX12_findLot_101 (by decide) (fun c_12 => by exfalso; have h8 : (73 : Int) ≤ ((i : Nat) : Int) := (by have h9 := i_le c_12; simp only [nI_toInt (n := i) (by omega)] at h9; exact h9); omega) (fun c_12 => ?_)
                                                  have fc_12 : ((i : Nat) : Int) < (73 : Int) := (by have h9 := i_nle c_12; simp only [nI_toInt (n := i) (by omega)] at h9; exact h9)
                                                  refine lv_aload_n hx hb dX12_findLot_104 rfl (lv_at hl 5 rfl) ?_
                                                  refine x_get (own := RX12) (T := TX12) C X 0 rfl rfl 61 (by decide) k_11_11 rfl rfl (v := .ref (a 42)) rfl dX12_findLot_105 ?_
                                                  refine lv_iload hx hb dX12_findLot_108 (lv_at hl 1 rfl) ?_
                                                  refine lv_iload hx hb dX12_findLot_110 (lv_at hl 0 rfl) ?_
                                                  refine lv_isub hx hb dX12_findLot_112 ?_
                                                  refine x_eqi (show (nI (i)) - (0 : Int32) = (nI (i)) from Int32.sub_zero _) ?_
                                                  refine x_lald C X 1 1 rfl rfl (j := i) (nI_clamp (by omega)) (vp_in_nI (by omega) (by omega)) (v := (ind36 (i))) (rfl) dX12_findLot_113 ?_
                                                  refine lv_goto (tgt := 118) hx hb dX12_findLot_114 (by decide) ?_
                                                  refine lv_ladd hx hb dX12_findLot_118 ?_
                                                  refine x_eql (show (0 : Int64) + (ind36 (i)) = (ind36 (i)) from by simp) ?_
                                                  refine x_last C X 2 1 rfl rfl (j := i) (nI_clamp (by omega)) (vp_in_nI (by omega) (by omega)) dX12_findLot_119 (fun H locs X => ?_)
                                                  have X : Wd D A s [((a 0), .inr (12, (mF a))), ((a 42), .inl (cJ, 73, .inr (.inl (ind36)))), ((a 43), .inl (cJ, 73, .inr (.inl (vp_updL (vp_updL (g) (i) ((0 : Int64))) (i) ((ind36 (i))))))), ((a 44), .inl (cJ, 73, .inr (.inl (fun _ => (0 : Int64))))), ((a 18), .inl (cI, 8, .inl (fun _ => (0 : Int32))))] H locs := X
                                                  refine lv_iinc (v := (1 : Int32)) (lv' := [(6, .int (1 : Int32)), (5, .int (nI (i))), (4, .int (0 : Int32)), (3, .int (3 : Int32)), (1, .long (1 : Int64)), (0, .ref (a 0))]) hx hb dX12_findLot_120 hl (k := 0) rfl (by decide) (by decide) rfl (fun ls hl => ?_)
                                                  refine lv_goto (tgt := 71) hx hb dX12_findLot_123 (by decide) ?_
                                                  refine lv_iload hx hb dX12_findLot_71 (lv_at hl 0 rfl) ?_
                                                  refine lv_iload hx hb dX12_findLot_73 (lv_at hl 2 rfl) ?_
                                                  refine lv_icmp_gt (tgt := 126) hx hb dX12_findLot_75 (by decide) (fun _ => ?_) (fun c0 => absurd (by decide) c0)
                                                  refine lv_iinc (v := (nI (i + 1))) (lv' := [(5, .int (nI (i + 1))), (6, .int (1 : Int32)), (4, .int (0 : Int32)), (3, .int (3 : Int32)), (1, .long (1 : Int64)), (0, .ref (a 0))]) hx hb dX12_findLot_126 hl (k := 1) rfl (nI_add _ 1) (by decide) rfl (fun ls hl => ?_)
                                                  refine lv_goto (tgt := 51) hx hb dX12_findLot_129 (by decide) ?_
                                                  exact ih51  (i + 1) (vp_updL (vp_updL (g) (i) ((0 : Int64))) (i) ((ind36 (i)))) H locs ls (by omega) (fun q h => by by_cases e8 : q = i; (subst e8; simp [vp_updL]); (simp only [vp_updL, if_neg e8]; exact h2 q (by omega))) (by omega) (x_sub X [0, 1, 2, 3, 4] (by decide) rfl) (lv_sub hl [0, 2, 3, 4, 5] rfl)
                                            exact L51 (73 + 1) (0) (ind36) H locs ls (by omega) (fun q h => absurd h (by omega)) (by omega) (x_sub X [0, 1, 2, 3, 4] (by decide) rfl) (lv_sub hl [0, 1, 2, 3, 4] rfl)
                                          · have fc_7 : ((i : Nat) : Int) < (73 : Int) := (by have h9 := i_nle c_7; simp only [nI_toInt (n := i) (by omega)] at h9; exact h9)
                                            refine lv_aload_n hx hb dX12_findLot_142 rfl (lv_at hl 4 rfl) ?_
                                            refine x_get (own := RX12) (T := TX12) C X 0 rfl rfl 61 (by decide) k_11_11 rfl rfl (v := .ref (a 42)) rfl dX12_findLot_143 ?_
                                            refine lv_iload hx hb dX12_findLot_146 (lv_at hl 0 rfl) ?_
                                            refine lv_aload_n hx hb dX12_findLot_148 rfl (lv_at hl 4 rfl) ?_
                                            refine x_get (own := RX12) (T := TX12) C X 0 rfl rfl 62 (by decide) k_11_12 rfl rfl (v := .ref (a 43)) rfl dX12_findLot_149 ?_
                                            refine lv_iload hx hb dX12_findLot_152 (lv_at hl 0 rfl) ?_
                                            refine x_lald C X 2 1 rfl rfl (j := i) (nI_clamp (by omega)) (vp_in_nI (by omega) (by omega)) (v := (ind36 (i))) (rfl) dX12_findLot_154 ?_
                                            refine x_last C X 1 1 rfl rfl (j := i) (nI_clamp (by omega)) (vp_in_nI (by omega) (by omega)) dX12_findLot_155 (fun H locs X => ?_)
                                            have X : Wd D A s [((a 0), .inr (12, (mF a))), ((a 42), .inl (cJ, 73, .inr (.inl (vp_updL (ind36) (i) ((ind36 (i))))))), ((a 43), .inl (cJ, 73, .inr (.inl (ind36)))), ((a 44), .inl (cJ, 73, .inr (.inl (fun _ => (0 : Int64))))), ((a 18), .inl (cI, 8, .inl (fun _ => (0 : Int32))))] H locs := X
                                            have X := x_cng X 1 rfl (arr_eql _ _ (g := ind36) (fun j h => by by_cases e8 : j = i; (subst e8; simp [vp_updL]); simp [vp_updL, e8]))
                                            have X : Wd D A s [((a 0), .inr (12, (mF a))), ((a 42), .inl (cJ, 73, .inr (.inl (ind36)))), ((a 43), .inl (cJ, 73, .inr (.inl (ind36)))), ((a 44), .inl (cJ, 73, .inr (.inl (fun _ => (0 : Int64))))), ((a 18), .inl (cI, 8, .inl (fun _ => (0 : Int32))))] H locs := X
                                            refine lv_iinc (v := (nI (i + 1))) (lv' := [(5, .int (nI (i + 1))), (4, .int (0 : Int32)), (3, .int (2 : Int32)), (1, .long (1 : Int64)), (0, .ref (a 0))]) hx hb dX12_findLot_156 hl (k := 0) rfl (nI_add _ 1) (by decide) rfl (fun ls hl => ?_)
                                            refine lv_goto (tgt := 135) hx hb dX12_findLot_159 (by decide) ?_
                                            exact ih135  (i + 1) H locs ls (by omega) (by omega) (x_sub X [0, 1, 2, 3, 4] (by decide) rfl) (lv_sub hl [0, 1, 2, 3, 4] rfl)
                                      exact L135 (73 + 1) (0) H locs ls (by omega) (by omega) (x_sub X [0, 1, 2, 3, 4] (by decide) rfl) (lv_sub hl [0, 1, 2, 3, 4] rfl)
                                    · have fc_6 : ((i : Nat) : Int) < (73 : Int) := (by have h9 := i_nle c_6; simp only [nI_toInt (n := i) (by omega)] at h9; exact h9)
                                      refine lv_aload_n hx hb dX12_findLot_58 rfl (lv_at hl 4 rfl) ?_
                                      refine x_get (own := RX12) (T := TX12) C X 0 rfl rfl 62 (by decide) k_11_12 rfl rfl (v := .ref (a 43)) rfl dX12_findLot_59 ?_
                                      refine lv_iload hx hb dX12_findLot_62 (lv_at hl 0 rfl) ?_
                                      refine lv_lconst (v := (0 : Int64)) hx hb dX12_findLot_64 (by decide) ?_
                                      refine x_last C X 2 1 rfl rfl (j := i) (nI_clamp (by omega)) (vp_in_nI (by omega) (by omega)) dX12_findLot_65 (fun H locs X => ?_)
                                      have X : Wd D A s [((a 0), .inr (12, (mF a))), ((a 42), .inl (cJ, 73, .inr (.inl (ind36)))), ((a 43), .inl (cJ, 73, .inr (.inl (vp_updL (g) (i) ((0 : Int64)))))), ((a 44), .inl (cJ, 73, .inr (.inl (fun _ => (0 : Int64))))), ((a 18), .inl (cI, 8, .inl (fun _ => (0 : Int32))))] H locs := X
                                      refine lv_iload hx hb dX12_findLot_66 (lv_at hl 1 rfl) ?_
                                      refine lv_ineg hx hb dX12_findLot_68 ?_
                                      refine x_eqi (show -(0 : Int32) = (0 : Int32) from by decide +kernel) ?_
                                      refine lv_istore (lv' := [(6, .int (0 : Int32)), (5, .int (nI (i))), (4, .int (0 : Int32)), (3, .int (2 : Int32)), (1, .long (1 : Int64)), (0, .ref (a 0))]) hx hb dX12_findLot_69 hl (by decide) rfl (fun ls hl => ?_)
                                      refine lv_iload hx hb dX12_findLot_71 (lv_at hl 0 rfl) ?_
                                      refine lv_iload hx hb dX12_findLot_73 (lv_at hl 2 rfl) ?_
                                      refine lv_icmp_gt (tgt := 126) hx hb dX12_findLot_75 (by decide) (fun c0 => absurd c0 (by decide)) (fun _ => ?_)
                                      refine lv_aload_n hx hb dX12_findLot_78 rfl (lv_at hl 5 rfl) ?_
                                      refine x_get (own := RX12) (T := TX12) C X 0 rfl rfl 62 (by decide) k_11_12 rfl rfl (v := .ref (a 43)) rfl dX12_findLot_79 ?_
                                      refine lv_iload hx hb dX12_findLot_82 (lv_at hl 1 rfl) ?_
                                      refine lv_dup2_11 hx hb dX12_findLot_84 rfl rfl ?_
                                      refine x_lald C X 2 1 rfl rfl (j := i) (nI_clamp (by omega)) (vp_in_nI (by omega) (by omega)) (v := (0 : Int64)) (by simp [vp_updL]) dX12_findLot_85 ?_
                                      refine lv_iload hx hb dX12_findLot_86 (lv_at hl 1 rfl) ?_
                                      refine lv_iload hx hb dX12_findLot_88 (lv_at hl 0 rfl) ?_
                                      refine lv_isub hx hb dX12_findLot_90 ?_
                                      refine x_eqi (show (nI (i)) - (0 : Int32) = (nI (i)) from Int32.sub_zero _) ?_
                                      refine lv_if_lt (tgt := 117) hx hb dX12_findLot_91 (by decide) (fun c_13 => by exfalso; have h8 : ((i : Nat) : Int) < (0 : Int) := (by have h9 := i_lt c_13; simp only [nI_toInt (n := i) (by omega)] at h9; exact h9); omega) (fun c_13 => ?_)
                                      have fc_13 : (0 : Int) ≤ ((i : Nat) : Int) := (by have h9 := i_nlt c_13; simp only [nI_toInt (n := i) (by omega)] at h9; exact h9)
                                      refine lv_iload hx hb dX12_findLot_94 (lv_at hl 1 rfl) ?_
                                      refine lv_iload hx hb dX12_findLot_96 (lv_at hl 0 rfl) ?_
                                      refine lv_isub hx hb dX12_findLot_98 ?_
                                      refine x_eqi (show (nI (i)) - (0 : Int32) = (nI (i)) from Int32.sub_zero _) ?_
                                      refine lv_bipush (v := (73 : Int32)) hx hb dX12_findLot_99 (by decide) ?_
                                      refine lv_icmp_ge (tgt := 117) hx hb dX12_findLot_101 (by decide) (fun c_14 => by exfalso; have h8 : (73 : Int) ≤ ((i : Nat) : Int) := (by have h9 := i_le c_14; simp only [nI_toInt (n := i) (by omega)] at h9; exact h9); omega) (fun c_14 => ?_)
                                      have fc_14 : ((i : Nat) : Int) < (73 : Int) := (by have h9 := i_nle c_14; simp only [nI_toInt (n := i) (by omega)] at h9; exact h9)
                                      refine lv_aload_n hx hb dX12_findLot_104 rfl (lv_at hl 5 rfl) ?_
                                      refine x_get (own := RX12) (T := TX12) C X 0 rfl rfl 61 (by decide) k_11_11 rfl rfl (v := .ref (a 42)) rfl dX12_findLot_105 ?_
                                      refine lv_iload hx hb dX12_findLot_108 (lv_at hl 1 rfl) ?_
                                      refine lv_iload hx hb dX12_findLot_110 (lv_at hl 0 rfl) ?_
                                      refine lv_isub hx hb dX12_findLot_112 ?_
                                      refine x_eqi (show (nI (i)) - (0 : Int32) = (nI (i)) from Int32.sub_zero _) ?_
                                      refine x_lald C X 1 1 rfl rfl (j := i) (nI_clamp (by omega)) (vp_in_nI (by omega) (by omega)) (v := (ind36 (i))) (rfl) dX12_findLot_113 ?_
                                      refine lv_goto (tgt := 118) hx hb dX12_findLot_114 (by decide) ?_
                                      refine lv_ladd hx hb dX12_findLot_118 ?_
                                      refine x_eql (show (0 : Int64) + (ind36 (i)) = (ind36 (i)) from by simp) ?_
                                      refine x_last C X 2 1 rfl rfl (j := i) (nI_clamp (by omega)) (vp_in_nI (by omega) (by omega)) dX12_findLot_119 (fun H locs X => ?_)
                                      have X : Wd D A s [((a 0), .inr (12, (mF a))), ((a 42), .inl (cJ, 73, .inr (.inl (ind36)))), ((a 43), .inl (cJ, 73, .inr (.inl (vp_updL (vp_updL (g) (i) ((0 : Int64))) (i) ((ind36 (i))))))), ((a 44), .inl (cJ, 73, .inr (.inl (fun _ => (0 : Int64))))), ((a 18), .inl (cI, 8, .inl (fun _ => (0 : Int32))))] H locs := X
                                      refine lv_iinc (v := (1 : Int32)) (lv' := [(6, .int (1 : Int32)), (5, .int (nI (i))), (4, .int (0 : Int32)), (3, .int (2 : Int32)), (1, .long (1 : Int64)), (0, .ref (a 0))]) hx hb dX12_findLot_120 hl (k := 0) rfl (by decide) (by decide) rfl (fun ls hl => ?_)
                                      refine lv_goto (tgt := 71) hx hb dX12_findLot_123 (by decide) ?_
                                      refine lv_iload hx hb dX12_findLot_71 (lv_at hl 0 rfl) ?_
                                      refine lv_iload hx hb dX12_findLot_73 (lv_at hl 2 rfl) ?_
                                      refine lv_icmp_gt (tgt := 126) hx hb dX12_findLot_75 (by decide) (fun _ => ?_) (fun c0 => absurd (by decide) c0)
                                      refine lv_iinc (v := (nI (i + 1))) (lv' := [(5, .int (nI (i + 1))), (6, .int (1 : Int32)), (4, .int (0 : Int32)), (3, .int (2 : Int32)), (1, .long (1 : Int64)), (0, .ref (a 0))]) hx hb dX12_findLot_126 hl (k := 1) rfl (nI_add _ 1) (by decide) rfl (fun ls hl => ?_)
                                      refine lv_goto (tgt := 51) hx hb dX12_findLot_129 (by decide) ?_
                                      exact ih51  (i + 1) (vp_updL (vp_updL (g) (i) ((0 : Int64))) (i) ((ind36 (i)))) H locs ls (by omega) (fun q h => by by_cases e8 : q = i; (subst e8; simp [vp_updL]); (simp only [vp_updL, if_neg e8]; exact h2 q (by omega))) (by omega) (x_sub X [0, 1, 2, 3, 4] (by decide) rfl) (lv_sub hl [0, 2, 3, 4, 5] rfl)
                                exact L51 (73 + 1) (0) (ind36) H locs ls (by omega) (fun q h => absurd h (by omega)) (by omega) (x_sub X [0, 1, 2, 3, 4] (by decide) rfl) (lv_sub hl [0, 1, 2, 3, 4] rfl)
                              · have fc_5 : ((i : Nat) : Int) < (73 : Int) := (by have h9 := i_nle c_5; simp only [nI_toInt (n := i) (by omega)] at h9; exact h9)
                                refine lv_aload_n hx hb dX12_findLot_142 rfl (lv_at hl 4 rfl) ?_
                                refine x_get (own := RX12) (T := TX12) C X 0 rfl rfl 61 (by decide) k_11_11 rfl rfl (v := .ref (a 42)) rfl dX12_findLot_143 ?_
                                refine lv_iload hx hb dX12_findLot_146 (lv_at hl 0 rfl) ?_
                                refine lv_aload_n hx hb dX12_findLot_148 rfl (lv_at hl 4 rfl) ?_
                                refine x_get (own := RX12) (T := TX12) C X 0 rfl rfl 62 (by decide) k_11_12 rfl rfl (v := .ref (a 43)) rfl dX12_findLot_149 ?_
                                refine lv_iload hx hb dX12_findLot_152 (lv_at hl 0 rfl) ?_
                                refine x_lald C X 2 1 rfl rfl (j := i) (nI_clamp (by omega)) (vp_in_nI (by omega) (by omega)) (v := (ind36 (i))) (rfl) dX12_findLot_154 ?_
                                refine x_last C X 1 1 rfl rfl (j := i) (nI_clamp (by omega)) (vp_in_nI (by omega) (by omega)) dX12_findLot_155 (fun H locs X => ?_)
                                have X : Wd D A s [((a 0), .inr (12, (mF a))), ((a 42), .inl (cJ, 73, .inr (.inl (vp_updL (ind36) (i) ((ind36 (i))))))), ((a 43), .inl (cJ, 73, .inr (.inl (ind36)))), ((a 44), .inl (cJ, 73, .inr (.inl (fun _ => (0 : Int64))))), ((a 18), .inl (cI, 8, .inl (fun _ => (0 : Int32))))] H locs := X
                                have X := x_cng X 1 rfl (arr_eql _ _ (g := ind36) (fun j h => by by_cases e8 : j = i; (subst e8; simp [vp_updL]); simp [vp_updL, e8]))
                                have X : Wd D A s [((a 0), .inr (12, (mF a))), ((a 42), .inl (cJ, 73, .inr (.inl (ind36)))), ((a 43), .inl (cJ, 73, .inr (.inl (ind36)))), ((a 44), .inl (cJ, 73, .inr (.inl (fun _ => (0 : Int64))))), ((a 18), .inl (cI, 8, .inl (fun _ => (0 : Int32))))] H locs := X
                                refine lv_iinc (v := (nI (i + 1))) (lv' := [(5, .int (nI (i + 1))), (4, .int (0 : Int32)), (3, .int (1 : Int32)), (1, .long (1 : Int64)), (0, .ref (a 0))]) hx hb dX12_findLot_156 hl (k := 0) rfl (nI_add _ 1) (by decide) rfl (fun ls hl => ?_)
                                refine lv_goto (tgt := 135) hx hb dX12_findLot_159 (by decide) ?_
                                exact ih135  (i + 1) H locs ls (by omega) (by omega) (x_sub X [0, 1, 2, 3, 4] (by decide) rfl) (lv_sub hl [0, 1, 2, 3, 4] rfl)
                          exact L135 (73 + 1) (0) H locs ls (by omega) (by omega) (x_sub X [0, 1, 2, 3, 4] (by decide) rfl) (lv_sub hl [0, 1, 2, 3, 4] rfl)
                        · have fc_4 : ((i : Nat) : Int) < (73 : Int) := (by have h9 := i_nle c_4; simp only [nI_toInt (n := i) (by omega)] at h9; exact h9)
                          refine lv_aload_n hx hb dX12_findLot_58 rfl (lv_at hl 4 rfl) ?_
                          refine x_get (own := RX12) (T := TX12) C X 0 rfl rfl 62 (by decide) k_11_12 rfl rfl (v := .ref (a 43)) rfl dX12_findLot_59 ?_
                          refine lv_iload hx hb dX12_findLot_62 (lv_at hl 0 rfl) ?_
                          refine lv_lconst (v := (0 : Int64)) hx hb dX12_findLot_64 (by decide) ?_
                          refine x_last C X 2 1 rfl rfl (j := i) (nI_clamp (by omega)) (vp_in_nI (by omega) (by omega)) dX12_findLot_65 (fun H locs X => ?_)
                          have X : Wd D A s [((a 0), .inr (12, (mF a))), ((a 42), .inl (cJ, 73, .inr (.inl (ind36)))), ((a 43), .inl (cJ, 73, .inr (.inl (vp_updL (g) (i) ((0 : Int64)))))), ((a 44), .inl (cJ, 73, .inr (.inl (fun _ => (0 : Int64))))), ((a 18), .inl (cI, 8, .inl (fun _ => (0 : Int32))))] H locs := X
                          refine lv_iload hx hb dX12_findLot_66 (lv_at hl 1 rfl) ?_
                          refine lv_ineg hx hb dX12_findLot_68 ?_
                          refine x_eqi (show -(0 : Int32) = (0 : Int32) from by decide +kernel) ?_
                          refine lv_istore (lv' := [(6, .int (0 : Int32)), (5, .int (nI (i))), (4, .int (0 : Int32)), (3, .int (1 : Int32)), (1, .long (1 : Int64)), (0, .ref (a 0))]) hx hb dX12_findLot_69 hl (by decide) rfl (fun ls hl => ?_)
                          refine lv_iload hx hb dX12_findLot_71 (lv_at hl 0 rfl) ?_
                          refine lv_iload hx hb dX12_findLot_73 (lv_at hl 2 rfl) ?_
                          refine lv_icmp_gt (tgt := 126) hx hb dX12_findLot_75 (by decide) (fun c0 => absurd c0 (by decide)) (fun _ => ?_)
                          refine lv_aload_n hx hb dX12_findLot_78 rfl (lv_at hl 5 rfl) ?_
                          refine x_get (own := RX12) (T := TX12) C X 0 rfl rfl 62 (by decide) k_11_12 rfl rfl (v := .ref (a 43)) rfl dX12_findLot_79 ?_
                          refine lv_iload hx hb dX12_findLot_82 (lv_at hl 1 rfl) ?_
                          refine lv_dup2_11 hx hb dX12_findLot_84 rfl rfl ?_
                          refine x_lald C X 2 1 rfl rfl (j := i) (nI_clamp (by omega)) (vp_in_nI (by omega) (by omega)) (v := (0 : Int64)) (by simp [vp_updL]) dX12_findLot_85 ?_
                          refine lv_iload hx hb dX12_findLot_86 (lv_at hl 1 rfl) ?_
                          refine lv_iload hx hb dX12_findLot_88 (lv_at hl 0 rfl) ?_
                          refine lv_isub hx hb dX12_findLot_90 ?_
                          refine x_eqi (show (nI (i)) - (0 : Int32) = (nI (i)) from Int32.sub_zero _) ?_
                          refine lv_if_lt (tgt := 117) hx hb dX12_findLot_91 (by decide) (fun c_15 => by exfalso; have h8 : ((i : Nat) : Int) < (0 : Int) := (by have h9 := i_lt c_15; simp only [nI_toInt (n := i) (by omega)] at h9; exact h9); omega) (fun c_15 => ?_)
                          have fc_15 : (0 : Int) ≤ ((i : Nat) : Int) := (by have h9 := i_nlt c_15; simp only [nI_toInt (n := i) (by omega)] at h9; exact h9)
                          refine lv_iload hx hb dX12_findLot_94 (lv_at hl 1 rfl) ?_
                          refine lv_iload hx hb dX12_findLot_96 (lv_at hl 0 rfl) ?_
                          refine lv_isub hx hb dX12_findLot_98 ?_
                          refine x_eqi (show (nI (i)) - (0 : Int32) = (nI (i)) from Int32.sub_zero _) ?_
                          refine lv_bipush (v := (73 : Int32)) hx hb dX12_findLot_99 (by decide) ?_
                          refine lv_icmp_ge (tgt := 117) hx hb dX12_findLot_101 (by decide) (fun c_16 => by exfalso; have h8 : (73 : Int) ≤ ((i : Nat) : Int) := (by have h9 := i_le c_16; simp only [nI_toInt (n := i) (by omega)] at h9; exact h9); omega) (fun c_16 => ?_)
                          have fc_16 : ((i : Nat) : Int) < (73 : Int) := (by have h9 := i_nle c_16; simp only [nI_toInt (n := i) (by omega)] at h9; exact h9)
                          refine lv_aload_n hx hb dX12_findLot_104 rfl (lv_at hl 5 rfl) ?_
                          refine x_get (own := RX12) (T := TX12) C X 0 rfl rfl 61 (by decide) k_11_11 rfl rfl (v := .ref (a 42)) rfl dX12_findLot_105 ?_
                          refine lv_iload hx hb dX12_findLot_108 (lv_at hl 1 rfl) ?_
                          refine lv_iload hx hb dX12_findLot_110 (lv_at hl 0 rfl) ?_
                          refine lv_isub hx hb dX12_findLot_112 ?_
                          refine x_eqi (show (nI (i)) - (0 : Int32) = (nI (i)) from Int32.sub_zero _) ?_
                          refine x_lald C X 1 1 rfl rfl (j := i) (nI_clamp (by omega)) (vp_in_nI (by omega) (by omega)) (v := (ind36 (i))) (rfl) dX12_findLot_113 ?_
                          refine lv_goto (tgt := 118) hx hb dX12_findLot_114 (by decide) ?_
                          refine lv_ladd hx hb dX12_findLot_118 ?_
                          refine x_eql (show (0 : Int64) + (ind36 (i)) = (ind36 (i)) from by simp) ?_
                          refine x_last C X 2 1 rfl rfl (j := i) (nI_clamp (by omega)) (vp_in_nI (by omega) (by omega)) dX12_findLot_119 (fun H locs X => ?_)
                          have X : Wd D A s [((a 0), .inr (12, (mF a))), ((a 42), .inl (cJ, 73, .inr (.inl (ind36)))), ((a 43), .inl (cJ, 73, .inr (.inl (vp_updL (vp_updL (g) (i) ((0 : Int64))) (i) ((ind36 (i))))))), ((a 44), .inl (cJ, 73, .inr (.inl (fun _ => (0 : Int64))))), ((a 18), .inl (cI, 8, .inl (fun _ => (0 : Int32))))] H locs := X
                          refine lv_iinc (v := (1 : Int32)) (lv' := [(6, .int (1 : Int32)), (5, .int (nI (i))), (4, .int (0 : Int32)), (3, .int (1 : Int32)), (1, .long (1 : Int64)), (0, .ref (a 0))]) hx hb dX12_findLot_120 hl (k := 0) rfl (by decide) (by decide) rfl (fun ls hl => ?_)
                          refine lv_goto (tgt := 71) hx hb dX12_findLot_123 (by decide) ?_
                          refine lv_iload hx hb dX12_findLot_71 (lv_at hl 0 rfl) ?_
                          refine lv_iload hx hb dX12_findLot_73 (lv_at hl 2 rfl) ?_
                          refine lv_icmp_gt (tgt := 126) hx hb dX12_findLot_75 (by decide) (fun _ => ?_) (fun c0 => absurd (by decide) c0)
                          refine lv_iinc (v := (nI (i + 1))) (lv' := [(5, .int (nI (i + 1))), (6, .int (1 : Int32)), (4, .int (0 : Int32)), (3, .int (1 : Int32)), (1, .long (1 : Int64)), (0, .ref (a 0))]) hx hb dX12_findLot_126 hl (k := 1) rfl (nI_add _ 1) (by decide) rfl (fun ls hl => ?_)
                          refine lv_goto (tgt := 51) hx hb dX12_findLot_129 (by decide) ?_
                          exact ih51  (i + 1) (vp_updL (vp_updL (g) (i) ((0 : Int64))) (i) ((ind36 (i)))) H locs ls (by omega) (fun q h => by by_cases e8 : q = i; (subst e8; simp [vp_updL]); (simp only [vp_updL, if_neg e8]; exact h2 q (by omega))) (by omega) (x_sub X [0, 1, 2, 3, 4] (by decide) rfl) (lv_sub hl [0, 2, 3, 4, 5] rfl)
                    exact L51 (73 + 1) (0) (ind36) H locs ls (by omega) (fun q h => absurd h (by omega)) (by omega) (x_sub X [0, 1, 2, 3, 4] (by decide) rfl) (lv_sub hl [0, 1, 2, 3, 4] rfl)
                  · have fc_3 : ((i : Nat) : Int) < (73 : Int) := (by have h9 := i_nle c_3; simp only [nI_toInt (n := i) (by omega)] at h9; exact h9)
                    refine lv_aload_n hx hb dX12_findLot_142 rfl (lv_at hl 4 rfl) ?_
                    refine x_get (own := RX12) (T := TX12) C X 0 rfl rfl 61 (by decide) k_11_11 rfl rfl (v := .ref (a 42)) rfl dX12_findLot_143 ?_
                    refine lv_iload hx hb dX12_findLot_146 (lv_at hl 0 rfl) ?_
                    refine lv_aload_n hx hb dX12_findLot_148 rfl (lv_at hl 4 rfl) ?_
                    refine x_get (own := RX12) (T := TX12) C X 0 rfl rfl 62 (by decide) k_11_12 rfl rfl (v := .ref (a 43)) rfl dX12_findLot_149 ?_
                    refine lv_iload hx hb dX12_findLot_152 (lv_at hl 0 rfl) ?_
                    refine x_lald C X 2 1 rfl rfl (j := i) (nI_clamp (by omega)) (vp_in_nI (by omega) (by omega)) (v := (ind36 (i))) (rfl) dX12_findLot_154 ?_
                    refine x_last C X 1 1 rfl rfl (j := i) (nI_clamp (by omega)) (vp_in_nI (by omega) (by omega)) dX12_findLot_155 (fun H locs X => ?_)
                    have X : Wd D A s [((a 0), .inr (12, (mF a))), ((a 42), .inl (cJ, 73, .inr (.inl (vp_updL (ind36) (i) ((ind36 (i))))))), ((a 43), .inl (cJ, 73, .inr (.inl (ind36)))), ((a 44), .inl (cJ, 73, .inr (.inl (fun _ => (0 : Int64))))), ((a 18), .inl (cI, 8, .inl (fun _ => (0 : Int32))))] H locs := X
                    have X := x_cng X 1 rfl (arr_eql _ _ (g := ind36) (fun j h => by by_cases e8 : j = i; (subst e8; simp [vp_updL]); simp [vp_updL, e8]))
                    have X : Wd D A s [((a 0), .inr (12, (mF a))), ((a 42), .inl (cJ, 73, .inr (.inl (ind36)))), ((a 43), .inl (cJ, 73, .inr (.inl (ind36)))), ((a 44), .inl (cJ, 73, .inr (.inl (fun _ => (0 : Int64))))), ((a 18), .inl (cI, 8, .inl (fun _ => (0 : Int32))))] H locs := X
                    refine lv_iinc (v := (nI (i + 1))) (lv' := [(5, .int (nI (i + 1))), (4, .int (0 : Int32)), (3, .int (0 : Int32)), (1, .long (1 : Int64)), (0, .ref (a 0))]) hx hb dX12_findLot_156 hl (k := 0) rfl (nI_add _ 1) (by decide) rfl (fun ls hl => ?_)
                    refine lv_goto (tgt := 135) hx hb dX12_findLot_159 (by decide) ?_
                    exact ih135  (i + 1) H locs ls (by omega) (by omega) (x_sub X [0, 1, 2, 3, 4] (by decide) rfl) (lv_sub hl [0, 1, 2, 3, 4] rfl)
              exact L135 (73 + 1) (0) H locs ls (by omega) (by omega) (x_sub X [0, 1, 2, 3, 4] (by decide) rfl) (lv_sub hl [0, 1, 2, 3, 4] rfl)
            · have fc_2 : ((i : Nat) : Int) < (73 : Int) := (by have h9 := i_nle c_2; simp only [nI_toInt (n := i) (by omega)] at h9; exact h9)
              refine lv_aload_n hx hb dX12_findLot_58 rfl (lv_at hl 4 rfl) ?_
              refine x_get (own := RX12) (T := TX12) C X 0 rfl rfl 62 (by decide) k_11_12 rfl rfl (v := .ref (a 43)) rfl dX12_findLot_59 ?_
              refine lv_iload hx hb dX12_findLot_62 (lv_at hl 0 rfl) ?_
              refine lv_lconst (v := (0 : Int64)) hx hb dX12_findLot_64 (by decide) ?_
              refine x_last C X 2 1 rfl rfl (j := i) (nI_clamp (by omega)) (vp_in_nI (by omega) (by omega)) dX12_findLot_65 (fun H locs X => ?_)
              have X : Wd D A s [((a 0), .inr (12, (mF a))), ((a 42), .inl (cJ, 73, .inr (.inl (ind36)))), ((a 43), .inl (cJ, 73, .inr (.inl (vp_updL (g) (i) ((0 : Int64)))))), ((a 44), .inl (cJ, 73, .inr (.inl (fun _ => (0 : Int64))))), ((a 18), .inl (cI, 8, .inl (fun _ => (0 : Int32))))] H locs := X
              refine lv_iload hx hb dX12_findLot_66 (lv_at hl 1 rfl) ?_
              refine lv_ineg hx hb dX12_findLot_68 ?_
              refine x_eqi (show -(0 : Int32) = (0 : Int32) from by decide +kernel) ?_
              refine lv_istore (lv' := [(6, .int (0 : Int32)), (5, .int (nI (i))), (4, .int (0 : Int32)), (3, .int (0 : Int32)), (1, .long (1 : Int64)), (0, .ref (a 0))]) hx hb dX12_findLot_69 hl (by decide) rfl (fun ls hl => ?_)
              refine lv_iload hx hb dX12_findLot_71 (lv_at hl 0 rfl) ?_
              refine lv_iload hx hb dX12_findLot_73 (lv_at hl 2 rfl) ?_
              refine lv_icmp_gt (tgt := 126) hx hb dX12_findLot_75 (by decide) (fun c0 => absurd c0 (by decide)) (fun _ => ?_)
              refine lv_aload_n hx hb dX12_findLot_78 rfl (lv_at hl 5 rfl) ?_
              refine x_get (own := RX12) (T := TX12) C X 0 rfl rfl 62 (by decide) k_11_12 rfl rfl (v := .ref (a 43)) rfl dX12_findLot_79 ?_
              refine lv_iload hx hb dX12_findLot_82 (lv_at hl 1 rfl) ?_
              refine lv_dup2_11 hx hb dX12_findLot_84 rfl rfl ?_
              refine x_lald C X 2 1 rfl rfl (j := i) (nI_clamp (by omega)) (vp_in_nI (by omega) (by omega)) (v := (0 : Int64)) (by simp [vp_updL]) dX12_findLot_85 ?_
              refine lv_iload hx hb dX12_findLot_86 (lv_at hl 1 rfl) ?_
              refine lv_iload hx hb dX12_findLot_88 (lv_at hl 0 rfl) ?_
              refine lv_isub hx hb dX12_findLot_90 ?_
              refine x_eqi (show (nI (i)) - (0 : Int32) = (nI (i)) from Int32.sub_zero _) ?_
              refine lv_if_lt (tgt := 117) hx hb dX12_findLot_91 (by decide) (fun c_17 => by exfalso; have h8 : ((i : Nat) : Int) < (0 : Int) := (by have h9 := i_lt c_17; simp only [nI_toInt (n := i) (by omega)] at h9; exact h9); omega) (fun c_17 => ?_)
              have fc_17 : (0 : Int) ≤ ((i : Nat) : Int) := (by have h9 := i_nlt c_17; simp only [nI_toInt (n := i) (by omega)] at h9; exact h9)
              refine lv_iload hx hb dX12_findLot_94 (lv_at hl 1 rfl) ?_
              refine lv_iload hx hb dX12_findLot_96 (lv_at hl 0 rfl) ?_
              refine lv_isub hx hb dX12_findLot_98 ?_
              refine x_eqi (show (nI (i)) - (0 : Int32) = (nI (i)) from Int32.sub_zero _) ?_
              refine lv_bipush (v := (73 : Int32)) hx hb dX12_findLot_99 (by decide) ?_
              refine lv_icmp_ge (tgt := 117) hx hb dX12_findLot_101 (by decide) (fun c_18 => by exfalso; have h8 : (73 : Int) ≤ ((i : Nat) : Int) := (by have h9 := i_le c_18; simp only [nI_toInt (n := i) (by omega)] at h9; exact h9); omega) (fun c_18 => ?_)
              have fc_18 : ((i : Nat) : Int) < (73 : Int) := (by have h9 := i_nle c_18; simp only [nI_toInt (n := i) (by omega)] at h9; exact h9)
              refine lv_aload_n hx hb dX12_findLot_104 rfl (lv_at hl 5 rfl) ?_
              refine x_get (own := RX12) (T := TX12) C X 0 rfl rfl 61 (by decide) k_11_11 rfl rfl (v := .ref (a 42)) rfl dX12_findLot_105 ?_
              refine lv_iload hx hb dX12_findLot_108 (lv_at hl 1 rfl) ?_
              refine lv_iload hx hb dX12_findLot_110 (lv_at hl 0 rfl) ?_
              refine lv_isub hx hb dX12_findLot_112 ?_
              refine x_eqi (show (nI (i)) - (0 : Int32) = (nI (i)) from Int32.sub_zero _) ?_
              refine x_lald C X 1 1 rfl rfl (j := i) (nI_clamp (by omega)) (vp_in_nI (by omega) (by omega)) (v := (ind36 (i))) (rfl) dX12_findLot_113 ?_
              refine lv_goto (tgt := 118) hx hb dX12_findLot_114 (by decide) ?_
              refine lv_ladd hx hb dX12_findLot_118 ?_
              refine x_eql (show (0 : Int64) + (ind36 (i)) = (ind36 (i)) from by simp) ?_
              refine x_last C X 2 1 rfl rfl (j := i) (nI_clamp (by omega)) (vp_in_nI (by omega) (by omega)) dX12_findLot_119 (fun H locs X => ?_)
              have X : Wd D A s [((a 0), .inr (12, (mF a))), ((a 42), .inl (cJ, 73, .inr (.inl (ind36)))), ((a 43), .inl (cJ, 73, .inr (.inl (vp_updL (vp_updL (g) (i) ((0 : Int64))) (i) ((ind36 (i))))))), ((a 44), .inl (cJ, 73, .inr (.inl (fun _ => (0 : Int64))))), ((a 18), .inl (cI, 8, .inl (fun _ => (0 : Int32))))] H locs := X
              refine lv_iinc (v := (1 : Int32)) (lv' := [(6, .int (1 : Int32)), (5, .int (nI (i))), (4, .int (0 : Int32)), (3, .int (0 : Int32)), (1, .long (1 : Int64)), (0, .ref (a 0))]) hx hb dX12_findLot_120 hl (k := 0) rfl (by decide) (by decide) rfl (fun ls hl => ?_)
              refine lv_goto (tgt := 71) hx hb dX12_findLot_123 (by decide) ?_
              refine lv_iload hx hb dX12_findLot_71 (lv_at hl 0 rfl) ?_
              refine lv_iload hx hb dX12_findLot_73 (lv_at hl 2 rfl) ?_
              refine lv_icmp_gt (tgt := 126) hx hb dX12_findLot_75 (by decide) (fun _ => ?_) (fun c0 => absurd (by decide) c0)
              refine lv_iinc (v := (nI (i + 1))) (lv' := [(5, .int (nI (i + 1))), (6, .int (1 : Int32)), (4, .int (0 : Int32)), (3, .int (0 : Int32)), (1, .long (1 : Int64)), (0, .ref (a 0))]) hx hb dX12_findLot_126 hl (k := 1) rfl (nI_add _ 1) (by decide) rfl (fun ls hl => ?_)
              refine lv_goto (tgt := 51) hx hb dX12_findLot_129 (by decide) ?_
              exact ih51  (i + 1) (vp_updL (vp_updL (g) (i) ((0 : Int64))) (i) ((ind36 (i)))) H locs ls (by omega) (fun q h => by by_cases e8 : q = i; (subst e8; simp [vp_updL]); (simp only [vp_updL, if_neg e8]; exact h2 q (by omega))) (by omega) (x_sub X [0, 1, 2, 3, 4] (by decide) rfl) (lv_sub hl [0, 2, 3, 4, 5] rfl)
        exact L51 (73 + 1) (0) (fun _ => (0 : Int64)) H locs ls (by omega) (fun q h => absurd h (by omega)) (by omega) (x_sub X [0, 1, 2, 3, 4] (by decide) rfl) (lv_sub hl [0, 1, 2, 3, 4] rfl)
      · have fc_1 : ((i : Nat) : Int) < (73 : Int) := (by have h9 := i_nle c_1; simp only [nI_toInt (n := i) (by omega)] at h9; exact h9)
        refine lv_aload_n hx hb dX12_findLot_8 rfl (lv_at hl 1 rfl) ?_
        refine x_get (own := RX12) (T := TX12) C X 0 rfl rfl 61 (by decide) k_11_11 rfl rfl (v := .ref (a 42)) rfl dX12_findLot_9 ?_
        refine lv_iload_n hx hb dX12_findLot_12 rfl (lv_at hl 0 rfl) ?_
        refine lv_iload_n hx hb dX12_findLot_13 rfl (lv_at hl 0 rfl) ?_
        refine lv_bipush (v := (36 : Int32)) hx hb dX12_findLot_14 (by decide) ?_
        refine lv_icmp_ne (tgt := 23) hx hb dX12_findLot_16 (by decide) (fun c_19 => ?_) (fun c_19 => ?_)
        · have fc_19 : ((i : Nat) : Int) ≠ (36 : Int) := (by have h9 := i_ne c_19; simp only [nI_toInt (n := i) (by omega)] at h9; exact h9)
          refine lv_lconst (v := (0 : Int64)) hx hb dX12_findLot_23 (by decide) ?_
          refine x_last C X 1 1 rfl rfl (j := i) (nI_clamp (by omega)) (vp_in_nI (by omega) (by omega)) dX12_findLot_24 (fun H locs X => ?_)
          have X : Wd D A s [((a 0), .inr (12, (mF a))), ((a 42), .inl (cJ, 73, .inr (.inl (vp_updL (fun j => if j < i then ind36 j else 0) (i) ((0 : Int64)))))), ((a 43), .inl (cJ, 73, .inr (.inl (fun _ => (0 : Int64))))), ((a 44), .inl (cJ, 73, .inr (.inl (fun _ => (0 : Int64))))), ((a 18), .inl (cI, 8, .inl (fun _ => (0 : Int32))))] H locs := X
          have X := x_cng X 1 rfl (arr_eql _ _ (g := fun j => if j < i + 1 then ind36 j else 0) (fun j h => by simp only [vp_updL, ind36]; (repeat' split); all_goals first | rfl | omega))
          have X : Wd D A s [((a 0), .inr (12, (mF a))), ((a 42), .inl (cJ, 73, .inr (.inl (fun j => if j < i + 1 then ind36 j else 0)))), ((a 43), .inl (cJ, 73, .inr (.inl (fun _ => (0 : Int64))))), ((a 44), .inl (cJ, 73, .inr (.inl (fun _ => (0 : Int64))))), ((a 18), .inl (cI, 8, .inl (fun _ => (0 : Int32))))] H locs := X
          refine lv_iinc (v := (nI (i + 1))) (lv' := [(1, .int (nI (i + 1))), (0, .ref (a 0))]) hx hb dX12_findLot_25 hl (k := 0) rfl (nI_add _ 1) (by decide) rfl (fun ls hl => ?_)
          refine lv_goto (tgt := 2) hx hb dX12_findLot_28 (by decide) ?_
          exact ih2  (i + 1) H locs ls (by omega) (by omega) (x_sub X [0, 1, 2, 3, 4] (by decide) rfl) (lv_sub hl [0, 1] rfl)
        · have fc_19 : ((i : Nat) : Int) = (36 : Int) := (by have h9 := i_eq c_19; simp only [nI_toInt (n := i) (by omega)] at h9; exact h9)
          refine lv_lconst (v := (1 : Int64)) hx hb dX12_findLot_19 (by decide) ?_
          refine lv_goto (tgt := 24) hx hb dX12_findLot_20 (by decide) ?_
          refine x_last C X 1 1 rfl rfl (j := i) (nI_clamp (by omega)) (vp_in_nI (by omega) (by omega)) dX12_findLot_24 (fun H locs X => ?_)
          have X : Wd D A s [((a 0), .inr (12, (mF a))), ((a 42), .inl (cJ, 73, .inr (.inl (vp_updL (fun j => if j < i then ind36 j else 0) (i) ((1 : Int64)))))), ((a 43), .inl (cJ, 73, .inr (.inl (fun _ => (0 : Int64))))), ((a 44), .inl (cJ, 73, .inr (.inl (fun _ => (0 : Int64))))), ((a 18), .inl (cI, 8, .inl (fun _ => (0 : Int32))))] H locs := X
          have X := x_cng X 1 rfl (arr_eql _ _ (g := fun j => if j < i + 1 then ind36 j else 0) (fun j h => by simp only [vp_updL, ind36]; (repeat' split); all_goals first | rfl | omega))
          have X : Wd D A s [((a 0), .inr (12, (mF a))), ((a 42), .inl (cJ, 73, .inr (.inl (fun j => if j < i + 1 then ind36 j else 0)))), ((a 43), .inl (cJ, 73, .inr (.inl (fun _ => (0 : Int64))))), ((a 44), .inl (cJ, 73, .inr (.inl (fun _ => (0 : Int64))))), ((a 18), .inl (cI, 8, .inl (fun _ => (0 : Int32))))] H locs := X
          refine lv_iinc (v := (nI (i + 1))) (lv' := [(1, .int (nI (i + 1))), (0, .ref (a 0))]) hx hb dX12_findLot_25 hl (k := 0) rfl (nI_add _ 1) (by decide) rfl (fun ls hl => ?_)
          refine lv_goto (tgt := 2) hx hb dX12_findLot_28 (by decide) ?_
          exact ih2  (i + 1) H locs ls (by omega) (by omega) (x_sub X [0, 1, 2, 3, 4] (by decide) rfl) (lv_sub hl [0, 1] rfl)
  exact L2 (73 + 1) (0) H locs ls (by omega) (by omega) (x_sub X [0, 1, 2, 3, 4] (by decide) rfl) (lv_sub hl [0, 1] rfl)
set_option maxHeartbeats 4000000 in
set_option maxRecDepth 100000 in
theorem cm_findOnce (l : Launch) (D : va_G) (cI cJ cZ cB : ClassId) (cO : ClassId) (a : Nat → Nat) :
    CV l D [(cI, .int), (cJ, .long), (cZ, .boolean), (cB, .byte), (cO, .object "LuckLinks$World")] yX12_findOnce cX12_findOnce 3 ({ frames := 0, cells := 0, slots := 0, locals := 0 } : Room) [.ref (a 0)] [((a 0), .inr (12, (mF a))), ((a 44), .inl (cJ, 73, .inr (.inl (lotM)))), ((a 48), .inl (cJ, 145, .inr (.inl (fun _ => (0 : Int64)))))] (fun (u : Unit) => (True)) (fun (_ : Unit) => [((a 0), .inr (12, (mF a))), ((a 48), .inl (cJ, 145, .inr (.inl (onceM))))]) := by
  intro sz
  refine body_of (y := yX12_findOnce) (cc := cX12_findOnce) (maxL := 3) (ret := none) (rm := ({ frames := 0, cells := 0, slots := 0, locals := 0 } : Room)) (wc := [((a 0), .inr (12, (mF a))), ((a 44), .inl (cJ, 73, .inr (.inl (lotM)))), ((a 48), .inl (cJ, 145, .inr (.inl (fun _ => (0 : Int64)))))]) (tys := [(cI, .int), (cJ, .long), (cZ, .boolean), (cB, .byte), (cO, .object "LuckLinks$World")]) (D := D) (sz := sz) (own := RX12) (av := [.ref (a 0)]) (Qc := fun A => va_Qv (fun (u : Unit) => (True)) (fun u t => Aft D A ((fun (_ : Unit) => [((a 0), .inr (12, (mF a))), ((a 48), .inl (cJ, 145, .inr (.inl (onceM))))]) u) t) A) (by decide) rfl (Nat.le_of_ble_eq_true rfl) (fun p e s m below meth c A ls C hr hlk hin X hl => ?_)
  have hx := C.1
  have hb := C.2.1
  have hown := C.2.2.2.1
  have hts := C.2.2.2.2.1
  have hl : lv_has ls 3 [(0, .ref (a 0))] := hl
  show W p l e _ s m _ below meth c s.heap [] 0 0 (MQ below (va_Qv (fun (u : Unit) => (True)) (fun u t => Aft D A ((fun (_ : Unit) => [((a 0), .inr (12, (mF a))), ((a 48), .inl (cJ, 145, .inr (.inl (onceM))))]) u) t) A) ([.ref (a 0)] : List Value).toArray s 0 0 A) (F0 m 0 ls [])
  have X : Wd D A s [((a 0), .inr (12, (mF a))), ((a 44), .inl (cJ, 73, .inr (.inl (lotM)))), ((a 48), .inl (cJ, 145, .inr (.inl (fun _ => (0 : Int64)))))] s.heap [] := X
  obtain ⟨H, locs, eH, eL⟩ : ∃ H locs, H = s.heap ∧ locs = ([] : List Loc) := ⟨_, _, rfl, rfl⟩
  rw [← eH, ← eL] at X ⊢
  clear eH eL
  refine lv_iconst (v := (0 : Int32)) hx hb dX12_findOnce_0 (by decide) ?_
  refine lv_istore_n (lv' := [(1, .int (0 : Int32)), (0, .ref (a 0))]) hx hb dX12_findOnce_1 rfl hl (by decide) rfl (fun ls hl => ?_)
  have L2 : ∀ (n : Nat) (i : Nat) (H : Heap) (locs : List Loc) (ls : Array Slot), (h1 : i ≤ 145) → 145 < i + n → Wd D A s [((a 0), .inr (12, (mF a))), ((a 44), .inl (cJ, 73, .inr (.inl (lotM)))), ((a 48), .inl (cJ, 145, .inr (.inl (fun _ => (0 : Int64)))))] H locs → lv_has ls 3 [(1, .int (nI (i))), (0, .ref (a 0))] → W p l e ({ frames := 0, cells := 0, slots := 0, locals := 0 } : Room) s m ([.ref (a 0)] : List Value).toArray below meth c H locs 0 0 (MQ below (va_Qv (fun (u : Unit) => (True)) (fun u t => Aft D A ((fun (_ : Unit) => [((a 0), .inr (12, (mF a))), ((a 48), .inl (cJ, 145, .inr (.inl (onceM))))]) u) t) A) ([.ref (a 0)] : List Value).toArray s 0 0 A) (F0 m 2 ls []) := by
    intro n
    induction n with
    | zero => intro i H locs ls h1 hn; exact absurd hn (by omega)
    | succ n ih =>
      intro i H locs ls h1 hn X hl
      have ih2 := ih
      refine lv_iload_n hx hb dX12_findOnce_2 rfl (lv_at hl 0 rfl) ?_
      refine lv_sipush (v := (145 : Int32)) hx hb dX12_findOnce_3 (by decide) ?_
      refine lv_icmp_ge (tgt := 22) hx hb dX12_findOnce_6 (by decide) (fun c_1 => ?_) (fun c_1 => ?_)
      · have fc_1 : (145 : Int) ≤ ((i : Nat) : Int) := (by have h9 := i_le c_1; simp only [nI_toInt (n := i) (by omega)] at h9; exact h9)
        have X := x_cng X 2 rfl (arr_eql _ _ (g := fun q => if q = 72 ∧ 36 < 0 then 1000000 else 0) (fun j h => by show (0 : Int64) = (if j = 72 ∧ 36 < 0 then 1000000 else 0); rw [if_neg (by omega)]))
        have X : Wd D A s [((a 0), .inr (12, (mF a))), ((a 44), .inl (cJ, 73, .inr (.inl (lotM)))), ((a 48), .inl (cJ, 145, .inr (.inl (fun q => if q = 72 ∧ 36 < 0 then 1000000 else 0))))] H locs := X
        refine lv_iconst (v := (0 : Int32)) hx hb dX12_findOnce_22 (by decide) ?_
        refine lv_istore_n (lv' := [(1, .int (0 : Int32)), (0, .ref (a 0))]) hx hb dX12_findOnce_23 rfl hl (by decide) rfl (fun ls hl => ?_)
        have L24 : ∀ (n : Nat) (i : Nat) (H : Heap) (locs : List Loc) (ls : Array Slot), (h1 : i ≤ 73) → 73 < i + n → Wd D A s [((a 0), .inr (12, (mF a))), ((a 44), .inl (cJ, 73, .inr (.inl (lotM)))), ((a 48), .inl (cJ, 145, .inr (.inl (fun q => if q = 72 ∧ 36 < i then 1000000 else 0))))] H locs → lv_has ls 3 [(1, .int (nI (i))), (0, .ref (a 0))] → W p l e ({ frames := 0, cells := 0, slots := 0, locals := 0 } : Room) s m ([.ref (a 0)] : List Value).toArray below meth c H locs 0 0 (MQ below (va_Qv (fun (u : Unit) => (True)) (fun u t => Aft D A ((fun (_ : Unit) => [((a 0), .inr (12, (mF a))), ((a 48), .inl (cJ, 145, .inr (.inl (onceM))))]) u) t) A) ([.ref (a 0)] : List Value).toArray s 0 0 A) (F0 m 24 ls []) := by
          intro n
          induction n with
          | zero => intro i H locs ls h1 hn; exact absurd hn (by omega)
          | succ n ih =>
            intro i H locs ls h1 hn X hl
            have ih24 := ih
            refine lv_iload_n hx hb dX12_findOnce_24 rfl (lv_at hl 0 rfl) ?_
            refine lv_bipush (v := (73 : Int32)) hx hb dX12_findOnce_25 (by decide) ?_
            refine lv_icmp_ge (tgt := 81) hx hb dX12_findOnce_27 (by decide) (fun c_2 => ?_) (fun c_2 => ?_)
            · have fc_2 : (73 : Int) ≤ ((i : Nat) : Int) := (by have h9 := i_le c_2; simp only [nI_toInt (n := i) (by omega)] at h9; exact h9)
              have X := x_cng X 2 rfl (arr_eql _ _ (g := onceM) (fun j h => by show (if j = 72 ∧ 36 < i then (1000000 : Int64) else 0) = onceM j; simp only [onceM]; (repeat' split); all_goals first | rfl | omega))
              have X : Wd D A s [((a 0), .inr (12, (mF a))), ((a 44), .inl (cJ, 73, .inr (.inl (lotM)))), ((a 48), .inl (cJ, 145, .inr (.inl (onceM))))] H locs := X
              exact x_vret C X hr hlk (()) [0, 2] (by decide) rfl (trivial) (Nat.le_of_ble_eq_true rfl) (Nat.le_of_ble_eq_true rfl) dX12_findOnce_81
            · have fc_2 : ((i : Nat) : Int) < (73 : Int) := (by have h9 := i_nle c_2; simp only [nI_toInt (n := i) (by omega)] at h9; exact h9)
              have X := x_cng X 2 rfl (arr_eql _ _ (g := fun q => if q = 72 ∧ (36 < i ∨ i = 36 ∧ 36 < 0) then 1000000 else 0) (fun j h => by show (if j = 72 ∧ 36 < i then (1000000 : Int64) else 0) = (if j = 72 ∧ (36 < i ∨ i = 36 ∧ 36 < 0) then 1000000 else 0); (repeat' split); all_goals first | rfl | omega))
              have X : Wd D A s [((a 0), .inr (12, (mF a))), ((a 44), .inl (cJ, 73, .inr (.inl (lotM)))), ((a 48), .inl (cJ, 145, .inr (.inl (fun q => if q = 72 ∧ (36 < i ∨ i = 36 ∧ 36 < 0) then 1000000 else 0))))] H locs := X
              refine lv_iconst (v := (0 : Int32)) hx hb dX12_findOnce_30 (by decide) ?_
              refine lv_istore_n (lv' := [(2, .int (0 : Int32)), (1, .int (nI (i))), (0, .ref (a 0))]) hx hb dX12_findOnce_31 rfl hl (by decide) rfl (fun ls hl => ?_)
              have L32 : ∀ (n : Nat) (v : Nat) (H : Heap) (locs : List Loc) (ls : Array Slot), (g1 : v ≤ 73) → 73 < v + n → Wd D A s [((a 0), .inr (12, (mF a))), ((a 44), .inl (cJ, 73, .inr (.inl (lotM)))), ((a 48), .inl (cJ, 145, .inr (.inl (fun q => if q = 72 ∧ (36 < i ∨ i = 36 ∧ 36 < v) then 1000000 else 0))))] H locs → lv_has ls 3 [(2, .int (nI (v))), (1, .int (nI (i))), (0, .ref (a 0))] → W p l e ({ frames := 0, cells := 0, slots := 0, locals := 0 } : Room) s m ([.ref (a 0)] : List Value).toArray below meth c H locs 0 0 (MQ below (va_Qv (fun (u : Unit) => (True)) (fun u t => Aft D A ((fun (_ : Unit) => [((a 0), .inr (12, (mF a))), ((a 48), .inl (cJ, 145, .inr (.inl (onceM))))]) u) t) A) ([.ref (a 0)] : List Value).toArray s 0 0 A) (F0 m 32 ls []) := by
                intro n
                induction n with
                | zero => intro v H locs ls g1 hn; exact absurd hn (by omega)
                | succ n ih =>
                  intro v H locs ls g1 hn X hl
                  have ih32 := ih
                  refine lv_iload_n hx hb dX12_findOnce_32 rfl (lv_at hl 0 rfl) ?_
                  refine lv_bipush (v := (73 : Int32)) hx hb dX12_findOnce_33 (by decide) ?_
                  refine lv_icmp_ge (tgt := 75) hx hb dX12_findOnce_35 (by decide) (fun c_3 => ?_) (fun c_3 => ?_)
                  · have fc_3 : (73 : Int) ≤ ((v : Nat) : Int) := (by have h9 := i_le c_3; simp only [nI_toInt (n := v) (by omega)] at h9; exact h9)
                    have X := x_cng X 2 rfl (arr_eql _ _ (g := fun q => if q = 72 ∧ 36 < (i + 1) then 1000000 else 0) (fun j h => by show (if j = 72 ∧ (36 < i ∨ i = 36 ∧ 36 < v) then (1000000 : Int64) else 0) = (if j = 72 ∧ 36 < i + 1 then 1000000 else 0); (repeat' split); all_goals first | rfl | omega))
                    have X : Wd D A s [((a 0), .inr (12, (mF a))), ((a 44), .inl (cJ, 73, .inr (.inl (lotM)))), ((a 48), .inl (cJ, 145, .inr (.inl (fun q => if q = 72 ∧ 36 < (i + 1) then 1000000 else 0))))] H locs := X
                    refine lv_iinc (v := (nI (i + 1))) (lv' := [(1, .int (nI (i + 1))), (2, .int (nI (v))), (0, .ref (a 0))]) hx hb dX12_findOnce_75 hl (k := 1) rfl (nI_add _ 1) (by decide) rfl (fun ls hl => ?_)
                    refine lv_goto (tgt := 24) hx hb dX12_findOnce_78 (by decide) ?_
                    exact ih24  (i + 1) H locs ls (by omega) (by omega) (x_sub X [0, 1, 2] (by decide) rfl) (lv_sub hl [0, 2] rfl)
                  · have fc_3 : ((v : Nat) : Int) < (73 : Int) := (by have h9 := i_nle c_3; simp only [nI_toInt (n := v) (by omega)] at h9; exact h9)
                    by_cases hs38 : i = 36
                    · refine lv_aload_n hx hb dX12_findOnce_38 rfl (lv_at hl 2 rfl) ?_
                      refine x_get (own := RX12) (T := TX12) C X 0 rfl rfl 67 (by decide) k_11_17 rfl rfl (v := .ref (a 48)) rfl dX12_findOnce_39 ?_
                      by_cases hs42 : v = 36
                      · refine lv_iload_n hx hb dX12_findOnce_42 rfl (lv_at hl 1 rfl) ?_
                        refine lv_iload_n hx hb dX12_findOnce_43 rfl (lv_at hl 0 rfl) ?_
                        refine lv_isub hx hb dX12_findOnce_44 ?_
                        refine x_eqi (show (nI (i)) - (nI (v)) = ((nI (i)) - (nI (v))) from rfl) ?_
                        refine lv_bipush (v := (72 : Int32)) hx hb dX12_findOnce_45 (by decide) ?_
                        refine lv_iadd hx hb dX12_findOnce_47 ?_
                        refine x_eqi (show ((nI (i)) - (nI (v))) + (72 : Int32) = (nI (i + 72 - v)) from i_xy (by omega) (by omega)) ?_
                        refine lv_dup2_11 hx hb dX12_findOnce_48 rfl rfl ?_
                        refine x_lald C X 2 1 rfl rfl (j := i + 72 - v) (nI_clamp (by omega)) (vp_in_nI (by omega) (by omega)) (v := (0 : Int64)) (by show (if i + 72 - v = 72 ∧ (36 < i ∨ i = 36 ∧ 36 < v) then (1000000 : Int64) else 0) = 0; exact if_neg (by omega)) dX12_findOnce_49 ?_
                        refine lv_aload_n hx hb dX12_findOnce_50 rfl (lv_at hl 2 rfl) ?_
                        refine x_get (own := RX12) (T := TX12) C X 0 rfl rfl 63 (by decide) k_11_13 rfl rfl (v := .ref (a 44)) rfl dX12_findOnce_51 ?_
                        refine lv_iload_n hx hb dX12_findOnce_54 rfl (lv_at hl 1 rfl) ?_
                        refine x_lald C X 1 1 rfl rfl (j := i) (nI_clamp (by omega)) (vp_in_nI (by omega) (by omega)) (v := (1000000 : Int64)) (by unfold lotM; exact if_pos hs38) dX12_findOnce_55 ?_
                        refine lv_aload_n hx hb dX12_findOnce_56 rfl (lv_at hl 2 rfl) ?_
                        refine x_get (own := RX12) (T := TX12) C X 0 rfl rfl 63 (by decide) k_11_13 rfl rfl (v := .ref (a 44)) rfl dX12_findOnce_57 ?_
                        refine lv_iload_n hx hb dX12_findOnce_60 rfl (lv_at hl 0 rfl) ?_
                        refine x_lald C X 1 1 rfl rfl (j := v) (nI_clamp (by omega)) (vp_in_nI (by omega) (by omega)) (v := (1000000 : Int64)) (by unfold lotM; exact if_pos hs42) dX12_findOnce_61 ?_
                        refine lv_lmul hx hb dX12_findOnce_62 ?_
                        refine x_eql (show (1000000 : Int64) * (1000000 : Int64) = (1000000000000 : Int64) from by decide +kernel) ?_
                        refine lv_ldc2 (own := RX12) (v := (1000000 : Int64)) hx hb hown (hts _ k_53_9) dX12_findOnce_63 ?_
                        refine lv_ldiv hx hb dX12_findOnce_66 (by decide) ?_
                        refine x_eql (show (1000000000000 : Int64) / (1000000 : Int64) = (1000000 : Int64) from by decide +kernel) ?_
                        refine lv_ladd hx hb dX12_findOnce_67 ?_
                        refine x_eql (show (0 : Int64) + (1000000 : Int64) = (1000000 : Int64) from by decide +kernel) ?_
                        refine x_last C X 2 1 rfl rfl (j := i + 72 - v) (nI_clamp (by omega)) (vp_in_nI (by omega) (by omega)) dX12_findOnce_68 (fun H locs X => ?_)
                        have X : Wd D A s [((a 0), .inr (12, (mF a))), ((a 44), .inl (cJ, 73, .inr (.inl (lotM)))), ((a 48), .inl (cJ, 145, .inr (.inl (vp_updL (fun q => if q = 72 ∧ (36 < i ∨ i = 36 ∧ 36 < v) then 1000000 else 0) (i + 72 - v) ((1000000 : Int64))))))] H locs := X
                        have X := x_cng X 2 rfl (arr_eql _ _ (g := fun q => if q = 72 ∧ (36 < i ∨ i = 36 ∧ 36 < (v + 1)) then 1000000 else 0) (fun j h => by simp only [vp_updL]; (repeat' split); all_goals first | rfl | omega))
                        have X : Wd D A s [((a 0), .inr (12, (mF a))), ((a 44), .inl (cJ, 73, .inr (.inl (lotM)))), ((a 48), .inl (cJ, 145, .inr (.inl (fun q => if q = 72 ∧ (36 < i ∨ i = 36 ∧ 36 < (v + 1)) then 1000000 else 0))))] H locs := X
                        refine lv_iinc (v := (nI (v + 1))) (lv' := [(2, .int (nI (v + 1))), (1, .int (nI (i))), (0, .ref (a 0))]) hx hb dX12_findOnce_69 hl (k := 0) rfl (nI_add _ 1) (by decide) rfl (fun ls hl => ?_)
                        refine lv_goto (tgt := 32) hx hb dX12_findOnce_72 (by decide) ?_
                        exact ih32  (v + 1) H locs ls (by omega) (by omega) (x_sub X [0, 1, 2] (by decide) rfl) (lv_sub hl [0, 1, 2] rfl)
                      · refine lv_iload_n hx hb dX12_findOnce_42 rfl (lv_at hl 1 rfl) ?_
                        refine lv_iload_n hx hb dX12_findOnce_43 rfl (lv_at hl 0 rfl) ?_
                        refine lv_isub hx hb dX12_findOnce_44 ?_
                        refine x_eqi (show (nI (i)) - (nI (v)) = ((nI (i)) - (nI (v))) from rfl) ?_
                        refine lv_bipush (v := (72 : Int32)) hx hb dX12_findOnce_45 (by decide) ?_
                        refine lv_iadd hx hb dX12_findOnce_47 ?_
                        refine x_eqi (show ((nI (i)) - (nI (v))) + (72 : Int32) = (nI (i + 72 - v)) from i_xy (by omega) (by omega)) ?_
                        refine lv_dup2_11 hx hb dX12_findOnce_48 rfl rfl ?_
                        refine x_lald C X 2 1 rfl rfl (j := i + 72 - v) (nI_clamp (by omega)) (vp_in_nI (by omega) (by omega)) (v := (if i + 72 - v = 72 ∧ (36 < i ∨ i = 36 ∧ 36 < v) then (1000000 : Int64) else 0)) (rfl) dX12_findOnce_49 ?_
                        refine lv_aload_n hx hb dX12_findOnce_50 rfl (lv_at hl 2 rfl) ?_
                        refine x_get (own := RX12) (T := TX12) C X 0 rfl rfl 63 (by decide) k_11_13 rfl rfl (v := .ref (a 44)) rfl dX12_findOnce_51 ?_
                        refine lv_iload_n hx hb dX12_findOnce_54 rfl (lv_at hl 1 rfl) ?_
                        refine x_lald C X 1 1 rfl rfl (j := i) (nI_clamp (by omega)) (vp_in_nI (by omega) (by omega)) (v := (1000000 : Int64)) (by unfold lotM; exact if_pos hs38) dX12_findOnce_55 ?_
                        refine lv_aload_n hx hb dX12_findOnce_56 rfl (lv_at hl 2 rfl) ?_
                        refine x_get (own := RX12) (T := TX12) C X 0 rfl rfl 63 (by decide) k_11_13 rfl rfl (v := .ref (a 44)) rfl dX12_findOnce_57 ?_
                        refine lv_iload_n hx hb dX12_findOnce_60 rfl (lv_at hl 0 rfl) ?_
                        refine x_lald C X 1 1 rfl rfl (j := v) (nI_clamp (by omega)) (vp_in_nI (by omega) (by omega)) (v := (0 : Int64)) (by unfold lotM; exact if_neg hs42) dX12_findOnce_61 ?_
                        refine lv_lmul hx hb dX12_findOnce_62 ?_
                        refine x_eql (show (1000000 : Int64) * (0 : Int64) = (0 : Int64) from by decide +kernel) ?_
                        refine lv_ldc2 (own := RX12) (v := (1000000 : Int64)) hx hb hown (hts _ k_53_9) dX12_findOnce_63 ?_
                        refine lv_ldiv hx hb dX12_findOnce_66 (by decide) ?_
                        refine x_eql (show (0 : Int64) / (1000000 : Int64) = (0 : Int64) from by decide +kernel) ?_
                        refine lv_ladd hx hb dX12_findOnce_67 ?_
                        refine x_eql (show (if i + 72 - v = 72 ∧ (36 < i ∨ i = 36 ∧ 36 < v) then (1000000 : Int64) else 0) + (0 : Int64) = (if i + 72 - v = 72 ∧ (36 < i ∨ i = 36 ∧ 36 < v) then (1000000 : Int64) else 0) from Int64.add_zero _) ?_
                        refine x_last C X 2 1 rfl rfl (j := i + 72 - v) (nI_clamp (by omega)) (vp_in_nI (by omega) (by omega)) dX12_findOnce_68 (fun H locs X => ?_)
                        have X : Wd D A s [((a 0), .inr (12, (mF a))), ((a 44), .inl (cJ, 73, .inr (.inl (lotM)))), ((a 48), .inl (cJ, 145, .inr (.inl (vp_updL (fun q => if q = 72 ∧ (36 < i ∨ i = 36 ∧ 36 < v) then 1000000 else 0) (i + 72 - v) ((if i + 72 - v = 72 ∧ (36 < i ∨ i = 36 ∧ 36 < v) then (1000000 : Int64) else 0))))))] H locs := X
                        have X := x_cng X 2 rfl (arr_eql _ _ (g := fun q => if q = 72 ∧ (36 < i ∨ i = 36 ∧ 36 < (v + 1)) then 1000000 else 0) (fun j h => by simp only [vp_updL]; (repeat' split); all_goals first | rfl | omega))
                        have X : Wd D A s [((a 0), .inr (12, (mF a))), ((a 44), .inl (cJ, 73, .inr (.inl (lotM)))), ((a 48), .inl (cJ, 145, .inr (.inl (fun q => if q = 72 ∧ (36 < i ∨ i = 36 ∧ 36 < (v + 1)) then 1000000 else 0))))] H locs := X
                        refine lv_iinc (v := (nI (v + 1))) (lv' := [(2, .int (nI (v + 1))), (1, .int (nI (i))), (0, .ref (a 0))]) hx hb dX12_findOnce_69 hl (k := 0) rfl (nI_add _ 1) (by decide) rfl (fun ls hl => ?_)
                        refine lv_goto (tgt := 32) hx hb dX12_findOnce_72 (by decide) ?_
                        exact ih32  (v + 1) H locs ls (by omega) (by omega) (x_sub X [0, 1, 2] (by decide) rfl) (lv_sub hl [0, 1, 2] rfl)
                    · refine lv_aload_n hx hb dX12_findOnce_38 rfl (lv_at hl 2 rfl) ?_
                      refine x_get (own := RX12) (T := TX12) C X 0 rfl rfl 67 (by decide) k_11_17 rfl rfl (v := .ref (a 48)) rfl dX12_findOnce_39 ?_
                      by_cases hs42 : v = 36
                      · refine lv_iload_n hx hb dX12_findOnce_42 rfl (lv_at hl 1 rfl) ?_
                        refine lv_iload_n hx hb dX12_findOnce_43 rfl (lv_at hl 0 rfl) ?_
                        refine lv_isub hx hb dX12_findOnce_44 ?_
                        refine x_eqi (show (nI (i)) - (nI (v)) = ((nI (i)) - (nI (v))) from rfl) ?_
                        refine lv_bipush (v := (72 : Int32)) hx hb dX12_findOnce_45 (by decide) ?_
                        refine lv_iadd hx hb dX12_findOnce_47 ?_
                        refine x_eqi (show ((nI (i)) - (nI (v))) + (72 : Int32) = (nI (i + 72 - v)) from i_xy (by omega) (by omega)) ?_
                        refine lv_dup2_11 hx hb dX12_findOnce_48 rfl rfl ?_
                        refine x_lald C X 2 1 rfl rfl (j := i + 72 - v) (nI_clamp (by omega)) (vp_in_nI (by omega) (by omega)) (v := (if i + 72 - v = 72 ∧ (36 < i ∨ i = 36 ∧ 36 < v) then (1000000 : Int64) else 0)) (rfl) dX12_findOnce_49 ?_
                        refine lv_aload_n hx hb dX12_findOnce_50 rfl (lv_at hl 2 rfl) ?_
                        refine x_get (own := RX12) (T := TX12) C X 0 rfl rfl 63 (by decide) k_11_13 rfl rfl (v := .ref (a 44)) rfl dX12_findOnce_51 ?_
                        refine lv_iload_n hx hb dX12_findOnce_54 rfl (lv_at hl 1 rfl) ?_
                        refine x_lald C X 1 1 rfl rfl (j := i) (nI_clamp (by omega)) (vp_in_nI (by omega) (by omega)) (v := (0 : Int64)) (by unfold lotM; exact if_neg hs38) dX12_findOnce_55 ?_
                        refine lv_aload_n hx hb dX12_findOnce_56 rfl (lv_at hl 2 rfl) ?_
                        refine x_get (own := RX12) (T := TX12) C X 0 rfl rfl 63 (by decide) k_11_13 rfl rfl (v := .ref (a 44)) rfl dX12_findOnce_57 ?_
                        refine lv_iload_n hx hb dX12_findOnce_60 rfl (lv_at hl 0 rfl) ?_
                        refine x_lald C X 1 1 rfl rfl (j := v) (nI_clamp (by omega)) (vp_in_nI (by omega) (by omega)) (v := (1000000 : Int64)) (by unfold lotM; exact if_pos hs42) dX12_findOnce_61 ?_
                        refine lv_lmul hx hb dX12_findOnce_62 ?_
                        refine x_eql (show (0 : Int64) * (1000000 : Int64) = (0 : Int64) from by decide +kernel) ?_
                        refine lv_ldc2 (own := RX12) (v := (1000000 : Int64)) hx hb hown (hts _ k_53_9) dX12_findOnce_63 ?_
                        refine lv_ldiv hx hb dX12_findOnce_66 (by decide) ?_
                        refine x_eql (show (0 : Int64) / (1000000 : Int64) = (0 : Int64) from by decide +kernel) ?_
                        refine lv_ladd hx hb dX12_findOnce_67 ?_
                        refine x_eql (show (if i + 72 - v = 72 ∧ (36 < i ∨ i = 36 ∧ 36 < v) then (1000000 : Int64) else 0) + (0 : Int64) = (if i + 72 - v = 72 ∧ (36 < i ∨ i = 36 ∧ 36 < v) then (1000000 : Int64) else 0) from Int64.add_zero _) ?_
                        refine x_last C X 2 1 rfl rfl (j := i + 72 - v) (nI_clamp (by omega)) (vp_in_nI (by omega) (by omega)) dX12_findOnce_68 (fun H locs X => ?_)
                        have X : Wd D A s [((a 0), .inr (12, (mF a))), ((a 44), .inl (cJ, 73, .inr (.inl (lotM)))), ((a 48), .inl (cJ, 145, .inr (.inl (vp_updL (fun q => if q = 72 ∧ (36 < i ∨ i = 36 ∧ 36 < v) then 1000000 else 0) (i + 72 - v) ((if i + 72 - v = 72 ∧ (36 < i ∨ i = 36 ∧ 36 < v) then (1000000 : Int64) else 0))))))] H locs := X
                        have X := x_cng X 2 rfl (arr_eql _ _ (g := fun q => if q = 72 ∧ (36 < i ∨ i = 36 ∧ 36 < (v + 1)) then 1000000 else 0) (fun j h => by simp only [vp_updL]; (repeat' split); all_goals first | rfl | omega))
                        have X : Wd D A s [((a 0), .inr (12, (mF a))), ((a 44), .inl (cJ, 73, .inr (.inl (lotM)))), ((a 48), .inl (cJ, 145, .inr (.inl (fun q => if q = 72 ∧ (36 < i ∨ i = 36 ∧ 36 < (v + 1)) then 1000000 else 0))))] H locs := X
                        refine lv_iinc (v := (nI (v + 1))) (lv' := [(2, .int (nI (v + 1))), (1, .int (nI (i))), (0, .ref (a 0))]) hx hb dX12_findOnce_69 hl (k := 0) rfl (nI_add _ 1) (by decide) rfl (fun ls hl => ?_)
                        refine lv_goto (tgt := 32) hx hb dX12_findOnce_72 (by decide) ?_
                        exact ih32  (v + 1) H locs ls (by omega) (by omega) (x_sub X [0, 1, 2] (by decide) rfl) (lv_sub hl [0, 1, 2] rfl)
                      · refine lv_iload_n hx hb dX12_findOnce_42 rfl (lv_at hl 1 rfl) ?_
                        refine lv_iload_n hx hb dX12_findOnce_43 rfl (lv_at hl 0 rfl) ?_
                        refine lv_isub hx hb dX12_findOnce_44 ?_
                        refine x_eqi (show (nI (i)) - (nI (v)) = ((nI (i)) - (nI (v))) from rfl) ?_
                        refine lv_bipush (v := (72 : Int32)) hx hb dX12_findOnce_45 (by decide) ?_
                        refine lv_iadd hx hb dX12_findOnce_47 ?_
                        refine x_eqi (show ((nI (i)) - (nI (v))) + (72 : Int32) = (nI (i + 72 - v)) from i_xy (by omega) (by omega)) ?_
                        refine lv_dup2_11 hx hb dX12_findOnce_48 rfl rfl ?_
                        refine x_lald C X 2 1 rfl rfl (j := i + 72 - v) (nI_clamp (by omega)) (vp_in_nI (by omega) (by omega)) (v := (if i + 72 - v = 72 ∧ (36 < i ∨ i = 36 ∧ 36 < v) then (1000000 : Int64) else 0)) (rfl) dX12_findOnce_49 ?_
                        refine lv_aload_n hx hb dX12_findOnce_50 rfl (lv_at hl 2 rfl) ?_
                        refine x_get (own := RX12) (T := TX12) C X 0 rfl rfl 63 (by decide) k_11_13 rfl rfl (v := .ref (a 44)) rfl dX12_findOnce_51 ?_
                        refine lv_iload_n hx hb dX12_findOnce_54 rfl (lv_at hl 1 rfl) ?_
                        refine x_lald C X 1 1 rfl rfl (j := i) (nI_clamp (by omega)) (vp_in_nI (by omega) (by omega)) (v := (0 : Int64)) (by unfold lotM; exact if_neg hs38) dX12_findOnce_55 ?_
                        refine lv_aload_n hx hb dX12_findOnce_56 rfl (lv_at hl 2 rfl) ?_
                        refine x_get (own := RX12) (T := TX12) C X 0 rfl rfl 63 (by decide) k_11_13 rfl rfl (v := .ref (a 44)) rfl dX12_findOnce_57 ?_
                        refine lv_iload_n hx hb dX12_findOnce_60 rfl (lv_at hl 0 rfl) ?_
                        refine x_lald C X 1 1 rfl rfl (j := v) (nI_clamp (by omega)) (vp_in_nI (by omega) (by omega)) (v := (0 : Int64)) (by unfold lotM; exact if_neg hs42) dX12_findOnce_61 ?_
                        refine lv_lmul hx hb dX12_findOnce_62 ?_
                        refine x_eql (show (0 : Int64) * (0 : Int64) = (0 : Int64) from by decide +kernel) ?_
                        refine lv_ldc2 (own := RX12) (v := (1000000 : Int64)) hx hb hown (hts _ k_53_9) dX12_findOnce_63 ?_
                        refine lv_ldiv hx hb dX12_findOnce_66 (by decide) ?_
                        refine x_eql (show (0 : Int64) / (1000000 : Int64) = (0 : Int64) from by decide +kernel) ?_
                        refine lv_ladd hx hb dX12_findOnce_67 ?_
                        refine x_eql (show (if i + 72 - v = 72 ∧ (36 < i ∨ i = 36 ∧ 36 < v) then (1000000 : Int64) else 0) + (0 : Int64) = (if i + 72 - v = 72 ∧ (36 < i ∨ i = 36 ∧ 36 < v) then (1000000 : Int64) else 0) from Int64.add_zero _) ?_
                        refine x_last C X 2 1 rfl rfl (j := i + 72 - v) (nI_clamp (by omega)) (vp_in_nI (by omega) (by omega)) dX12_findOnce_68 (fun H locs X => ?_)
                        have X : Wd D A s [((a 0), .inr (12, (mF a))), ((a 44), .inl (cJ, 73, .inr (.inl (lotM)))), ((a 48), .inl (cJ, 145, .inr (.inl (vp_updL (fun q => if q = 72 ∧ (36 < i ∨ i = 36 ∧ 36 < v) then 1000000 else 0) (i + 72 - v) ((if i + 72 - v = 72 ∧ (36 < i ∨ i = 36 ∧ 36 < v) then (1000000 : Int64) else 0))))))] H locs := X
                        have X := x_cng X 2 rfl (arr_eql _ _ (g := fun q => if q = 72 ∧ (36 < i ∨ i = 36 ∧ 36 < (v + 1)) then 1000000 else 0) (fun j h => by simp only [vp_updL]; (repeat' split); all_goals first | rfl | omega))
                        have X : Wd D A s [((a 0), .inr (12, (mF a))), ((a 44), .inl (cJ, 73, .inr (.inl (lotM)))), ((a 48), .inl (cJ, 145, .inr (.inl (fun q => if q = 72 ∧ (36 < i ∨ i = 36 ∧ 36 < (v + 1)) then 1000000 else 0))))] H locs := X
                        refine lv_iinc (v := (nI (v + 1))) (lv' := [(2, .int (nI (v + 1))), (1, .int (nI (i))), (0, .ref (a 0))]) hx hb dX12_findOnce_69 hl (k := 0) rfl (nI_add _ 1) (by decide) rfl (fun ls hl => ?_)
                        refine lv_goto (tgt := 32) hx hb dX12_findOnce_72 (by decide) ?_
                        exact ih32  (v + 1) H locs ls (by omega) (by omega) (x_sub X [0, 1, 2] (by decide) rfl) (lv_sub hl [0, 1, 2] rfl)
              exact L32 (73 + 1) (0) H locs ls (by omega) (by omega) (x_sub X [0, 1, 2] (by decide) rfl) (lv_sub hl [0, 1, 2] rfl)
        exact L24 (73 + 1) (0) H locs ls (by omega) (by omega) (x_sub X [0, 1, 2] (by decide) rfl) (lv_sub hl [0, 1] rfl)
      · have fc_1 : ((i : Nat) : Int) < (145 : Int) := (by have h9 := i_nle c_1; simp only [nI_toInt (n := i) (by omega)] at h9; exact h9)
        refine lv_aload_n hx hb dX12_findOnce_9 rfl (lv_at hl 1 rfl) ?_
        refine x_get (own := RX12) (T := TX12) C X 0 rfl rfl 67 (by decide) k_11_17 rfl rfl (v := .ref (a 48)) rfl dX12_findOnce_10 ?_
        refine lv_iload_n hx hb dX12_findOnce_13 rfl (lv_at hl 0 rfl) ?_
        refine lv_lconst (v := (0 : Int64)) hx hb dX12_findOnce_14 (by decide) ?_
        refine x_last C X 2 1 rfl rfl (j := i) (nI_clamp (by omega)) (vp_in_nI (by omega) (by omega)) dX12_findOnce_15 (fun H locs X => ?_)
        have X := x_cng X 2 rfl (arr_eql _ _ (g := fun _ => (0 : Int64)) (fun j h => by first | rfl | (unfold vp_updL; split <;> rfl)))
        have X : Wd D A s [((a 0), .inr (12, (mF a))), ((a 44), .inl (cJ, 73, .inr (.inl (lotM)))), ((a 48), .inl (cJ, 145, .inr (.inl (fun _ => (0 : Int64)))))] H locs := X
        refine lv_iinc (v := (nI (i + 1))) (lv' := [(1, .int (nI (i + 1))), (0, .ref (a 0))]) hx hb dX12_findOnce_16 hl (k := 0) rfl (nI_add _ 1) (by decide) rfl (fun ls hl => ?_)
        refine lv_goto (tgt := 2) hx hb dX12_findOnce_19 (by decide) ?_
        exact ih2  (i + 1) H locs ls (by omega) (by omega) (x_sub X [0, 1, 2] (by decide) rfl) (lv_sub hl [0, 1] rfl)
  exact L2 (145 + 1) (0) H locs ls (by omega) (by omega) (x_sub X [0, 1, 2] (by decide) rfl) (lv_sub hl [0, 1] rfl)
set_option maxHeartbeats 4000000 in
set_option maxRecDepth 100000 in
theorem cm_need0 (l : Launch) (D : va_G) (cI cJ cZ cB : ClassId) (cO : ClassId) (a : Nat → Nat) (d q : Int32) :
    CI l D [(cI, .int), (cJ, .long), (cZ, .boolean), (cB, .byte), (cO, .object "LuckLinks$World")] yX12_need cX12_need 8 (some .int) ({ frames := 1, cells := 0, slots := 0, locals := 26 } : Room) [.ref (a 0), .int d, .int q] [((a 0), .inr (12, (mF a))), ((a 42), .inl (cJ, 73, .inr (.inl (fun _ => (0 : Int64))))), ((a 43), .inl (cJ, 73, .inr (.inl (fun _ => (0 : Int64))))), ((a 44), .inl (cJ, 73, .inr (.inl (fun _ => (0 : Int64))))), ((a 18), .inl (cI, 8, .inl (fun _ => (0 : Int32)))), ((a 48), .inl (cJ, 145, .inr (.inl (fun _ => (0 : Int64))))), ((a 46), .inl (cJ, 4321, .inr (.inl (fun _ => (0 : Int64)))))] (fun (r : Int32) (u : Unit) => (r = (1 : Int32) ∧ (1 ≤ d.toInt ∧ d.toInt ≤ 40 ∧ 1 ≤ q.toInt ∧ q.toInt ≤ 100)) ∨ (r = (-1 : Int32) ∧ (d.toInt < 1 ∨ 40 < d.toInt ∨ q.toInt < 1 ∨ 100 < q.toInt))) (fun (_ : Unit) => []) := by
  intro sz
  refine body_of (y := yX12_need) (cc := cX12_need) (maxL := 8) (ret := (some .int)) (rm := ({ frames := 1, cells := 0, slots := 0, locals := 26 } : Room)) (wc := [((a 0), .inr (12, (mF a))), ((a 42), .inl (cJ, 73, .inr (.inl (fun _ => (0 : Int64))))), ((a 43), .inl (cJ, 73, .inr (.inl (fun _ => (0 : Int64))))), ((a 44), .inl (cJ, 73, .inr (.inl (fun _ => (0 : Int64))))), ((a 18), .inl (cI, 8, .inl (fun _ => (0 : Int32)))), ((a 48), .inl (cJ, 145, .inr (.inl (fun _ => (0 : Int64))))), ((a 46), .inl (cJ, 4321, .inr (.inl (fun _ => (0 : Int64)))))]) (tys := [(cI, .int), (cJ, .long), (cZ, .boolean), (cB, .byte), (cO, .object "LuckLinks$World")]) (D := D) (sz := sz) (own := RX12) (av := [.ref (a 0), .int d, .int q]) (Qc := fun A => va_Qi (fun (r : Int32) (u : Unit) => (r = (1 : Int32) ∧ (1 ≤ d.toInt ∧ d.toInt ≤ 40 ∧ 1 ≤ q.toInt ∧ q.toInt ≤ 100)) ∨ (r = (-1 : Int32) ∧ (d.toInt < 1 ∨ 40 < d.toInt ∨ q.toInt < 1 ∨ 100 < q.toInt))) (fun u t => Aft D A ((fun (_ : Unit) => []) u) t) A) (by decide) rfl (Nat.le_of_ble_eq_true rfl) (fun p e s m below meth c A ls C hr hlk hin X hl => ?_)
  have hx := C.1
  have hb := C.2.1
  have hown := C.2.2.2.1
  have hts := C.2.2.2.2.1
  have hl : lv_has ls 8 [(0, .ref (a 0)), (1, .int d), (2, .int q)] := hl
  show W p l e _ s m _ below meth c s.heap [] 0 0 (MQ below (va_Qi (fun (r : Int32) (u : Unit) => (r = (1 : Int32) ∧ (1 ≤ d.toInt ∧ d.toInt ≤ 40 ∧ 1 ≤ q.toInt ∧ q.toInt ≤ 100)) ∨ (r = (-1 : Int32) ∧ (d.toInt < 1 ∨ 40 < d.toInt ∨ q.toInt < 1 ∨ 100 < q.toInt))) (fun u t => Aft D A ((fun (_ : Unit) => []) u) t) A) ([.ref (a 0), .int d, .int q] : List Value).toArray s 0 0 A) (F0 m 0 ls [])
  have X : Wd D A s [((a 0), .inr (12, (mF a))), ((a 42), .inl (cJ, 73, .inr (.inl (fun _ => (0 : Int64))))), ((a 43), .inl (cJ, 73, .inr (.inl (fun _ => (0 : Int64))))), ((a 44), .inl (cJ, 73, .inr (.inl (fun _ => (0 : Int64))))), ((a 18), .inl (cI, 8, .inl (fun _ => (0 : Int32)))), ((a 48), .inl (cJ, 145, .inr (.inl (fun _ => (0 : Int64))))), ((a 46), .inl (cJ, 4321, .inr (.inl (fun _ => (0 : Int64)))))] s.heap [] := X
  obtain ⟨H, locs, eH, eL⟩ : ∃ H locs, H = s.heap ∧ locs = ([] : List Loc) := ⟨_, _, rfl, rfl⟩
  rw [← eH, ← eL] at X ⊢
  clear eH eL
  refine lv_iload_n hx hb dX12_need_0 rfl (lv_at hl 1 rfl) ?_
  refine lv_iconst (v := (1 : Int32)) hx hb dX12_need_1 (by decide) ?_
  refine lv_bipush (v := (40 : Int32)) hx hb dX12_need_2 (by decide) ?_
  refine x_cS (own := RX12) (wr := [((a 0), .inr (12, (mF a))), ((a 42), .inl (cJ, 73, .inr (.inl (fun _ => (0 : Int64))))), ((a 43), .inl (cJ, 73, .inr (.inl (fun _ => (0 : Int64))))), ((a 44), .inl (cJ, 73, .inr (.inl (fun _ => (0 : Int64))))), ((a 18), .inl (cI, 8, .inl (fun _ => (0 : Int32)))), ((a 48), .inl (cJ, 145, .inr (.inl (fun _ => (0 : Int64))))), ((a 46), .inl (cJ, 4321, .inr (.inl (fun _ => (0 : Int64)))))]) (As := [.int d, .int (1 : Int32), .int (40 : Int32)]) C X hl.1 (c_within l D cI cJ cZ cB cO d (1 : Int32) (40 : Int32)) [] [0, 1, 2, 3, 4, 5, 6] ⟨rfl, rfl, by decide, by decide, by decide⟩ k_12_23 k_13_0 k_1_5 k_13_1 (n := 3) (by decide +kernel) ⟨Nat.le_of_ble_eq_true rfl, Nat.le_of_ble_eq_true rfl⟩ rfl rfl (Nat.le_of_ble_eq_true rfl) dX12_need_4 ⟨Nat.le_of_ble_eq_true rfl, Nat.le_of_ble_eq_true rfl⟩ (fun r_2 u_1 H locs w_3 X => ?_)
  have X : Wd D A s [((a 0), .inr (12, (mF a))), ((a 42), .inl (cJ, 73, .inr (.inl (fun _ => (0 : Int64))))), ((a 43), .inl (cJ, 73, .inr (.inl (fun _ => (0 : Int64))))), ((a 44), .inl (cJ, 73, .inr (.inl (fun _ => (0 : Int64))))), ((a 18), .inl (cI, 8, .inl (fun _ => (0 : Int32)))), ((a 48), .inl (cJ, 145, .inr (.inl (fun _ => (0 : Int64))))), ((a 46), .inl (cJ, 4321, .inr (.inl (fun _ => (0 : Int64)))))] H locs := X
  refine W.widen (k := 0) (n := 0) (Nat.le_of_ble_eq_true rfl) (Nat.le_of_ble_eq_true rfl) ?_
  obtain ⟨rfl, fw_3⟩ | ⟨rfl, fw_3⟩ : (r_2 = (1 : Int32) ∧ ((1 : Int) ≤ (d).toInt ∧ (d).toInt ≤ (40 : Int))) ∨ (r_2 = (0 : Int32) ∧ ((d).toInt < (1 : Int) ∨ (40 : Int) < (d).toInt)) := w_3
  · refine lv_if_eq (tgt := 20) hx hb dX12_need_7 (by decide) (fun c0 => absurd c0 (by decide)) (fun _ => ?_)
    refine lv_iload_n hx hb dX12_need_10 rfl (lv_at hl 2 rfl) ?_
    refine lv_iconst (v := (1 : Int32)) hx hb dX12_need_11 (by decide) ?_
    refine lv_bipush (v := (100 : Int32)) hx hb dX12_need_12 (by decide) ?_
    refine x_cS (own := RX12) (wr := [((a 0), .inr (12, (mF a))), ((a 42), .inl (cJ, 73, .inr (.inl (fun _ => (0 : Int64))))), ((a 43), .inl (cJ, 73, .inr (.inl (fun _ => (0 : Int64))))), ((a 44), .inl (cJ, 73, .inr (.inl (fun _ => (0 : Int64))))), ((a 18), .inl (cI, 8, .inl (fun _ => (0 : Int32)))), ((a 48), .inl (cJ, 145, .inr (.inl (fun _ => (0 : Int64))))), ((a 46), .inl (cJ, 4321, .inr (.inl (fun _ => (0 : Int64)))))]) (As := [.int q, .int (1 : Int32), .int (100 : Int32)]) C X hl.1 (c_within l D cI cJ cZ cB cO q (1 : Int32) (100 : Int32)) [] [0, 1, 2, 3, 4, 5, 6] ⟨rfl, rfl, by decide, by decide, by decide⟩ k_12_23 k_13_0 k_1_5 k_13_1 (n := 3) (by decide +kernel) ⟨Nat.le_of_ble_eq_true rfl, Nat.le_of_ble_eq_true rfl⟩ rfl rfl (Nat.le_of_ble_eq_true rfl) dX12_need_14 ⟨Nat.le_of_ble_eq_true rfl, Nat.le_of_ble_eq_true rfl⟩ (fun r_5 u_4 H locs w_6 X => ?_)
    have X : Wd D A s [((a 0), .inr (12, (mF a))), ((a 42), .inl (cJ, 73, .inr (.inl (fun _ => (0 : Int64))))), ((a 43), .inl (cJ, 73, .inr (.inl (fun _ => (0 : Int64))))), ((a 44), .inl (cJ, 73, .inr (.inl (fun _ => (0 : Int64))))), ((a 18), .inl (cI, 8, .inl (fun _ => (0 : Int32)))), ((a 48), .inl (cJ, 145, .inr (.inl (fun _ => (0 : Int64))))), ((a 46), .inl (cJ, 4321, .inr (.inl (fun _ => (0 : Int64)))))] H locs := X
    refine W.widen (k := 0) (n := 0) (Nat.le_of_ble_eq_true rfl) (Nat.le_of_ble_eq_true rfl) ?_
    obtain ⟨rfl, fw_6⟩ | ⟨rfl, fw_6⟩ : (r_5 = (1 : Int32) ∧ ((1 : Int) ≤ (q).toInt ∧ (q).toInt ≤ (100 : Int))) ∨ (r_5 = (0 : Int32) ∧ ((q).toInt < (1 : Int) ∨ (100 : Int) < (q).toInt)) := w_6
    · refine lv_if_ne (tgt := 22) hx hb dX12_need_17 (by decide) (fun _ => ?_) (fun c0 => absurd c0 (by decide))
      have g1 : 1 ≤ d.toInt := by omega
      have g2 : d.toInt ≤ 40 := by omega
      have g3 : 1 ≤ q.toInt := by omega
      have g4 : q.toInt ≤ 100 := by omega
      refine lv_aload_n hx hb dX12_need_22 rfl (lv_at hl 0 rfl) ?_
      refine x_cVv (own := RX12) (wr := [((a 48), .inl (cJ, 145, .inr (.inl (fun _ => (0 : Int64))))), ((a 46), .inl (cJ, 4321, .inr (.inl (fun _ => (0 : Int64)))))]) (As := []) C X hl.1 (cm_findLot l D cI cJ cZ cB cO a) [0, 1, 2, 3, 4] [5, 6] ⟨rfl, rfl, by decide, by decide, by decide⟩ (qb := 0) rfl rfl k_53_10 k_53_11 k_53_12 k_1_5 k_53_13 (n := 0) (by decide +kernel) ⟨Nat.le_of_ble_eq_true rfl, Nat.le_of_ble_eq_true rfl⟩ rfl rfl (Nat.le_of_ble_eq_true rfl) dX12_need_23 ⟨Nat.le_of_ble_eq_true rfl, Nat.le_of_ble_eq_true rfl⟩ (fun u_7 H locs w_9 X => ?_)
      have X : Wd D A s [((a 48), .inl (cJ, 145, .inr (.inl (fun _ => (0 : Int64))))), ((a 46), .inl (cJ, 4321, .inr (.inl (fun _ => (0 : Int64))))), ((a 0), .inr (12, (mF a))), ((a 44), .inl (cJ, 73, .inr (.inl (lotM))))] H locs := X
      refine W.widen (k := 0) (n := 0) (Nat.le_of_ble_eq_true rfl) (Nat.le_of_ble_eq_true rfl) ?_
      refine lv_aload_n hx hb dX12_need_26 rfl (lv_at hl 0 rfl) ?_
      refine x_cVv (own := RX12) (wr := [((a 46), .inl (cJ, 4321, .inr (.inl (fun _ => (0 : Int64)))))]) (As := []) C X hl.1 (cm_findOnce l D cI cJ cZ cB cO a) [2, 3, 0] [1] ⟨rfl, rfl, by decide, by decide, by decide⟩ (qb := 0) rfl rfl k_54_23 k_55_0 k_55_1 k_1_5 k_55_2 (n := 0) (by decide +kernel) ⟨Nat.le_of_ble_eq_true rfl, Nat.le_of_ble_eq_true rfl⟩ rfl rfl (Nat.le_of_ble_eq_true rfl) dX12_need_27 ⟨Nat.le_of_ble_eq_true rfl, Nat.le_of_ble_eq_true rfl⟩ (fun u_10 H locs w_12 X => ?_)
      have X : Wd D A s [((a 46), .inl (cJ, 4321, .inr (.inl (fun _ => (0 : Int64))))), ((a 0), .inr (12, (mF a))), ((a 48), .inl (cJ, 145, .inr (.inl (onceM))))] H locs := X
      refine W.widen (k := 0) (n := 0) (Nat.le_of_ble_eq_true rfl) (Nat.le_of_ble_eq_true rfl) ?_
      have X := x_cng X 0 rfl (arr_eql _ _ (g := fun j => if j < 0 then apM j else 0) (fun j h => by rw [if_neg (by omega)]))
      have X : Wd D A s [((a 46), .inl (cJ, 4321, .inr (.inl (fun j => if j < 0 then apM j else 0)))), ((a 0), .inr (12, (mF a))), ((a 48), .inl (cJ, 145, .inr (.inl (onceM))))] H locs := X
      refine lv_iconst (v := (0 : Int32)) hx hb dX12_need_30 (by decide) ?_
      refine lv_istore_n (lv' := [(3, .int (0 : Int32)), (0, .ref (a 0)), (1, .int d), (2, .int q)]) hx hb dX12_need_31 rfl hl (by decide) rfl (fun ls hl => ?_)
      have L32 : ∀ (n : Nat) (i : Nat) (H : Heap) (locs : List Loc) (ls : Array Slot), (h1 : i ≤ 4321) → 4321 < i + n → Wd D A s [((a 46), .inl (cJ, 4321, .inr (.inl (fun j => if j < i then apM j else 0)))), ((a 0), .inr (12, (mF a))), ((a 48), .inl (cJ, 145, .inr (.inl (onceM))))] H locs → lv_has ls 8 [(3, .int (nI (i))), (0, .ref (a 0)), (1, .int d), (2, .int q)] → W p l e ({ frames := 1, cells := 0, slots := 0, locals := 26 } : Room) s m ([.ref (a 0), .int d, .int q] : List Value).toArray below meth c H locs 0 0 (MQ below (va_Qi (fun (r : Int32) (u : Unit) => (r = (1 : Int32) ∧ (1 ≤ d.toInt ∧ d.toInt ≤ 40 ∧ 1 ≤ q.toInt ∧ q.toInt ≤ 100)) ∨ (r = (-1 : Int32) ∧ (d.toInt < 1 ∨ 40 < d.toInt ∨ q.toInt < 1 ∨ 100 < q.toInt))) (fun u t => Aft D A ((fun (_ : Unit) => []) u) t) A) ([.ref (a 0), .int d, .int q] : List Value).toArray s 0 0 A) (F0 m 32 ls []) := by
        intro n
        induction n with
        | zero => intro i H locs ls h1 hn; exact absurd hn (by omega)
        | succ n ih =>
          intro i H locs ls h1 hn X hl
          have ih32 := ih
          refine lv_iload_n hx hb dX12_need_32 rfl (lv_at hl 0 rfl) ?_
          refine lv_sipush (v := (4321 : Int32)) hx hb dX12_need_33 (by decide) ?_
          refine lv_icmp_ge (tgt := 79) hx hb dX12_need_36 (by decide) (fun c_13 => ?_) (fun c_13 => ?_)
          · have fc_13 : (4321 : Int) ≤ ((i : Nat) : Int) := (by have h9 := i_le c_13; simp only [nI_toInt (n := i) (by omega)] at h9; exact h9)
            have X := x_cng X 0 rfl (arr_eql _ _ (g := apM) (fun j h => by show (if j < i then apM j else 0) = apM j; exact if_pos (by omega)))
            have X : Wd D A s [((a 46), .inl (cJ, 4321, .inr (.inl (apM)))), ((a 0), .inr (12, (mF a))), ((a 48), .inl (cJ, 145, .inr (.inl (onceM))))] H locs := X
            refine lv_iconst (v := (1 : Int32)) hx hb dX12_need_79 (by decide) ?_
            refine lv_istore_n (lv' := [(3, .int (1 : Int32)), (0, .ref (a 0)), (1, .int d), (2, .int q)]) hx hb dX12_need_80 rfl hl (by decide) rfl (fun ls hl => ?_)
            refine lv_iload_n hx hb dX12_need_81 rfl (lv_at hl 0 rfl) ?_
            refine lv_bipush (v := (30 : Int32)) hx hb dX12_need_82 (by decide) ?_
            refine lv_icmp_gt (tgt := 316) hx hb dX12_need_84 (by decide) (fun c0 => absurd c0 (by decide)) (fun _ => ?_)
            refine lv_lconst (v := (0 : Int64)) hx hb dX12_need_87 (by decide) ?_
            refine lv_lstore (lv' := [(4, .long (0 : Int64)), (3, .int (1 : Int32)), (0, .ref (a 0)), (1, .int d), (2, .int q)]) hx hb dX12_need_88 hl (by decide) rfl (fun ls hl => ?_)
            refine lv_iconst (v := (0 : Int32)) hx hb dX12_need_90 (by decide) ?_
            refine lv_istore (lv' := [(6, .int (0 : Int32)), (4, .long (0 : Int64)), (3, .int (1 : Int32)), (0, .ref (a 0)), (1, .int d), (2, .int q)]) hx hb dX12_need_91 hl (by decide) rfl (fun ls hl => ?_)
            have hl : lv_has ls 8 [(6, .int (0 : Int32)), (4, .long (vS 0)), (3, .int (1 : Int32)), (0, .ref (a 0)), (1, .int d), (2, .int q)] := by rw [show vS 0 = (0 : Int64) from rfl]; exact hl
            have L93 : ∀ (n : Nat) (i : Nat) (H : Heap) (locs : List Loc) (ls : Array Slot), (h1 : i ≤ 4321) → 4321 < i + n → Wd D A s [((a 46), .inl (cJ, 4321, .inr (.inl (apM)))), ((a 0), .inr (12, (mF a))), ((a 48), .inl (cJ, 145, .inr (.inl (onceM))))] H locs → lv_has ls 8 [(6, .int (nI (i))), (4, .long (vS i)), (3, .int (1 : Int32)), (0, .ref (a 0)), (1, .int d), (2, .int q)] → W p l e ({ frames := 1, cells := 0, slots := 0, locals := 26 } : Room) s m ([.ref (a 0), .int d, .int q] : List Value).toArray below meth c H locs 0 0 (MQ below (va_Qi (fun (r : Int32) (u : Unit) => (r = (1 : Int32) ∧ (1 ≤ d.toInt ∧ d.toInt ≤ 40 ∧ 1 ≤ q.toInt ∧ q.toInt ≤ 100)) ∨ (r = (-1 : Int32) ∧ (d.toInt < 1 ∨ 40 < d.toInt ∨ q.toInt < 1 ∨ 100 < q.toInt))) (fun u t => Aft D A ((fun (_ : Unit) => []) u) t) A) ([.ref (a 0), .int d, .int q] : List Value).toArray s 0 0 A) (F0 m 93 ls []) := by
              intro n
              induction n with
              | zero => intro i H locs ls h1 hn; exact absurd hn (by omega)
              | succ n ih =>
                intro i H locs ls h1 hn X hl
                have ih93 := ih
                refine lv_iload hx hb dX12_need_93 (lv_at hl 0 rfl) ?_
                refine lv_sipush (v := (4321 : Int32)) hx hb dX12_need_95 (by decide) ?_
                refine lv_icmp_ge (tgt := 136) hx hb dX12_need_98 (by decide) (fun c_14 => ?_) (fun c_14 => ?_)
                · have fc_14 : (4321 : Int) ≤ ((i : Nat) : Int) := (by have h9 := i_le c_14; simp only [nI_toInt (n := i) (by omega)] at h9; exact h9)
                  rw [show vS i = (1000000 : Int64) from if_pos (by omega)] at hl
                  have hl : lv_has ls 8 [(6, .int (nI (i))), (4, .long (1000000 : Int64)), (3, .int (1 : Int32)), (0, .ref (a 0)), (1, .int d), (2, .int q)] := hl
                  refine lv_lload hx hb dX12_need_136 (lv_at hl 1 rfl) ?_
                  refine lv_iload_n hx hb dX12_need_138 rfl (lv_at hl 5 rfl) ?_
                  refine lv_i2l (v := (q).toInt64) hx hb dX12_need_139 (rfl) ?_
                  refine lv_ldc2 (own := RX12) (v := (10000 : Int64)) hx hb hown (hts _ k_54_22) dX12_need_140 ?_
                  refine lv_lmul hx hb dX12_need_143 ?_
                  refine W.lcmp hx hb dX12_need_144 ?_
                  refine x_eqi (show lg_cmp (1000000 : Int64) ((q).toInt64 * (10000 : Int64)) = (lg_cmp (1000000 : Int64) ((q).toInt64 * (10000 : Int64))) from rfl) ?_
                  refine lv_if_lt (tgt := 150) hx hb dX12_need_145 (by decide) (fun c_15 => by exfalso; have h8 : ((lg_cmp (1000000 : Int64) ((q).toInt64 * (10000 : Int64)))).toInt < (0 : Int) := i_lt c_15; (have h7 := need_cmp (q := q) (by omega) (by omega); omega)) (fun c_15 => ?_)
                  have fc_15 : (0 : Int) ≤ ((lg_cmp (1000000 : Int64) ((q).toInt64 * (10000 : Int64)))).toInt := i_nlt c_15
                  refine lv_iload_n hx hb dX12_need_148 rfl (lv_at hl 2 rfl) ?_
                  exact x_iret C X hr hlk (v := (1 : Int32)) (by first | rfl | decide) (()) [] (by decide) rfl (Or.inl (⟨rfl, by omega⟩)) (Nat.le_of_ble_eq_true rfl) (Nat.le_of_ble_eq_true rfl) dX12_need_149
                · have fc_14 : ((i : Nat) : Int) < (4321 : Int) := (by have h9 := i_nle c_14; simp only [nI_toInt (n := i) (by omega)] at h9; exact h9)
                  refine lv_lload hx hb dX12_need_101 (lv_at hl 1 rfl) ?_
                  refine lv_iload hx hb dX12_need_103 (lv_at hl 0 rfl) ?_
                  refine lv_sipush (v := (2160 : Int32)) hx hb dX12_need_105 (by decide) ?_
                  refine lv_isub hx hb dX12_need_108 ?_
                  refine x_eqi (show (nI (i)) - (2160 : Int32) = ((nI (i)) - (2160 : Int32)) from rfl) ?_
                  refine lv_iload_n hx hb dX12_need_109 rfl (lv_at hl 2 rfl) ?_
                  refine lv_iload_n hx hb dX12_need_110 rfl (lv_at hl 4 rfl) ?_
                  refine lv_imul hx hb dX12_need_111 ?_
                  refine lv_iadd hx hb dX12_need_112 ?_
                  refine x_eqi (show ((nI (i)) - (2160 : Int32)) + ((1 : Int32) * d) = (kdv i d) from rfl) ?_
                  refine lv_if_le (tgt := 126) hx hb dX12_need_113 (by decide) (fun c_16 => ?_) (fun c_16 => ?_)
                  · have fc_16 : ((kdv i d)).toInt ≤ (0 : Int) := i_le c_16
                    have ekd := kdv_toInt (i := i) (d := d) (by omega) g1 g2
                    refine lv_lconst (v := (0 : Int64)) hx hb dX12_need_126 (by decide) ?_
                    refine lv_ladd hx hb dX12_need_127 ?_
                    refine x_eql (show (vS i) + (0 : Int64) = (vS (i + 1)) from by simp only [vS]; (repeat' split); all_goals first | rfl | omega) ?_
                    refine lv_lstore (lv' := [(4, .long (vS (i + 1))), (6, .int (nI (i))), (3, .int (1 : Int32)), (0, .ref (a 0)), (1, .int d), (2, .int q)]) hx hb dX12_need_128 hl (by decide) rfl (fun ls hl => ?_)
                    refine lv_iinc (v := (nI (i + 1))) (lv' := [(6, .int (nI (i + 1))), (4, .long (vS (i + 1))), (3, .int (1 : Int32)), (0, .ref (a 0)), (1, .int d), (2, .int q)]) hx hb dX12_need_130 hl (k := 1) rfl (nI_add _ 1) (by decide) rfl (fun ls hl => ?_)
                    refine lv_goto (tgt := 93) hx hb dX12_need_133 (by decide) ?_
                    exact ih93  (i + 1) H locs ls (by omega) (by omega) (x_sub X [0, 1, 2] (by decide) rfl) (lv_sub hl [0, 1, 2, 3, 4, 5] rfl)
                  · have fc_16 : (0 : Int) < ((kdv i d)).toInt := i_nle c_16
                    have ekd := kdv_toInt (i := i) (d := d) (by omega) g1 g2
                    refine lv_aload_n hx hb dX12_need_116 rfl (lv_at hl 3 rfl) ?_
                    refine x_get (own := RX12) (T := TX12) C X 1 rfl rfl 65 (by decide) k_11_15 rfl rfl (v := .ref (a 46)) rfl dX12_need_117 ?_
                    refine lv_iload hx hb dX12_need_120 (lv_at hl 0 rfl) ?_
                    refine x_lald C X 0 1 rfl rfl (j := i) (nI_clamp (by omega)) (vp_in_nI (by omega) (by omega)) (v := (apM (i))) (rfl) dX12_need_122 ?_
                    refine lv_goto (tgt := 127) hx hb dX12_need_123 (by decide) ?_
                    refine lv_ladd hx hb dX12_need_127 ?_
                    refine x_eql (show (vS i) + (apM (i)) = (vS (i + 1)) from by simp only [vS, apM]; (repeat' split); all_goals first | rfl | omega | decide) ?_
                    refine lv_lstore (lv' := [(4, .long (vS (i + 1))), (6, .int (nI (i))), (3, .int (1 : Int32)), (0, .ref (a 0)), (1, .int d), (2, .int q)]) hx hb dX12_need_128 hl (by decide) rfl (fun ls hl => ?_)
                    refine lv_iinc (v := (nI (i + 1))) (lv' := [(6, .int (nI (i + 1))), (4, .long (vS (i + 1))), (3, .int (1 : Int32)), (0, .ref (a 0)), (1, .int d), (2, .int q)]) hx hb dX12_need_130 hl (k := 1) rfl (nI_add _ 1) (by decide) rfl (fun ls hl => ?_)
                    refine lv_goto (tgt := 93) hx hb dX12_need_133 (by decide) ?_
                    exact ih93  (i + 1) H locs ls (by omega) (by omega) (x_sub X [0, 1, 2] (by decide) rfl) (lv_sub hl [0, 1, 2, 3, 4, 5] rfl)
            exact L93 (4321 + 1) (0) H locs ls (by omega) (by omega) (x_sub X [0, 1, 2] (by decide) rfl) (lv_sub hl [0, 1, 2, 3, 4, 5] rfl)
          · have fc_13 : ((i : Nat) : Int) < (4321 : Int) := (by have h9 := i_nle c_13; simp only [nI_toInt (n := i) (by omega)] at h9; exact h9)
            refine lv_aload_n hx hb dX12_need_39 rfl (lv_at hl 1 rfl) ?_
            refine x_get (own := RX12) (T := TX12) C X 1 rfl rfl 65 (by decide) k_11_15 rfl rfl (v := .ref (a 46)) rfl dX12_need_40 ?_
            refine lv_iload_n hx hb dX12_need_43 rfl (lv_at hl 0 rfl) ?_
            refine lv_iload_n hx hb dX12_need_44 rfl (lv_at hl 0 rfl) ?_
            refine lv_sipush (v := (2088 : Int32)) hx hb dX12_need_45 (by decide) ?_
            refine lv_icmp_lt (tgt := 58) hx hb dX12_need_48 (by decide) (fun c_17 => ?_) (fun c_17 => ?_)
            · have fc_17 : ((i : Nat) : Int) < (2088 : Int) := (by have h9 := i_lt c_17; simp only [nI_toInt (n := i) (by omega)] at h9; exact h9)
              refine lv_lconst (v := (0 : Int64)) hx hb dX12_need_58 (by decide) ?_
              refine lv_goto (tgt := 72) hx hb dX12_need_59 (by decide) ?_
              refine x_last C X 0 1 rfl rfl (j := i) (nI_clamp (by omega)) (vp_in_nI (by omega) (by omega)) dX12_need_72 (fun H locs X => ?_)
              have X : Wd D A s [((a 46), .inl (cJ, 4321, .inr (.inl (vp_updL (fun j => if j < i then apM j else 0) (i) ((0 : Int64)))))), ((a 0), .inr (12, (mF a))), ((a 48), .inl (cJ, 145, .inr (.inl (onceM))))] H locs := X
              have X := x_cng X 0 rfl (arr_eql _ _ (g := fun j => if j < i + 1 then apM j else 0) (fun j h => by simp only [vp_updL, apM, onceM]; (repeat' split); all_goals first | rfl | omega))
              have X : Wd D A s [((a 46), .inl (cJ, 4321, .inr (.inl (fun j => if j < i + 1 then apM j else 0)))), ((a 0), .inr (12, (mF a))), ((a 48), .inl (cJ, 145, .inr (.inl (onceM))))] H locs := X
              refine lv_iinc (v := (nI (i + 1))) (lv' := [(3, .int (nI (i + 1))), (0, .ref (a 0)), (1, .int d), (2, .int q)]) hx hb dX12_need_73 hl (k := 0) rfl (nI_add _ 1) (by decide) rfl (fun ls hl => ?_)
              refine lv_goto (tgt := 32) hx hb dX12_need_76 (by decide) ?_
              exact ih32  (i + 1) H locs ls (by omega) (by omega) (x_sub X [0, 1, 2] (by decide) rfl) (lv_sub hl [0, 1, 2, 3] rfl)
            · have fc_17 : (2088 : Int) ≤ ((i : Nat) : Int) := (by have h9 := i_nlt c_17; simp only [nI_toInt (n := i) (by omega)] at h9; exact h9)
              refine lv_iload_n hx hb dX12_need_51 rfl (lv_at hl 0 rfl) ?_
              refine lv_sipush (v := (2232 : Int32)) hx hb dX12_need_52 (by decide) ?_
              refine lv_icmp_le (tgt := 62) hx hb dX12_need_55 (by decide) (fun c_18 => ?_) (fun c_18 => ?_)
              · have fc_18 : ((i : Nat) : Int) ≤ (2232 : Int) := (by have h9 := i_le c_18; simp only [nI_toInt (n := i) (by omega)] at h9; exact h9)
                refine lv_aload_n hx hb dX12_need_62 rfl (lv_at hl 1 rfl) ?_
                refine x_get (own := RX12) (T := TX12) C X 1 rfl rfl 67 (by decide) k_11_17 rfl rfl (v := .ref (a 48)) rfl dX12_need_63 ?_
                refine lv_iload_n hx hb dX12_need_66 rfl (lv_at hl 0 rfl) ?_
                refine lv_sipush (v := (2088 : Int32)) hx hb dX12_need_67 (by decide) ?_
                refine lv_isub hx hb dX12_need_70 ?_
                refine x_eqi (show (nI (i)) - (2088 : Int32) = (nI (i - 2088)) from pk_sub (a := i) (b := 2088) (by omega)) ?_
                refine x_lald C X 2 1 rfl rfl (j := i - 2088) (nI_clamp (by omega)) (vp_in_nI (by omega) (by omega)) (v := (onceM (i - 2088))) (rfl) dX12_need_71 ?_
                refine x_last C X 0 1 rfl rfl (j := i) (nI_clamp (by omega)) (vp_in_nI (by omega) (by omega)) dX12_need_72 (fun H locs X => ?_)
                have X : Wd D A s [((a 46), .inl (cJ, 4321, .inr (.inl (vp_updL (fun j => if j < i then apM j else 0) (i) ((onceM (i - 2088))))))), ((a 0), .inr (12, (mF a))), ((a 48), .inl (cJ, 145, .inr (.inl (onceM))))] H locs := X
                have X := x_cng X 0 rfl (arr_eql _ _ (g := fun j => if j < i + 1 then apM j else 0) (fun j h => by simp only [vp_updL, apM, onceM]; (repeat' split); all_goals first | rfl | omega))
                have X : Wd D A s [((a 46), .inl (cJ, 4321, .inr (.inl (fun j => if j < i + 1 then apM j else 0)))), ((a 0), .inr (12, (mF a))), ((a 48), .inl (cJ, 145, .inr (.inl (onceM))))] H locs := X
                refine lv_iinc (v := (nI (i + 1))) (lv' := [(3, .int (nI (i + 1))), (0, .ref (a 0)), (1, .int d), (2, .int q)]) hx hb dX12_need_73 hl (k := 0) rfl (nI_add _ 1) (by decide) rfl (fun ls hl => ?_)
                refine lv_goto (tgt := 32) hx hb dX12_need_76 (by decide) ?_
                exact ih32  (i + 1) H locs ls (by omega) (by omega) (x_sub X [0, 1, 2] (by decide) rfl) (lv_sub hl [0, 1, 2, 3] rfl)
              · have fc_18 : (2232 : Int) < ((i : Nat) : Int) := (by have h9 := i_nle c_18; simp only [nI_toInt (n := i) (by omega)] at h9; exact h9)
                refine lv_lconst (v := (0 : Int64)) hx hb dX12_need_58 (by decide) ?_
                refine lv_goto (tgt := 72) hx hb dX12_need_59 (by decide) ?_
                refine x_last C X 0 1 rfl rfl (j := i) (nI_clamp (by omega)) (vp_in_nI (by omega) (by omega)) dX12_need_72 (fun H locs X => ?_)
                have X : Wd D A s [((a 46), .inl (cJ, 4321, .inr (.inl (vp_updL (fun j => if j < i then apM j else 0) (i) ((0 : Int64)))))), ((a 0), .inr (12, (mF a))), ((a 48), .inl (cJ, 145, .inr (.inl (onceM))))] H locs := X
                have X := x_cng X 0 rfl (arr_eql _ _ (g := fun j => if j < i + 1 then apM j else 0) (fun j h => by simp only [vp_updL, apM, onceM]; (repeat' split); all_goals first | rfl | omega))
                have X : Wd D A s [((a 46), .inl (cJ, 4321, .inr (.inl (fun j => if j < i + 1 then apM j else 0)))), ((a 0), .inr (12, (mF a))), ((a 48), .inl (cJ, 145, .inr (.inl (onceM))))] H locs := X
                refine lv_iinc (v := (nI (i + 1))) (lv' := [(3, .int (nI (i + 1))), (0, .ref (a 0)), (1, .int d), (2, .int q)]) hx hb dX12_need_73 hl (k := 0) rfl (nI_add _ 1) (by decide) rfl (fun ls hl => ?_)
                refine lv_goto (tgt := 32) hx hb dX12_need_76 (by decide) ?_
                exact ih32  (i + 1) H locs ls (by omega) (by omega) (x_sub X [0, 1, 2] (by decide) rfl) (lv_sub hl [0, 1, 2, 3] rfl)
      exact L32 (4321 + 1) (0) H locs ls (by omega) (by omega) (x_sub X [0, 1, 2] (by decide) rfl) (lv_sub hl [0, 1, 2, 3] rfl)
    · refine lv_if_ne (tgt := 22) hx hb dX12_need_17 (by decide) (fun c0 => absurd (by decide) c0) (fun _ => ?_)
      refine lv_iconst (v := (-1 : Int32)) hx hb dX12_need_20 (by decide) ?_
      exact x_iret C X hr hlk (v := (-1 : Int32)) (by first | rfl | decide) (()) [] (by decide) rfl (Or.inr (⟨rfl, by omega⟩)) (Nat.le_of_ble_eq_true rfl) (Nat.le_of_ble_eq_true rfl) dX12_need_21
  · refine lv_if_eq (tgt := 20) hx hb dX12_need_7 (by decide) (fun _ => ?_) (fun c0 => absurd (by decide) c0)
    refine lv_iconst (v := (-1 : Int32)) hx hb dX12_need_20 (by decide) ?_
    exact x_iret C X hr hlk (v := (-1 : Int32)) (by first | rfl | decide) (()) [] (by decide) rfl (Or.inr (⟨rfl, by omega⟩)) (Nat.le_of_ble_eq_true rfl) (Nat.le_of_ble_eq_true rfl) dX12_need_21
