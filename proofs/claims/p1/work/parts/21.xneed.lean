theorem k_33_6 : Cond.static Lib.Math.max.name ∈ wsL_law := mr_33 _ (List.mem_of_getElem? (i := 6) rfl)
theorem k_33_7 : Cond.code Lib.Math.max.name Lib.Math.max.code 2 (some .int) ∈ wsL_law := mr_33 _ (List.mem_of_getElem? (i := 7) rfl)
theorem k_52_10 : Cond.code yX0_fillLot cX0_fillLot 6 none ∈ wsL_law := mr_52 _ (List.mem_of_getElem? (i := 10) rfl)
theorem k_52_11 : Cond.fieldLink RX0 48 "LuckLinks$Law" "lucks" "[I" ∈ wsL_law := mr_52 _ (List.mem_of_getElem? (i := 11) rfl)
theorem k_52_12 : Cond.methodLink RX0 53 Lib.Math.min.name ∈ wsL_law := mr_52 _ (List.mem_of_getElem? (i := 12) rfl)
theorem k_52_13 : Cond.methodLink RX0 42 yJ7_fill_d0a16 ∈ wsL_law := mr_52 _ (List.mem_of_getElem? (i := 13) rfl)
theorem k_52_14 : Cond.static yJ7_fill_d0a16 ∈ wsL_law := mr_52 _ (List.mem_of_getElem? (i := 14) rfl)
theorem k_52_15 : Cond.code yJ7_fill_d0a16 cJ7_fill_d0a16 5 none ∈ wsL_law := mr_52 _ (List.mem_of_getElem? (i := 15) rfl)
theorem k_52_16 : Cond.methodLink RX0 59 yX0_addDraw ∈ wsL_law := mr_52 _ (List.mem_of_getElem? (i := 16) rfl)
theorem k_52_17 : Cond.instanceMethod yX0_addDraw ∈ wsL_law := mr_52 _ (List.mem_of_getElem? (i := 17) rfl)
theorem k_52_18 : Cond.selects RX0 yX0_addDraw yX0_addDraw ∈ wsL_law := mr_52 _ (List.mem_of_getElem? (i := 18) rfl)
theorem k_52_19 : Cond.code yX0_addDraw cX0_addDraw 4 none ∈ wsL_law := mr_52 _ (List.mem_of_getElem? (i := 19) rfl)
theorem k_52_20 : Cond.methodLink RX0 65 arraycopyName ∈ wsL_law := mr_52 _ (List.mem_of_getElem? (i := 20) rfl)
theorem k_52_6 : Cond.constantLong RX0 63 (1000000) ∈ wsL_law := mr_52 _ (List.mem_of_getElem? (i := 6) rfl)
theorem k_52_7 : Cond.methodLink RX0 74 yX0_fillLot ∈ wsL_law := mr_52 _ (List.mem_of_getElem? (i := 7) rfl)
theorem k_52_8 : Cond.instanceMethod yX0_fillLot ∈ wsL_law := mr_52 _ (List.mem_of_getElem? (i := 8) rfl)
theorem k_52_9 : Cond.selects RX0 yX0_fillLot yX0_fillLot ∈ wsL_law := mr_52 _ (List.mem_of_getElem? (i := 9) rfl)
theorem k_53_0 : Cond.methodLink RX0 71 Lib.Math.max.name ∈ wsL_law := mr_53 _ (List.mem_of_getElem? (i := 0) rfl)
theorem k_53_22 : Cond.methodLink RX11 290 yX0_roundsNeeded ∈ wsL_law := mr_53 _ (List.mem_of_getElem? (i := 22) rfl)
theorem k_53_23 : Cond.instanceMethod yX0_roundsNeeded ∈ wsL_law := mr_53 _ (List.mem_of_getElem? (i := 23) rfl)
theorem k_54_0 : Cond.selects RX0 yX0_roundsNeeded yX0_roundsNeeded ∈ wsL_law := mr_54 _ (List.mem_of_getElem? (i := 0) rfl)
theorem k_54_1 : Cond.code yX0_roundsNeeded cX0_roundsNeeded 8 (some .int) ∈ wsL_law := mr_54 _ (List.mem_of_getElem? (i := 1) rfl)
theorem k_54_10 : Cond.methodLink RX0 87 yX0_gapsAbove ∈ wsL_law := mr_54 _ (List.mem_of_getElem? (i := 10) rfl)
theorem k_54_11 : Cond.instanceMethod yX0_gapsAbove ∈ wsL_law := mr_54 _ (List.mem_of_getElem? (i := 11) rfl)
theorem k_54_12 : Cond.selects RX0 yX0_gapsAbove yX0_gapsAbove ∈ wsL_law := mr_54 _ (List.mem_of_getElem? (i := 12) rfl)
theorem k_54_13 : Cond.code yX0_gapsAbove cX0_gapsAbove 7 (some .long) ∈ wsL_law := mr_54 _ (List.mem_of_getElem? (i := 13) rfl)
theorem k_54_2 : Cond.constantLong RX0 85 (10000) ∈ wsL_law := mr_54 _ (List.mem_of_getElem? (i := 2) rfl)
theorem k_54_3 : Cond.methodLink RX0 82 yX0_fillStep ∈ wsL_law := mr_54 _ (List.mem_of_getElem? (i := 3) rfl)
theorem k_54_4 : Cond.instanceMethod yX0_fillStep ∈ wsL_law := mr_54 _ (List.mem_of_getElem? (i := 4) rfl)
theorem k_54_5 : Cond.selects RX0 yX0_fillStep yX0_fillStep ∈ wsL_law := mr_54 _ (List.mem_of_getElem? (i := 5) rfl)
theorem k_54_6 : Cond.code yX0_fillStep cX0_fillStep 3 none ∈ wsL_law := mr_54 _ (List.mem_of_getElem? (i := 6) rfl)
theorem k_54_7 : Cond.methodLink RX0 94 Lib.MathLoose.max_long.x ∈ wsL_law := mr_54 _ (List.mem_of_getElem? (i := 7) rfl)
theorem k_54_8 : Cond.static Lib.MathLoose.max_long.x ∈ wsL_law := mr_54 _ (List.mem_of_getElem? (i := 8) rfl)
theorem k_54_9 : Cond.code Lib.MathLoose.max_long.x Lib.MathLoose.max_long.code 4 (some .long) ∈ wsL_law := mr_54 _ (List.mem_of_getElem? (i := 9) rfl)
theorem dX0_addDraw_0 : decode cX0_addDraw 0 = .ok (.aload_n 0, 1) := by decide +kernel
theorem dX0_addDraw_1 : decode cX0_addDraw 1 = .ok (.getfield 11, 3) := by decide +kernel
theorem dX0_addDraw_4 : decode cX0_addDraw 4 = .ok (.iconst 0, 1) := by decide +kernel
theorem dX0_addDraw_5 : decode cX0_addDraw 5 = .ok (.aload_n 0, 1) := by decide +kernel
theorem dX0_addDraw_6 : decode cX0_addDraw 6 = .ok (.getfield 15, 3) := by decide +kernel
theorem dX0_addDraw_9 : decode cX0_addDraw 9 = .ok (.iconst 0, 1) := by decide +kernel
theorem dX0_addDraw_10 : decode cX0_addDraw 10 = .ok (.aload_n 0, 1) := by decide +kernel
theorem dX0_addDraw_11 : decode cX0_addDraw 11 = .ok (.getfield 11, 3) := by decide +kernel
theorem dX0_addDraw_14 : decode cX0_addDraw 14 = .ok (.arraylength, 1) := by decide +kernel
theorem dX0_addDraw_15 : decode cX0_addDraw 15 = .ok (.invokestatic 65, 3) := by decide +kernel
theorem dX0_addDraw_18 : decode cX0_addDraw 18 = .ok (.aload_n 0, 1) := by decide +kernel
theorem dX0_addDraw_19 : decode cX0_addDraw 19 = .ok (.getfield 11, 3) := by decide +kernel
theorem dX0_addDraw_22 : decode cX0_addDraw 22 = .ok (.lconst 0, 1) := by decide +kernel
theorem dX0_addDraw_23 : decode cX0_addDraw 23 = .ok (.invokestatic 42, 3) := by decide +kernel
theorem dX0_addDraw_26 : decode cX0_addDraw 26 = .ok (.iconst 0, 1) := by decide +kernel
theorem dX0_addDraw_27 : decode cX0_addDraw 27 = .ok (.istore_n 2, 1) := by decide +kernel
theorem dX0_addDraw_28 : decode cX0_addDraw 28 = .ok (.iload_n 2, 1) := by decide +kernel
theorem dX0_addDraw_29 : decode cX0_addDraw 29 = .ok (.aload_n 0, 1) := by decide +kernel
theorem dX0_addDraw_30 : decode cX0_addDraw 30 = .ok (.getfield 11, 3) := by decide +kernel
theorem dX0_addDraw_33 : decode cX0_addDraw 33 = .ok (.arraylength, 1) := by decide +kernel
theorem dX0_addDraw_34 : decode cX0_addDraw 34 = .ok (.if_icmp .ge 65, 3) := by decide +kernel
theorem dX0_addDraw_37 : decode cX0_addDraw 37 = .ok (.aload_n 0, 1) := by decide +kernel
theorem dX0_addDraw_38 : decode cX0_addDraw 38 = .ok (.getfield 15, 3) := by decide +kernel
theorem dX0_addDraw_41 : decode cX0_addDraw 41 = .ok (.iload_n 2, 1) := by decide +kernel
theorem dX0_addDraw_42 : decode cX0_addDraw 42 = .ok (.laload, 1) := by decide +kernel
theorem dX0_addDraw_43 : decode cX0_addDraw 43 = .ok (.lconst 0, 1) := by decide +kernel
theorem dX0_addDraw_44 : decode cX0_addDraw 44 = .ok (.lcmp, 1) := by decide +kernel
theorem dX0_addDraw_45 : decode cX0_addDraw 45 = .ok (.ifCond .le 48, 3) := by decide +kernel
theorem dX0_addDraw_48 : decode cX0_addDraw 48 = .ok (.iconst 0, 1) := by decide +kernel
theorem dX0_addDraw_49 : decode cX0_addDraw 49 = .ok (.iload_n 2, 1) := by decide +kernel
theorem dX0_addDraw_50 : decode cX0_addDraw 50 = .ok (.iload_n 1, 1) := by decide +kernel
theorem dX0_addDraw_51 : decode cX0_addDraw 51 = .ok (.isub, 1) := by decide +kernel
theorem dX0_addDraw_52 : decode cX0_addDraw 52 = .ok (.invokestatic 71, 3) := by decide +kernel
theorem dX0_addDraw_55 : decode cX0_addDraw 55 = .ok (.istore_n 3, 1) := by decide +kernel
theorem dX0_addDraw_56 : decode cX0_addDraw 56 = .ok (.iload_n 3, 1) := by decide +kernel
theorem dX0_addDraw_57 : decode cX0_addDraw 57 = .ok (.iload_n 2, 1) := by decide +kernel
theorem dX0_addDraw_58 : decode cX0_addDraw 58 = .ok (.iload_n 1, 1) := by decide +kernel
theorem dX0_addDraw_59 : decode cX0_addDraw 59 = .ok (.iadd, 1) := by decide +kernel
theorem dX0_addDraw_60 : decode cX0_addDraw 60 = .ok (.if_icmp .gt 33, 3) := by decide +kernel
theorem dX0_addDraw_63 : decode cX0_addDraw 63 = .ok (.iload_n 3, 1) := by decide +kernel
theorem dX0_addDraw_64 : decode cX0_addDraw 64 = .ok (.aload_n 0, 1) := by decide +kernel
theorem dX0_addDraw_65 : decode cX0_addDraw 65 = .ok (.getfield 11, 3) := by decide +kernel
theorem dX0_addDraw_68 : decode cX0_addDraw 68 = .ok (.arraylength, 1) := by decide +kernel
theorem dX0_addDraw_69 : decode cX0_addDraw 69 = .ok (.if_icmp .ge 24, 3) := by decide +kernel
theorem dX0_addDraw_72 : decode cX0_addDraw 72 = .ok (.aload_n 0, 1) := by decide +kernel
theorem dX0_addDraw_73 : decode cX0_addDraw 73 = .ok (.getfield 11, 3) := by decide +kernel
theorem dX0_addDraw_76 : decode cX0_addDraw 76 = .ok (.iload_n 3, 1) := by decide +kernel
theorem dX0_addDraw_77 : decode cX0_addDraw 77 = .ok (.dup2, 1) := by decide +kernel
theorem dX0_addDraw_78 : decode cX0_addDraw 78 = .ok (.laload, 1) := by decide +kernel
theorem dX0_addDraw_79 : decode cX0_addDraw 79 = .ok (.aload_n 0, 1) := by decide +kernel
theorem dX0_addDraw_80 : decode cX0_addDraw 80 = .ok (.getfield 15, 3) := by decide +kernel
theorem dX0_addDraw_83 : decode cX0_addDraw 83 = .ok (.iload_n 2, 1) := by decide +kernel
theorem dX0_addDraw_84 : decode cX0_addDraw 84 = .ok (.laload, 1) := by decide +kernel
theorem dX0_addDraw_85 : decode cX0_addDraw 85 = .ok (.ladd, 1) := by decide +kernel
theorem dX0_addDraw_86 : decode cX0_addDraw 86 = .ok (.lastore, 1) := by decide +kernel
theorem dX0_addDraw_87 : decode cX0_addDraw 87 = .ok (.iinc 3 1, 3) := by decide +kernel
theorem dX0_addDraw_90 : decode cX0_addDraw 90 = .ok (.goto (-34), 3) := by decide +kernel
theorem dX0_addDraw_93 : decode cX0_addDraw 93 = .ok (.iinc 2 1, 3) := by decide +kernel
theorem dX0_addDraw_96 : decode cX0_addDraw 96 = .ok (.goto (-68), 3) := by decide +kernel
theorem dX0_addDraw_99 : decode cX0_addDraw 99 = .ok (.return_, 1) := by decide +kernel
theorem dX0_fillLot_0 : decode cX0_fillLot 0 = .ok (.aload_n 0, 1) := by decide +kernel
theorem dX0_fillLot_1 : decode cX0_fillLot 1 = .ok (.getfield 11, 3) := by decide +kernel
theorem dX0_fillLot_4 : decode cX0_fillLot 4 = .ok (.lconst 0, 1) := by decide +kernel
theorem dX0_fillLot_5 : decode cX0_fillLot 5 = .ok (.invokestatic 42, 3) := by decide +kernel
theorem dX0_fillLot_8 : decode cX0_fillLot 8 = .ok (.aload_n 0, 1) := by decide +kernel
theorem dX0_fillLot_9 : decode cX0_fillLot 9 = .ok (.getfield 11, 3) := by decide +kernel
theorem dX0_fillLot_12 : decode cX0_fillLot 12 = .ok (.bipush 36, 2) := by decide +kernel
theorem dX0_fillLot_14 : decode cX0_fillLot 14 = .ok (.lconst 1, 1) := by decide +kernel
theorem dX0_fillLot_15 : decode cX0_fillLot 15 = .ok (.lastore, 1) := by decide +kernel
theorem dX0_fillLot_16 : decode cX0_fillLot 16 = .ok (.aload_n 0, 1) := by decide +kernel
theorem dX0_fillLot_17 : decode cX0_fillLot 17 = .ok (.iconst 0, 1) := by decide +kernel
theorem dX0_fillLot_18 : decode cX0_fillLot 18 = .ok (.putfield 34, 3) := by decide +kernel
theorem dX0_fillLot_21 : decode cX0_fillLot 21 = .ok (.lconst 1, 1) := by decide +kernel
theorem dX0_fillLot_22 : decode cX0_fillLot 22 = .ok (.lstore_n 2, 1) := by decide +kernel
theorem dX0_fillLot_23 : decode cX0_fillLot 23 = .ok (.iconst 0, 1) := by decide +kernel
theorem dX0_fillLot_24 : decode cX0_fillLot 24 = .ok (.istore 4, 2) := by decide +kernel
theorem dX0_fillLot_26 : decode cX0_fillLot 26 = .ok (.iload 4, 2) := by decide +kernel
theorem dX0_fillLot_28 : decode cX0_fillLot 28 = .ok (.iconst 4, 1) := by decide +kernel
theorem dX0_fillLot_29 : decode cX0_fillLot 29 = .ok (.if_icmp .ge 50, 3) := by decide +kernel
theorem dX0_fillLot_32 : decode cX0_fillLot 32 = .ok (.bipush 9, 2) := by decide +kernel
theorem dX0_fillLot_34 : decode cX0_fillLot 34 = .ok (.aload_n 1, 1) := by decide +kernel
theorem dX0_fillLot_35 : decode cX0_fillLot 35 = .ok (.getfield 48, 3) := by decide +kernel
theorem dX0_fillLot_38 : decode cX0_fillLot 38 = .ok (.iload 4, 2) := by decide +kernel
theorem dX0_fillLot_40 : decode cX0_fillLot 40 = .ok (.iaload, 1) := by decide +kernel
theorem dX0_fillLot_41 : decode cX0_fillLot 41 = .ok (.invokestatic 53, 3) := by decide +kernel
theorem dX0_fillLot_44 : decode cX0_fillLot 44 = .ok (.istore 5, 2) := by decide +kernel
theorem dX0_fillLot_46 : decode cX0_fillLot 46 = .ok (.aload_n 0, 1) := by decide +kernel
theorem dX0_fillLot_47 : decode cX0_fillLot 47 = .ok (.iload 5, 2) := by decide +kernel
theorem dX0_fillLot_49 : decode cX0_fillLot 49 = .ok (.invokevirtual 59, 3) := by decide +kernel
theorem dX0_fillLot_52 : decode cX0_fillLot 52 = .ok (.aload_n 0, 1) := by decide +kernel
theorem dX0_fillLot_53 : decode cX0_fillLot 53 = .ok (.dup, 1) := by decide +kernel
theorem dX0_fillLot_54 : decode cX0_fillLot 54 = .ok (.getfield 34, 3) := by decide +kernel
theorem dX0_fillLot_57 : decode cX0_fillLot 57 = .ok (.iload 5, 2) := by decide +kernel
theorem dX0_fillLot_59 : decode cX0_fillLot 59 = .ok (.iadd, 1) := by decide +kernel
theorem dX0_fillLot_60 : decode cX0_fillLot 60 = .ok (.putfield 34, 3) := by decide +kernel
theorem dX0_fillLot_63 : decode cX0_fillLot 63 = .ok (.lload_n 2, 1) := by decide +kernel
theorem dX0_fillLot_64 : decode cX0_fillLot 64 = .ok (.iconst 2, 1) := by decide +kernel
theorem dX0_fillLot_65 : decode cX0_fillLot 65 = .ok (.iload 5, 2) := by decide +kernel
theorem dX0_fillLot_67 : decode cX0_fillLot 67 = .ok (.imul, 1) := by decide +kernel
theorem dX0_fillLot_68 : decode cX0_fillLot 68 = .ok (.iconst 1, 1) := by decide +kernel
theorem dX0_fillLot_69 : decode cX0_fillLot 69 = .ok (.iadd, 1) := by decide +kernel
theorem dX0_fillLot_70 : decode cX0_fillLot 70 = .ok (.i2l, 1) := by decide +kernel
theorem dX0_fillLot_71 : decode cX0_fillLot 71 = .ok (.lmul, 1) := by decide +kernel
theorem dX0_fillLot_72 : decode cX0_fillLot 72 = .ok (.lstore_n 2, 1) := by decide +kernel
theorem dX0_fillLot_73 : decode cX0_fillLot 73 = .ok (.iinc 4 1, 3) := by decide +kernel
theorem dX0_fillLot_76 : decode cX0_fillLot 76 = .ok (.goto (-50), 3) := by decide +kernel
theorem dX0_fillLot_79 : decode cX0_fillLot 79 = .ok (.aload_n 0, 1) := by decide +kernel
theorem dX0_fillLot_80 : decode cX0_fillLot 80 = .ok (.getfield 18, 3) := by decide +kernel
theorem dX0_fillLot_83 : decode cX0_fillLot 83 = .ok (.aload_n 0, 1) := by decide +kernel
theorem dX0_fillLot_84 : decode cX0_fillLot 84 = .ok (.getfield 11, 3) := by decide +kernel
theorem dX0_fillLot_87 : decode cX0_fillLot 87 = .ok (.arraylength, 1) := by decide +kernel
theorem dX0_fillLot_88 : decode cX0_fillLot 88 = .ok (.lconst 0, 1) := by decide +kernel
theorem dX0_fillLot_89 : decode cX0_fillLot 89 = .ok (.lastore, 1) := by decide +kernel
theorem dX0_fillLot_90 : decode cX0_fillLot 90 = .ok (.aload_n 0, 1) := by decide +kernel
theorem dX0_fillLot_91 : decode cX0_fillLot 91 = .ok (.getfield 11, 3) := by decide +kernel
theorem dX0_fillLot_94 : decode cX0_fillLot 94 = .ok (.arraylength, 1) := by decide +kernel
theorem dX0_fillLot_95 : decode cX0_fillLot 95 = .ok (.iconst 1, 1) := by decide +kernel
theorem dX0_fillLot_96 : decode cX0_fillLot 96 = .ok (.isub, 1) := by decide +kernel
theorem dX0_fillLot_97 : decode cX0_fillLot 97 = .ok (.istore 4, 2) := by decide +kernel
theorem dX0_fillLot_99 : decode cX0_fillLot 99 = .ok (.iload 4, 2) := by decide +kernel
theorem dX0_fillLot_101 : decode cX0_fillLot 101 = .ok (.ifCond .lt 63, 3) := by decide +kernel
theorem dX0_fillLot_104 : decode cX0_fillLot 104 = .ok (.aload_n 0, 1) := by decide +kernel
theorem dX0_fillLot_105 : decode cX0_fillLot 105 = .ok (.getfield 11, 3) := by decide +kernel
theorem dX0_fillLot_108 : decode cX0_fillLot 108 = .ok (.iload 4, 2) := by decide +kernel
theorem dX0_fillLot_110 : decode cX0_fillLot 110 = .ok (.lload_n 2, 1) := by decide +kernel
theorem dX0_fillLot_111 : decode cX0_fillLot 111 = .ok (.lconst 0, 1) := by decide +kernel
theorem dX0_fillLot_112 : decode cX0_fillLot 112 = .ok (.lcmp, 1) := by decide +kernel
theorem dX0_fillLot_113 : decode cX0_fillLot 113 = .ok (.ifCond .le 19, 3) := by decide +kernel
theorem dX0_fillLot_116 : decode cX0_fillLot 116 = .ok (.aload_n 0, 1) := by decide +kernel
theorem dX0_fillLot_117 : decode cX0_fillLot 117 = .ok (.getfield 11, 3) := by decide +kernel
theorem dX0_fillLot_120 : decode cX0_fillLot 120 = .ok (.iload 4, 2) := by decide +kernel
theorem dX0_fillLot_122 : decode cX0_fillLot 122 = .ok (.laload, 1) := by decide +kernel
theorem dX0_fillLot_123 : decode cX0_fillLot 123 = .ok (.ldc2_w 63, 3) := by decide +kernel
theorem dX0_fillLot_126 : decode cX0_fillLot 126 = .ok (.lmul, 1) := by decide +kernel
theorem dX0_fillLot_127 : decode cX0_fillLot 127 = .ok (.lload_n 2, 1) := by decide +kernel
theorem dX0_fillLot_128 : decode cX0_fillLot 128 = .ok (.ldiv, 1) := by decide +kernel
theorem dX0_fillLot_129 : decode cX0_fillLot 129 = .ok (.goto 4, 3) := by decide +kernel
theorem dX0_fillLot_133 : decode cX0_fillLot 133 = .ok (.lastore, 1) := by decide +kernel
theorem dX0_fillLot_134 : decode cX0_fillLot 134 = .ok (.aload_n 0, 1) := by decide +kernel
theorem dX0_fillLot_135 : decode cX0_fillLot 135 = .ok (.getfield 18, 3) := by decide +kernel
theorem dX0_fillLot_138 : decode cX0_fillLot 138 = .ok (.iload 4, 2) := by decide +kernel
theorem dX0_fillLot_140 : decode cX0_fillLot 140 = .ok (.aload_n 0, 1) := by decide +kernel
theorem dX0_fillLot_141 : decode cX0_fillLot 141 = .ok (.getfield 18, 3) := by decide +kernel
theorem dX0_fillLot_144 : decode cX0_fillLot 144 = .ok (.iload 4, 2) := by decide +kernel
theorem dX0_fillLot_146 : decode cX0_fillLot 146 = .ok (.iconst 1, 1) := by decide +kernel
theorem dX0_fillLot_147 : decode cX0_fillLot 147 = .ok (.iadd, 1) := by decide +kernel
theorem dX0_fillLot_148 : decode cX0_fillLot 148 = .ok (.laload, 1) := by decide +kernel
theorem dX0_fillLot_149 : decode cX0_fillLot 149 = .ok (.aload_n 0, 1) := by decide +kernel
theorem dX0_fillLot_150 : decode cX0_fillLot 150 = .ok (.getfield 11, 3) := by decide +kernel
theorem dX0_fillLot_153 : decode cX0_fillLot 153 = .ok (.iload 4, 2) := by decide +kernel
theorem dX0_fillLot_155 : decode cX0_fillLot 155 = .ok (.laload, 1) := by decide +kernel
theorem dX0_fillLot_156 : decode cX0_fillLot 156 = .ok (.ladd, 1) := by decide +kernel
theorem dX0_fillLot_157 : decode cX0_fillLot 157 = .ok (.lastore, 1) := by decide +kernel
theorem dX0_fillLot_158 : decode cX0_fillLot 158 = .ok (.iinc 4 (-1), 3) := by decide +kernel
theorem dX0_fillLot_161 : decode cX0_fillLot 161 = .ok (.goto (-62), 3) := by decide +kernel
theorem dX0_fillLot_164 : decode cX0_fillLot 164 = .ok (.return_, 1) := by decide +kernel
theorem dX0_fillStep_0 : decode cX0_fillStep 0 = .ok (.aload_n 0, 1) := by decide +kernel
theorem dX0_fillStep_1 : decode cX0_fillStep 1 = .ok (.getfield 21, 3) := by decide +kernel
theorem dX0_fillStep_4 : decode cX0_fillStep 4 = .ok (.lconst 0, 1) := by decide +kernel
theorem dX0_fillStep_5 : decode cX0_fillStep 5 = .ok (.invokestatic 42, 3) := by decide +kernel
theorem dX0_fillStep_8 : decode cX0_fillStep 8 = .ok (.aload_n 0, 1) := by decide +kernel
theorem dX0_fillStep_9 : decode cX0_fillStep 9 = .ok (.getfield 34, 3) := by decide +kernel
theorem dX0_fillStep_12 : decode cX0_fillStep 12 = .ok (.ineg, 1) := by decide +kernel
theorem dX0_fillStep_13 : decode cX0_fillStep 13 = .ok (.istore_n 1, 1) := by decide +kernel
theorem dX0_fillStep_14 : decode cX0_fillStep 14 = .ok (.iload_n 1, 1) := by decide +kernel
theorem dX0_fillStep_15 : decode cX0_fillStep 15 = .ok (.aload_n 0, 1) := by decide +kernel
theorem dX0_fillStep_16 : decode cX0_fillStep 16 = .ok (.getfield 34, 3) := by decide +kernel
theorem dX0_fillStep_19 : decode cX0_fillStep 19 = .ok (.if_icmp .gt 66, 3) := by decide +kernel
theorem dX0_fillStep_22 : decode cX0_fillStep 22 = .ok (.aload_n 0, 1) := by decide +kernel
theorem dX0_fillStep_23 : decode cX0_fillStep 23 = .ok (.getfield 34, 3) := by decide +kernel
theorem dX0_fillStep_26 : decode cX0_fillStep 26 = .ok (.ineg, 1) := by decide +kernel
theorem dX0_fillStep_27 : decode cX0_fillStep 27 = .ok (.istore_n 2, 1) := by decide +kernel
theorem dX0_fillStep_28 : decode cX0_fillStep 28 = .ok (.iload_n 2, 1) := by decide +kernel
theorem dX0_fillStep_29 : decode cX0_fillStep 29 = .ok (.aload_n 0, 1) := by decide +kernel
theorem dX0_fillStep_30 : decode cX0_fillStep 30 = .ok (.getfield 34, 3) := by decide +kernel
theorem dX0_fillStep_33 : decode cX0_fillStep 33 = .ok (.if_icmp .gt 46, 3) := by decide +kernel
theorem dX0_fillStep_36 : decode cX0_fillStep 36 = .ok (.aload_n 0, 1) := by decide +kernel
theorem dX0_fillStep_37 : decode cX0_fillStep 37 = .ok (.getfield 21, 3) := by decide +kernel
theorem dX0_fillStep_40 : decode cX0_fillStep 40 = .ok (.iload_n 1, 1) := by decide +kernel
theorem dX0_fillStep_41 : decode cX0_fillStep 41 = .ok (.iload_n 2, 1) := by decide +kernel
theorem dX0_fillStep_42 : decode cX0_fillStep 42 = .ok (.isub, 1) := by decide +kernel
theorem dX0_fillStep_43 : decode cX0_fillStep 43 = .ok (.bipush 72, 2) := by decide +kernel
theorem dX0_fillStep_45 : decode cX0_fillStep 45 = .ok (.iadd, 1) := by decide +kernel
theorem dX0_fillStep_46 : decode cX0_fillStep 46 = .ok (.dup2, 1) := by decide +kernel
theorem dX0_fillStep_47 : decode cX0_fillStep 47 = .ok (.laload, 1) := by decide +kernel
theorem dX0_fillStep_48 : decode cX0_fillStep 48 = .ok (.aload_n 0, 1) := by decide +kernel
theorem dX0_fillStep_49 : decode cX0_fillStep 49 = .ok (.getfield 11, 3) := by decide +kernel
theorem dX0_fillStep_52 : decode cX0_fillStep 52 = .ok (.iload_n 1, 1) := by decide +kernel
theorem dX0_fillStep_53 : decode cX0_fillStep 53 = .ok (.bipush 36, 2) := by decide +kernel
theorem dX0_fillStep_55 : decode cX0_fillStep 55 = .ok (.iadd, 1) := by decide +kernel
theorem dX0_fillStep_56 : decode cX0_fillStep 56 = .ok (.laload, 1) := by decide +kernel
theorem dX0_fillStep_57 : decode cX0_fillStep 57 = .ok (.aload_n 0, 1) := by decide +kernel
theorem dX0_fillStep_58 : decode cX0_fillStep 58 = .ok (.getfield 11, 3) := by decide +kernel
theorem dX0_fillStep_61 : decode cX0_fillStep 61 = .ok (.iload_n 2, 1) := by decide +kernel
theorem dX0_fillStep_62 : decode cX0_fillStep 62 = .ok (.bipush 36, 2) := by decide +kernel
theorem dX0_fillStep_64 : decode cX0_fillStep 64 = .ok (.iadd, 1) := by decide +kernel
theorem dX0_fillStep_65 : decode cX0_fillStep 65 = .ok (.laload, 1) := by decide +kernel
theorem dX0_fillStep_66 : decode cX0_fillStep 66 = .ok (.lmul, 1) := by decide +kernel
theorem dX0_fillStep_67 : decode cX0_fillStep 67 = .ok (.ldc2_w 63, 3) := by decide +kernel
theorem dX0_fillStep_70 : decode cX0_fillStep 70 = .ok (.ldiv, 1) := by decide +kernel
theorem dX0_fillStep_71 : decode cX0_fillStep 71 = .ok (.ladd, 1) := by decide +kernel
theorem dX0_fillStep_72 : decode cX0_fillStep 72 = .ok (.lastore, 1) := by decide +kernel
theorem dX0_fillStep_73 : decode cX0_fillStep 73 = .ok (.iinc 2 1, 3) := by decide +kernel
theorem dX0_fillStep_76 : decode cX0_fillStep 76 = .ok (.goto (-48), 3) := by decide +kernel
theorem dX0_fillStep_79 : decode cX0_fillStep 79 = .ok (.iinc 1 1, 3) := by decide +kernel
theorem dX0_fillStep_82 : decode cX0_fillStep 82 = .ok (.goto (-68), 3) := by decide +kernel
theorem dX0_fillStep_85 : decode cX0_fillStep 85 = .ok (.aload_n 0, 1) := by decide +kernel
theorem dX0_fillStep_86 : decode cX0_fillStep 86 = .ok (.lconst 0, 1) := by decide +kernel
theorem dX0_fillStep_87 : decode cX0_fillStep 87 = .ok (.putfield 30, 3) := by decide +kernel
theorem dX0_fillStep_90 : decode cX0_fillStep 90 = .ok (.iconst 0, 1) := by decide +kernel
theorem dX0_fillStep_91 : decode cX0_fillStep 91 = .ok (.istore_n 1, 1) := by decide +kernel
theorem dX0_fillStep_92 : decode cX0_fillStep 92 = .ok (.iload_n 1, 1) := by decide +kernel
theorem dX0_fillStep_93 : decode cX0_fillStep 93 = .ok (.aload_n 0, 1) := by decide +kernel
theorem dX0_fillStep_94 : decode cX0_fillStep 94 = .ok (.getfield 21, 3) := by decide +kernel
theorem dX0_fillStep_97 : decode cX0_fillStep 97 = .ok (.arraylength, 1) := by decide +kernel
theorem dX0_fillStep_98 : decode cX0_fillStep 98 = .ok (.if_icmp .ge 26, 3) := by decide +kernel
theorem dX0_fillStep_101 : decode cX0_fillStep 101 = .ok (.aload_n 0, 1) := by decide +kernel
theorem dX0_fillStep_102 : decode cX0_fillStep 102 = .ok (.aload_n 0, 1) := by decide +kernel
theorem dX0_fillStep_103 : decode cX0_fillStep 103 = .ok (.getfield 30, 3) := by decide +kernel
theorem dX0_fillStep_106 : decode cX0_fillStep 106 = .ok (.aload_n 0, 1) := by decide +kernel
theorem dX0_fillStep_107 : decode cX0_fillStep 107 = .ok (.getfield 21, 3) := by decide +kernel
theorem dX0_fillStep_110 : decode cX0_fillStep 110 = .ok (.iload_n 1, 1) := by decide +kernel
theorem dX0_fillStep_111 : decode cX0_fillStep 111 = .ok (.laload, 1) := by decide +kernel
theorem dX0_fillStep_112 : decode cX0_fillStep 112 = .ok (.invokestatic 94, 3) := by decide +kernel
theorem dX0_fillStep_115 : decode cX0_fillStep 115 = .ok (.putfield 30, 3) := by decide +kernel
theorem dX0_fillStep_118 : decode cX0_fillStep 118 = .ok (.iinc 1 1, 3) := by decide +kernel
theorem dX0_fillStep_121 : decode cX0_fillStep 121 = .ok (.goto (-29), 3) := by decide +kernel
theorem dX0_fillStep_124 : decode cX0_fillStep 124 = .ok (.return_, 1) := by decide +kernel
theorem dX0_gapsAbove_0 : decode cX0_gapsAbove 0 = .ok (.lconst 0, 1) := by decide +kernel
theorem dX0_gapsAbove_1 : decode cX0_gapsAbove 1 = .ok (.lstore_n 3, 1) := by decide +kernel
theorem dX0_gapsAbove_2 : decode cX0_gapsAbove 2 = .ok (.iconst 0, 1) := by decide +kernel
theorem dX0_gapsAbove_3 : decode cX0_gapsAbove 3 = .ok (.sipush 2160, 3) := by decide +kernel
theorem dX0_gapsAbove_6 : decode cX0_gapsAbove 6 = .ok (.iload_n 2, 1) := by decide +kernel
theorem dX0_gapsAbove_7 : decode cX0_gapsAbove 7 = .ok (.ineg, 1) := by decide +kernel
theorem dX0_gapsAbove_8 : decode cX0_gapsAbove 8 = .ok (.iload_n 1, 1) := by decide +kernel
theorem dX0_gapsAbove_9 : decode cX0_gapsAbove 9 = .ok (.iconst 1, 1) := by decide +kernel
theorem dX0_gapsAbove_10 : decode cX0_gapsAbove 10 = .ok (.iadd, 1) := by decide +kernel
theorem dX0_gapsAbove_11 : decode cX0_gapsAbove 11 = .ok (.invokestatic 71, 3) := by decide +kernel
theorem dX0_gapsAbove_14 : decode cX0_gapsAbove 14 = .ok (.iadd, 1) := by decide +kernel
theorem dX0_gapsAbove_15 : decode cX0_gapsAbove 15 = .ok (.invokestatic 71, 3) := by decide +kernel
theorem dX0_gapsAbove_18 : decode cX0_gapsAbove 18 = .ok (.istore 5, 2) := by decide +kernel
theorem dX0_gapsAbove_20 : decode cX0_gapsAbove 20 = .ok (.iload 5, 2) := by decide +kernel
theorem dX0_gapsAbove_22 : decode cX0_gapsAbove 22 = .ok (.istore 6, 2) := by decide +kernel
theorem dX0_gapsAbove_24 : decode cX0_gapsAbove 24 = .ok (.iload 6, 2) := by decide +kernel
theorem dX0_gapsAbove_26 : decode cX0_gapsAbove 26 = .ok (.sipush 2160, 3) := by decide +kernel
theorem dX0_gapsAbove_29 : decode cX0_gapsAbove 29 = .ok (.iload_n 2, 1) := by decide +kernel
theorem dX0_gapsAbove_30 : decode cX0_gapsAbove 30 = .ok (.iadd, 1) := by decide +kernel
theorem dX0_gapsAbove_31 : decode cX0_gapsAbove 31 = .ok (.if_icmp .gt 29, 3) := by decide +kernel
theorem dX0_gapsAbove_34 : decode cX0_gapsAbove 34 = .ok (.iload 6, 2) := by decide +kernel
theorem dX0_gapsAbove_36 : decode cX0_gapsAbove 36 = .ok (.aload_n 0, 1) := by decide +kernel
theorem dX0_gapsAbove_37 : decode cX0_gapsAbove 37 = .ok (.getfield 24, 3) := by decide +kernel
theorem dX0_gapsAbove_40 : decode cX0_gapsAbove 40 = .ok (.arraylength, 1) := by decide +kernel
theorem dX0_gapsAbove_41 : decode cX0_gapsAbove 41 = .ok (.if_icmp .ge 19, 3) := by decide +kernel
theorem dX0_gapsAbove_44 : decode cX0_gapsAbove 44 = .ok (.lload_n 3, 1) := by decide +kernel
theorem dX0_gapsAbove_45 : decode cX0_gapsAbove 45 = .ok (.aload_n 0, 1) := by decide +kernel
theorem dX0_gapsAbove_46 : decode cX0_gapsAbove 46 = .ok (.getfield 24, 3) := by decide +kernel
theorem dX0_gapsAbove_49 : decode cX0_gapsAbove 49 = .ok (.iload 6, 2) := by decide +kernel
theorem dX0_gapsAbove_51 : decode cX0_gapsAbove 51 = .ok (.laload, 1) := by decide +kernel
theorem dX0_gapsAbove_52 : decode cX0_gapsAbove 52 = .ok (.ladd, 1) := by decide +kernel
theorem dX0_gapsAbove_53 : decode cX0_gapsAbove 53 = .ok (.lstore_n 3, 1) := by decide +kernel
theorem dX0_gapsAbove_54 : decode cX0_gapsAbove 54 = .ok (.iinc 6 1, 3) := by decide +kernel
theorem dX0_gapsAbove_57 : decode cX0_gapsAbove 57 = .ok (.goto (-33), 3) := by decide +kernel
theorem dX0_gapsAbove_60 : decode cX0_gapsAbove 60 = .ok (.lload_n 3, 1) := by decide +kernel
theorem dX0_gapsAbove_61 : decode cX0_gapsAbove 61 = .ok (.lreturn, 1) := by decide +kernel
theorem dX0_roundsNeeded_0 : decode cX0_roundsNeeded 0 = .ok (.aload_n 0, 1) := by decide +kernel
theorem dX0_roundsNeeded_1 : decode cX0_roundsNeeded 1 = .ok (.aload_n 3, 1) := by decide +kernel
theorem dX0_roundsNeeded_2 : decode cX0_roundsNeeded 2 = .ok (.invokevirtual 74, 3) := by decide +kernel
theorem dX0_roundsNeeded_5 : decode cX0_roundsNeeded 5 = .ok (.aload_n 0, 1) := by decide +kernel
theorem dX0_roundsNeeded_6 : decode cX0_roundsNeeded 6 = .ok (.invokevirtual 82, 3) := by decide +kernel
theorem dX0_roundsNeeded_9 : decode cX0_roundsNeeded 9 = .ok (.aload_n 0, 1) := by decide +kernel
theorem dX0_roundsNeeded_10 : decode cX0_roundsNeeded 10 = .ok (.getfield 24, 3) := by decide +kernel
theorem dX0_roundsNeeded_13 : decode cX0_roundsNeeded 13 = .ok (.lconst 0, 1) := by decide +kernel
theorem dX0_roundsNeeded_14 : decode cX0_roundsNeeded 14 = .ok (.invokestatic 42, 3) := by decide +kernel
theorem dX0_roundsNeeded_17 : decode cX0_roundsNeeded 17 = .ok (.aload_n 0, 1) := by decide +kernel
theorem dX0_roundsNeeded_18 : decode cX0_roundsNeeded 18 = .ok (.getfield 21, 3) := by decide +kernel
theorem dX0_roundsNeeded_21 : decode cX0_roundsNeeded 21 = .ok (.iconst 0, 1) := by decide +kernel
theorem dX0_roundsNeeded_22 : decode cX0_roundsNeeded 22 = .ok (.aload_n 0, 1) := by decide +kernel
theorem dX0_roundsNeeded_23 : decode cX0_roundsNeeded 23 = .ok (.getfield 24, 3) := by decide +kernel
theorem dX0_roundsNeeded_26 : decode cX0_roundsNeeded 26 = .ok (.sipush 2088, 3) := by decide +kernel
theorem dX0_roundsNeeded_29 : decode cX0_roundsNeeded 29 = .ok (.aload_n 0, 1) := by decide +kernel
theorem dX0_roundsNeeded_30 : decode cX0_roundsNeeded 30 = .ok (.getfield 21, 3) := by decide +kernel
theorem dX0_roundsNeeded_33 : decode cX0_roundsNeeded 33 = .ok (.arraylength, 1) := by decide +kernel
theorem dX0_roundsNeeded_34 : decode cX0_roundsNeeded 34 = .ok (.invokestatic 65, 3) := by decide +kernel
theorem dX0_roundsNeeded_37 : decode cX0_roundsNeeded 37 = .ok (.iload_n 2, 1) := by decide +kernel
theorem dX0_roundsNeeded_38 : decode cX0_roundsNeeded 38 = .ok (.i2l, 1) := by decide +kernel
theorem dX0_roundsNeeded_39 : decode cX0_roundsNeeded 39 = .ok (.ldc2_w 85, 3) := by decide +kernel
theorem dX0_roundsNeeded_42 : decode cX0_roundsNeeded 42 = .ok (.lmul, 1) := by decide +kernel
theorem dX0_roundsNeeded_43 : decode cX0_roundsNeeded 43 = .ok (.lstore 4, 2) := by decide +kernel
theorem dX0_roundsNeeded_45 : decode cX0_roundsNeeded 45 = .ok (.iconst 2, 1) := by decide +kernel
theorem dX0_roundsNeeded_46 : decode cX0_roundsNeeded 46 = .ok (.aload_n 0, 1) := by decide +kernel
theorem dX0_roundsNeeded_47 : decode cX0_roundsNeeded 47 = .ok (.getfield 34, 3) := by decide +kernel
theorem dX0_roundsNeeded_50 : decode cX0_roundsNeeded 50 = .ok (.imul, 1) := by decide +kernel
theorem dX0_roundsNeeded_51 : decode cX0_roundsNeeded 51 = .ok (.istore 6, 2) := by decide +kernel
theorem dX0_roundsNeeded_53 : decode cX0_roundsNeeded 53 = .ok (.iconst 1, 1) := by decide +kernel
theorem dX0_roundsNeeded_54 : decode cX0_roundsNeeded 54 = .ok (.istore 7, 2) := by decide +kernel
theorem dX0_roundsNeeded_56 : decode cX0_roundsNeeded 56 = .ok (.iload 7, 2) := by decide +kernel
theorem dX0_roundsNeeded_58 : decode cX0_roundsNeeded 58 = .ok (.bipush 30, 2) := by decide +kernel
theorem dX0_roundsNeeded_60 : decode cX0_roundsNeeded 60 = .ok (.if_icmp .gt 72, 3) := by decide +kernel
theorem dX0_roundsNeeded_63 : decode cX0_roundsNeeded 63 = .ok (.aload_n 0, 1) := by decide +kernel
theorem dX0_roundsNeeded_64 : decode cX0_roundsNeeded 64 = .ok (.iload 7, 2) := by decide +kernel
theorem dX0_roundsNeeded_66 : decode cX0_roundsNeeded 66 = .ok (.ineg, 1) := by decide +kernel
theorem dX0_roundsNeeded_67 : decode cX0_roundsNeeded 67 = .ok (.iload_n 1, 1) := by decide +kernel
theorem dX0_roundsNeeded_68 : decode cX0_roundsNeeded 68 = .ok (.imul, 1) := by decide +kernel
theorem dX0_roundsNeeded_69 : decode cX0_roundsNeeded 69 = .ok (.iload 6, 2) := by decide +kernel
theorem dX0_roundsNeeded_71 : decode cX0_roundsNeeded 71 = .ok (.invokevirtual 87, 3) := by decide +kernel
theorem dX0_roundsNeeded_74 : decode cX0_roundsNeeded 74 = .ok (.lload 4, 2) := by decide +kernel
theorem dX0_roundsNeeded_76 : decode cX0_roundsNeeded 76 = .ok (.lcmp, 1) := by decide +kernel
theorem dX0_roundsNeeded_77 : decode cX0_roundsNeeded 77 = .ok (.ifCond .lt 6, 3) := by decide +kernel
theorem dX0_roundsNeeded_80 : decode cX0_roundsNeeded 80 = .ok (.iload 7, 2) := by decide +kernel
theorem dX0_roundsNeeded_82 : decode cX0_roundsNeeded 82 = .ok (.ireturn, 1) := by decide +kernel
theorem dX11_need_0 : decode cX11_need 0 = .ok (.iload_n 1, 1) := by decide +kernel
theorem dX11_need_1 : decode cX11_need 1 = .ok (.iconst 1, 1) := by decide +kernel
theorem dX11_need_2 : decode cX11_need 2 = .ok (.bipush 40, 2) := by decide +kernel
theorem dX11_need_4 : decode cX11_need 4 = .ok (.invokestatic 131, 3) := by decide +kernel
theorem dX11_need_7 : decode cX11_need 7 = .ok (.ifCond .eq 13, 3) := by decide +kernel
theorem dX11_need_10 : decode cX11_need 10 = .ok (.iload_n 2, 1) := by decide +kernel
theorem dX11_need_11 : decode cX11_need 11 = .ok (.iconst 1, 1) := by decide +kernel
theorem dX11_need_12 : decode cX11_need 12 = .ok (.bipush 100, 2) := by decide +kernel
theorem dX11_need_14 : decode cX11_need 14 = .ok (.invokestatic 131, 3) := by decide +kernel
theorem dX11_need_17 : decode cX11_need 17 = .ok (.ifCond .ne 5, 3) := by decide +kernel
theorem dX11_need_20 : decode cX11_need 20 = .ok (.iconst (-1), 1) := by decide +kernel
theorem dX11_need_21 : decode cX11_need 21 = .ok (.ireturn, 1) := by decide +kernel
theorem dX11_need_22 : decode cX11_need 22 = .ok (.aload_n 0, 1) := by decide +kernel
theorem dX11_need_23 : decode cX11_need 23 = .ok (.getfield 95, 3) := by decide +kernel
theorem dX11_need_26 : decode cX11_need 26 = .ok (.iload_n 1, 1) := by decide +kernel
theorem dX11_need_27 : decode cX11_need 27 = .ok (.iload_n 2, 1) := by decide +kernel
theorem dX11_need_28 : decode cX11_need 28 = .ok (.aload_n 0, 1) := by decide +kernel
theorem dX11_need_29 : decode cX11_need 29 = .ok (.getfield 41, 3) := by decide +kernel
theorem dX11_need_32 : decode cX11_need 32 = .ok (.invokevirtual 290, 3) := by decide +kernel
theorem dX11_need_35 : decode cX11_need 35 = .ok (.ireturn, 1) := by decide +kernel
def ind36 : Nat → Int64 := fun j => if j = 36 then 1 else 0
def lotM : Nat → Int64 := fun j => if j = 36 then 1000000 else 0
def onceM : Nat → Int64 := fun j => if j = 72 then 1000000 else 0
def apM : Nat → Int64 := fun j => if j = 2160 then 1000000 else 0
def vS : Nat → Int64 := fun i => if 2160 < i then 1000000 else 0
def kdv (i : Nat) (d : Int32) : Int32 := nI i - 2160 + 1 * d
theorem kdv_toInt {i : Nat} {d : Int32} (hi : i ≤ 4321) (h1 : 1 ≤ d.toInt) (h2 : d.toInt ≤ 40) : (kdv i d).toInt = (i : Int) - 2160 + d.toInt := by
  have e1 : (nI i).toInt = i := nI_toInt (by omega)
  have e2 : ((2160 : Int32)).toInt = 2160 := by decide
  have e3 : (1 : Int32) * d = d := Int32.one_mul d
  unfold kdv
  rw [e3, i_add (by rw [i_sub (by omega) (by omega)]; omega) (by rw [i_sub (by omega) (by omega)]; omega), i_sub (by omega) (by omega)]
  omega
theorem i_up {k : Nat} (hk : k ≤ 72) : nI 72 - nI k + (1 : Int32) = nI (73 - k) := by
  apply Int32.toInt_inj.mp
  have e1 := pk_sub_toInt (a := 72) (b := k) (by omega) (by omega)
  have e3 : ((1 : Int32)).toInt = 1 := by decide
  rw [i_add (by omega) (by omega), e1, e3, nI_toInt (by omega)]
  omega
theorem i_xy {i v : Nat} (hi : i ≤ 72) (hv : v ≤ 72) : nI i - nI v + (72 : Int32) = nI (i + 72 - v) := by
  apply Int32.toInt_inj.mp
  have e1 := pk_sub_toInt (a := i) (b := v) (by omega) (by omega)
  have e3 : ((72 : Int32)).toInt = 72 := by decide
  rw [i_add (by omega) (by omega), e1, e3, nI_toInt (by omega)]
  omega
theorem i_neg1 {x : Int32} (h : x.toInt < 0) (h2 : -100 < x.toInt) : (if (0 : Int32) < x + (1 : Int32) then x + (1 : Int32) else (0 : Int32)) = (0 : Int32) := by
  have e3 : ((1 : Int32)).toInt = 1 := by decide
  have e0 : ((0 : Int32)).toInt = 0 := by decide
  rw [if_neg]
  intro c
  have c1 := i_lt c
  rw [i_add (by omega) (by omega)] at c1
  omega
theorem i_m1 {d : Int32} (h1 : 1 ≤ d.toInt) (h2 : d.toInt ≤ 40) : ((-1 : Int32) * d).toInt = - d.toInt := by
  rw [Int32.toInt_mul]
  have e : ((-1 : Int32)).toInt = -1 := by decide
  rw [e, Int.bmod_eq_of_le (by omega) (by omega)]
  omega
theorem need_cmp {q : Int32} (h0 : 1 ≤ q.toInt) (h1 : q.toInt ≤ 100) : 0 ≤ (lg_cmp (1000000 : Int64) (q.toInt64 * (10000 : Int64))).toInt := by
  have e1 : q.toInt64.toInt = q.toInt := Int32.toInt_toInt64 q
  have e2 : ((10000 : Int64)).toInt = 10000 := by decide
  have e3 : ((1000000 : Int64)).toInt = 1000000 := by decide
  have e4 : (q.toInt64 * (10000 : Int64)).toInt = q.toInt * 10000 := by
    rw [Int64.toInt_mul, e1, e2]
    exact Int.bmod_eq_of_le (by omega) (by omega)
  have h : (q.toInt64 * (10000 : Int64)) ≤ (1000000 : Int64) := Int64.le_iff_toInt_le.mpr (by rw [e4, e3]; omega)
  have h5 := i_le ((lg_cmp_ge (1000000 : Int64) (q.toInt64 * (10000 : Int64))).mpr h)
  have e0 : ((0 : Int32)).toInt = 0 := by decide
  omega

set_option maxHeartbeats 4000000 in
set_option maxRecDepth 100000 in
theorem c_addDraw (l : Launch) (D : va_G) (cI cJ cZ cB : ClassId) (cO : ClassId) (y : Nat → Nat) (f : Nat → Int64) :
    CV l D [(cI, .int), (cJ, .long), (cZ, .boolean), (cB, .byte), (cO, .object "LuckLinks$World")] yX0_addDraw cX0_addDraw 4 ({ frames := 1, cells := 0, slots := 0, locals := 60 } : Room) [.ref (y 0), .int (0 : Int32)] [((y 0), .inr (0, [.ref (y 1), .ref (y 2), .ref (y 3), .ref (y 4), .ref (y 5), .ref (y 6), .long (0 : Int64), .int (0 : Int32), .ref (y 7)])), ((y 1), .inl (cJ, 73, .inr (.inl (ind36)))), ((y 2), .inl (cJ, 73, .inr (.inl (f))))] (fun (u : Unit) => (True)) (fun (_ : Unit) => [((y 0), .inr (0, [.ref (y 1), .ref (y 2), .ref (y 3), .ref (y 4), .ref (y 5), .ref (y 6), .long (0 : Int64), .int (0 : Int32), .ref (y 7)])), ((y 1), .inl (cJ, 73, .inr (.inl (ind36)))), ((y 2), .inl (cJ, 73, .inr (.inl (ind36))))]) := by
  intro sz
  refine body_of (y := yX0_addDraw) (cc := cX0_addDraw) (maxL := 4) (ret := none) (rm := ({ frames := 1, cells := 0, slots := 0, locals := 60 } : Room)) (wc := [((y 0), .inr (0, [.ref (y 1), .ref (y 2), .ref (y 3), .ref (y 4), .ref (y 5), .ref (y 6), .long (0 : Int64), .int (0 : Int32), .ref (y 7)])), ((y 1), .inl (cJ, 73, .inr (.inl (ind36)))), ((y 2), .inl (cJ, 73, .inr (.inl (f))))]) (tys := [(cI, .int), (cJ, .long), (cZ, .boolean), (cB, .byte), (cO, .object "LuckLinks$World")]) (D := D) (sz := sz) (own := RX0) (av := [.ref (y 0), .int (0 : Int32)]) (Qc := fun A => va_Qv (fun (u : Unit) => (True)) (fun u t => Aft D A ((fun (_ : Unit) => [((y 0), .inr (0, [.ref (y 1), .ref (y 2), .ref (y 3), .ref (y 4), .ref (y 5), .ref (y 6), .long (0 : Int64), .int (0 : Int32), .ref (y 7)])), ((y 1), .inl (cJ, 73, .inr (.inl (ind36)))), ((y 2), .inl (cJ, 73, .inr (.inl (ind36))))]) u) t) A) (by decide) rfl (Nat.le_of_ble_eq_true rfl) (fun p e s m below meth c A ls C hr hlk hin X hl => ?_)
  have hx := C.1
  have hb := C.2.1
  have hown := C.2.2.2.1
  have hts := C.2.2.2.2.1
  have hl : lv_has ls 4 [(0, .ref (y 0)), (1, .int (0 : Int32))] := hl
  show W p l e _ s m _ below meth c s.heap [] 0 0 (MQ below (va_Qv (fun (u : Unit) => (True)) (fun u t => Aft D A ((fun (_ : Unit) => [((y 0), .inr (0, [.ref (y 1), .ref (y 2), .ref (y 3), .ref (y 4), .ref (y 5), .ref (y 6), .long (0 : Int64), .int (0 : Int32), .ref (y 7)])), ((y 1), .inl (cJ, 73, .inr (.inl (ind36)))), ((y 2), .inl (cJ, 73, .inr (.inl (ind36))))]) u) t) A) ([.ref (y 0), .int (0 : Int32)] : List Value).toArray s 0 0 A) (F0 m 0 ls [])
  have X : Wd D A s [((y 0), .inr (0, [.ref (y 1), .ref (y 2), .ref (y 3), .ref (y 4), .ref (y 5), .ref (y 6), .long (0 : Int64), .int (0 : Int32), .ref (y 7)])), ((y 1), .inl (cJ, 73, .inr (.inl (ind36)))), ((y 2), .inl (cJ, 73, .inr (.inl (f))))] s.heap [] := X
  obtain ⟨H, locs, eH, eL⟩ : ∃ H locs, H = s.heap ∧ locs = ([] : List Loc) := ⟨_, _, rfl, rfl⟩
  rw [← eH, ← eL] at X ⊢
  clear eH eL
  refine lv_aload_n hx hb dX0_addDraw_0 rfl (lv_at hl 0 rfl) ?_
  refine x_get (own := RX0) (T := TX0) C X 0 rfl rfl 0 (by decide) k_8_15 rfl rfl (v := .ref (y 1)) rfl dX0_addDraw_1 ?_
  refine lv_iconst (v := (0 : Int32)) hx hb dX0_addDraw_4 (by decide) ?_
  refine lv_aload_n hx hb dX0_addDraw_5 rfl (lv_at hl 0 rfl) ?_
  refine x_get (own := RX0) (T := TX0) C X 0 rfl rfl 1 (by decide) k_8_16 rfl rfl (v := .ref (y 2)) rfl dX0_addDraw_6 ?_
  refine lv_iconst (v := (0 : Int32)) hx hb dX0_addDraw_9 (by decide) ?_
  refine lv_aload_n hx hb dX0_addDraw_10 rfl (lv_at hl 0 rfl) ?_
  refine x_get (own := RX0) (T := TX0) C X 0 rfl rfl 0 (by decide) k_8_15 rfl rfl (v := .ref (y 1)) rfl dX0_addDraw_11 ?_
  refine x_alen C X 1 1 rfl rfl (v := (73 : Int32)) (rfl) dX0_addDraw_14 ?_
  refine va_copyl (ty := .long) hx hb (by rw [C.2.2.1]; exact hl.1.symm) (own := RX0) hown (hts _ k_52_20) (hts _ k_52_21) (hts _ k_52_22) (hts _ k_52_23) C.2.2.2.2.2.1 X.1 X.2.1 X.2.2.1 1 2 1 1 rfl rfl rfl rfl rfl (by decide) (by decide) (by decide) (Nat.le_of_ble_eq_true rfl) (Nat.le_of_ble_eq_true rfl) (fun _ _ => rfl) (Nat.le_of_ble_eq_true rfl) (by decide) dX0_addDraw_15 (fun H locs a1 a2 a3 => ?_)
  have X : Wd D A s [((y 0), .inr (0, [.ref (y 1), .ref (y 2), .ref (y 3), .ref (y 4), .ref (y 5), .ref (y 6), .long (0 : Int64), .int (0 : Int32), .ref (y 7)])), ((y 1), .inl (cJ, 73, .inr (.inl (ind36)))), ((y 2), .inl (cJ, 73, .inr (.inl (va_cpy (ind36) (f) 0 0 73))))] H locs := ⟨a1, a2, a3, X.2.2.2⟩
  have X := x_cng X 2 rfl (arr_eql _ _ (g := ind36) (fun j h => by show va_cpy ind36 f 0 0 73 j = ind36 j; rw [pk_cpy_in (by omega) (by omega)]; simp))
  have X : Wd D A s [((y 0), .inr (0, [.ref (y 1), .ref (y 2), .ref (y 3), .ref (y 4), .ref (y 5), .ref (y 6), .long (0 : Int64), .int (0 : Int32), .ref (y 7)])), ((y 1), .inl (cJ, 73, .inr (.inl (ind36)))), ((y 2), .inl (cJ, 73, .inr (.inl (ind36))))] H locs := X
  refine lv_aload_n hx hb dX0_addDraw_18 rfl (lv_at hl 0 rfl) ?_
  refine x_get (own := RX0) (T := TX0) C X 0 rfl rfl 0 (by decide) k_8_15 rfl rfl (v := .ref (y 1)) rfl dX0_addDraw_19 ?_
  refine lv_lconst (v := (0 : Int64)) hx hb dX0_addDraw_22 (by decide) ?_
  refine x_cSv (own := RX0) (wr := [((y 0), .inr (0, [.ref (y 1), .ref (y 2), .ref (y 3), .ref (y 4), .ref (y 5), .ref (y 6), .long (0 : Int64), .int (0 : Int32), .ref (y 7)])), ((y 2), .inl (cJ, 73, .inr (.inl (ind36))))]) (As := [.ref (y 1), .long (0 : Int64)]) C X hl.1 (c_fillJ l D cI cJ cZ cB cO (y 1) 73 ind36 (0 : Int64) (by omega)) [1] [0, 2] ⟨rfl, rfl, by decide, by decide, by decide⟩ k_52_13 k_52_14 k_4_7 k_52_15 (n := 2) (by decide +kernel) ⟨Nat.le_of_ble_eq_true rfl, Nat.le_of_ble_eq_true rfl⟩ rfl rfl (Nat.le_of_ble_eq_true rfl) dX0_addDraw_23 ⟨Nat.le_of_ble_eq_true rfl, Nat.le_of_ble_eq_true rfl⟩ (fun u_1 H locs w_3 X => ?_)
  have X : Wd D A s [((y 0), .inr (0, [.ref (y 1), .ref (y 2), .ref (y 3), .ref (y 4), .ref (y 5), .ref (y 6), .long (0 : Int64), .int (0 : Int32), .ref (y 7)])), ((y 2), .inl (cJ, 73, .inr (.inl (ind36)))), ((y 1), .inl (cJ, 73, .inr (.inl (fun _ => (0 : Int64)))))] H locs := X
  refine W.widen (k := 0) (n := 0) (Nat.le_of_ble_eq_true rfl) (Nat.le_of_ble_eq_true rfl) ?_
  have X := x_cng X 2 rfl (arr_eql _ _ (g := fun j => if j < 0 then ind36 j else 0) (fun j h => by rw [if_neg (by omega)]))
  have X : Wd D A s [((y 0), .inr (0, [.ref (y 1), .ref (y 2), .ref (y 3), .ref (y 4), .ref (y 5), .ref (y 6), .long (0 : Int64), .int (0 : Int32), .ref (y 7)])), ((y 2), .inl (cJ, 73, .inr (.inl (ind36)))), ((y 1), .inl (cJ, 73, .inr (.inl (fun j => if j < 0 then ind36 j else 0))))] H locs := X
  refine lv_iconst (v := (0 : Int32)) hx hb dX0_addDraw_26 (by decide) ?_
  refine lv_istore_n (lv' := [(2, .int (0 : Int32)), (0, .ref (y 0)), (1, .int (0 : Int32))]) hx hb dX0_addDraw_27 rfl hl (by decide) rfl (fun ls hl => ?_)
  have L28 : ∀ (n : Nat) (i : Nat) (H : Heap) (locs : List Loc) (ls : Array Slot), (h1 : i ≤ 73) → 73 < i + n → Wd D A s [((y 0), .inr (0, [.ref (y 1), .ref (y 2), .ref (y 3), .ref (y 4), .ref (y 5), .ref (y 6), .long (0 : Int64), .int (0 : Int32), .ref (y 7)])), ((y 2), .inl (cJ, 73, .inr (.inl (ind36)))), ((y 1), .inl (cJ, 73, .inr (.inl (fun j => if j < i then ind36 j else 0))))] H locs → lv_has ls 4 [(2, .int (nI (i))), (0, .ref (y 0)), (1, .int (0 : Int32))] → W p l e ({ frames := 1, cells := 0, slots := 0, locals := 60 } : Room) s m ([.ref (y 0), .int (0 : Int32)] : List Value).toArray below meth c H locs 0 0 (MQ below (va_Qv (fun (u : Unit) => (True)) (fun u t => Aft D A ((fun (_ : Unit) => [((y 0), .inr (0, [.ref (y 1), .ref (y 2), .ref (y 3), .ref (y 4), .ref (y 5), .ref (y 6), .long (0 : Int64), .int (0 : Int32), .ref (y 7)])), ((y 1), .inl (cJ, 73, .inr (.inl (ind36)))), ((y 2), .inl (cJ, 73, .inr (.inl (ind36))))]) u) t) A) ([.ref (y 0), .int (0 : Int32)] : List Value).toArray s 0 0 A) (F0 m 28 ls []) := by
    intro n
    induction n with
    | zero => intro i H locs ls h1 hn; exact absurd hn (by omega)
    | succ n ih =>
      intro i H locs ls h1 hn X hl
      have ih28 := ih
      refine lv_iload_n hx hb dX0_addDraw_28 rfl (lv_at hl 0 rfl) ?_
      refine lv_aload_n hx hb dX0_addDraw_29 rfl (lv_at hl 1 rfl) ?_
      refine x_get (own := RX0) (T := TX0) C X 0 rfl rfl 0 (by decide) k_8_15 rfl rfl (v := .ref (y 1)) rfl dX0_addDraw_30 ?_
      refine x_alen C X 2 1 rfl rfl (v := (73 : Int32)) (rfl) dX0_addDraw_33 ?_
      refine lv_icmp_ge (tgt := 99) hx hb dX0_addDraw_34 (by decide) (fun c_4 => ?_) (fun c_4 => ?_)
      · have fc_4 : (73 : Int) ≤ ((i : Nat) : Int) := (by have h9 := i_le c_4; simp only [nI_toInt (n := i) (by omega)] at h9; exact h9)
        have X := x_cng X 2 rfl (arr_eql _ _ (g := ind36) (fun j h => by show (if j < i then ind36 j else 0) = ind36 j; exact if_pos (by omega)))
        have X : Wd D A s [((y 0), .inr (0, [.ref (y 1), .ref (y 2), .ref (y 3), .ref (y 4), .ref (y 5), .ref (y 6), .long (0 : Int64), .int (0 : Int32), .ref (y 7)])), ((y 2), .inl (cJ, 73, .inr (.inl (ind36)))), ((y 1), .inl (cJ, 73, .inr (.inl (ind36))))] H locs := X
        exact x_vret C X hr hlk (()) [0, 2, 1] (by decide) rfl (trivial) (Nat.le_of_ble_eq_true rfl) (Nat.le_of_ble_eq_true rfl) dX0_addDraw_99
      · have fc_4 : ((i : Nat) : Int) < (73 : Int) := (by have h9 := i_nle c_4; simp only [nI_toInt (n := i) (by omega)] at h9; exact h9)
        by_cases hs37 : i = 36
        · refine lv_aload_n hx hb dX0_addDraw_37 rfl (lv_at hl 1 rfl) ?_
          refine x_get (own := RX0) (T := TX0) C X 0 rfl rfl 1 (by decide) k_8_16 rfl rfl (v := .ref (y 2)) rfl dX0_addDraw_38 ?_
          refine lv_iload_n hx hb dX0_addDraw_41 rfl (lv_at hl 0 rfl) ?_
          refine x_lald C X 1 1 rfl rfl (j := i) (nI_clamp (by omega)) (vp_in_nI (by omega) (by omega)) (v := (1 : Int64)) (by unfold ind36; exact if_pos hs37) dX0_addDraw_42 ?_
          refine lv_lconst (v := (0 : Int64)) hx hb dX0_addDraw_43 (by decide) ?_
          refine W.lcmp hx hb dX0_addDraw_44 ?_
          refine x_eqi (show lg_cmp (1 : Int64) (0 : Int64) = (1 : Int32) by decide) ?_
          refine lv_if_le (tgt := 93) hx hb dX0_addDraw_45 (by decide) (fun c0 => absurd c0 (by decide)) (fun _ => ?_)
          refine lv_iconst (v := (0 : Int32)) hx hb dX0_addDraw_48 (by decide) ?_
          refine lv_iload_n hx hb dX0_addDraw_49 rfl (lv_at hl 0 rfl) ?_
          refine lv_iload_n hx hb dX0_addDraw_50 rfl (lv_at hl 2 rfl) ?_
          refine lv_isub hx hb dX0_addDraw_51 ?_
          refine x_eqi (show (nI (i)) - (0 : Int32) = (nI (i)) from Int32.sub_zero _) ?_
          refine va_mmax hx hb (by rw [C.2.2.1]; exact hl.1.symm) (own := RX0) hown (hts _ k_53_0) (hts _ k_33_6) (hts _ k_18_23) (hts _ k_33_7) (Nat.le_of_ble_eq_true rfl) (Nat.le_of_ble_eq_true rfl) (Nat.le_of_ble_eq_true rfl) (Nat.le_of_ble_eq_true rfl) dX0_addDraw_52 ?_
          refine x_eqi (show (if (0 : Int32) < (nI (i)) then (nI (i)) else (0 : Int32)) = (nI (i)) from by rw [hs37]; decide) ?_
          refine lv_istore_n (lv' := [(3, .int (nI (i))), (2, .int (nI (i))), (0, .ref (y 0)), (1, .int (0 : Int32))]) hx hb dX0_addDraw_55 rfl hl (by decide) rfl (fun ls hl => ?_)
          refine lv_iload_n hx hb dX0_addDraw_56 rfl (lv_at hl 0 rfl) ?_
          refine lv_iload_n hx hb dX0_addDraw_57 rfl (lv_at hl 1 rfl) ?_
          refine lv_iload_n hx hb dX0_addDraw_58 rfl (lv_at hl 3 rfl) ?_
          refine lv_iadd hx hb dX0_addDraw_59 ?_
          refine x_eqi (show (nI (i)) + (0 : Int32) = (nI (i)) from Int32.add_zero _) ?_
          refine lv_icmp_gt (tgt := 93) hx hb dX0_addDraw_60 (by decide) (fun c_5 => by exfalso; have h8 : ((i : Nat) : Int) < ((i : Nat) : Int) := (by have h9 := i_lt c_5; simp only [nI_toInt (n := i) (by omega)] at h9; exact h9); omega) (fun c_5 => ?_)
          have fc_5 : ((i : Nat) : Int) ≤ ((i : Nat) : Int) := (by have h9 := i_nlt c_5; simp only [nI_toInt (n := i) (by omega)] at h9; exact h9)
          refine lv_iload_n hx hb dX0_addDraw_63 rfl (lv_at hl 0 rfl) ?_
          refine lv_aload_n hx hb dX0_addDraw_64 rfl (lv_at hl 2 rfl) ?_
          refine x_get (own := RX0) (T := TX0) C X 0 rfl rfl 0 (by decide) k_8_15 rfl rfl (v := .ref (y 1)) rfl dX0_addDraw_65 ?_
          refine x_alen C X 2 1 rfl rfl (v := (73 : Int32)) (rfl) dX0_addDraw_68 ?_
          refine lv_icmp_ge (tgt := 93) hx hb dX0_addDraw_69 (by decide) (fun c_6 => by exfalso; have h8 : (73 : Int) ≤ ((i : Nat) : Int) := (by have h9 := i_le c_6; simp only [nI_toInt (n := i) (by omega)] at h9; exact h9); omega) (fun c_6 => ?_)
          have fc_6 : ((i : Nat) : Int) < (73 : Int) := (by have h9 := i_nle c_6; simp only [nI_toInt (n := i) (by omega)] at h9; exact h9)
          refine lv_aload_n hx hb dX0_addDraw_72 rfl (lv_at hl 2 rfl) ?_
          refine x_get (own := RX0) (T := TX0) C X 0 rfl rfl 0 (by decide) k_8_15 rfl rfl (v := .ref (y 1)) rfl dX0_addDraw_73 ?_
          refine lv_iload_n hx hb dX0_addDraw_76 rfl (lv_at hl 0 rfl) ?_
          refine lv_dup2_11 hx hb dX0_addDraw_77 rfl rfl ?_
          refine x_lald C X 2 1 rfl rfl (j := i) (nI_clamp (by omega)) (vp_in_nI (by omega) (by omega)) (v := (0 : Int64)) (by show (if i < i then ind36 i else 0) = 0; exact if_neg (by omega)) dX0_addDraw_78 ?_
          refine lv_aload_n hx hb dX0_addDraw_79 rfl (lv_at hl 2 rfl) ?_
          refine x_get (own := RX0) (T := TX0) C X 0 rfl rfl 1 (by decide) k_8_16 rfl rfl (v := .ref (y 2)) rfl dX0_addDraw_80 ?_
          refine lv_iload_n hx hb dX0_addDraw_83 rfl (lv_at hl 1 rfl) ?_
          refine x_lald C X 1 1 rfl rfl (j := i) (nI_clamp (by omega)) (vp_in_nI (by omega) (by omega)) (v := (1 : Int64)) (by unfold ind36; exact if_pos hs37) dX0_addDraw_84 ?_
          refine lv_ladd hx hb dX0_addDraw_85 ?_
          refine x_eql (show (0 : Int64) + (1 : Int64) = (1 : Int64) from by decide +kernel) ?_
          refine x_last C X 2 1 rfl rfl (j := i) (nI_clamp (by omega)) (vp_in_nI (by omega) (by omega)) dX0_addDraw_86 (fun H locs X => ?_)
          have X : Wd D A s [((y 0), .inr (0, [.ref (y 1), .ref (y 2), .ref (y 3), .ref (y 4), .ref (y 5), .ref (y 6), .long (0 : Int64), .int (0 : Int32), .ref (y 7)])), ((y 2), .inl (cJ, 73, .inr (.inl (ind36)))), ((y 1), .inl (cJ, 73, .inr (.inl (vp_updL (fun j => if j < i then ind36 j else 0) (i) ((1 : Int64))))))] H locs := X
          refine lv_iinc (v := (nI (i + 1))) (lv' := [(3, .int (nI (i + 1))), (2, .int (nI (i))), (0, .ref (y 0)), (1, .int (0 : Int32))]) hx hb dX0_addDraw_87 hl (k := 0) rfl (nI_add _ 1) (by decide) rfl (fun ls hl => ?_)
          refine lv_goto (tgt := 56) hx hb dX0_addDraw_90 (by decide) ?_
          refine lv_iload_n hx hb dX0_addDraw_56 rfl (lv_at hl 0 rfl) ?_
          refine lv_iload_n hx hb dX0_addDraw_57 rfl (lv_at hl 1 rfl) ?_
          refine lv_iload_n hx hb dX0_addDraw_58 rfl (lv_at hl 3 rfl) ?_
          refine lv_iadd hx hb dX0_addDraw_59 ?_
          refine x_eqi (show (nI (i)) + (0 : Int32) = (nI (i)) from Int32.add_zero _) ?_
          refine lv_icmp_gt (tgt := 93) hx hb dX0_addDraw_60 (by decide) (fun c_7 => ?_) (fun c_7 => by exfalso; have h8 : ((i + 1 : Nat) : Int) ≤ ((i : Nat) : Int) := (by have h9 := i_nlt c_7; simp only [nI_toInt (n := i) (by omega), nI_toInt (n := i + 1) (by omega)] at h9; exact h9); omega)
          have fc_7 : ((i : Nat) : Int) < ((i + 1 : Nat) : Int) := (by have h9 := i_lt c_7; simp only [nI_toInt (n := i) (by omega), nI_toInt (n := i + 1) (by omega)] at h9; exact h9)
          have X := x_cng X 2 rfl (arr_eql _ _ (g := fun j => if j < i + 1 then ind36 j else 0) (fun j h => by simp only [vp_updL, ind36]; (repeat' split); all_goals first | rfl | omega))
          have X : Wd D A s [((y 0), .inr (0, [.ref (y 1), .ref (y 2), .ref (y 3), .ref (y 4), .ref (y 5), .ref (y 6), .long (0 : Int64), .int (0 : Int32), .ref (y 7)])), ((y 2), .inl (cJ, 73, .inr (.inl (ind36)))), ((y 1), .inl (cJ, 73, .inr (.inl (fun j => if j < i + 1 then ind36 j else 0))))] H locs := X
          refine lv_iinc (v := (nI (i + 1))) (lv' := [(2, .int (nI (i + 1))), (3, .int (nI (i + 1))), (0, .ref (y 0)), (1, .int (0 : Int32))]) hx hb dX0_addDraw_93 hl (k := 1) rfl (nI_add _ 1) (by decide) rfl (fun ls hl => ?_)
          refine lv_goto (tgt := 28) hx hb dX0_addDraw_96 (by decide) ?_
          exact ih28  (i + 1) H locs ls (by omega) (by omega) (x_sub X [0, 1, 2] (by decide) rfl) (lv_sub hl [0, 2, 3] rfl)
        · refine lv_aload_n hx hb dX0_addDraw_37 rfl (lv_at hl 1 rfl) ?_
          refine x_get (own := RX0) (T := TX0) C X 0 rfl rfl 1 (by decide) k_8_16 rfl rfl (v := .ref (y 2)) rfl dX0_addDraw_38 ?_
          refine lv_iload_n hx hb dX0_addDraw_41 rfl (lv_at hl 0 rfl) ?_
          refine x_lald C X 1 1 rfl rfl (j := i) (nI_clamp (by omega)) (vp_in_nI (by omega) (by omega)) (v := (0 : Int64)) (by unfold ind36; exact if_neg hs37) dX0_addDraw_42 ?_
          refine lv_lconst (v := (0 : Int64)) hx hb dX0_addDraw_43 (by decide) ?_
          refine W.lcmp hx hb dX0_addDraw_44 ?_
          refine x_eqi (show lg_cmp (0 : Int64) (0 : Int64) = (0 : Int32) by decide) ?_
          refine lv_if_le (tgt := 93) hx hb dX0_addDraw_45 (by decide) (fun _ => ?_) (fun c0 => absurd (by decide) c0)
          have X := x_cng X 2 rfl (arr_eql _ _ (g := fun j => if j < i + 1 then ind36 j else 0) (fun j h => by simp only [vp_updL, ind36]; (repeat' split); all_goals first | rfl | omega))
          have X : Wd D A s [((y 0), .inr (0, [.ref (y 1), .ref (y 2), .ref (y 3), .ref (y 4), .ref (y 5), .ref (y 6), .long (0 : Int64), .int (0 : Int32), .ref (y 7)])), ((y 2), .inl (cJ, 73, .inr (.inl (ind36)))), ((y 1), .inl (cJ, 73, .inr (.inl (fun j => if j < i + 1 then ind36 j else 0))))] H locs := X
          refine lv_iinc (v := (nI (i + 1))) (lv' := [(2, .int (nI (i + 1))), (0, .ref (y 0)), (1, .int (0 : Int32))]) hx hb dX0_addDraw_93 hl (k := 0) rfl (nI_add _ 1) (by decide) rfl (fun ls hl => ?_)
          refine lv_goto (tgt := 28) hx hb dX0_addDraw_96 (by decide) ?_
          exact ih28  (i + 1) H locs ls (by omega) (by omega) (x_sub X [0, 1, 2] (by decide) rfl) (lv_sub hl [0, 1, 2] rfl)
  exact L28 (73 + 1) (0) H locs ls (by omega) (by omega) (x_sub X [0, 1, 2] (by decide) rfl) (lv_sub hl [0, 1, 2] rfl)
set_option maxHeartbeats 4000000 in
set_option maxRecDepth 100000 in
theorem c_fillLot (l : Launch) (D : va_G) (cI cJ cZ cB : ClassId) (cO : ClassId) (y g : Nat → Nat) :
    CV l D [(cI, .int), (cJ, .long), (cZ, .boolean), (cB, .byte), (cO, .object "LuckLinks$World")] yX0_fillLot cX0_fillLot 6 ({ frames := 2, cells := 0, slots := 0, locals := 83 } : Room) [.ref (y 0), .ref (g 0)] [((y 0), .inr (0, [.ref (y 1), .ref (y 2), .ref (y 3), .ref (y 4), .ref (y 5), .ref (y 6), .long (0 : Int64), .int (0 : Int32), .ref (y 7)])), ((y 1), .inl (cJ, 73, .inr (.inl (fun _ => (0 : Int64))))), ((y 2), .inl (cJ, 73, .inr (.inl (fun _ => (0 : Int64))))), ((y 3), .inl (cJ, 74, .inr (.inl (fun _ => (0 : Int64))))), ((g 0), .inr (3, [.int (0 : Int32), .ref (g 1), .ref (g 2), .ref (g 3), .ref (g 4), .ref (g 5), .ref (g 6), .ref (g 7), .int (0 : Int32), .ref (g 8), .ref (g 9), .ref (g 10), .int (0 : Int32), .ref (g 11), .ref (g 12), .ref (g 13), .ref (g 14), .int (0 : Int32), .ref (g 15)])), ((g 2), .inl (cI, 4, .inl (fun _ => (0 : Int32))))] (fun (u : Unit) => (True)) (fun (_ : Unit) => [((y 0), .inr (0, [.ref (y 1), .ref (y 2), .ref (y 3), .ref (y 4), .ref (y 5), .ref (y 6), .long (0 : Int64), .int (0 : Int32), .ref (y 7)])), ((y 1), .inl (cJ, 73, .inr (.inl (lotM))))]) := by
  intro sz
  refine body_of (y := yX0_fillLot) (cc := cX0_fillLot) (maxL := 6) (ret := none) (rm := ({ frames := 2, cells := 0, slots := 0, locals := 83 } : Room)) (wc := [((y 0), .inr (0, [.ref (y 1), .ref (y 2), .ref (y 3), .ref (y 4), .ref (y 5), .ref (y 6), .long (0 : Int64), .int (0 : Int32), .ref (y 7)])), ((y 1), .inl (cJ, 73, .inr (.inl (fun _ => (0 : Int64))))), ((y 2), .inl (cJ, 73, .inr (.inl (fun _ => (0 : Int64))))), ((y 3), .inl (cJ, 74, .inr (.inl (fun _ => (0 : Int64))))), ((g 0), .inr (3, [.int (0 : Int32), .ref (g 1), .ref (g 2), .ref (g 3), .ref (g 4), .ref (g 5), .ref (g 6), .ref (g 7), .int (0 : Int32), .ref (g 8), .ref (g 9), .ref (g 10), .int (0 : Int32), .ref (g 11), .ref (g 12), .ref (g 13), .ref (g 14), .int (0 : Int32), .ref (g 15)])), ((g 2), .inl (cI, 4, .inl (fun _ => (0 : Int32))))]) (tys := [(cI, .int), (cJ, .long), (cZ, .boolean), (cB, .byte), (cO, .object "LuckLinks$World")]) (D := D) (sz := sz) (own := RX0) (av := [.ref (y 0), .ref (g 0)]) (Qc := fun A => va_Qv (fun (u : Unit) => (True)) (fun u t => Aft D A ((fun (_ : Unit) => [((y 0), .inr (0, [.ref (y 1), .ref (y 2), .ref (y 3), .ref (y 4), .ref (y 5), .ref (y 6), .long (0 : Int64), .int (0 : Int32), .ref (y 7)])), ((y 1), .inl (cJ, 73, .inr (.inl (lotM))))]) u) t) A) (by decide) rfl (Nat.le_of_ble_eq_true rfl) (fun p e s m below meth c A ls C hr hlk hin X hl => ?_)
  have hx := C.1
  have hb := C.2.1
  have hown := C.2.2.2.1
  have hts := C.2.2.2.2.1
  have hl : lv_has ls 6 [(0, .ref (y 0)), (1, .ref (g 0))] := hl
  show W p l e _ s m _ below meth c s.heap [] 0 0 (MQ below (va_Qv (fun (u : Unit) => (True)) (fun u t => Aft D A ((fun (_ : Unit) => [((y 0), .inr (0, [.ref (y 1), .ref (y 2), .ref (y 3), .ref (y 4), .ref (y 5), .ref (y 6), .long (0 : Int64), .int (0 : Int32), .ref (y 7)])), ((y 1), .inl (cJ, 73, .inr (.inl (lotM))))]) u) t) A) ([.ref (y 0), .ref (g 0)] : List Value).toArray s 0 0 A) (F0 m 0 ls [])
  have X : Wd D A s [((y 0), .inr (0, [.ref (y 1), .ref (y 2), .ref (y 3), .ref (y 4), .ref (y 5), .ref (y 6), .long (0 : Int64), .int (0 : Int32), .ref (y 7)])), ((y 1), .inl (cJ, 73, .inr (.inl (fun _ => (0 : Int64))))), ((y 2), .inl (cJ, 73, .inr (.inl (fun _ => (0 : Int64))))), ((y 3), .inl (cJ, 74, .inr (.inl (fun _ => (0 : Int64))))), ((g 0), .inr (3, [.int (0 : Int32), .ref (g 1), .ref (g 2), .ref (g 3), .ref (g 4), .ref (g 5), .ref (g 6), .ref (g 7), .int (0 : Int32), .ref (g 8), .ref (g 9), .ref (g 10), .int (0 : Int32), .ref (g 11), .ref (g 12), .ref (g 13), .ref (g 14), .int (0 : Int32), .ref (g 15)])), ((g 2), .inl (cI, 4, .inl (fun _ => (0 : Int32))))] s.heap [] := X
  obtain ⟨H, locs, eH, eL⟩ : ∃ H locs, H = s.heap ∧ locs = ([] : List Loc) := ⟨_, _, rfl, rfl⟩
  rw [← eH, ← eL] at X ⊢
  clear eH eL
  refine lv_aload_n hx hb dX0_fillLot_0 rfl (lv_at hl 0 rfl) ?_
  refine x_get (own := RX0) (T := TX0) C X 0 rfl rfl 0 (by decide) k_8_15 rfl rfl (v := .ref (y 1)) rfl dX0_fillLot_1 ?_
  refine lv_lconst (v := (0 : Int64)) hx hb dX0_fillLot_4 (by decide) ?_
  refine x_cSv (own := RX0) (wr := [((y 0), .inr (0, [.ref (y 1), .ref (y 2), .ref (y 3), .ref (y 4), .ref (y 5), .ref (y 6), .long (0 : Int64), .int (0 : Int32), .ref (y 7)])), ((y 2), .inl (cJ, 73, .inr (.inl (fun _ => (0 : Int64))))), ((y 3), .inl (cJ, 74, .inr (.inl (fun _ => (0 : Int64))))), ((g 0), .inr (3, [.int (0 : Int32), .ref (g 1), .ref (g 2), .ref (g 3), .ref (g 4), .ref (g 5), .ref (g 6), .ref (g 7), .int (0 : Int32), .ref (g 8), .ref (g 9), .ref (g 10), .int (0 : Int32), .ref (g 11), .ref (g 12), .ref (g 13), .ref (g 14), .int (0 : Int32), .ref (g 15)])), ((g 2), .inl (cI, 4, .inl (fun _ => (0 : Int32))))]) (As := [.ref (y 1), .long (0 : Int64)]) C X hl.1 (c_fillJ l D cI cJ cZ cB cO (y 1) 73 (fun _ => (0 : Int64)) (0 : Int64) (by omega)) [1] [0, 2, 3, 4, 5] ⟨rfl, rfl, by decide, by decide, by decide⟩ k_52_13 k_52_14 k_4_7 k_52_15 (n := 2) (by decide +kernel) ⟨Nat.le_of_ble_eq_true rfl, Nat.le_of_ble_eq_true rfl⟩ rfl rfl (Nat.le_of_ble_eq_true rfl) dX0_fillLot_5 ⟨Nat.le_of_ble_eq_true rfl, Nat.le_of_ble_eq_true rfl⟩ (fun u_1 H locs w_3 X => ?_)
  have X : Wd D A s [((y 0), .inr (0, [.ref (y 1), .ref (y 2), .ref (y 3), .ref (y 4), .ref (y 5), .ref (y 6), .long (0 : Int64), .int (0 : Int32), .ref (y 7)])), ((y 2), .inl (cJ, 73, .inr (.inl (fun _ => (0 : Int64))))), ((y 3), .inl (cJ, 74, .inr (.inl (fun _ => (0 : Int64))))), ((g 0), .inr (3, [.int (0 : Int32), .ref (g 1), .ref (g 2), .ref (g 3), .ref (g 4), .ref (g 5), .ref (g 6), .ref (g 7), .int (0 : Int32), .ref (g 8), .ref (g 9), .ref (g 10), .int (0 : Int32), .ref (g 11), .ref (g 12), .ref (g 13), .ref (g 14), .int (0 : Int32), .ref (g 15)])), ((g 2), .inl (cI, 4, .inl (fun _ => (0 : Int32)))), ((y 1), .inl (cJ, 73, .inr (.inl (fun _ => (0 : Int64)))))] H locs := X
  refine W.widen (k := 0) (n := 0) (Nat.le_of_ble_eq_true rfl) (Nat.le_of_ble_eq_true rfl) ?_
  refine lv_aload_n hx hb dX0_fillLot_8 rfl (lv_at hl 0 rfl) ?_
  refine x_get (own := RX0) (T := TX0) C X 0 rfl rfl 0 (by decide) k_8_15 rfl rfl (v := .ref (y 1)) rfl dX0_fillLot_9 ?_
  refine lv_bipush (v := (36 : Int32)) hx hb dX0_fillLot_12 (by decide) ?_
  refine lv_lconst (v := (1 : Int64)) hx hb dX0_fillLot_14 (by decide) ?_
  refine x_last C X 5 1 rfl rfl (j := 36) rfl (vp_in_nI (n := 36) (by omega) (by omega)) dX0_fillLot_15 (fun H locs X => ?_)
  have X : Wd D A s [((y 0), .inr (0, [.ref (y 1), .ref (y 2), .ref (y 3), .ref (y 4), .ref (y 5), .ref (y 6), .long (0 : Int64), .int (0 : Int32), .ref (y 7)])), ((y 2), .inl (cJ, 73, .inr (.inl (fun _ => (0 : Int64))))), ((y 3), .inl (cJ, 74, .inr (.inl (fun _ => (0 : Int64))))), ((g 0), .inr (3, [.int (0 : Int32), .ref (g 1), .ref (g 2), .ref (g 3), .ref (g 4), .ref (g 5), .ref (g 6), .ref (g 7), .int (0 : Int32), .ref (g 8), .ref (g 9), .ref (g 10), .int (0 : Int32), .ref (g 11), .ref (g 12), .ref (g 13), .ref (g 14), .int (0 : Int32), .ref (g 15)])), ((g 2), .inl (cI, 4, .inl (fun _ => (0 : Int32)))), ((y 1), .inl (cJ, 73, .inr (.inl (vp_updL (fun _ => (0 : Int64)) (36) ((1 : Int64))))))] H locs := X
  have X := x_cng X 5 rfl (arr_eql _ _ (g := ind36) (fun j h => by simp only [vp_updL, ind36]))
  have X : Wd D A s [((y 0), .inr (0, [.ref (y 1), .ref (y 2), .ref (y 3), .ref (y 4), .ref (y 5), .ref (y 6), .long (0 : Int64), .int (0 : Int32), .ref (y 7)])), ((y 2), .inl (cJ, 73, .inr (.inl (fun _ => (0 : Int64))))), ((y 3), .inl (cJ, 74, .inr (.inl (fun _ => (0 : Int64))))), ((g 0), .inr (3, [.int (0 : Int32), .ref (g 1), .ref (g 2), .ref (g 3), .ref (g 4), .ref (g 5), .ref (g 6), .ref (g 7), .int (0 : Int32), .ref (g 8), .ref (g 9), .ref (g 10), .int (0 : Int32), .ref (g 11), .ref (g 12), .ref (g 13), .ref (g 14), .int (0 : Int32), .ref (g 15)])), ((g 2), .inl (cI, 4, .inl (fun _ => (0 : Int32)))), ((y 1), .inl (cJ, 73, .inr (.inl (ind36))))] H locs := X
  refine lv_aload_n hx hb dX0_fillLot_16 rfl (lv_at hl 0 rfl) ?_
  refine lv_iconst (v := (0 : Int32)) hx hb dX0_fillLot_17 (by decide) ?_
  refine x_put (own := RX0) (T := TX0) C X 0 rfl rfl 7 (by decide) k_8_22 rfl rfl rfl (ty := .int) (v := .int (0 : Int32)) (by decide +kernel) rfl rfl (Nat.le_of_ble_eq_true rfl) dX0_fillLot_18 (fun H locs X => ?_)
  have X : Wd D A s [((y 0), .inr (0, [.ref (y 1), .ref (y 2), .ref (y 3), .ref (y 4), .ref (y 5), .ref (y 6), .long (0 : Int64), .int (0 : Int32), .ref (y 7)])), ((y 2), .inl (cJ, 73, .inr (.inl (fun _ => (0 : Int64))))), ((y 3), .inl (cJ, 74, .inr (.inl (fun _ => (0 : Int64))))), ((g 0), .inr (3, [.int (0 : Int32), .ref (g 1), .ref (g 2), .ref (g 3), .ref (g 4), .ref (g 5), .ref (g 6), .ref (g 7), .int (0 : Int32), .ref (g 8), .ref (g 9), .ref (g 10), .int (0 : Int32), .ref (g 11), .ref (g 12), .ref (g 13), .ref (g 14), .int (0 : Int32), .ref (g 15)])), ((g 2), .inl (cI, 4, .inl (fun _ => (0 : Int32)))), ((y 1), .inl (cJ, 73, .inr (.inl (ind36))))] H locs := X
  refine lv_lconst (v := (1 : Int64)) hx hb dX0_fillLot_21 (by decide) ?_
  refine lv_lstore_n (lv' := [(2, .long (1 : Int64)), (0, .ref (y 0)), (1, .ref (g 0))]) hx hb dX0_fillLot_22 rfl hl (by decide) rfl (fun ls hl => ?_)
  refine lv_iconst (v := (0 : Int32)) hx hb dX0_fillLot_23 (by decide) ?_
  refine lv_istore (lv' := [(4, .int (0 : Int32)), (2, .long (1 : Int64)), (0, .ref (y 0)), (1, .ref (g 0))]) hx hb dX0_fillLot_24 hl (by decide) rfl (fun ls hl => ?_)
  refine lv_iload hx hb dX0_fillLot_26 (lv_at hl 0 rfl) ?_
  refine lv_iconst (v := (4 : Int32)) hx hb dX0_fillLot_28 (by decide) ?_
  refine lv_icmp_ge (tgt := 79) hx hb dX0_fillLot_29 (by decide) (fun c0 => absurd c0 (by decide)) (fun _ => ?_)
  refine lv_bipush (v := (9 : Int32)) hx hb dX0_fillLot_32 (by decide) ?_
  refine lv_aload_n hx hb dX0_fillLot_34 rfl (lv_at hl 3 rfl) ?_
  refine x_get (own := RX0) (T := TX3) C X 3 rfl rfl 2 (by decide) k_52_11 rfl rfl (v := .ref (g 2)) rfl dX0_fillLot_35 ?_
  refine lv_iload hx hb dX0_fillLot_38 (lv_at hl 0 rfl) ?_
  refine x_iald C X 4 0 rfl rfl (j := 0) rfl (vp_in_nI (n := 0) (by omega) (by omega)) (v := (0 : Int32)) (rfl) dX0_fillLot_40 ?_
  refine va_mmin hx hb (by rw [C.2.2.1]; exact hl.1.symm) (own := RX0) hown (hts _ k_52_12) (hts _ k_18_22) (hts _ k_18_23) (hts _ k_19_0) (Nat.le_of_ble_eq_true rfl) (Nat.le_of_ble_eq_true rfl) (Nat.le_of_ble_eq_true rfl) (Nat.le_of_ble_eq_true rfl) dX0_fillLot_41 ?_
  refine x_eqi (show (if (0 : Int32) < (9 : Int32) then (0 : Int32) else (9 : Int32)) = (0 : Int32) from by decide) ?_
  refine lv_istore (lv' := [(5, .int (0 : Int32)), (4, .int (0 : Int32)), (2, .long (1 : Int64)), (0, .ref (y 0)), (1, .ref (g 0))]) hx hb dX0_fillLot_44 hl (by decide) rfl (fun ls hl => ?_)
  refine lv_aload_n hx hb dX0_fillLot_46 rfl (lv_at hl 3 rfl) ?_
  refine lv_iload hx hb dX0_fillLot_47 (lv_at hl 0 rfl) ?_
  refine x_cVv (own := RX0) (wr := [((y 3), .inl (cJ, 74, .inr (.inl (fun _ => (0 : Int64))))), ((g 0), .inr (3, [.int (0 : Int32), .ref (g 1), .ref (g 2), .ref (g 3), .ref (g 4), .ref (g 5), .ref (g 6), .ref (g 7), .int (0 : Int32), .ref (g 8), .ref (g 9), .ref (g 10), .int (0 : Int32), .ref (g 11), .ref (g 12), .ref (g 13), .ref (g 14), .int (0 : Int32), .ref (g 15)])), ((g 2), .inl (cI, 4, .inl (fun _ => (0 : Int32))))]) (As := [.int (0 : Int32)]) C X hl.1 (c_addDraw l D cI cJ cZ cB cO y (fun _ => (0 : Int64))) [0, 5, 1] [2, 3, 4] ⟨rfl, rfl, by decide, by decide, by decide⟩ (qb := 0) rfl rfl k_52_16 k_52_17 k_52_18 k_3_7 k_52_19 (n := 1) (by decide +kernel) ⟨Nat.le_of_ble_eq_true rfl, Nat.le_of_ble_eq_true rfl⟩ rfl rfl (Nat.le_of_ble_eq_true rfl) dX0_fillLot_49 ⟨Nat.le_of_ble_eq_true rfl, Nat.le_of_ble_eq_true rfl⟩ (fun u_4 H locs w_6 X => ?_)
  have X : Wd D A s [((y 3), .inl (cJ, 74, .inr (.inl (fun _ => (0 : Int64))))), ((g 0), .inr (3, [.int (0 : Int32), .ref (g 1), .ref (g 2), .ref (g 3), .ref (g 4), .ref (g 5), .ref (g 6), .ref (g 7), .int (0 : Int32), .ref (g 8), .ref (g 9), .ref (g 10), .int (0 : Int32), .ref (g 11), .ref (g 12), .ref (g 13), .ref (g 14), .int (0 : Int32), .ref (g 15)])), ((g 2), .inl (cI, 4, .inl (fun _ => (0 : Int32)))), ((y 0), .inr (0, [.ref (y 1), .ref (y 2), .ref (y 3), .ref (y 4), .ref (y 5), .ref (y 6), .long (0 : Int64), .int (0 : Int32), .ref (y 7)])), ((y 1), .inl (cJ, 73, .inr (.inl (ind36)))), ((y 2), .inl (cJ, 73, .inr (.inl (ind36))))] H locs := X
  refine W.widen (k := 0) (n := 0) (Nat.le_of_ble_eq_true rfl) (Nat.le_of_ble_eq_true rfl) ?_
  refine lv_aload_n hx hb dX0_fillLot_52 rfl (lv_at hl 3 rfl) ?_
  refine lv_dup hx hb dX0_fillLot_53 rfl ?_
  refine x_get (own := RX0) (T := TX0) C X 3 rfl rfl 7 (by decide) k_8_22 rfl rfl (v := .int (0 : Int32)) rfl dX0_fillLot_54 ?_
  refine lv_iload hx hb dX0_fillLot_57 (lv_at hl 0 rfl) ?_
  refine lv_iadd hx hb dX0_fillLot_59 ?_
  refine x_eqi (show (0 : Int32) + (0 : Int32) = (0 : Int32) from by decide +kernel) ?_
  refine x_put (own := RX0) (T := TX0) C X 3 rfl rfl 7 (by decide) k_8_22 rfl rfl rfl (ty := .int) (v := .int (0 : Int32)) (by decide +kernel) rfl rfl (Nat.le_of_ble_eq_true rfl) dX0_fillLot_60 (fun H locs X => ?_)
  have X : Wd D A s [((y 3), .inl (cJ, 74, .inr (.inl (fun _ => (0 : Int64))))), ((g 0), .inr (3, [.int (0 : Int32), .ref (g 1), .ref (g 2), .ref (g 3), .ref (g 4), .ref (g 5), .ref (g 6), .ref (g 7), .int (0 : Int32), .ref (g 8), .ref (g 9), .ref (g 10), .int (0 : Int32), .ref (g 11), .ref (g 12), .ref (g 13), .ref (g 14), .int (0 : Int32), .ref (g 15)])), ((g 2), .inl (cI, 4, .inl (fun _ => (0 : Int32)))), ((y 0), .inr (0, [.ref (y 1), .ref (y 2), .ref (y 3), .ref (y 4), .ref (y 5), .ref (y 6), .long (0 : Int64), .int (0 : Int32), .ref (y 7)])), ((y 1), .inl (cJ, 73, .inr (.inl (ind36)))), ((y 2), .inl (cJ, 73, .inr (.inl (ind36))))] H locs := X
  refine lv_lload_n hx hb dX0_fillLot_63 rfl (lv_at hl 2 rfl) ?_
  refine lv_iconst (v := (2 : Int32)) hx hb dX0_fillLot_64 (by decide) ?_
  refine lv_iload hx hb dX0_fillLot_65 (lv_at hl 0 rfl) ?_
  refine lv_imul hx hb dX0_fillLot_67 ?_
  refine x_eqi (show (2 : Int32) * (0 : Int32) = (0 : Int32) from by decide +kernel) ?_
  refine lv_iconst (v := (1 : Int32)) hx hb dX0_fillLot_68 (by decide) ?_
  refine lv_iadd hx hb dX0_fillLot_69 ?_
  refine x_eqi (show (0 : Int32) + (1 : Int32) = (1 : Int32) from by decide +kernel) ?_
  refine lv_i2l (v := (1 : Int64)) hx hb dX0_fillLot_70 (by decide) ?_
  refine lv_lmul hx hb dX0_fillLot_71 ?_
  refine x_eql (show (1 : Int64) * (1 : Int64) = (1 : Int64) from by decide +kernel) ?_
  refine lv_lstore_n (lv' := [(2, .long (1 : Int64)), (5, .int (0 : Int32)), (4, .int (0 : Int32)), (0, .ref (y 0)), (1, .ref (g 0))]) hx hb dX0_fillLot_72 rfl hl (by decide) rfl (fun ls hl => ?_)
  refine lv_iinc (v := (1 : Int32)) (lv' := [(4, .int (1 : Int32)), (2, .long (1 : Int64)), (5, .int (0 : Int32)), (0, .ref (y 0)), (1, .ref (g 0))]) hx hb dX0_fillLot_73 hl (k := 2) rfl (by decide) (by decide) rfl (fun ls hl => ?_)
  refine lv_goto (tgt := 26) hx hb dX0_fillLot_76 (by decide) ?_
  refine lv_iload hx hb dX0_fillLot_26 (lv_at hl 0 rfl) ?_
  refine lv_iconst (v := (4 : Int32)) hx hb dX0_fillLot_28 (by decide) ?_
  refine lv_icmp_ge (tgt := 79) hx hb dX0_fillLot_29 (by decide) (fun c0 => absurd c0 (by decide)) (fun _ => ?_)
  refine lv_bipush (v := (9 : Int32)) hx hb dX0_fillLot_32 (by decide) ?_
  refine lv_aload_n hx hb dX0_fillLot_34 rfl (lv_at hl 4 rfl) ?_
  refine x_get (own := RX0) (T := TX3) C X 1 rfl rfl 2 (by decide) k_52_11 rfl rfl (v := .ref (g 2)) rfl dX0_fillLot_35 ?_
  refine lv_iload hx hb dX0_fillLot_38 (lv_at hl 0 rfl) ?_
  refine x_iald C X 2 0 rfl rfl (j := 1) rfl (vp_in_nI (n := 1) (by omega) (by omega)) (v := (0 : Int32)) (rfl) dX0_fillLot_40 ?_
  refine va_mmin hx hb (by rw [C.2.2.1]; exact hl.1.symm) (own := RX0) hown (hts _ k_52_12) (hts _ k_18_22) (hts _ k_18_23) (hts _ k_19_0) (Nat.le_of_ble_eq_true rfl) (Nat.le_of_ble_eq_true rfl) (Nat.le_of_ble_eq_true rfl) (Nat.le_of_ble_eq_true rfl) dX0_fillLot_41 ?_
  refine x_eqi (show (if (0 : Int32) < (9 : Int32) then (0 : Int32) else (9 : Int32)) = (0 : Int32) from by decide) ?_
  refine lv_istore (lv' := [(5, .int (0 : Int32)), (4, .int (1 : Int32)), (2, .long (1 : Int64)), (0, .ref (y 0)), (1, .ref (g 0))]) hx hb dX0_fillLot_44 hl (by decide) rfl (fun ls hl => ?_)
  refine lv_aload_n hx hb dX0_fillLot_46 rfl (lv_at hl 3 rfl) ?_
  refine lv_iload hx hb dX0_fillLot_47 (lv_at hl 0 rfl) ?_
  refine x_cVv (own := RX0) (wr := [((y 3), .inl (cJ, 74, .inr (.inl (fun _ => (0 : Int64))))), ((g 0), .inr (3, [.int (0 : Int32), .ref (g 1), .ref (g 2), .ref (g 3), .ref (g 4), .ref (g 5), .ref (g 6), .ref (g 7), .int (0 : Int32), .ref (g 8), .ref (g 9), .ref (g 10), .int (0 : Int32), .ref (g 11), .ref (g 12), .ref (g 13), .ref (g 14), .int (0 : Int32), .ref (g 15)])), ((g 2), .inl (cI, 4, .inl (fun _ => (0 : Int32))))]) (As := [.int (0 : Int32)]) C X hl.1 (c_addDraw l D cI cJ cZ cB cO y (ind36)) [3, 4, 5] [0, 1, 2] ⟨rfl, rfl, by decide, by decide, by decide⟩ (qb := 0) rfl rfl k_52_16 k_52_17 k_52_18 k_3_7 k_52_19 (n := 1) (by decide +kernel) ⟨Nat.le_of_ble_eq_true rfl, Nat.le_of_ble_eq_true rfl⟩ rfl rfl (Nat.le_of_ble_eq_true rfl) dX0_fillLot_49 ⟨Nat.le_of_ble_eq_true rfl, Nat.le_of_ble_eq_true rfl⟩ (fun u_7 H locs w_9 X => ?_)
  have X : Wd D A s [((y 3), .inl (cJ, 74, .inr (.inl (fun _ => (0 : Int64))))), ((g 0), .inr (3, [.int (0 : Int32), .ref (g 1), .ref (g 2), .ref (g 3), .ref (g 4), .ref (g 5), .ref (g 6), .ref (g 7), .int (0 : Int32), .ref (g 8), .ref (g 9), .ref (g 10), .int (0 : Int32), .ref (g 11), .ref (g 12), .ref (g 13), .ref (g 14), .int (0 : Int32), .ref (g 15)])), ((g 2), .inl (cI, 4, .inl (fun _ => (0 : Int32)))), ((y 0), .inr (0, [.ref (y 1), .ref (y 2), .ref (y 3), .ref (y 4), .ref (y 5), .ref (y 6), .long (0 : Int64), .int (0 : Int32), .ref (y 7)])), ((y 1), .inl (cJ, 73, .inr (.inl (ind36)))), ((y 2), .inl (cJ, 73, .inr (.inl (ind36))))] H locs := X
  refine W.widen (k := 0) (n := 0) (Nat.le_of_ble_eq_true rfl) (Nat.le_of_ble_eq_true rfl) ?_
  refine lv_aload_n hx hb dX0_fillLot_52 rfl (lv_at hl 3 rfl) ?_
  refine lv_dup hx hb dX0_fillLot_53 rfl ?_
  refine x_get (own := RX0) (T := TX0) C X 3 rfl rfl 7 (by decide) k_8_22 rfl rfl (v := .int (0 : Int32)) rfl dX0_fillLot_54 ?_
  refine lv_iload hx hb dX0_fillLot_57 (lv_at hl 0 rfl) ?_
  refine lv_iadd hx hb dX0_fillLot_59 ?_
  refine x_eqi (show (0 : Int32) + (0 : Int32) = (0 : Int32) from by decide +kernel) ?_
  refine x_put (own := RX0) (T := TX0) C X 3 rfl rfl 7 (by decide) k_8_22 rfl rfl rfl (ty := .int) (v := .int (0 : Int32)) (by decide +kernel) rfl rfl (Nat.le_of_ble_eq_true rfl) dX0_fillLot_60 (fun H locs X => ?_)
  have X : Wd D A s [((y 3), .inl (cJ, 74, .inr (.inl (fun _ => (0 : Int64))))), ((g 0), .inr (3, [.int (0 : Int32), .ref (g 1), .ref (g 2), .ref (g 3), .ref (g 4), .ref (g 5), .ref (g 6), .ref (g 7), .int (0 : Int32), .ref (g 8), .ref (g 9), .ref (g 10), .int (0 : Int32), .ref (g 11), .ref (g 12), .ref (g 13), .ref (g 14), .int (0 : Int32), .ref (g 15)])), ((g 2), .inl (cI, 4, .inl (fun _ => (0 : Int32)))), ((y 0), .inr (0, [.ref (y 1), .ref (y 2), .ref (y 3), .ref (y 4), .ref (y 5), .ref (y 6), .long (0 : Int64), .int (0 : Int32), .ref (y 7)])), ((y 1), .inl (cJ, 73, .inr (.inl (ind36)))), ((y 2), .inl (cJ, 73, .inr (.inl (ind36))))] H locs := X
  refine lv_lload_n hx hb dX0_fillLot_63 rfl (lv_at hl 2 rfl) ?_
  refine lv_iconst (v := (2 : Int32)) hx hb dX0_fillLot_64 (by decide) ?_
  refine lv_iload hx hb dX0_fillLot_65 (lv_at hl 0 rfl) ?_
  refine lv_imul hx hb dX0_fillLot_67 ?_
  refine x_eqi (show (2 : Int32) * (0 : Int32) = (0 : Int32) from by decide +kernel) ?_
  refine lv_iconst (v := (1 : Int32)) hx hb dX0_fillLot_68 (by decide) ?_
  refine lv_iadd hx hb dX0_fillLot_69 ?_
  refine x_eqi (show (0 : Int32) + (1 : Int32) = (1 : Int32) from by decide +kernel) ?_
  refine lv_i2l (v := (1 : Int64)) hx hb dX0_fillLot_70 (by decide) ?_
  refine lv_lmul hx hb dX0_fillLot_71 ?_
  refine x_eql (show (1 : Int64) * (1 : Int64) = (1 : Int64) from by decide +kernel) ?_
  refine lv_lstore_n (lv' := [(2, .long (1 : Int64)), (5, .int (0 : Int32)), (4, .int (1 : Int32)), (0, .ref (y 0)), (1, .ref (g 0))]) hx hb dX0_fillLot_72 rfl hl (by decide) rfl (fun ls hl => ?_)
  refine lv_iinc (v := (2 : Int32)) (lv' := [(4, .int (2 : Int32)), (2, .long (1 : Int64)), (5, .int (0 : Int32)), (0, .ref (y 0)), (1, .ref (g 0))]) hx hb dX0_fillLot_73 hl (k := 2) rfl (by decide) (by decide) rfl (fun ls hl => ?_)
  refine lv_goto (tgt := 26) hx hb dX0_fillLot_76 (by decide) ?_
  refine lv_iload hx hb dX0_fillLot_26 (lv_at hl 0 rfl) ?_
  refine lv_iconst (v := (4 : Int32)) hx hb dX0_fillLot_28 (by decide) ?_
  refine lv_icmp_ge (tgt := 79) hx hb dX0_fillLot_29 (by decide) (fun c0 => absurd c0 (by decide)) (fun _ => ?_)
  refine lv_bipush (v := (9 : Int32)) hx hb dX0_fillLot_32 (by decide) ?_
  refine lv_aload_n hx hb dX0_fillLot_34 rfl (lv_at hl 4 rfl) ?_
  refine x_get (own := RX0) (T := TX3) C X 1 rfl rfl 2 (by decide) k_52_11 rfl rfl (v := .ref (g 2)) rfl dX0_fillLot_35 ?_
  refine lv_iload hx hb dX0_fillLot_38 (lv_at hl 0 rfl) ?_
  refine x_iald C X 2 0 rfl rfl (j := 2) rfl (vp_in_nI (n := 2) (by omega) (by omega)) (v := (0 : Int32)) (rfl) dX0_fillLot_40 ?_
  refine va_mmin hx hb (by rw [C.2.2.1]; exact hl.1.symm) (own := RX0) hown (hts _ k_52_12) (hts _ k_18_22) (hts _ k_18_23) (hts _ k_19_0) (Nat.le_of_ble_eq_true rfl) (Nat.le_of_ble_eq_true rfl) (Nat.le_of_ble_eq_true rfl) (Nat.le_of_ble_eq_true rfl) dX0_fillLot_41 ?_
  refine x_eqi (show (if (0 : Int32) < (9 : Int32) then (0 : Int32) else (9 : Int32)) = (0 : Int32) from by decide) ?_
  refine lv_istore (lv' := [(5, .int (0 : Int32)), (4, .int (2 : Int32)), (2, .long (1 : Int64)), (0, .ref (y 0)), (1, .ref (g 0))]) hx hb dX0_fillLot_44 hl (by decide) rfl (fun ls hl => ?_)
  refine lv_aload_n hx hb dX0_fillLot_46 rfl (lv_at hl 3 rfl) ?_
  refine lv_iload hx hb dX0_fillLot_47 (lv_at hl 0 rfl) ?_
  refine x_cVv (own := RX0) (wr := [((y 3), .inl (cJ, 74, .inr (.inl (fun _ => (0 : Int64))))), ((g 0), .inr (3, [.int (0 : Int32), .ref (g 1), .ref (g 2), .ref (g 3), .ref (g 4), .ref (g 5), .ref (g 6), .ref (g 7), .int (0 : Int32), .ref (g 8), .ref (g 9), .ref (g 10), .int (0 : Int32), .ref (g 11), .ref (g 12), .ref (g 13), .ref (g 14), .int (0 : Int32), .ref (g 15)])), ((g 2), .inl (cI, 4, .inl (fun _ => (0 : Int32))))]) (As := [.int (0 : Int32)]) C X hl.1 (c_addDraw l D cI cJ cZ cB cO y (ind36)) [3, 4, 5] [0, 1, 2] ⟨rfl, rfl, by decide, by decide, by decide⟩ (qb := 0) rfl rfl k_52_16 k_52_17 k_52_18 k_3_7 k_52_19 (n := 1) (by decide +kernel) ⟨Nat.le_of_ble_eq_true rfl, Nat.le_of_ble_eq_true rfl⟩ rfl rfl (Nat.le_of_ble_eq_true rfl) dX0_fillLot_49 ⟨Nat.le_of_ble_eq_true rfl, Nat.le_of_ble_eq_true rfl⟩ (fun u_10 H locs w_12 X => ?_)
  have X : Wd D A s [((y 3), .inl (cJ, 74, .inr (.inl (fun _ => (0 : Int64))))), ((g 0), .inr (3, [.int (0 : Int32), .ref (g 1), .ref (g 2), .ref (g 3), .ref (g 4), .ref (g 5), .ref (g 6), .ref (g 7), .int (0 : Int32), .ref (g 8), .ref (g 9), .ref (g 10), .int (0 : Int32), .ref (g 11), .ref (g 12), .ref (g 13), .ref (g 14), .int (0 : Int32), .ref (g 15)])), ((g 2), .inl (cI, 4, .inl (fun _ => (0 : Int32)))), ((y 0), .inr (0, [.ref (y 1), .ref (y 2), .ref (y 3), .ref (y 4), .ref (y 5), .ref (y 6), .long (0 : Int64), .int (0 : Int32), .ref (y 7)])), ((y 1), .inl (cJ, 73, .inr (.inl (ind36)))), ((y 2), .inl (cJ, 73, .inr (.inl (ind36))))] H locs := X
  refine W.widen (k := 0) (n := 0) (Nat.le_of_ble_eq_true rfl) (Nat.le_of_ble_eq_true rfl) ?_
  refine lv_aload_n hx hb dX0_fillLot_52 rfl (lv_at hl 3 rfl) ?_
  refine lv_dup hx hb dX0_fillLot_53 rfl ?_
  refine x_get (own := RX0) (T := TX0) C X 3 rfl rfl 7 (by decide) k_8_22 rfl rfl (v := .int (0 : Int32)) rfl dX0_fillLot_54 ?_
  refine lv_iload hx hb dX0_fillLot_57 (lv_at hl 0 rfl) ?_
  refine lv_iadd hx hb dX0_fillLot_59 ?_
  refine x_eqi (show (0 : Int32) + (0 : Int32) = (0 : Int32) from by decide +kernel) ?_
  refine x_put (own := RX0) (T := TX0) C X 3 rfl rfl 7 (by decide) k_8_22 rfl rfl rfl (ty := .int) (v := .int (0 : Int32)) (by decide +kernel) rfl rfl (Nat.le_of_ble_eq_true rfl) dX0_fillLot_60 (fun H locs X => ?_)
  have X : Wd D A s [((y 3), .inl (cJ, 74, .inr (.inl (fun _ => (0 : Int64))))), ((g 0), .inr (3, [.int (0 : Int32), .ref (g 1), .ref (g 2), .ref (g 3), .ref (g 4), .ref (g 5), .ref (g 6), .ref (g 7), .int (0 : Int32), .ref (g 8), .ref (g 9), .ref (g 10), .int (0 : Int32), .ref (g 11), .ref (g 12), .ref (g 13), .ref (g 14), .int (0 : Int32), .ref (g 15)])), ((g 2), .inl (cI, 4, .inl (fun _ => (0 : Int32)))), ((y 0), .inr (0, [.ref (y 1), .ref (y 2), .ref (y 3), .ref (y 4), .ref (y 5), .ref (y 6), .long (0 : Int64), .int (0 : Int32), .ref (y 7)])), ((y 1), .inl (cJ, 73, .inr (.inl (ind36)))), ((y 2), .inl (cJ, 73, .inr (.inl (ind36))))] H locs := X
  refine lv_lload_n hx hb dX0_fillLot_63 rfl (lv_at hl 2 rfl) ?_
  refine lv_iconst (v := (2 : Int32)) hx hb dX0_fillLot_64 (by decide) ?_
  refine lv_iload hx hb dX0_fillLot_65 (lv_at hl 0 rfl) ?_
  refine lv_imul hx hb dX0_fillLot_67 ?_
  refine x_eqi (show (2 : Int32) * (0 : Int32) = (0 : Int32) from by decide +kernel) ?_
  refine lv_iconst (v := (1 : Int32)) hx hb dX0_fillLot_68 (by decide) ?_
  refine lv_iadd hx hb dX0_fillLot_69 ?_
  refine x_eqi (show (0 : Int32) + (1 : Int32) = (1 : Int32) from by decide +kernel) ?_
  refine lv_i2l (v := (1 : Int64)) hx hb dX0_fillLot_70 (by decide) ?_
  refine lv_lmul hx hb dX0_fillLot_71 ?_
  refine x_eql (show (1 : Int64) * (1 : Int64) = (1 : Int64) from by decide +kernel) ?_
  refine lv_lstore_n (lv' := [(2, .long (1 : Int64)), (5, .int (0 : Int32)), (4, .int (2 : Int32)), (0, .ref (y 0)), (1, .ref (g 0))]) hx hb dX0_fillLot_72 rfl hl (by decide) rfl (fun ls hl => ?_)
  refine lv_iinc (v := (3 : Int32)) (lv' := [(4, .int (3 : Int32)), (2, .long (1 : Int64)), (5, .int (0 : Int32)), (0, .ref (y 0)), (1, .ref (g 0))]) hx hb dX0_fillLot_73 hl (k := 2) rfl (by decide) (by decide) rfl (fun ls hl => ?_)
  refine lv_goto (tgt := 26) hx hb dX0_fillLot_76 (by decide) ?_
  refine lv_iload hx hb dX0_fillLot_26 (lv_at hl 0 rfl) ?_
  refine lv_iconst (v := (4 : Int32)) hx hb dX0_fillLot_28 (by decide) ?_
  refine lv_icmp_ge (tgt := 79) hx hb dX0_fillLot_29 (by decide) (fun c0 => absurd c0 (by decide)) (fun _ => ?_)
  refine lv_bipush (v := (9 : Int32)) hx hb dX0_fillLot_32 (by decide) ?_
  refine lv_aload_n hx hb dX0_fillLot_34 rfl (lv_at hl 4 rfl) ?_
  refine x_get (own := RX0) (T := TX3) C X 1 rfl rfl 2 (by decide) k_52_11 rfl rfl (v := .ref (g 2)) rfl dX0_fillLot_35 ?_
  refine lv_iload hx hb dX0_fillLot_38 (lv_at hl 0 rfl) ?_
  refine x_iald C X 2 0 rfl rfl (j := 3) rfl (vp_in_nI (n := 3) (by omega) (by omega)) (v := (0 : Int32)) (rfl) dX0_fillLot_40 ?_
  refine va_mmin hx hb (by rw [C.2.2.1]; exact hl.1.symm) (own := RX0) hown (hts _ k_52_12) (hts _ k_18_22) (hts _ k_18_23) (hts _ k_19_0) (Nat.le_of_ble_eq_true rfl) (Nat.le_of_ble_eq_true rfl) (Nat.le_of_ble_eq_true rfl) (Nat.le_of_ble_eq_true rfl) dX0_fillLot_41 ?_
  refine x_eqi (show (if (0 : Int32) < (9 : Int32) then (0 : Int32) else (9 : Int32)) = (0 : Int32) from by decide) ?_
  refine lv_istore (lv' := [(5, .int (0 : Int32)), (4, .int (3 : Int32)), (2, .long (1 : Int64)), (0, .ref (y 0)), (1, .ref (g 0))]) hx hb dX0_fillLot_44 hl (by decide) rfl (fun ls hl => ?_)
  refine lv_aload_n hx hb dX0_fillLot_46 rfl (lv_at hl 3 rfl) ?_
  refine lv_iload hx hb dX0_fillLot_47 (lv_at hl 0 rfl) ?_
  refine x_cVv (own := RX0) (wr := [((y 3), .inl (cJ, 74, .inr (.inl (fun _ => (0 : Int64))))), ((g 0), .inr (3, [.int (0 : Int32), .ref (g 1), .ref (g 2), .ref (g 3), .ref (g 4), .ref (g 5), .ref (g 6), .ref (g 7), .int (0 : Int32), .ref (g 8), .ref (g 9), .ref (g 10), .int (0 : Int32), .ref (g 11), .ref (g 12), .ref (g 13), .ref (g 14), .int (0 : Int32), .ref (g 15)])), ((g 2), .inl (cI, 4, .inl (fun _ => (0 : Int32))))]) (As := [.int (0 : Int32)]) C X hl.1 (c_addDraw l D cI cJ cZ cB cO y (ind36)) [3, 4, 5] [0, 1, 2] ⟨rfl, rfl, by decide, by decide, by decide⟩ (qb := 0) rfl rfl k_52_16 k_52_17 k_52_18 k_3_7 k_52_19 (n := 1) (by decide +kernel) ⟨Nat.le_of_ble_eq_true rfl, Nat.le_of_ble_eq_true rfl⟩ rfl rfl (Nat.le_of_ble_eq_true rfl) dX0_fillLot_49 ⟨Nat.le_of_ble_eq_true rfl, Nat.le_of_ble_eq_true rfl⟩ (fun u_13 H locs w_15 X => ?_)
  have X : Wd D A s [((y 3), .inl (cJ, 74, .inr (.inl (fun _ => (0 : Int64))))), ((g 0), .inr (3, [.int (0 : Int32), .ref (g 1), .ref (g 2), .ref (g 3), .ref (g 4), .ref (g 5), .ref (g 6), .ref (g 7), .int (0 : Int32), .ref (g 8), .ref (g 9), .ref (g 10), .int (0 : Int32), .ref (g 11), .ref (g 12), .ref (g 13), .ref (g 14), .int (0 : Int32), .ref (g 15)])), ((g 2), .inl (cI, 4, .inl (fun _ => (0 : Int32)))), ((y 0), .inr (0, [.ref (y 1), .ref (y 2), .ref (y 3), .ref (y 4), .ref (y 5), .ref (y 6), .long (0 : Int64), .int (0 : Int32), .ref (y 7)])), ((y 1), .inl (cJ, 73, .inr (.inl (ind36)))), ((y 2), .inl (cJ, 73, .inr (.inl (ind36))))] H locs := X
  refine W.widen (k := 0) (n := 0) (Nat.le_of_ble_eq_true rfl) (Nat.le_of_ble_eq_true rfl) ?_
  refine lv_aload_n hx hb dX0_fillLot_52 rfl (lv_at hl 3 rfl) ?_
  refine lv_dup hx hb dX0_fillLot_53 rfl ?_
  refine x_get (own := RX0) (T := TX0) C X 3 rfl rfl 7 (by decide) k_8_22 rfl rfl (v := .int (0 : Int32)) rfl dX0_fillLot_54 ?_
  refine lv_iload hx hb dX0_fillLot_57 (lv_at hl 0 rfl) ?_
  refine lv_iadd hx hb dX0_fillLot_59 ?_
  refine x_eqi (show (0 : Int32) + (0 : Int32) = (0 : Int32) from by decide +kernel) ?_
  refine x_put (own := RX0) (T := TX0) C X 3 rfl rfl 7 (by decide) k_8_22 rfl rfl rfl (ty := .int) (v := .int (0 : Int32)) (by decide +kernel) rfl rfl (Nat.le_of_ble_eq_true rfl) dX0_fillLot_60 (fun H locs X => ?_)
  have X : Wd D A s [((y 3), .inl (cJ, 74, .inr (.inl (fun _ => (0 : Int64))))), ((g 0), .inr (3, [.int (0 : Int32), .ref (g 1), .ref (g 2), .ref (g 3), .ref (g 4), .ref (g 5), .ref (g 6), .ref (g 7), .int (0 : Int32), .ref (g 8), .ref (g 9), .ref (g 10), .int (0 : Int32), .ref (g 11), .ref (g 12), .ref (g 13), .ref (g 14), .int (0 : Int32), .ref (g 15)])), ((g 2), .inl (cI, 4, .inl (fun _ => (0 : Int32)))), ((y 0), .inr (0, [.ref (y 1), .ref (y 2), .ref (y 3), .ref (y 4), .ref (y 5), .ref (y 6), .long (0 : Int64), .int (0 : Int32), .ref (y 7)])), ((y 1), .inl (cJ, 73, .inr (.inl (ind36)))), ((y 2), .inl (cJ, 73, .inr (.inl (ind36))))] H locs := X
  refine lv_lload_n hx hb dX0_fillLot_63 rfl (lv_at hl 2 rfl) ?_
  refine lv_iconst (v := (2 : Int32)) hx hb dX0_fillLot_64 (by decide) ?_
  refine lv_iload hx hb dX0_fillLot_65 (lv_at hl 0 rfl) ?_
  refine lv_imul hx hb dX0_fillLot_67 ?_
  refine x_eqi (show (2 : Int32) * (0 : Int32) = (0 : Int32) from by decide +kernel) ?_
  refine lv_iconst (v := (1 : Int32)) hx hb dX0_fillLot_68 (by decide) ?_
  refine lv_iadd hx hb dX0_fillLot_69 ?_
  refine x_eqi (show (0 : Int32) + (1 : Int32) = (1 : Int32) from by decide +kernel) ?_
  refine lv_i2l (v := (1 : Int64)) hx hb dX0_fillLot_70 (by decide) ?_
  refine lv_lmul hx hb dX0_fillLot_71 ?_
  refine x_eql (show (1 : Int64) * (1 : Int64) = (1 : Int64) from by decide +kernel) ?_
  refine lv_lstore_n (lv' := [(2, .long (1 : Int64)), (5, .int (0 : Int32)), (4, .int (3 : Int32)), (0, .ref (y 0)), (1, .ref (g 0))]) hx hb dX0_fillLot_72 rfl hl (by decide) rfl (fun ls hl => ?_)
  refine lv_iinc (v := (4 : Int32)) (lv' := [(4, .int (4 : Int32)), (2, .long (1 : Int64)), (5, .int (0 : Int32)), (0, .ref (y 0)), (1, .ref (g 0))]) hx hb dX0_fillLot_73 hl (k := 2) rfl (by decide) (by decide) rfl (fun ls hl => ?_)
  refine lv_goto (tgt := 26) hx hb dX0_fillLot_76 (by decide) ?_
  refine lv_iload hx hb dX0_fillLot_26 (lv_at hl 0 rfl) ?_
  refine lv_iconst (v := (4 : Int32)) hx hb dX0_fillLot_28 (by decide) ?_
  refine lv_icmp_ge (tgt := 79) hx hb dX0_fillLot_29 (by decide) (fun _ => ?_) (fun c0 => absurd (by decide) c0)
  refine lv_aload_n hx hb dX0_fillLot_79 rfl (lv_at hl 3 rfl) ?_
  refine x_get (own := RX0) (T := TX0) C X 3 rfl rfl 2 (by decide) k_8_17 rfl rfl (v := .ref (y 3)) rfl dX0_fillLot_80 ?_
  refine lv_aload_n hx hb dX0_fillLot_83 rfl (lv_at hl 3 rfl) ?_
  refine x_get (own := RX0) (T := TX0) C X 3 rfl rfl 0 (by decide) k_8_15 rfl rfl (v := .ref (y 1)) rfl dX0_fillLot_84 ?_
  refine x_alen C X 4 1 rfl rfl (v := (73 : Int32)) (rfl) dX0_fillLot_87 ?_
  refine lv_lconst (v := (0 : Int64)) hx hb dX0_fillLot_88 (by decide) ?_
  refine x_last C X 0 1 rfl rfl (j := 73) rfl (vp_in_nI (n := 73) (by omega) (by omega)) dX0_fillLot_89 (fun H locs X => ?_)
  have X := x_cng X 0 rfl (arr_eql _ _ (g := fun _ => (0 : Int64)) (fun j h => by first | rfl | (unfold vp_updL; split <;> rfl)))
  have X : Wd D A s [((y 3), .inl (cJ, 74, .inr (.inl (fun _ => (0 : Int64))))), ((g 0), .inr (3, [.int (0 : Int32), .ref (g 1), .ref (g 2), .ref (g 3), .ref (g 4), .ref (g 5), .ref (g 6), .ref (g 7), .int (0 : Int32), .ref (g 8), .ref (g 9), .ref (g 10), .int (0 : Int32), .ref (g 11), .ref (g 12), .ref (g 13), .ref (g 14), .int (0 : Int32), .ref (g 15)])), ((g 2), .inl (cI, 4, .inl (fun _ => (0 : Int32)))), ((y 0), .inr (0, [.ref (y 1), .ref (y 2), .ref (y 3), .ref (y 4), .ref (y 5), .ref (y 6), .long (0 : Int64), .int (0 : Int32), .ref (y 7)])), ((y 1), .inl (cJ, 73, .inr (.inl (ind36)))), ((y 2), .inl (cJ, 73, .inr (.inl (ind36))))] H locs := X
  refine lv_aload_n hx hb dX0_fillLot_90 rfl (lv_at hl 3 rfl) ?_
  refine x_get (own := RX0) (T := TX0) C X 3 rfl rfl 0 (by decide) k_8_15 rfl rfl (v := .ref (y 1)) rfl dX0_fillLot_91 ?_
  refine x_alen C X 4 1 rfl rfl (v := (73 : Int32)) (rfl) dX0_fillLot_94 ?_
  refine lv_iconst (v := (1 : Int32)) hx hb dX0_fillLot_95 (by decide) ?_
  refine lv_isub hx hb dX0_fillLot_96 ?_
  refine x_eqi (show (73 : Int32) - (1 : Int32) = (72 : Int32) from by decide +kernel) ?_
  refine lv_istore (lv' := [(4, .int (72 : Int32)), (2, .long (1 : Int64)), (5, .int (0 : Int32)), (0, .ref (y 0)), (1, .ref (g 0))]) hx hb dX0_fillLot_97 hl (by decide) rfl (fun ls hl => ?_)
  have hl : lv_has ls 6 [(4, .int (nI 72 - nI 0)), (2, .long (1 : Int64)), (5, .int (0 : Int32)), (0, .ref (y 0)), (1, .ref (g 0))] := by rw [show nI 72 - nI 0 = (72 : Int32) from by decide]; exact hl
  have X := x_cng X 4 rfl (arr_eql _ _ (g := fun q => if 72 < q + 0 then lotM q else ind36 q) (fun j h => by show ind36 j = (if 72 < j + 0 then lotM j else ind36 j); rw [if_neg (by omega)]))
  have X : Wd D A s [((y 3), .inl (cJ, 74, .inr (.inl (fun _ => (0 : Int64))))), ((g 0), .inr (3, [.int (0 : Int32), .ref (g 1), .ref (g 2), .ref (g 3), .ref (g 4), .ref (g 5), .ref (g 6), .ref (g 7), .int (0 : Int32), .ref (g 8), .ref (g 9), .ref (g 10), .int (0 : Int32), .ref (g 11), .ref (g 12), .ref (g 13), .ref (g 14), .int (0 : Int32), .ref (g 15)])), ((g 2), .inl (cI, 4, .inl (fun _ => (0 : Int32)))), ((y 0), .inr (0, [.ref (y 1), .ref (y 2), .ref (y 3), .ref (y 4), .ref (y 5), .ref (y 6), .long (0 : Int64), .int (0 : Int32), .ref (y 7)])), ((y 1), .inl (cJ, 73, .inr (.inl (fun q => if 72 < q + 0 then lotM q else ind36 q)))), ((y 2), .inl (cJ, 73, .inr (.inl (ind36))))] H locs := X
  have L99 : ∀ (n : Nat) (k : Nat) (f2 : Nat → Int64) (H : Heap) (locs : List Loc) (ls : Array Slot), (h1 : k ≤ 73) → 73 < k + n → Wd D A s [((y 3), .inl (cJ, 74, .inr (.inl (f2)))), ((g 0), .inr (3, [.int (0 : Int32), .ref (g 1), .ref (g 2), .ref (g 3), .ref (g 4), .ref (g 5), .ref (g 6), .ref (g 7), .int (0 : Int32), .ref (g 8), .ref (g 9), .ref (g 10), .int (0 : Int32), .ref (g 11), .ref (g 12), .ref (g 13), .ref (g 14), .int (0 : Int32), .ref (g 15)])), ((g 2), .inl (cI, 4, .inl (fun _ => (0 : Int32)))), ((y 0), .inr (0, [.ref (y 1), .ref (y 2), .ref (y 3), .ref (y 4), .ref (y 5), .ref (y 6), .long (0 : Int64), .int (0 : Int32), .ref (y 7)])), ((y 1), .inl (cJ, 73, .inr (.inl (fun q => if 72 < q + k then lotM q else ind36 q)))), ((y 2), .inl (cJ, 73, .inr (.inl (ind36))))] H locs → lv_has ls 6 [(4, .int (nI 72 - nI k)), (2, .long (1 : Int64)), (5, .int (0 : Int32)), (0, .ref (y 0)), (1, .ref (g 0))] → W p l e ({ frames := 2, cells := 0, slots := 0, locals := 83 } : Room) s m ([.ref (y 0), .ref (g 0)] : List Value).toArray below meth c H locs 0 0 (MQ below (va_Qv (fun (u : Unit) => (True)) (fun u t => Aft D A ((fun (_ : Unit) => [((y 0), .inr (0, [.ref (y 1), .ref (y 2), .ref (y 3), .ref (y 4), .ref (y 5), .ref (y 6), .long (0 : Int64), .int (0 : Int32), .ref (y 7)])), ((y 1), .inl (cJ, 73, .inr (.inl (lotM))))]) u) t) A) ([.ref (y 0), .ref (g 0)] : List Value).toArray s 0 0 A) (F0 m 99 ls []) := by
    intro n
    induction n with
    | zero => intro k f2 H locs ls h1 hn; exact absurd hn (by omega)
    | succ n ih =>
      intro k f2 H locs ls h1 hn X hl
      have ih99 := ih
      refine lv_iload hx hb dX0_fillLot_99 (lv_at hl 0 rfl) ?_
      have ek : (nI 72 - nI k).toInt = (72 : Int) - k := pk_sub_toInt (a := 72) (b := k) (by omega) (by omega)
      refine lv_if_lt (tgt := 164) hx hb dX0_fillLot_101 (by decide) (fun c_16 => ?_) (fun c_16 => ?_)
      · have fc_16 : ((nI 72 - nI k)).toInt < (0 : Int) := i_lt c_16
        have X := x_cng X 4 rfl (arr_eql _ _ (g := lotM) (fun j h => by show (if 72 < j + k then lotM j else ind36 j) = lotM j; exact if_pos (by omega)))
        have X : Wd D A s [((y 3), .inl (cJ, 74, .inr (.inl (f2)))), ((g 0), .inr (3, [.int (0 : Int32), .ref (g 1), .ref (g 2), .ref (g 3), .ref (g 4), .ref (g 5), .ref (g 6), .ref (g 7), .int (0 : Int32), .ref (g 8), .ref (g 9), .ref (g 10), .int (0 : Int32), .ref (g 11), .ref (g 12), .ref (g 13), .ref (g 14), .int (0 : Int32), .ref (g 15)])), ((g 2), .inl (cI, 4, .inl (fun _ => (0 : Int32)))), ((y 0), .inr (0, [.ref (y 1), .ref (y 2), .ref (y 3), .ref (y 4), .ref (y 5), .ref (y 6), .long (0 : Int64), .int (0 : Int32), .ref (y 7)])), ((y 1), .inl (cJ, 73, .inr (.inl (lotM)))), ((y 2), .inl (cJ, 73, .inr (.inl (ind36))))] H locs := X
        exact x_vret C X hr hlk (()) [3, 4] (by decide) rfl (trivial) (Nat.le_of_ble_eq_true rfl) (Nat.le_of_ble_eq_true rfl) dX0_fillLot_164
      · have fc_16 : (0 : Int) ≤ ((nI 72 - nI k)).toInt := i_nlt c_16
        by_cases hs104 : k = 36
        · refine lv_aload_n hx hb dX0_fillLot_104 rfl (lv_at hl 3 rfl) ?_
          refine x_get (own := RX0) (T := TX0) C X 3 rfl rfl 0 (by decide) k_8_15 rfl rfl (v := .ref (y 1)) rfl dX0_fillLot_105 ?_
          refine lv_iload hx hb dX0_fillLot_108 (lv_at hl 0 rfl) ?_
          refine lv_lload_n hx hb dX0_fillLot_110 rfl (lv_at hl 1 rfl) ?_
          refine lv_lconst (v := (0 : Int64)) hx hb dX0_fillLot_111 (by decide) ?_
          refine W.lcmp hx hb dX0_fillLot_112 ?_
          refine x_eqi (show lg_cmp (1 : Int64) (0 : Int64) = (1 : Int32) by decide) ?_
          refine lv_if_le (tgt := 132) hx hb dX0_fillLot_113 (by decide) (fun c0 => absurd c0 (by decide)) (fun _ => ?_)
          refine lv_aload_n hx hb dX0_fillLot_116 rfl (lv_at hl 3 rfl) ?_
          refine x_get (own := RX0) (T := TX0) C X 3 rfl rfl 0 (by decide) k_8_15 rfl rfl (v := .ref (y 1)) rfl dX0_fillLot_117 ?_
          refine lv_iload hx hb dX0_fillLot_120 (lv_at hl 0 rfl) ?_
          refine x_lald C X 4 1 rfl rfl (j := 72 - k) (by show (nI 72 - nI k).toInt.toNat = 72 - k; omega) (vp_in_iff.mpr ⟨by omega, by omega⟩) (v := (1 : Int64)) (by show (if 72 < 72 - k + k then lotM (72 - k) else ind36 (72 - k)) = _; rw [if_neg (by omega)]; simp only [ind36]; exact if_pos (by omega)) dX0_fillLot_122 ?_
          refine lv_ldc2 (own := RX0) (v := (1000000 : Int64)) hx hb hown (hts _ k_52_6) dX0_fillLot_123 ?_
          refine lv_lmul hx hb dX0_fillLot_126 ?_
          refine x_eql (show (1 : Int64) * (1000000 : Int64) = (1000000 : Int64) from by decide +kernel) ?_
          refine lv_lload_n hx hb dX0_fillLot_127 rfl (lv_at hl 1 rfl) ?_
          refine lv_ldiv hx hb dX0_fillLot_128 (by decide) ?_
          refine x_eql (show (1000000 : Int64) / (1 : Int64) = (1000000 : Int64) from by decide +kernel) ?_
          refine lv_goto (tgt := 133) hx hb dX0_fillLot_129 (by decide) ?_
          refine x_last C X 4 1 rfl rfl (j := 72 - k) (by show (nI 72 - nI k).toInt.toNat = 72 - k; omega) (vp_in_iff.mpr ⟨by omega, by omega⟩) dX0_fillLot_133 (fun H locs X => ?_)
          have X : Wd D A s [((y 3), .inl (cJ, 74, .inr (.inl (f2)))), ((g 0), .inr (3, [.int (0 : Int32), .ref (g 1), .ref (g 2), .ref (g 3), .ref (g 4), .ref (g 5), .ref (g 6), .ref (g 7), .int (0 : Int32), .ref (g 8), .ref (g 9), .ref (g 10), .int (0 : Int32), .ref (g 11), .ref (g 12), .ref (g 13), .ref (g 14), .int (0 : Int32), .ref (g 15)])), ((g 2), .inl (cI, 4, .inl (fun _ => (0 : Int32)))), ((y 0), .inr (0, [.ref (y 1), .ref (y 2), .ref (y 3), .ref (y 4), .ref (y 5), .ref (y 6), .long (0 : Int64), .int (0 : Int32), .ref (y 7)])), ((y 1), .inl (cJ, 73, .inr (.inl (vp_updL (fun q => if 72 < q + k then lotM q else ind36 q) (72 - k) ((1000000 : Int64)))))), ((y 2), .inl (cJ, 73, .inr (.inl (ind36))))] H locs := X
          refine lv_aload_n hx hb dX0_fillLot_134 rfl (lv_at hl 3 rfl) ?_
          refine x_get (own := RX0) (T := TX0) C X 3 rfl rfl 2 (by decide) k_8_17 rfl rfl (v := .ref (y 3)) rfl dX0_fillLot_135 ?_
          refine lv_iload hx hb dX0_fillLot_138 (lv_at hl 0 rfl) ?_
          refine lv_aload_n hx hb dX0_fillLot_140 rfl (lv_at hl 3 rfl) ?_
          refine x_get (own := RX0) (T := TX0) C X 3 rfl rfl 2 (by decide) k_8_17 rfl rfl (v := .ref (y 3)) rfl dX0_fillLot_141 ?_
          refine lv_iload hx hb dX0_fillLot_144 (lv_at hl 0 rfl) ?_
          refine lv_iconst (v := (1 : Int32)) hx hb dX0_fillLot_146 (by decide) ?_
          refine lv_iadd hx hb dX0_fillLot_147 ?_
          refine x_eqi (show (nI 72 - nI k) + (1 : Int32) = (nI (73 - k)) from i_up (by omega)) ?_
          refine x_lald C X 0 1 rfl rfl (j := 73 - k) (nI_clamp (by omega)) (vp_in_nI (by omega) (by omega)) (v := ((f2) (73 - k))) (rfl) dX0_fillLot_148 ?_
          refine lv_aload_n hx hb dX0_fillLot_149 rfl (lv_at hl 3 rfl) ?_
          refine x_get (own := RX0) (T := TX0) C X 3 rfl rfl 0 (by decide) k_8_15 rfl rfl (v := .ref (y 1)) rfl dX0_fillLot_150 ?_
          refine lv_iload hx hb dX0_fillLot_153 (lv_at hl 0 rfl) ?_
          refine x_lald C X 4 1 rfl rfl (j := 72 - k) (by show (nI 72 - nI k).toInt.toNat = 72 - k; omega) (vp_in_iff.mpr ⟨by omega, by omega⟩) (v := ((vp_updL (fun q => if 72 < q + k then lotM q else ind36 q) (72 - k) ((1000000 : Int64))) (72 - k))) (rfl) dX0_fillLot_155 ?_
          refine lv_ladd hx hb dX0_fillLot_156 ?_
          refine x_last C X 0 1 rfl rfl (j := 72 - k) (by show (nI 72 - nI k).toInt.toNat = 72 - k; omega) (vp_in_iff.mpr ⟨by omega, by omega⟩) dX0_fillLot_157 (fun H locs X => ?_)
          have X : Wd D A s [((y 3), .inl (cJ, 74, .inr (.inl (vp_updL (f2) (72 - k) ((((f2) (73 - k)) + ((vp_updL (fun q => if 72 < q + k then lotM q else ind36 q) (72 - k) ((1000000 : Int64))) (72 - k)))))))), ((g 0), .inr (3, [.int (0 : Int32), .ref (g 1), .ref (g 2), .ref (g 3), .ref (g 4), .ref (g 5), .ref (g 6), .ref (g 7), .int (0 : Int32), .ref (g 8), .ref (g 9), .ref (g 10), .int (0 : Int32), .ref (g 11), .ref (g 12), .ref (g 13), .ref (g 14), .int (0 : Int32), .ref (g 15)])), ((g 2), .inl (cI, 4, .inl (fun _ => (0 : Int32)))), ((y 0), .inr (0, [.ref (y 1), .ref (y 2), .ref (y 3), .ref (y 4), .ref (y 5), .ref (y 6), .long (0 : Int64), .int (0 : Int32), .ref (y 7)])), ((y 1), .inl (cJ, 73, .inr (.inl (vp_updL (fun q => if 72 < q + k then lotM q else ind36 q) (72 - k) ((1000000 : Int64)))))), ((y 2), .inl (cJ, 73, .inr (.inl (ind36))))] H locs := X
          have X := x_cng X 4 rfl (arr_eql _ _ (g := fun q => if 72 < q + (k + 1) then lotM q else ind36 q) (fun j h => by simp only [vp_updL, lotM, ind36]; (repeat' split); all_goals first | rfl | omega))
          have X : Wd D A s [((y 3), .inl (cJ, 74, .inr (.inl (vp_updL (f2) (72 - k) ((((f2) (73 - k)) + ((vp_updL (fun q => if 72 < q + k then lotM q else ind36 q) (72 - k) ((1000000 : Int64))) (72 - k)))))))), ((g 0), .inr (3, [.int (0 : Int32), .ref (g 1), .ref (g 2), .ref (g 3), .ref (g 4), .ref (g 5), .ref (g 6), .ref (g 7), .int (0 : Int32), .ref (g 8), .ref (g 9), .ref (g 10), .int (0 : Int32), .ref (g 11), .ref (g 12), .ref (g 13), .ref (g 14), .int (0 : Int32), .ref (g 15)])), ((g 2), .inl (cI, 4, .inl (fun _ => (0 : Int32)))), ((y 0), .inr (0, [.ref (y 1), .ref (y 2), .ref (y 3), .ref (y 4), .ref (y 5), .ref (y 6), .long (0 : Int64), .int (0 : Int32), .ref (y 7)])), ((y 1), .inl (cJ, 73, .inr (.inl (fun q => if 72 < q + (k + 1) then lotM q else ind36 q)))), ((y 2), .inl (cJ, 73, .inr (.inl (ind36))))] H locs := X
          refine lv_iinc (v := (nI 72 - nI (k + 1))) (lv' := [(4, .int (nI 72 - nI (k + 1))), (2, .long (1 : Int64)), (5, .int (0 : Int32)), (0, .ref (y 0)), (1, .ref (g 0))]) hx hb dX0_fillLot_158 hl (k := 0) rfl (i_down (by omega) (by omega)) (by decide) rfl (fun ls hl => ?_)
          refine lv_goto (tgt := 99) hx hb dX0_fillLot_161 (by decide) ?_
          exact ih99  ((k + 1)) (vp_updL (f2) (72 - k) ((((f2) (73 - k)) + ((vp_updL (fun q => if 72 < q + k then lotM q else ind36 q) (72 - k) ((1000000 : Int64))) (72 - k))))) H locs ls (by omega) (by omega) (x_sub X [0, 1, 2, 3, 4, 5] (by decide) rfl) (lv_sub hl [0, 1, 2, 3, 4] rfl)
        · refine lv_aload_n hx hb dX0_fillLot_104 rfl (lv_at hl 3 rfl) ?_
          refine x_get (own := RX0) (T := TX0) C X 3 rfl rfl 0 (by decide) k_8_15 rfl rfl (v := .ref (y 1)) rfl dX0_fillLot_105 ?_
          refine lv_iload hx hb dX0_fillLot_108 (lv_at hl 0 rfl) ?_
          refine lv_lload_n hx hb dX0_fillLot_110 rfl (lv_at hl 1 rfl) ?_
          refine lv_lconst (v := (0 : Int64)) hx hb dX0_fillLot_111 (by decide) ?_
          refine W.lcmp hx hb dX0_fillLot_112 ?_
          refine x_eqi (show lg_cmp (1 : Int64) (0 : Int64) = (1 : Int32) by decide) ?_
          refine lv_if_le (tgt := 132) hx hb dX0_fillLot_113 (by decide) (fun c0 => absurd c0 (by decide)) (fun _ => ?_)
          refine lv_aload_n hx hb dX0_fillLot_116 rfl (lv_at hl 3 rfl) ?_
          refine x_get (own := RX0) (T := TX0) C X 3 rfl rfl 0 (by decide) k_8_15 rfl rfl (v := .ref (y 1)) rfl dX0_fillLot_117 ?_
          refine lv_iload hx hb dX0_fillLot_120 (lv_at hl 0 rfl) ?_
          refine x_lald C X 4 1 rfl rfl (j := 72 - k) (by show (nI 72 - nI k).toInt.toNat = 72 - k; omega) (vp_in_iff.mpr ⟨by omega, by omega⟩) (v := (0 : Int64)) (by show (if 72 < 72 - k + k then lotM (72 - k) else ind36 (72 - k)) = _; rw [if_neg (by omega)]; simp only [ind36]; exact if_neg (by omega)) dX0_fillLot_122 ?_
          refine lv_ldc2 (own := RX0) (v := (1000000 : Int64)) hx hb hown (hts _ k_52_6) dX0_fillLot_123 ?_
          refine lv_lmul hx hb dX0_fillLot_126 ?_
          refine x_eql (show (0 : Int64) * (1000000 : Int64) = (0 : Int64) from by decide +kernel) ?_
          refine lv_lload_n hx hb dX0_fillLot_127 rfl (lv_at hl 1 rfl) ?_
          refine lv_ldiv hx hb dX0_fillLot_128 (by decide) ?_
          refine x_eql (show (0 : Int64) / (1 : Int64) = (0 : Int64) from by decide +kernel) ?_
          refine lv_goto (tgt := 133) hx hb dX0_fillLot_129 (by decide) ?_
          refine x_last C X 4 1 rfl rfl (j := 72 - k) (by show (nI 72 - nI k).toInt.toNat = 72 - k; omega) (vp_in_iff.mpr ⟨by omega, by omega⟩) dX0_fillLot_133 (fun H locs X => ?_)
          have X : Wd D A s [((y 3), .inl (cJ, 74, .inr (.inl (f2)))), ((g 0), .inr (3, [.int (0 : Int32), .ref (g 1), .ref (g 2), .ref (g 3), .ref (g 4), .ref (g 5), .ref (g 6), .ref (g 7), .int (0 : Int32), .ref (g 8), .ref (g 9), .ref (g 10), .int (0 : Int32), .ref (g 11), .ref (g 12), .ref (g 13), .ref (g 14), .int (0 : Int32), .ref (g 15)])), ((g 2), .inl (cI, 4, .inl (fun _ => (0 : Int32)))), ((y 0), .inr (0, [.ref (y 1), .ref (y 2), .ref (y 3), .ref (y 4), .ref (y 5), .ref (y 6), .long (0 : Int64), .int (0 : Int32), .ref (y 7)])), ((y 1), .inl (cJ, 73, .inr (.inl (vp_updL (fun q => if 72 < q + k then lotM q else ind36 q) (72 - k) ((0 : Int64)))))), ((y 2), .inl (cJ, 73, .inr (.inl (ind36))))] H locs := X
          refine lv_aload_n hx hb dX0_fillLot_134 rfl (lv_at hl 3 rfl) ?_
          refine x_get (own := RX0) (T := TX0) C X 3 rfl rfl 2 (by decide) k_8_17 rfl rfl (v := .ref (y 3)) rfl dX0_fillLot_135 ?_
          refine lv_iload hx hb dX0_fillLot_138 (lv_at hl 0 rfl) ?_
          refine lv_aload_n hx hb dX0_fillLot_140 rfl (lv_at hl 3 rfl) ?_
          refine x_get (own := RX0) (T := TX0) C X 3 rfl rfl 2 (by decide) k_8_17 rfl rfl (v := .ref (y 3)) rfl dX0_fillLot_141 ?_
          refine lv_iload hx hb dX0_fillLot_144 (lv_at hl 0 rfl) ?_
          refine lv_iconst (v := (1 : Int32)) hx hb dX0_fillLot_146 (by decide) ?_
          refine lv_iadd hx hb dX0_fillLot_147 ?_
          refine x_eqi (show (nI 72 - nI k) + (1 : Int32) = (nI (73 - k)) from i_up (by omega)) ?_
          refine x_lald C X 0 1 rfl rfl (j := 73 - k) (nI_clamp (by omega)) (vp_in_nI (by omega) (by omega)) (v := ((f2) (73 - k))) (rfl) dX0_fillLot_148 ?_
          refine lv_aload_n hx hb dX0_fillLot_149 rfl (lv_at hl 3 rfl) ?_
          refine x_get (own := RX0) (T := TX0) C X 3 rfl rfl 0 (by decide) k_8_15 rfl rfl (v := .ref (y 1)) rfl dX0_fillLot_150 ?_
          refine lv_iload hx hb dX0_fillLot_153 (lv_at hl 0 rfl) ?_
          refine x_lald C X 4 1 rfl rfl (j := 72 - k) (by show (nI 72 - nI k).toInt.toNat = 72 - k; omega) (vp_in_iff.mpr ⟨by omega, by omega⟩) (v := ((vp_updL (fun q => if 72 < q + k then lotM q else ind36 q) (72 - k) ((0 : Int64))) (72 - k))) (rfl) dX0_fillLot_155 ?_
          refine lv_ladd hx hb dX0_fillLot_156 ?_
          refine x_last C X 0 1 rfl rfl (j := 72 - k) (by show (nI 72 - nI k).toInt.toNat = 72 - k; omega) (vp_in_iff.mpr ⟨by omega, by omega⟩) dX0_fillLot_157 (fun H locs X => ?_)
          have X : Wd D A s [((y 3), .inl (cJ, 74, .inr (.inl (vp_updL (f2) (72 - k) ((((f2) (73 - k)) + ((vp_updL (fun q => if 72 < q + k then lotM q else ind36 q) (72 - k) ((0 : Int64))) (72 - k)))))))), ((g 0), .inr (3, [.int (0 : Int32), .ref (g 1), .ref (g 2), .ref (g 3), .ref (g 4), .ref (g 5), .ref (g 6), .ref (g 7), .int (0 : Int32), .ref (g 8), .ref (g 9), .ref (g 10), .int (0 : Int32), .ref (g 11), .ref (g 12), .ref (g 13), .ref (g 14), .int (0 : Int32), .ref (g 15)])), ((g 2), .inl (cI, 4, .inl (fun _ => (0 : Int32)))), ((y 0), .inr (0, [.ref (y 1), .ref (y 2), .ref (y 3), .ref (y 4), .ref (y 5), .ref (y 6), .long (0 : Int64), .int (0 : Int32), .ref (y 7)])), ((y 1), .inl (cJ, 73, .inr (.inl (vp_updL (fun q => if 72 < q + k then lotM q else ind36 q) (72 - k) ((0 : Int64)))))), ((y 2), .inl (cJ, 73, .inr (.inl (ind36))))] H locs := X
          have X := x_cng X 4 rfl (arr_eql _ _ (g := fun q => if 72 < q + (k + 1) then lotM q else ind36 q) (fun j h => by simp only [vp_updL, lotM, ind36]; (repeat' split); all_goals first | rfl | omega))
          have X : Wd D A s [((y 3), .inl (cJ, 74, .inr (.inl (vp_updL (f2) (72 - k) ((((f2) (73 - k)) + ((vp_updL (fun q => if 72 < q + k then lotM q else ind36 q) (72 - k) ((0 : Int64))) (72 - k)))))))), ((g 0), .inr (3, [.int (0 : Int32), .ref (g 1), .ref (g 2), .ref (g 3), .ref (g 4), .ref (g 5), .ref (g 6), .ref (g 7), .int (0 : Int32), .ref (g 8), .ref (g 9), .ref (g 10), .int (0 : Int32), .ref (g 11), .ref (g 12), .ref (g 13), .ref (g 14), .int (0 : Int32), .ref (g 15)])), ((g 2), .inl (cI, 4, .inl (fun _ => (0 : Int32)))), ((y 0), .inr (0, [.ref (y 1), .ref (y 2), .ref (y 3), .ref (y 4), .ref (y 5), .ref (y 6), .long (0 : Int64), .int (0 : Int32), .ref (y 7)])), ((y 1), .inl (cJ, 73, .inr (.inl (fun q => if 72 < q + (k + 1) then lotM q else ind36 q)))), ((y 2), .inl (cJ, 73, .inr (.inl (ind36))))] H locs := X
          refine lv_iinc (v := (nI 72 - nI (k + 1))) (lv' := [(4, .int (nI 72 - nI (k + 1))), (2, .long (1 : Int64)), (5, .int (0 : Int32)), (0, .ref (y 0)), (1, .ref (g 0))]) hx hb dX0_fillLot_158 hl (k := 0) rfl (i_down (by omega) (by omega)) (by decide) rfl (fun ls hl => ?_)
          refine lv_goto (tgt := 99) hx hb dX0_fillLot_161 (by decide) ?_
          exact ih99  ((k + 1)) (vp_updL (f2) (72 - k) ((((f2) (73 - k)) + ((vp_updL (fun q => if 72 < q + k then lotM q else ind36 q) (72 - k) ((0 : Int64))) (72 - k))))) H locs ls (by omega) (by omega) (x_sub X [0, 1, 2, 3, 4, 5] (by decide) rfl) (lv_sub hl [0, 1, 2, 3, 4] rfl)
  exact L99 (73 + 1) (0) (fun _ => (0 : Int64)) H locs ls (by omega) (by omega) (x_sub X [0, 1, 2, 3, 4, 5] (by decide) rfl) (lv_sub hl [0, 1, 2, 3, 4] rfl)
set_option maxHeartbeats 4000000 in
set_option maxRecDepth 100000 in
theorem c_fillStep (l : Launch) (D : va_G) (cI cJ cZ cB : ClassId) (cO : ClassId) (y : Nat → Nat) :
    CV l D [(cI, .int), (cJ, .long), (cZ, .boolean), (cB, .byte), (cO, .object "LuckLinks$World")] yX0_fillStep cX0_fillStep 3 ({ frames := 1, cells := 0, slots := 0, locals := 26 } : Room) [.ref (y 0)] [((y 0), .inr (0, [.ref (y 1), .ref (y 2), .ref (y 3), .ref (y 4), .ref (y 5), .ref (y 6), .long (0 : Int64), .int (0 : Int32), .ref (y 7)])), ((y 1), .inl (cJ, 73, .inr (.inl (lotM)))), ((y 4), .inl (cJ, 145, .inr (.inl (fun _ => (0 : Int64)))))] (fun (u : Int64) => match u with | g => (True)) (fun (u : Int64) => match u with | g => [((y 0), .inr (0, [.ref (y 1), .ref (y 2), .ref (y 3), .ref (y 4), .ref (y 5), .ref (y 6), .long g, .int (0 : Int32), .ref (y 7)])), ((y 4), .inl (cJ, 145, .inr (.inl (vp_updL (fun _ => (0 : Int64)) (72) ((1000000 : Int64))))))]) := by
  intro sz
  refine body_of (y := yX0_fillStep) (cc := cX0_fillStep) (maxL := 3) (ret := none) (rm := ({ frames := 1, cells := 0, slots := 0, locals := 26 } : Room)) (wc := [((y 0), .inr (0, [.ref (y 1), .ref (y 2), .ref (y 3), .ref (y 4), .ref (y 5), .ref (y 6), .long (0 : Int64), .int (0 : Int32), .ref (y 7)])), ((y 1), .inl (cJ, 73, .inr (.inl (lotM)))), ((y 4), .inl (cJ, 145, .inr (.inl (fun _ => (0 : Int64)))))]) (tys := [(cI, .int), (cJ, .long), (cZ, .boolean), (cB, .byte), (cO, .object "LuckLinks$World")]) (D := D) (sz := sz) (own := RX0) (av := [.ref (y 0)]) (Qc := fun A => va_Qv (fun (u : Int64) => match u with | g => (True)) (fun u t => Aft D A ((fun (u : Int64) => match u with | g => [((y 0), .inr (0, [.ref (y 1), .ref (y 2), .ref (y 3), .ref (y 4), .ref (y 5), .ref (y 6), .long g, .int (0 : Int32), .ref (y 7)])), ((y 4), .inl (cJ, 145, .inr (.inl (vp_updL (fun _ => (0 : Int64)) (72) ((1000000 : Int64))))))]) u) t) A) (by decide) rfl (Nat.le_of_ble_eq_true rfl) (fun p e s m below meth c A ls C hr hlk hin X hl => ?_)
  have hx := C.1
  have hb := C.2.1
  have hown := C.2.2.2.1
  have hts := C.2.2.2.2.1
  have hl : lv_has ls 3 [(0, .ref (y 0))] := hl
  show W p l e _ s m _ below meth c s.heap [] 0 0 (MQ below (va_Qv (fun (u : Int64) => match u with | g => (True)) (fun u t => Aft D A ((fun (u : Int64) => match u with | g => [((y 0), .inr (0, [.ref (y 1), .ref (y 2), .ref (y 3), .ref (y 4), .ref (y 5), .ref (y 6), .long g, .int (0 : Int32), .ref (y 7)])), ((y 4), .inl (cJ, 145, .inr (.inl (vp_updL (fun _ => (0 : Int64)) (72) ((1000000 : Int64))))))]) u) t) A) ([.ref (y 0)] : List Value).toArray s 0 0 A) (F0 m 0 ls [])
  have X : Wd D A s [((y 0), .inr (0, [.ref (y 1), .ref (y 2), .ref (y 3), .ref (y 4), .ref (y 5), .ref (y 6), .long (0 : Int64), .int (0 : Int32), .ref (y 7)])), ((y 1), .inl (cJ, 73, .inr (.inl (lotM)))), ((y 4), .inl (cJ, 145, .inr (.inl (fun _ => (0 : Int64)))))] s.heap [] := X
  obtain ⟨H, locs, eH, eL⟩ : ∃ H locs, H = s.heap ∧ locs = ([] : List Loc) := ⟨_, _, rfl, rfl⟩
  rw [← eH, ← eL] at X ⊢
  clear eH eL
  refine lv_aload_n hx hb dX0_fillStep_0 rfl (lv_at hl 0 rfl) ?_
  refine x_get (own := RX0) (T := TX0) C X 0 rfl rfl 3 (by decide) k_8_18 rfl rfl (v := .ref (y 4)) rfl dX0_fillStep_1 ?_
  refine lv_lconst (v := (0 : Int64)) hx hb dX0_fillStep_4 (by decide) ?_
  refine x_cSv (own := RX0) (wr := [((y 0), .inr (0, [.ref (y 1), .ref (y 2), .ref (y 3), .ref (y 4), .ref (y 5), .ref (y 6), .long (0 : Int64), .int (0 : Int32), .ref (y 7)])), ((y 1), .inl (cJ, 73, .inr (.inl (lotM))))]) (As := [.ref (y 4), .long (0 : Int64)]) C X hl.1 (c_fillJ l D cI cJ cZ cB cO (y 4) 145 (fun _ => (0 : Int64)) (0 : Int64) (by omega)) [2] [0, 1] ⟨rfl, rfl, by decide, by decide, by decide⟩ k_52_13 k_52_14 k_4_7 k_52_15 (n := 2) (by decide +kernel) ⟨Nat.le_of_ble_eq_true rfl, Nat.le_of_ble_eq_true rfl⟩ rfl rfl (Nat.le_of_ble_eq_true rfl) dX0_fillStep_5 ⟨Nat.le_of_ble_eq_true rfl, Nat.le_of_ble_eq_true rfl⟩ (fun u_1 H locs w_3 X => ?_)
  have X : Wd D A s [((y 0), .inr (0, [.ref (y 1), .ref (y 2), .ref (y 3), .ref (y 4), .ref (y 5), .ref (y 6), .long (0 : Int64), .int (0 : Int32), .ref (y 7)])), ((y 1), .inl (cJ, 73, .inr (.inl (lotM)))), ((y 4), .inl (cJ, 145, .inr (.inl (fun _ => (0 : Int64)))))] H locs := X
  refine W.widen (k := 0) (n := 0) (Nat.le_of_ble_eq_true rfl) (Nat.le_of_ble_eq_true rfl) ?_
  refine lv_aload_n hx hb dX0_fillStep_8 rfl (lv_at hl 0 rfl) ?_
  refine x_get (own := RX0) (T := TX0) C X 0 rfl rfl 7 (by decide) k_8_22 rfl rfl (v := .int (0 : Int32)) rfl dX0_fillStep_9 ?_
  refine lv_ineg hx hb dX0_fillStep_12 ?_
  refine x_eqi (show -(0 : Int32) = (0 : Int32) from by decide +kernel) ?_
  refine lv_istore_n (lv' := [(1, .int (0 : Int32)), (0, .ref (y 0))]) hx hb dX0_fillStep_13 rfl hl (by decide) rfl (fun ls hl => ?_)
  refine lv_iload_n hx hb dX0_fillStep_14 rfl (lv_at hl 0 rfl) ?_
  refine lv_aload_n hx hb dX0_fillStep_15 rfl (lv_at hl 1 rfl) ?_
  refine x_get (own := RX0) (T := TX0) C X 0 rfl rfl 7 (by decide) k_8_22 rfl rfl (v := .int (0 : Int32)) rfl dX0_fillStep_16 ?_
  refine lv_icmp_gt (tgt := 85) hx hb dX0_fillStep_19 (by decide) (fun c0 => absurd c0 (by decide)) (fun _ => ?_)
  refine lv_aload_n hx hb dX0_fillStep_22 rfl (lv_at hl 1 rfl) ?_
  refine x_get (own := RX0) (T := TX0) C X 0 rfl rfl 7 (by decide) k_8_22 rfl rfl (v := .int (0 : Int32)) rfl dX0_fillStep_23 ?_
  refine lv_ineg hx hb dX0_fillStep_26 ?_
  refine x_eqi (show -(0 : Int32) = (0 : Int32) from by decide +kernel) ?_
  refine lv_istore_n (lv' := [(2, .int (0 : Int32)), (1, .int (0 : Int32)), (0, .ref (y 0))]) hx hb dX0_fillStep_27 rfl hl (by decide) rfl (fun ls hl => ?_)
  refine lv_iload_n hx hb dX0_fillStep_28 rfl (lv_at hl 0 rfl) ?_
  refine lv_aload_n hx hb dX0_fillStep_29 rfl (lv_at hl 2 rfl) ?_
  refine x_get (own := RX0) (T := TX0) C X 0 rfl rfl 7 (by decide) k_8_22 rfl rfl (v := .int (0 : Int32)) rfl dX0_fillStep_30 ?_
  refine lv_icmp_gt (tgt := 79) hx hb dX0_fillStep_33 (by decide) (fun c0 => absurd c0 (by decide)) (fun _ => ?_)
  refine lv_aload_n hx hb dX0_fillStep_36 rfl (lv_at hl 2 rfl) ?_
  refine x_get (own := RX0) (T := TX0) C X 0 rfl rfl 3 (by decide) k_8_18 rfl rfl (v := .ref (y 4)) rfl dX0_fillStep_37 ?_
  refine lv_iload_n hx hb dX0_fillStep_40 rfl (lv_at hl 1 rfl) ?_
  refine lv_iload_n hx hb dX0_fillStep_41 rfl (lv_at hl 0 rfl) ?_
  refine lv_isub hx hb dX0_fillStep_42 ?_
  refine x_eqi (show (0 : Int32) - (0 : Int32) = (0 : Int32) from by decide +kernel) ?_
  refine lv_bipush (v := (72 : Int32)) hx hb dX0_fillStep_43 (by decide) ?_
  refine lv_iadd hx hb dX0_fillStep_45 ?_
  refine x_eqi (show (0 : Int32) + (72 : Int32) = (72 : Int32) from by decide +kernel) ?_
  refine lv_dup2_11 hx hb dX0_fillStep_46 rfl rfl ?_
  refine x_lald C X 2 1 rfl rfl (j := 72) rfl (vp_in_nI (n := 72) (by omega) (by omega)) (v := (0 : Int64)) (rfl) dX0_fillStep_47 ?_
  refine lv_aload_n hx hb dX0_fillStep_48 rfl (lv_at hl 2 rfl) ?_
  refine x_get (own := RX0) (T := TX0) C X 0 rfl rfl 0 (by decide) k_8_15 rfl rfl (v := .ref (y 1)) rfl dX0_fillStep_49 ?_
  refine lv_iload_n hx hb dX0_fillStep_52 rfl (lv_at hl 1 rfl) ?_
  refine lv_bipush (v := (36 : Int32)) hx hb dX0_fillStep_53 (by decide) ?_
  refine lv_iadd hx hb dX0_fillStep_55 ?_
  refine x_eqi (show (0 : Int32) + (36 : Int32) = (36 : Int32) from by decide +kernel) ?_
  refine x_lald C X 1 1 rfl rfl (j := 36) rfl (vp_in_nI (n := 36) (by omega) (by omega)) (v := (1000000 : Int64)) (rfl) dX0_fillStep_56 ?_
  refine lv_aload_n hx hb dX0_fillStep_57 rfl (lv_at hl 2 rfl) ?_
  refine x_get (own := RX0) (T := TX0) C X 0 rfl rfl 0 (by decide) k_8_15 rfl rfl (v := .ref (y 1)) rfl dX0_fillStep_58 ?_
  refine lv_iload_n hx hb dX0_fillStep_61 rfl (lv_at hl 0 rfl) ?_
  refine lv_bipush (v := (36 : Int32)) hx hb dX0_fillStep_62 (by decide) ?_
  refine lv_iadd hx hb dX0_fillStep_64 ?_
  refine x_eqi (show (0 : Int32) + (36 : Int32) = (36 : Int32) from by decide +kernel) ?_
  refine x_lald C X 1 1 rfl rfl (j := 36) rfl (vp_in_nI (n := 36) (by omega) (by omega)) (v := (1000000 : Int64)) (rfl) dX0_fillStep_65 ?_
  refine lv_lmul hx hb dX0_fillStep_66 ?_
  refine x_eql (show (1000000 : Int64) * (1000000 : Int64) = (1000000000000 : Int64) from by decide +kernel) ?_
  refine lv_ldc2 (own := RX0) (v := (1000000 : Int64)) hx hb hown (hts _ k_52_6) dX0_fillStep_67 ?_
  refine lv_ldiv hx hb dX0_fillStep_70 (by decide) ?_
  refine x_eql (show (1000000000000 : Int64) / (1000000 : Int64) = (1000000 : Int64) from by decide +kernel) ?_
  refine lv_ladd hx hb dX0_fillStep_71 ?_
  refine x_eql (show (0 : Int64) + (1000000 : Int64) = (1000000 : Int64) from by decide +kernel) ?_
  refine x_last C X 2 1 rfl rfl (j := 72) rfl (vp_in_nI (n := 72) (by omega) (by omega)) dX0_fillStep_72 (fun H locs X => ?_)
  have X : Wd D A s [((y 0), .inr (0, [.ref (y 1), .ref (y 2), .ref (y 3), .ref (y 4), .ref (y 5), .ref (y 6), .long (0 : Int64), .int (0 : Int32), .ref (y 7)])), ((y 1), .inl (cJ, 73, .inr (.inl (lotM)))), ((y 4), .inl (cJ, 145, .inr (.inl (vp_updL (fun _ => (0 : Int64)) (72) ((1000000 : Int64))))))] H locs := X
  refine lv_iinc (v := (1 : Int32)) (lv' := [(2, .int (1 : Int32)), (1, .int (0 : Int32)), (0, .ref (y 0))]) hx hb dX0_fillStep_73 hl (k := 0) rfl (by decide) (by decide) rfl (fun ls hl => ?_)
  refine lv_goto (tgt := 28) hx hb dX0_fillStep_76 (by decide) ?_
  refine lv_iload_n hx hb dX0_fillStep_28 rfl (lv_at hl 0 rfl) ?_
  refine lv_aload_n hx hb dX0_fillStep_29 rfl (lv_at hl 2 rfl) ?_
  refine x_get (own := RX0) (T := TX0) C X 0 rfl rfl 7 (by decide) k_8_22 rfl rfl (v := .int (0 : Int32)) rfl dX0_fillStep_30 ?_
  refine lv_icmp_gt (tgt := 79) hx hb dX0_fillStep_33 (by decide) (fun _ => ?_) (fun c0 => absurd (by decide) c0)
  refine lv_iinc (v := (1 : Int32)) (lv' := [(1, .int (1 : Int32)), (2, .int (1 : Int32)), (0, .ref (y 0))]) hx hb dX0_fillStep_79 hl (k := 1) rfl (by decide) (by decide) rfl (fun ls hl => ?_)
  refine lv_goto (tgt := 14) hx hb dX0_fillStep_82 (by decide) ?_
  refine lv_iload_n hx hb dX0_fillStep_14 rfl (lv_at hl 0 rfl) ?_
  refine lv_aload_n hx hb dX0_fillStep_15 rfl (lv_at hl 2 rfl) ?_
  refine x_get (own := RX0) (T := TX0) C X 0 rfl rfl 7 (by decide) k_8_22 rfl rfl (v := .int (0 : Int32)) rfl dX0_fillStep_16 ?_
  refine lv_icmp_gt (tgt := 85) hx hb dX0_fillStep_19 (by decide) (fun _ => ?_) (fun c0 => absurd (by decide) c0)
  refine lv_aload_n hx hb dX0_fillStep_85 rfl (lv_at hl 2 rfl) ?_
  refine lv_lconst (v := (0 : Int64)) hx hb dX0_fillStep_86 (by decide) ?_
  refine x_put (own := RX0) (T := TX0) C X 0 rfl rfl 6 (by decide) k_8_21 rfl rfl rfl (ty := .long) (v := .long (0 : Int64)) (by decide +kernel) rfl rfl (Nat.le_of_ble_eq_true rfl) dX0_fillStep_87 (fun H locs X => ?_)
  have X : Wd D A s [((y 0), .inr (0, [.ref (y 1), .ref (y 2), .ref (y 3), .ref (y 4), .ref (y 5), .ref (y 6), .long (0 : Int64), .int (0 : Int32), .ref (y 7)])), ((y 1), .inl (cJ, 73, .inr (.inl (lotM)))), ((y 4), .inl (cJ, 145, .inr (.inl (vp_updL (fun _ => (0 : Int64)) (72) ((1000000 : Int64))))))] H locs := X
  refine lv_iconst (v := (0 : Int32)) hx hb dX0_fillStep_90 (by decide) ?_
  refine lv_istore_n (lv' := [(1, .int (0 : Int32)), (2, .int (1 : Int32)), (0, .ref (y 0))]) hx hb dX0_fillStep_91 rfl hl (by decide) rfl (fun ls hl => ?_)
  have L92 : ∀ (n : Nat) (i : Nat) (g : Int64) (H : Heap) (locs : List Loc) (ls : Array Slot), (h1 : i ≤ 145) → 145 < i + n → Wd D A s [((y 0), .inr (0, [.ref (y 1), .ref (y 2), .ref (y 3), .ref (y 4), .ref (y 5), .ref (y 6), .long g, .int (0 : Int32), .ref (y 7)])), ((y 1), .inl (cJ, 73, .inr (.inl (lotM)))), ((y 4), .inl (cJ, 145, .inr (.inl (vp_updL (fun _ => (0 : Int64)) (72) ((1000000 : Int64))))))] H locs → lv_has ls 3 [(1, .int (nI (i))), (2, .int (1 : Int32)), (0, .ref (y 0))] → W p l e ({ frames := 1, cells := 0, slots := 0, locals := 26 } : Room) s m ([.ref (y 0)] : List Value).toArray below meth c H locs 0 0 (MQ below (va_Qv (fun (u : Int64) => match u with | g => (True)) (fun u t => Aft D A ((fun (u : Int64) => match u with | g => [((y 0), .inr (0, [.ref (y 1), .ref (y 2), .ref (y 3), .ref (y 4), .ref (y 5), .ref (y 6), .long g, .int (0 : Int32), .ref (y 7)])), ((y 4), .inl (cJ, 145, .inr (.inl (vp_updL (fun _ => (0 : Int64)) (72) ((1000000 : Int64))))))]) u) t) A) ([.ref (y 0)] : List Value).toArray s 0 0 A) (F0 m 92 ls []) := by
    intro n
    induction n with
    | zero => intro i g H locs ls h1 hn; exact absurd hn (by omega)
    | succ n ih =>
      intro i g H locs ls h1 hn X hl
      have ih92 := ih
      refine lv_iload_n hx hb dX0_fillStep_92 rfl (lv_at hl 0 rfl) ?_
      refine lv_aload_n hx hb dX0_fillStep_93 rfl (lv_at hl 2 rfl) ?_
      refine x_get (own := RX0) (T := TX0) C X 0 rfl rfl 3 (by decide) k_8_18 rfl rfl (v := .ref (y 4)) rfl dX0_fillStep_94 ?_
      refine x_alen C X 2 1 rfl rfl (v := (145 : Int32)) (rfl) dX0_fillStep_97 ?_
      refine lv_icmp_ge (tgt := 124) hx hb dX0_fillStep_98 (by decide) (fun c_4 => ?_) (fun c_4 => ?_)
      · have fc_4 : (145 : Int) ≤ ((i : Nat) : Int) := (by have h9 := i_le c_4; simp only [nI_toInt (n := i) (by omega)] at h9; exact h9)
        exact x_vret C X hr hlk (g) [0, 2] (by decide) rfl (trivial) (Nat.le_of_ble_eq_true rfl) (Nat.le_of_ble_eq_true rfl) dX0_fillStep_124
      · have fc_4 : ((i : Nat) : Int) < (145 : Int) := (by have h9 := i_nle c_4; simp only [nI_toInt (n := i) (by omega)] at h9; exact h9)
        refine lv_aload_n hx hb dX0_fillStep_101 rfl (lv_at hl 2 rfl) ?_
        refine lv_aload_n hx hb dX0_fillStep_102 rfl (lv_at hl 2 rfl) ?_
        refine x_get (own := RX0) (T := TX0) C X 0 rfl rfl 6 (by decide) k_8_21 rfl rfl (v := .long g) rfl dX0_fillStep_103 ?_
        refine lv_aload_n hx hb dX0_fillStep_106 rfl (lv_at hl 2 rfl) ?_
        refine x_get (own := RX0) (T := TX0) C X 0 rfl rfl 3 (by decide) k_8_18 rfl rfl (v := .ref (y 4)) rfl dX0_fillStep_107 ?_
        refine lv_iload_n hx hb dX0_fillStep_110 rfl (lv_at hl 0 rfl) ?_
        refine x_lald C X 2 1 rfl rfl (j := i) (nI_clamp (by omega)) (vp_in_nI (by omega) (by omega)) (v := ((vp_updL (fun _ => (0 : Int64)) (72) ((1000000 : Int64))) (i))) (rfl) dX0_fillStep_111 ?_
        refine va_mmax_long hx hb (by rw [C.2.2.1]; exact hl.1.symm) (own := RX0) hown (hts _ k_54_7) (hts _ k_54_8) (hts _ k_18_23) (hts _ k_54_9) (Nat.le_of_ble_eq_true rfl) (Nat.le_of_ble_eq_true rfl) (Nat.le_of_ble_eq_true rfl) (Nat.le_of_ble_eq_true rfl) dX0_fillStep_112 ?_
        refine x_eql (show (if ((vp_updL (fun _ => (0 : Int64)) (72) ((1000000 : Int64))) (i)) < g then g else ((vp_updL (fun _ => (0 : Int64)) (72) ((1000000 : Int64))) (i))) = (if ((vp_updL (fun _ => (0 : Int64)) (72) ((1000000 : Int64))) (i)) < g then g else ((vp_updL (fun _ => (0 : Int64)) (72) ((1000000 : Int64))) (i))) from rfl) ?_
        refine x_put (own := RX0) (T := TX0) C X 0 rfl rfl 6 (by decide) k_8_21 rfl rfl rfl (ty := .long) (v := .long (if ((vp_updL (fun _ => (0 : Int64)) (72) ((1000000 : Int64))) (i)) < g then g else ((vp_updL (fun _ => (0 : Int64)) (72) ((1000000 : Int64))) (i)))) (by decide +kernel) rfl rfl (Nat.le_of_ble_eq_true rfl) dX0_fillStep_115 (fun H locs X => ?_)
        have X : Wd D A s [((y 0), .inr (0, [.ref (y 1), .ref (y 2), .ref (y 3), .ref (y 4), .ref (y 5), .ref (y 6), .long (if ((vp_updL (fun _ => (0 : Int64)) (72) ((1000000 : Int64))) (i)) < g then g else ((vp_updL (fun _ => (0 : Int64)) (72) ((1000000 : Int64))) (i))), .int (0 : Int32), .ref (y 7)])), ((y 1), .inl (cJ, 73, .inr (.inl (lotM)))), ((y 4), .inl (cJ, 145, .inr (.inl (vp_updL (fun _ => (0 : Int64)) (72) ((1000000 : Int64))))))] H locs := X
        refine lv_iinc (v := (nI (i + 1))) (lv' := [(1, .int (nI (i + 1))), (2, .int (1 : Int32)), (0, .ref (y 0))]) hx hb dX0_fillStep_118 hl (k := 0) rfl (nI_add _ 1) (by decide) rfl (fun ls hl => ?_)
        refine lv_goto (tgt := 92) hx hb dX0_fillStep_121 (by decide) ?_
        exact ih92  (i + 1) ((if ((vp_updL (fun _ => (0 : Int64)) (72) ((1000000 : Int64))) (i)) < g then g else ((vp_updL (fun _ => (0 : Int64)) (72) ((1000000 : Int64))) (i)))) H locs ls (by omega) (by omega) (x_sub X [0, 1, 2] (by decide) rfl) (lv_sub hl [0, 1, 2] rfl)
  exact L92 (145 + 1) (0) ((0 : Int64)) H locs ls (by omega) (by omega) (x_sub X [0, 1, 2] (by decide) rfl) (lv_sub hl [0, 1, 2] rfl)
set_option maxHeartbeats 4000000 in
set_option maxRecDepth 100000 in
theorem c_gapsAbove (l : Launch) (D : va_G) (cI cJ cZ cB : ClassId) (cO : ClassId) (y : Nat → Nat) (g : Int64) (f : Nat → Int64) (df : Int32) (g1 : df.toInt < 0) (g2 : -100 < df.toInt) (g3 : f 2160 = 1000000) :
    CL l D [(cI, .int), (cJ, .long), (cZ, .boolean), (cB, .byte), (cO, .object "LuckLinks$World")] yX0_gapsAbove cX0_gapsAbove 7 ({ frames := 1, cells := 0, slots := 0, locals := 24 } : Room) [.ref (y 0), .int df, .int (0 : Int32)] [((y 0), .inr (0, [.ref (y 1), .ref (y 2), .ref (y 3), .ref (y 4), .ref (y 5), .ref (y 6), .long g, .int (0 : Int32), .ref (y 7)])), ((y 5), .inl (cJ, 4321, .inr (.inl (f))))] (fun (r : Int64) (u : Unit) => (r = (1000000 : Int64) ∧ True)) (fun (_ : Unit) => []) := by
  intro sz
  refine body_of (y := yX0_gapsAbove) (cc := cX0_gapsAbove) (maxL := 7) (ret := (some .long)) (rm := ({ frames := 1, cells := 0, slots := 0, locals := 24 } : Room)) (wc := [((y 0), .inr (0, [.ref (y 1), .ref (y 2), .ref (y 3), .ref (y 4), .ref (y 5), .ref (y 6), .long g, .int (0 : Int32), .ref (y 7)])), ((y 5), .inl (cJ, 4321, .inr (.inl (f))))]) (tys := [(cI, .int), (cJ, .long), (cZ, .boolean), (cB, .byte), (cO, .object "LuckLinks$World")]) (D := D) (sz := sz) (own := RX0) (av := [.ref (y 0), .int df, .int (0 : Int32)]) (Qc := fun A => va_Ql (fun (r : Int64) (u : Unit) => (r = (1000000 : Int64) ∧ True)) (fun u t => Aft D A ((fun (_ : Unit) => []) u) t) A) (by decide) rfl (Nat.le_of_ble_eq_true rfl) (fun p e s m below meth c A ls C hr hlk hin X hl => ?_)
  have hx := C.1
  have hb := C.2.1
  have hown := C.2.2.2.1
  have hts := C.2.2.2.2.1
  have hl : lv_has ls 7 [(0, .ref (y 0)), (1, .int df), (2, .int (0 : Int32))] := hl
  show W p l e _ s m _ below meth c s.heap [] 0 0 (MQ below (va_Ql (fun (r : Int64) (u : Unit) => (r = (1000000 : Int64) ∧ True)) (fun u t => Aft D A ((fun (_ : Unit) => []) u) t) A) ([.ref (y 0), .int df, .int (0 : Int32)] : List Value).toArray s 0 0 A) (F0 m 0 ls [])
  have X : Wd D A s [((y 0), .inr (0, [.ref (y 1), .ref (y 2), .ref (y 3), .ref (y 4), .ref (y 5), .ref (y 6), .long g, .int (0 : Int32), .ref (y 7)])), ((y 5), .inl (cJ, 4321, .inr (.inl (f))))] s.heap [] := X
  obtain ⟨H, locs, eH, eL⟩ : ∃ H locs, H = s.heap ∧ locs = ([] : List Loc) := ⟨_, _, rfl, rfl⟩
  rw [← eH, ← eL] at X ⊢
  clear eH eL
  refine lv_lconst (v := (0 : Int64)) hx hb dX0_gapsAbove_0 (by decide) ?_
  refine lv_lstore_n (lv' := [(3, .long (0 : Int64)), (0, .ref (y 0)), (1, .int df), (2, .int (0 : Int32))]) hx hb dX0_gapsAbove_1 rfl hl (by decide) rfl (fun ls hl => ?_)
  refine lv_iconst (v := (0 : Int32)) hx hb dX0_gapsAbove_2 (by decide) ?_
  refine lv_sipush (v := (2160 : Int32)) hx hb dX0_gapsAbove_3 (by decide) ?_
  refine lv_iload_n hx hb dX0_gapsAbove_6 rfl (lv_at hl 3 rfl) ?_
  refine lv_ineg hx hb dX0_gapsAbove_7 ?_
  refine x_eqi (show -(0 : Int32) = (0 : Int32) from by decide +kernel) ?_
  refine lv_iload_n hx hb dX0_gapsAbove_8 rfl (lv_at hl 2 rfl) ?_
  refine lv_iconst (v := (1 : Int32)) hx hb dX0_gapsAbove_9 (by decide) ?_
  refine lv_iadd hx hb dX0_gapsAbove_10 ?_
  refine va_mmax hx hb (by rw [C.2.2.1]; exact hl.1.symm) (own := RX0) hown (hts _ k_53_0) (hts _ k_33_6) (hts _ k_18_23) (hts _ k_33_7) (Nat.le_of_ble_eq_true rfl) (Nat.le_of_ble_eq_true rfl) (Nat.le_of_ble_eq_true rfl) (Nat.le_of_ble_eq_true rfl) dX0_gapsAbove_11 ?_
  refine x_eqi (show (if (0 : Int32) < (df + (1 : Int32)) then (df + (1 : Int32)) else (0 : Int32)) = (0 : Int32) from i_neg1 g1 g2) ?_
  refine lv_iadd hx hb dX0_gapsAbove_14 ?_
  refine x_eqi (show (2160 : Int32) + (0 : Int32) = (2160 : Int32) from by decide +kernel) ?_
  refine va_mmax hx hb (by rw [C.2.2.1]; exact hl.1.symm) (own := RX0) hown (hts _ k_53_0) (hts _ k_33_6) (hts _ k_18_23) (hts _ k_33_7) (Nat.le_of_ble_eq_true rfl) (Nat.le_of_ble_eq_true rfl) (Nat.le_of_ble_eq_true rfl) (Nat.le_of_ble_eq_true rfl) dX0_gapsAbove_15 ?_
  refine x_eqi (show (if (0 : Int32) < (2160 : Int32) then (2160 : Int32) else (0 : Int32)) = (2160 : Int32) from by decide) ?_
  refine lv_istore (lv' := [(5, .int (2160 : Int32)), (3, .long (0 : Int64)), (0, .ref (y 0)), (1, .int df), (2, .int (0 : Int32))]) hx hb dX0_gapsAbove_18 hl (by decide) rfl (fun ls hl => ?_)
  refine lv_iload hx hb dX0_gapsAbove_20 (lv_at hl 0 rfl) ?_
  refine lv_istore (lv' := [(6, .int (2160 : Int32)), (5, .int (2160 : Int32)), (3, .long (0 : Int64)), (0, .ref (y 0)), (1, .int df), (2, .int (0 : Int32))]) hx hb dX0_gapsAbove_22 hl (by decide) rfl (fun ls hl => ?_)
  refine lv_iload hx hb dX0_gapsAbove_24 (lv_at hl 0 rfl) ?_
  refine lv_sipush (v := (2160 : Int32)) hx hb dX0_gapsAbove_26 (by decide) ?_
  refine lv_iload_n hx hb dX0_gapsAbove_29 rfl (lv_at hl 5 rfl) ?_
  refine lv_iadd hx hb dX0_gapsAbove_30 ?_
  refine x_eqi (show (2160 : Int32) + (0 : Int32) = (2160 : Int32) from by decide +kernel) ?_
  refine lv_icmp_gt (tgt := 60) hx hb dX0_gapsAbove_31 (by decide) (fun c0 => absurd c0 (by decide)) (fun _ => ?_)
  refine lv_iload hx hb dX0_gapsAbove_34 (lv_at hl 0 rfl) ?_
  refine lv_aload_n hx hb dX0_gapsAbove_36 rfl (lv_at hl 3 rfl) ?_
  refine x_get (own := RX0) (T := TX0) C X 0 rfl rfl 4 (by decide) k_8_19 rfl rfl (v := .ref (y 5)) rfl dX0_gapsAbove_37 ?_
  refine x_alen C X 1 1 rfl rfl (v := (4321 : Int32)) (rfl) dX0_gapsAbove_40 ?_
  refine lv_icmp_ge (tgt := 60) hx hb dX0_gapsAbove_41 (by decide) (fun c0 => absurd c0 (by decide)) (fun _ => ?_)
  refine lv_lload_n hx hb dX0_gapsAbove_44 rfl (lv_at hl 2 rfl) ?_
  refine lv_aload_n hx hb dX0_gapsAbove_45 rfl (lv_at hl 3 rfl) ?_
  refine x_get (own := RX0) (T := TX0) C X 0 rfl rfl 4 (by decide) k_8_19 rfl rfl (v := .ref (y 5)) rfl dX0_gapsAbove_46 ?_
  refine lv_iload hx hb dX0_gapsAbove_49 (lv_at hl 0 rfl) ?_
  refine x_lald C X 1 1 rfl rfl (j := 2160) rfl (vp_in_nI (n := 2160) (by omega) (by omega)) (v := (1000000 : Int64)) (g3) dX0_gapsAbove_51 ?_
  refine lv_ladd hx hb dX0_gapsAbove_52 ?_
  refine x_eql (show (0 : Int64) + (1000000 : Int64) = (1000000 : Int64) from by decide +kernel) ?_
  refine lv_lstore_n (lv' := [(3, .long (1000000 : Int64)), (6, .int (2160 : Int32)), (5, .int (2160 : Int32)), (0, .ref (y 0)), (1, .int df), (2, .int (0 : Int32))]) hx hb dX0_gapsAbove_53 rfl hl (by decide) rfl (fun ls hl => ?_)
  refine lv_iinc (v := (2161 : Int32)) (lv' := [(6, .int (2161 : Int32)), (3, .long (1000000 : Int64)), (5, .int (2160 : Int32)), (0, .ref (y 0)), (1, .int df), (2, .int (0 : Int32))]) hx hb dX0_gapsAbove_54 hl (k := 1) rfl (by decide) (by decide) rfl (fun ls hl => ?_)
  refine lv_goto (tgt := 24) hx hb dX0_gapsAbove_57 (by decide) ?_
  refine lv_iload hx hb dX0_gapsAbove_24 (lv_at hl 0 rfl) ?_
  refine lv_sipush (v := (2160 : Int32)) hx hb dX0_gapsAbove_26 (by decide) ?_
  refine lv_iload_n hx hb dX0_gapsAbove_29 rfl (lv_at hl 5 rfl) ?_
  refine lv_iadd hx hb dX0_gapsAbove_30 ?_
  refine x_eqi (show (2160 : Int32) + (0 : Int32) = (2160 : Int32) from by decide +kernel) ?_
  refine lv_icmp_gt (tgt := 60) hx hb dX0_gapsAbove_31 (by decide) (fun _ => ?_) (fun c0 => absurd (by decide) c0)
  refine lv_lload_n hx hb dX0_gapsAbove_60 rfl (lv_at hl 1 rfl) ?_
  exact x_lret C X hr hlk (v := (1000000 : Int64)) (()) [] (by decide) rfl (⟨rfl, trivial⟩) (Nat.le_of_ble_eq_true rfl) (Nat.le_of_ble_eq_true rfl) dX0_gapsAbove_61
set_option maxHeartbeats 4000000 in
set_option maxRecDepth 100000 in
theorem c_roundsNeeded (l : Launch) (D : va_G) (cI cJ cZ cB : ClassId) (cO : ClassId) (y g : Nat → Nat) (d q : Int32) (g1 : 1 ≤ d.toInt) (g2 : d.toInt ≤ 40) (g3 : 1 ≤ q.toInt) (g4 : q.toInt ≤ 100) :
    CI l D [(cI, .int), (cJ, .long), (cZ, .boolean), (cB, .byte), (cO, .object "LuckLinks$World")] yX0_roundsNeeded cX0_roundsNeeded 8 (some .int) ({ frames := 3, cells := 0, slots := 0, locals := 108 } : Room) [.ref (y 0), .int d, .int q, .ref (g 0)] [((y 0), .inr (0, [.ref (y 1), .ref (y 2), .ref (y 3), .ref (y 4), .ref (y 5), .ref (y 6), .long (0 : Int64), .int (0 : Int32), .ref (y 7)])), ((y 1), .inl (cJ, 73, .inr (.inl (fun _ => (0 : Int64))))), ((y 2), .inl (cJ, 73, .inr (.inl (fun _ => (0 : Int64))))), ((y 3), .inl (cJ, 74, .inr (.inl (fun _ => (0 : Int64))))), ((y 4), .inl (cJ, 145, .inr (.inl (fun _ => (0 : Int64))))), ((y 5), .inl (cJ, 4321, .inr (.inl (fun _ => (0 : Int64))))), ((g 0), .inr (3, [.int (0 : Int32), .ref (g 1), .ref (g 2), .ref (g 3), .ref (g 4), .ref (g 5), .ref (g 6), .ref (g 7), .int (0 : Int32), .ref (g 8), .ref (g 9), .ref (g 10), .int (0 : Int32), .ref (g 11), .ref (g 12), .ref (g 13), .ref (g 14), .int (0 : Int32), .ref (g 15)])), ((g 2), .inl (cI, 4, .inl (fun _ => (0 : Int32))))] (fun (r : Int32) (u : Unit) => (r = (1 : Int32) ∧ True)) (fun (_ : Unit) => []) := by
  intro sz
  refine body_of (y := yX0_roundsNeeded) (cc := cX0_roundsNeeded) (maxL := 8) (ret := (some .int)) (rm := ({ frames := 3, cells := 0, slots := 0, locals := 108 } : Room)) (wc := [((y 0), .inr (0, [.ref (y 1), .ref (y 2), .ref (y 3), .ref (y 4), .ref (y 5), .ref (y 6), .long (0 : Int64), .int (0 : Int32), .ref (y 7)])), ((y 1), .inl (cJ, 73, .inr (.inl (fun _ => (0 : Int64))))), ((y 2), .inl (cJ, 73, .inr (.inl (fun _ => (0 : Int64))))), ((y 3), .inl (cJ, 74, .inr (.inl (fun _ => (0 : Int64))))), ((y 4), .inl (cJ, 145, .inr (.inl (fun _ => (0 : Int64))))), ((y 5), .inl (cJ, 4321, .inr (.inl (fun _ => (0 : Int64))))), ((g 0), .inr (3, [.int (0 : Int32), .ref (g 1), .ref (g 2), .ref (g 3), .ref (g 4), .ref (g 5), .ref (g 6), .ref (g 7), .int (0 : Int32), .ref (g 8), .ref (g 9), .ref (g 10), .int (0 : Int32), .ref (g 11), .ref (g 12), .ref (g 13), .ref (g 14), .int (0 : Int32), .ref (g 15)])), ((g 2), .inl (cI, 4, .inl (fun _ => (0 : Int32))))]) (tys := [(cI, .int), (cJ, .long), (cZ, .boolean), (cB, .byte), (cO, .object "LuckLinks$World")]) (D := D) (sz := sz) (own := RX0) (av := [.ref (y 0), .int d, .int q, .ref (g 0)]) (Qc := fun A => va_Qi (fun (r : Int32) (u : Unit) => (r = (1 : Int32) ∧ True)) (fun u t => Aft D A ((fun (_ : Unit) => []) u) t) A) (by decide) rfl (Nat.le_of_ble_eq_true rfl) (fun p e s m below meth c A ls C hr hlk hin X hl => ?_)
  have hx := C.1
  have hb := C.2.1
  have hown := C.2.2.2.1
  have hts := C.2.2.2.2.1
  have hl : lv_has ls 8 [(0, .ref (y 0)), (1, .int d), (2, .int q), (3, .ref (g 0))] := hl
  show W p l e _ s m _ below meth c s.heap [] 0 0 (MQ below (va_Qi (fun (r : Int32) (u : Unit) => (r = (1 : Int32) ∧ True)) (fun u t => Aft D A ((fun (_ : Unit) => []) u) t) A) ([.ref (y 0), .int d, .int q, .ref (g 0)] : List Value).toArray s 0 0 A) (F0 m 0 ls [])
  have X : Wd D A s [((y 0), .inr (0, [.ref (y 1), .ref (y 2), .ref (y 3), .ref (y 4), .ref (y 5), .ref (y 6), .long (0 : Int64), .int (0 : Int32), .ref (y 7)])), ((y 1), .inl (cJ, 73, .inr (.inl (fun _ => (0 : Int64))))), ((y 2), .inl (cJ, 73, .inr (.inl (fun _ => (0 : Int64))))), ((y 3), .inl (cJ, 74, .inr (.inl (fun _ => (0 : Int64))))), ((y 4), .inl (cJ, 145, .inr (.inl (fun _ => (0 : Int64))))), ((y 5), .inl (cJ, 4321, .inr (.inl (fun _ => (0 : Int64))))), ((g 0), .inr (3, [.int (0 : Int32), .ref (g 1), .ref (g 2), .ref (g 3), .ref (g 4), .ref (g 5), .ref (g 6), .ref (g 7), .int (0 : Int32), .ref (g 8), .ref (g 9), .ref (g 10), .int (0 : Int32), .ref (g 11), .ref (g 12), .ref (g 13), .ref (g 14), .int (0 : Int32), .ref (g 15)])), ((g 2), .inl (cI, 4, .inl (fun _ => (0 : Int32))))] s.heap [] := X
  obtain ⟨H, locs, eH, eL⟩ : ∃ H locs, H = s.heap ∧ locs = ([] : List Loc) := ⟨_, _, rfl, rfl⟩
  rw [← eH, ← eL] at X ⊢
  clear eH eL
  refine lv_aload_n hx hb dX0_roundsNeeded_0 rfl (lv_at hl 0 rfl) ?_
  refine lv_aload_n hx hb dX0_roundsNeeded_1 rfl (lv_at hl 3 rfl) ?_
  refine x_cVv (own := RX0) (wr := [((y 4), .inl (cJ, 145, .inr (.inl (fun _ => (0 : Int64))))), ((y 5), .inl (cJ, 4321, .inr (.inl (fun _ => (0 : Int64)))))]) (As := [.ref (g 0)]) C X hl.1 (c_fillLot l D cI cJ cZ cB cO y g) [0, 1, 2, 3, 6, 7] [4, 5] ⟨rfl, rfl, by decide, by decide, by decide⟩ (qb := 0) rfl rfl k_52_7 k_52_8 k_52_9 k_3_7 k_52_10 (n := 1) (by decide +kernel) ⟨Nat.le_of_ble_eq_true rfl, Nat.le_of_ble_eq_true rfl⟩ rfl rfl (Nat.le_of_ble_eq_true rfl) dX0_roundsNeeded_2 ⟨Nat.le_of_ble_eq_true rfl, Nat.le_of_ble_eq_true rfl⟩ (fun u_1 H locs w_3 X => ?_)
  have X : Wd D A s [((y 4), .inl (cJ, 145, .inr (.inl (fun _ => (0 : Int64))))), ((y 5), .inl (cJ, 4321, .inr (.inl (fun _ => (0 : Int64))))), ((y 0), .inr (0, [.ref (y 1), .ref (y 2), .ref (y 3), .ref (y 4), .ref (y 5), .ref (y 6), .long (0 : Int64), .int (0 : Int32), .ref (y 7)])), ((y 1), .inl (cJ, 73, .inr (.inl (lotM))))] H locs := X
  refine W.widen (k := 0) (n := 0) (Nat.le_of_ble_eq_true rfl) (Nat.le_of_ble_eq_true rfl) ?_
  refine lv_aload_n hx hb dX0_roundsNeeded_5 rfl (lv_at hl 0 rfl) ?_
  refine x_cVv (own := RX0) (wr := [((y 5), .inl (cJ, 4321, .inr (.inl (fun _ => (0 : Int64)))))]) (As := []) C X hl.1 (c_fillStep l D cI cJ cZ cB cO y) [2, 3, 0] [1] ⟨rfl, rfl, by decide, by decide, by decide⟩ (qb := 0) rfl rfl k_54_3 k_54_4 k_54_5 k_3_7 k_54_6 (n := 0) (by decide +kernel) ⟨Nat.le_of_ble_eq_true rfl, Nat.le_of_ble_eq_true rfl⟩ rfl rfl (Nat.le_of_ble_eq_true rfl) dX0_roundsNeeded_6 ⟨Nat.le_of_ble_eq_true rfl, Nat.le_of_ble_eq_true rfl⟩ (fun gs_4 H locs w_6 X => ?_)
  have X : Wd D A s [((y 5), .inl (cJ, 4321, .inr (.inl (fun _ => (0 : Int64))))), ((y 0), .inr (0, [.ref (y 1), .ref (y 2), .ref (y 3), .ref (y 4), .ref (y 5), .ref (y 6), .long gs_4, .int (0 : Int32), .ref (y 7)])), ((y 4), .inl (cJ, 145, .inr (.inl (vp_updL (fun _ => (0 : Int64)) (72) ((1000000 : Int64))))))] H locs := X
  refine W.widen (k := 0) (n := 0) (Nat.le_of_ble_eq_true rfl) (Nat.le_of_ble_eq_true rfl) ?_
  refine lv_aload_n hx hb dX0_roundsNeeded_9 rfl (lv_at hl 0 rfl) ?_
  refine x_get (own := RX0) (T := TX0) C X 1 rfl rfl 4 (by decide) k_8_19 rfl rfl (v := .ref (y 5)) rfl dX0_roundsNeeded_10 ?_
  refine lv_lconst (v := (0 : Int64)) hx hb dX0_roundsNeeded_13 (by decide) ?_
  refine x_cSv (own := RX0) (wr := [((y 0), .inr (0, [.ref (y 1), .ref (y 2), .ref (y 3), .ref (y 4), .ref (y 5), .ref (y 6), .long gs_4, .int (0 : Int32), .ref (y 7)])), ((y 4), .inl (cJ, 145, .inr (.inl (vp_updL (fun _ => (0 : Int64)) (72) ((1000000 : Int64))))))]) (As := [.ref (y 5), .long (0 : Int64)]) C X hl.1 (c_fillJ l D cI cJ cZ cB cO (y 5) 4321 (fun _ => (0 : Int64)) (0 : Int64) (by omega)) [0] [1, 2] ⟨rfl, rfl, by decide, by decide, by decide⟩ k_52_13 k_52_14 k_4_7 k_52_15 (n := 2) (by decide +kernel) ⟨Nat.le_of_ble_eq_true rfl, Nat.le_of_ble_eq_true rfl⟩ rfl rfl (Nat.le_of_ble_eq_true rfl) dX0_roundsNeeded_14 ⟨Nat.le_of_ble_eq_true rfl, Nat.le_of_ble_eq_true rfl⟩ (fun u_7 H locs w_9 X => ?_)
  have X : Wd D A s [((y 0), .inr (0, [.ref (y 1), .ref (y 2), .ref (y 3), .ref (y 4), .ref (y 5), .ref (y 6), .long gs_4, .int (0 : Int32), .ref (y 7)])), ((y 4), .inl (cJ, 145, .inr (.inl (vp_updL (fun _ => (0 : Int64)) (72) ((1000000 : Int64)))))), ((y 5), .inl (cJ, 4321, .inr (.inl (fun _ => (0 : Int64)))))] H locs := X
  refine W.widen (k := 0) (n := 0) (Nat.le_of_ble_eq_true rfl) (Nat.le_of_ble_eq_true rfl) ?_
  refine lv_aload_n hx hb dX0_roundsNeeded_17 rfl (lv_at hl 0 rfl) ?_
  refine x_get (own := RX0) (T := TX0) C X 0 rfl rfl 3 (by decide) k_8_18 rfl rfl (v := .ref (y 4)) rfl dX0_roundsNeeded_18 ?_
  refine lv_iconst (v := (0 : Int32)) hx hb dX0_roundsNeeded_21 (by decide) ?_
  refine lv_aload_n hx hb dX0_roundsNeeded_22 rfl (lv_at hl 0 rfl) ?_
  refine x_get (own := RX0) (T := TX0) C X 0 rfl rfl 4 (by decide) k_8_19 rfl rfl (v := .ref (y 5)) rfl dX0_roundsNeeded_23 ?_
  refine lv_sipush (v := (2088 : Int32)) hx hb dX0_roundsNeeded_26 (by decide) ?_
  refine lv_aload_n hx hb dX0_roundsNeeded_29 rfl (lv_at hl 0 rfl) ?_
  refine x_get (own := RX0) (T := TX0) C X 0 rfl rfl 3 (by decide) k_8_18 rfl rfl (v := .ref (y 4)) rfl dX0_roundsNeeded_30 ?_
  refine x_alen C X 1 1 rfl rfl (v := (145 : Int32)) (rfl) dX0_roundsNeeded_33 ?_
  refine va_copyl (ty := .long) hx hb (by rw [C.2.2.1]; exact hl.1.symm) (own := RX0) hown (hts _ k_52_20) (hts _ k_52_21) (hts _ k_52_22) (hts _ k_52_23) C.2.2.2.2.2.1 X.1 X.2.1 X.2.2.1 1 2 1 1 rfl rfl rfl rfl rfl (by decide) (by decide) (by decide) (Nat.le_of_ble_eq_true rfl) (Nat.le_of_ble_eq_true rfl) (fun _ _ => rfl) (Nat.le_of_ble_eq_true rfl) (by decide) dX0_roundsNeeded_34 (fun H locs a1 a2 a3 => ?_)
  have X : Wd D A s [((y 0), .inr (0, [.ref (y 1), .ref (y 2), .ref (y 3), .ref (y 4), .ref (y 5), .ref (y 6), .long gs_4, .int (0 : Int32), .ref (y 7)])), ((y 4), .inl (cJ, 145, .inr (.inl (vp_updL (fun _ => (0 : Int64)) (72) ((1000000 : Int64)))))), ((y 5), .inl (cJ, 4321, .inr (.inl (va_cpy (vp_updL (fun _ => (0 : Int64)) (72) ((1000000 : Int64))) (fun _ => (0 : Int64)) 0 2088 145))))] H locs := ⟨a1, a2, a3, X.2.2.2⟩
  refine lv_iload_n hx hb dX0_roundsNeeded_37 rfl (lv_at hl 2 rfl) ?_
  refine lv_i2l (v := (q).toInt64) hx hb dX0_roundsNeeded_38 (rfl) ?_
  refine lv_ldc2 (own := RX0) (v := (10000 : Int64)) hx hb hown (hts _ k_54_2) dX0_roundsNeeded_39 ?_
  refine lv_lmul hx hb dX0_roundsNeeded_42 ?_
  refine lv_lstore (lv' := [(4, .long ((q).toInt64 * (10000 : Int64))), (0, .ref (y 0)), (1, .int d), (2, .int q), (3, .ref (g 0))]) hx hb dX0_roundsNeeded_43 hl (by decide) rfl (fun ls hl => ?_)
  refine lv_iconst (v := (2 : Int32)) hx hb dX0_roundsNeeded_45 (by decide) ?_
  refine lv_aload_n hx hb dX0_roundsNeeded_46 rfl (lv_at hl 1 rfl) ?_
  refine x_get (own := RX0) (T := TX0) C X 0 rfl rfl 7 (by decide) k_8_22 rfl rfl (v := .int (0 : Int32)) rfl dX0_roundsNeeded_47 ?_
  refine lv_imul hx hb dX0_roundsNeeded_50 ?_
  refine x_eqi (show (2 : Int32) * (0 : Int32) = (0 : Int32) from by decide +kernel) ?_
  refine lv_istore (lv' := [(6, .int (0 : Int32)), (4, .long ((q).toInt64 * (10000 : Int64))), (0, .ref (y 0)), (1, .int d), (2, .int q), (3, .ref (g 0))]) hx hb dX0_roundsNeeded_51 hl (by decide) rfl (fun ls hl => ?_)
  refine lv_iconst (v := (1 : Int32)) hx hb dX0_roundsNeeded_53 (by decide) ?_
  refine lv_istore (lv' := [(7, .int (1 : Int32)), (6, .int (0 : Int32)), (4, .long ((q).toInt64 * (10000 : Int64))), (0, .ref (y 0)), (1, .int d), (2, .int q), (3, .ref (g 0))]) hx hb dX0_roundsNeeded_54 hl (by decide) rfl (fun ls hl => ?_)
  refine lv_iload hx hb dX0_roundsNeeded_56 (lv_at hl 0 rfl) ?_
  refine lv_bipush (v := (30 : Int32)) hx hb dX0_roundsNeeded_58 (by decide) ?_
  refine lv_icmp_gt (tgt := 132) hx hb dX0_roundsNeeded_60 (by decide) (fun c0 => absurd c0 (by decide)) (fun _ => ?_)
  refine lv_aload_n hx hb dX0_roundsNeeded_63 rfl (lv_at hl 3 rfl) ?_
  refine lv_iload hx hb dX0_roundsNeeded_64 (lv_at hl 0 rfl) ?_
  refine lv_ineg hx hb dX0_roundsNeeded_66 ?_
  refine x_eqi (show -(1 : Int32) = (-1 : Int32) from by decide +kernel) ?_
  refine lv_iload_n hx hb dX0_roundsNeeded_67 rfl (lv_at hl 4 rfl) ?_
  refine lv_imul hx hb dX0_roundsNeeded_68 ?_
  refine lv_iload hx hb dX0_roundsNeeded_69 (lv_at hl 1 rfl) ?_
  refine x_cVl (own := RX0) (wr := [((y 4), .inl (cJ, 145, .inr (.inl (vp_updL (fun _ => (0 : Int64)) (72) ((1000000 : Int64))))))]) (As := [.int ((-1 : Int32) * d), .int (0 : Int32)]) C X hl.1 (c_gapsAbove l D cI cJ cZ cB cO y gs_4 (va_cpy (vp_updL (fun _ => (0 : Int64)) (72) ((1000000 : Int64))) (fun _ => (0 : Int64)) 0 2088 145) ((-1 : Int32) * d) (by rw [i_m1 (by omega) (by omega)]; omega) (by rw [i_m1 (by omega) (by omega)]; omega) (by decide +kernel)) [0, 2] [1] ⟨rfl, rfl, by decide, by decide, by decide⟩ (qb := 0) rfl rfl k_54_10 k_54_11 k_54_12 k_3_7 k_54_13 (n := 2) (by decide +kernel) ⟨Nat.le_of_ble_eq_true rfl, Nat.le_of_ble_eq_true rfl⟩ rfl rfl (Nat.le_of_ble_eq_true rfl) dX0_roundsNeeded_71 ⟨Nat.le_of_ble_eq_true rfl, Nat.le_of_ble_eq_true rfl⟩ (fun r_11 u_10 H locs w_12 X => ?_)
  have X : Wd D A s [((y 4), .inl (cJ, 145, .inr (.inl (vp_updL (fun _ => (0 : Int64)) (72) ((1000000 : Int64))))))] H locs := X
  refine W.widen (k := 0) (n := 0) (Nat.le_of_ble_eq_true rfl) (Nat.le_of_ble_eq_true rfl) ?_
  obtain ⟨rfl, fw_12⟩ : r_11 = (1000000 : Int64) ∧ True := w_12
  refine lv_lload hx hb dX0_roundsNeeded_74 (lv_at hl 2 rfl) ?_
  refine W.lcmp hx hb dX0_roundsNeeded_76 ?_
  refine x_eqi (show lg_cmp (1000000 : Int64) ((q).toInt64 * (10000 : Int64)) = (lg_cmp (1000000 : Int64) ((q).toInt64 * (10000 : Int64))) from rfl) ?_
  refine lv_if_lt (tgt := 83) hx hb dX0_roundsNeeded_77 (by decide) (fun c_13 => by exfalso; have h8 : ((lg_cmp (1000000 : Int64) ((q).toInt64 * (10000 : Int64)))).toInt < (0 : Int) := i_lt c_13; (have h7 := need_cmp (q := q) (by omega) (by omega); omega)) (fun c_13 => ?_)
  have fc_13 : (0 : Int) ≤ ((lg_cmp (1000000 : Int64) ((q).toInt64 * (10000 : Int64)))).toInt := i_nlt c_13
  refine lv_iload hx hb dX0_roundsNeeded_80 (lv_at hl 0 rfl) ?_
  exact x_iret C X hr hlk (v := (1 : Int32)) (by first | rfl | decide) (()) [] (by decide) rfl (⟨rfl, trivial⟩) (Nat.le_of_ble_eq_true rfl) (Nat.le_of_ble_eq_true rfl) dX0_roundsNeeded_82
set_option maxHeartbeats 4000000 in
set_option maxRecDepth 100000 in
theorem cx_need (l : Launch) (D : va_G) (cI cJ cZ cB : ClassId) (cO : ClassId) (x : Nat → Nat) (p1 p2 : Int32) :
    CI l D [(cI, .int), (cJ, .long), (cZ, .boolean), (cB, .byte), (cO, .object "LuckLinks$World")] yX11_need cX11_need 3 (some .int) ({ frames := 4, cells := 0, slots := 0, locals := 135 } : Room) [.ref (x 0), .int p1, .int p2] [((x 0), .inr (11, [.ref (x 1), .ref (x 10), .int (0 : Int32), .ref (x 11), .int (0 : Int32), .ref (x 12), .ref (x 34), .ref (x 50), .int (-1 : Int32), .ref (x 66), .ref (x 67), .ref (x 68), .ref (x 76), .ref (x 81), .ref (x 84), .ref (x 89), .ref (x 97)])), ((x 89), .inr (0, [.ref (x 90), .ref (x 91), .ref (x 92), .ref (x 93), .ref (x 94), .ref (x 95), .long (0 : Int64), .int (0 : Int32), .ref (x 96)])), ((x 90), .inl (cJ, 73, .inr (.inl (fun _ => (0 : Int64))))), ((x 91), .inl (cJ, 73, .inr (.inl (fun _ => (0 : Int64))))), ((x 92), .inl (cJ, 74, .inr (.inl (fun _ => (0 : Int64))))), ((x 93), .inl (cJ, 145, .inr (.inl (fun _ => (0 : Int64))))), ((x 94), .inl (cJ, 4321, .inr (.inl (fun _ => (0 : Int64))))), ((x 34), .inr (3, [.int (0 : Int32), .ref (x 35), .ref (x 36), .ref (x 37), .ref (x 38), .ref (x 39), .ref (x 40), .ref (x 41), .int (0 : Int32), .ref (x 42), .ref (x 43), .ref (x 44), .int (0 : Int32), .ref (x 45), .ref (x 46), .ref (x 47), .ref (x 48), .int (0 : Int32), .ref (x 49)])), ((x 36), .inl (cI, 4, .inl (fun _ => (0 : Int32))))] (fun (r : Int32) (u : Unit) => (r = (1 : Int32) ∧ (1 ≤ p1.toInt ∧ p1.toInt ≤ 40 ∧ 1 ≤ p2.toInt ∧ p2.toInt ≤ 100)) ∨ (r = (-1 : Int32) ∧ (p1.toInt < 1 ∨ 40 < p1.toInt ∨ p2.toInt < 1 ∨ 100 < p2.toInt))) (fun (_ : Unit) => []) := by
  intro sz
  refine body_of (y := yX11_need) (cc := cX11_need) (maxL := 3) (ret := (some .int)) (rm := ({ frames := 4, cells := 0, slots := 0, locals := 135 } : Room)) (wc := [((x 0), .inr (11, [.ref (x 1), .ref (x 10), .int (0 : Int32), .ref (x 11), .int (0 : Int32), .ref (x 12), .ref (x 34), .ref (x 50), .int (-1 : Int32), .ref (x 66), .ref (x 67), .ref (x 68), .ref (x 76), .ref (x 81), .ref (x 84), .ref (x 89), .ref (x 97)])), ((x 89), .inr (0, [.ref (x 90), .ref (x 91), .ref (x 92), .ref (x 93), .ref (x 94), .ref (x 95), .long (0 : Int64), .int (0 : Int32), .ref (x 96)])), ((x 90), .inl (cJ, 73, .inr (.inl (fun _ => (0 : Int64))))), ((x 91), .inl (cJ, 73, .inr (.inl (fun _ => (0 : Int64))))), ((x 92), .inl (cJ, 74, .inr (.inl (fun _ => (0 : Int64))))), ((x 93), .inl (cJ, 145, .inr (.inl (fun _ => (0 : Int64))))), ((x 94), .inl (cJ, 4321, .inr (.inl (fun _ => (0 : Int64))))), ((x 34), .inr (3, [.int (0 : Int32), .ref (x 35), .ref (x 36), .ref (x 37), .ref (x 38), .ref (x 39), .ref (x 40), .ref (x 41), .int (0 : Int32), .ref (x 42), .ref (x 43), .ref (x 44), .int (0 : Int32), .ref (x 45), .ref (x 46), .ref (x 47), .ref (x 48), .int (0 : Int32), .ref (x 49)])), ((x 36), .inl (cI, 4, .inl (fun _ => (0 : Int32))))]) (tys := [(cI, .int), (cJ, .long), (cZ, .boolean), (cB, .byte), (cO, .object "LuckLinks$World")]) (D := D) (sz := sz) (own := RX11) (av := [.ref (x 0), .int p1, .int p2]) (Qc := fun A => va_Qi (fun (r : Int32) (u : Unit) => (r = (1 : Int32) ∧ (1 ≤ p1.toInt ∧ p1.toInt ≤ 40 ∧ 1 ≤ p2.toInt ∧ p2.toInt ≤ 100)) ∨ (r = (-1 : Int32) ∧ (p1.toInt < 1 ∨ 40 < p1.toInt ∨ p2.toInt < 1 ∨ 100 < p2.toInt))) (fun u t => Aft D A ((fun (_ : Unit) => []) u) t) A) (by decide) rfl (Nat.le_of_ble_eq_true rfl) (fun p e s m below meth c A ls C hr hlk hin X hl => ?_)
  have hx := C.1
  have hb := C.2.1
  have hown := C.2.2.2.1
  have hts := C.2.2.2.2.1
  have hl : lv_has ls 3 [(0, .ref (x 0)), (1, .int p1), (2, .int p2)] := hl
  show W p l e _ s m _ below meth c s.heap [] 0 0 (MQ below (va_Qi (fun (r : Int32) (u : Unit) => (r = (1 : Int32) ∧ (1 ≤ p1.toInt ∧ p1.toInt ≤ 40 ∧ 1 ≤ p2.toInt ∧ p2.toInt ≤ 100)) ∨ (r = (-1 : Int32) ∧ (p1.toInt < 1 ∨ 40 < p1.toInt ∨ p2.toInt < 1 ∨ 100 < p2.toInt))) (fun u t => Aft D A ((fun (_ : Unit) => []) u) t) A) ([.ref (x 0), .int p1, .int p2] : List Value).toArray s 0 0 A) (F0 m 0 ls [])
  have X : Wd D A s [((x 0), .inr (11, [.ref (x 1), .ref (x 10), .int (0 : Int32), .ref (x 11), .int (0 : Int32), .ref (x 12), .ref (x 34), .ref (x 50), .int (-1 : Int32), .ref (x 66), .ref (x 67), .ref (x 68), .ref (x 76), .ref (x 81), .ref (x 84), .ref (x 89), .ref (x 97)])), ((x 89), .inr (0, [.ref (x 90), .ref (x 91), .ref (x 92), .ref (x 93), .ref (x 94), .ref (x 95), .long (0 : Int64), .int (0 : Int32), .ref (x 96)])), ((x 90), .inl (cJ, 73, .inr (.inl (fun _ => (0 : Int64))))), ((x 91), .inl (cJ, 73, .inr (.inl (fun _ => (0 : Int64))))), ((x 92), .inl (cJ, 74, .inr (.inl (fun _ => (0 : Int64))))), ((x 93), .inl (cJ, 145, .inr (.inl (fun _ => (0 : Int64))))), ((x 94), .inl (cJ, 4321, .inr (.inl (fun _ => (0 : Int64))))), ((x 34), .inr (3, [.int (0 : Int32), .ref (x 35), .ref (x 36), .ref (x 37), .ref (x 38), .ref (x 39), .ref (x 40), .ref (x 41), .int (0 : Int32), .ref (x 42), .ref (x 43), .ref (x 44), .int (0 : Int32), .ref (x 45), .ref (x 46), .ref (x 47), .ref (x 48), .int (0 : Int32), .ref (x 49)])), ((x 36), .inl (cI, 4, .inl (fun _ => (0 : Int32))))] s.heap [] := X
  obtain ⟨H, locs, eH, eL⟩ : ∃ H locs, H = s.heap ∧ locs = ([] : List Loc) := ⟨_, _, rfl, rfl⟩
  rw [← eH, ← eL] at X ⊢
  clear eH eL
  refine lv_iload_n hx hb dX11_need_0 rfl (lv_at hl 1 rfl) ?_
  refine lv_iconst (v := (1 : Int32)) hx hb dX11_need_1 (by decide) ?_
  refine lv_bipush (v := (40 : Int32)) hx hb dX11_need_2 (by decide) ?_
  refine x_cS (own := RX11) (wr := [((x 0), .inr (11, [.ref (x 1), .ref (x 10), .int (0 : Int32), .ref (x 11), .int (0 : Int32), .ref (x 12), .ref (x 34), .ref (x 50), .int (-1 : Int32), .ref (x 66), .ref (x 67), .ref (x 68), .ref (x 76), .ref (x 81), .ref (x 84), .ref (x 89), .ref (x 97)])), ((x 89), .inr (0, [.ref (x 90), .ref (x 91), .ref (x 92), .ref (x 93), .ref (x 94), .ref (x 95), .long (0 : Int64), .int (0 : Int32), .ref (x 96)])), ((x 90), .inl (cJ, 73, .inr (.inl (fun _ => (0 : Int64))))), ((x 91), .inl (cJ, 73, .inr (.inl (fun _ => (0 : Int64))))), ((x 92), .inl (cJ, 74, .inr (.inl (fun _ => (0 : Int64))))), ((x 93), .inl (cJ, 145, .inr (.inl (fun _ => (0 : Int64))))), ((x 94), .inl (cJ, 4321, .inr (.inl (fun _ => (0 : Int64))))), ((x 34), .inr (3, [.int (0 : Int32), .ref (x 35), .ref (x 36), .ref (x 37), .ref (x 38), .ref (x 39), .ref (x 40), .ref (x 41), .int (0 : Int32), .ref (x 42), .ref (x 43), .ref (x 44), .int (0 : Int32), .ref (x 45), .ref (x 46), .ref (x 47), .ref (x 48), .int (0 : Int32), .ref (x 49)])), ((x 36), .inl (cI, 4, .inl (fun _ => (0 : Int32))))]) (As := [.int p1, .int (1 : Int32), .int (40 : Int32)]) C X hl.1 (c_isBetween l D cI cJ cZ cB cO p1 (1 : Int32) (40 : Int32)) [] [0, 1, 2, 3, 4, 5, 6, 7, 8] ⟨rfl, rfl, by decide, by decide, by decide⟩ k_12_5 k_12_6 k_1_2 k_12_7 (n := 3) (by decide +kernel) ⟨Nat.le_of_ble_eq_true rfl, Nat.le_of_ble_eq_true rfl⟩ rfl rfl (Nat.le_of_ble_eq_true rfl) dX11_need_4 ⟨Nat.le_of_ble_eq_true rfl, Nat.le_of_ble_eq_true rfl⟩ (fun r_2 u_1 H locs w_3 X => ?_)
  have X : Wd D A s [((x 0), .inr (11, [.ref (x 1), .ref (x 10), .int (0 : Int32), .ref (x 11), .int (0 : Int32), .ref (x 12), .ref (x 34), .ref (x 50), .int (-1 : Int32), .ref (x 66), .ref (x 67), .ref (x 68), .ref (x 76), .ref (x 81), .ref (x 84), .ref (x 89), .ref (x 97)])), ((x 89), .inr (0, [.ref (x 90), .ref (x 91), .ref (x 92), .ref (x 93), .ref (x 94), .ref (x 95), .long (0 : Int64), .int (0 : Int32), .ref (x 96)])), ((x 90), .inl (cJ, 73, .inr (.inl (fun _ => (0 : Int64))))), ((x 91), .inl (cJ, 73, .inr (.inl (fun _ => (0 : Int64))))), ((x 92), .inl (cJ, 74, .inr (.inl (fun _ => (0 : Int64))))), ((x 93), .inl (cJ, 145, .inr (.inl (fun _ => (0 : Int64))))), ((x 94), .inl (cJ, 4321, .inr (.inl (fun _ => (0 : Int64))))), ((x 34), .inr (3, [.int (0 : Int32), .ref (x 35), .ref (x 36), .ref (x 37), .ref (x 38), .ref (x 39), .ref (x 40), .ref (x 41), .int (0 : Int32), .ref (x 42), .ref (x 43), .ref (x 44), .int (0 : Int32), .ref (x 45), .ref (x 46), .ref (x 47), .ref (x 48), .int (0 : Int32), .ref (x 49)])), ((x 36), .inl (cI, 4, .inl (fun _ => (0 : Int32))))] H locs := X
  refine W.widen (k := 0) (n := 0) (Nat.le_of_ble_eq_true rfl) (Nat.le_of_ble_eq_true rfl) ?_
  obtain ⟨rfl, fw_3⟩ | ⟨rfl, fw_3⟩ : (r_2 = (1 : Int32) ∧ ((1 : Int) ≤ (p1).toInt ∧ (p1).toInt ≤ (40 : Int))) ∨ (r_2 = (0 : Int32) ∧ ((p1).toInt < (1 : Int) ∨ (40 : Int) < (p1).toInt)) := w_3
  · refine lv_if_eq (tgt := 20) hx hb dX11_need_7 (by decide) (fun c0 => absurd c0 (by decide)) (fun _ => ?_)
    refine lv_iload_n hx hb dX11_need_10 rfl (lv_at hl 2 rfl) ?_
    refine lv_iconst (v := (1 : Int32)) hx hb dX11_need_11 (by decide) ?_
    refine lv_bipush (v := (100 : Int32)) hx hb dX11_need_12 (by decide) ?_
    refine x_cS (own := RX11) (wr := [((x 0), .inr (11, [.ref (x 1), .ref (x 10), .int (0 : Int32), .ref (x 11), .int (0 : Int32), .ref (x 12), .ref (x 34), .ref (x 50), .int (-1 : Int32), .ref (x 66), .ref (x 67), .ref (x 68), .ref (x 76), .ref (x 81), .ref (x 84), .ref (x 89), .ref (x 97)])), ((x 89), .inr (0, [.ref (x 90), .ref (x 91), .ref (x 92), .ref (x 93), .ref (x 94), .ref (x 95), .long (0 : Int64), .int (0 : Int32), .ref (x 96)])), ((x 90), .inl (cJ, 73, .inr (.inl (fun _ => (0 : Int64))))), ((x 91), .inl (cJ, 73, .inr (.inl (fun _ => (0 : Int64))))), ((x 92), .inl (cJ, 74, .inr (.inl (fun _ => (0 : Int64))))), ((x 93), .inl (cJ, 145, .inr (.inl (fun _ => (0 : Int64))))), ((x 94), .inl (cJ, 4321, .inr (.inl (fun _ => (0 : Int64))))), ((x 34), .inr (3, [.int (0 : Int32), .ref (x 35), .ref (x 36), .ref (x 37), .ref (x 38), .ref (x 39), .ref (x 40), .ref (x 41), .int (0 : Int32), .ref (x 42), .ref (x 43), .ref (x 44), .int (0 : Int32), .ref (x 45), .ref (x 46), .ref (x 47), .ref (x 48), .int (0 : Int32), .ref (x 49)])), ((x 36), .inl (cI, 4, .inl (fun _ => (0 : Int32))))]) (As := [.int p2, .int (1 : Int32), .int (100 : Int32)]) C X hl.1 (c_isBetween l D cI cJ cZ cB cO p2 (1 : Int32) (100 : Int32)) [] [0, 1, 2, 3, 4, 5, 6, 7, 8] ⟨rfl, rfl, by decide, by decide, by decide⟩ k_12_5 k_12_6 k_1_2 k_12_7 (n := 3) (by decide +kernel) ⟨Nat.le_of_ble_eq_true rfl, Nat.le_of_ble_eq_true rfl⟩ rfl rfl (Nat.le_of_ble_eq_true rfl) dX11_need_14 ⟨Nat.le_of_ble_eq_true rfl, Nat.le_of_ble_eq_true rfl⟩ (fun r_5 u_4 H locs w_6 X => ?_)
    have X : Wd D A s [((x 0), .inr (11, [.ref (x 1), .ref (x 10), .int (0 : Int32), .ref (x 11), .int (0 : Int32), .ref (x 12), .ref (x 34), .ref (x 50), .int (-1 : Int32), .ref (x 66), .ref (x 67), .ref (x 68), .ref (x 76), .ref (x 81), .ref (x 84), .ref (x 89), .ref (x 97)])), ((x 89), .inr (0, [.ref (x 90), .ref (x 91), .ref (x 92), .ref (x 93), .ref (x 94), .ref (x 95), .long (0 : Int64), .int (0 : Int32), .ref (x 96)])), ((x 90), .inl (cJ, 73, .inr (.inl (fun _ => (0 : Int64))))), ((x 91), .inl (cJ, 73, .inr (.inl (fun _ => (0 : Int64))))), ((x 92), .inl (cJ, 74, .inr (.inl (fun _ => (0 : Int64))))), ((x 93), .inl (cJ, 145, .inr (.inl (fun _ => (0 : Int64))))), ((x 94), .inl (cJ, 4321, .inr (.inl (fun _ => (0 : Int64))))), ((x 34), .inr (3, [.int (0 : Int32), .ref (x 35), .ref (x 36), .ref (x 37), .ref (x 38), .ref (x 39), .ref (x 40), .ref (x 41), .int (0 : Int32), .ref (x 42), .ref (x 43), .ref (x 44), .int (0 : Int32), .ref (x 45), .ref (x 46), .ref (x 47), .ref (x 48), .int (0 : Int32), .ref (x 49)])), ((x 36), .inl (cI, 4, .inl (fun _ => (0 : Int32))))] H locs := X
    refine W.widen (k := 0) (n := 0) (Nat.le_of_ble_eq_true rfl) (Nat.le_of_ble_eq_true rfl) ?_
    obtain ⟨rfl, fw_6⟩ | ⟨rfl, fw_6⟩ : (r_5 = (1 : Int32) ∧ ((1 : Int) ≤ (p2).toInt ∧ (p2).toInt ≤ (100 : Int))) ∨ (r_5 = (0 : Int32) ∧ ((p2).toInt < (1 : Int) ∨ (100 : Int) < (p2).toInt)) := w_6
    · refine lv_if_ne (tgt := 22) hx hb dX11_need_17 (by decide) (fun _ => ?_) (fun c0 => absurd c0 (by decide))
      refine lv_aload_n hx hb dX11_need_22 rfl (lv_at hl 0 rfl) ?_
      refine x_get (own := RX11) (T := TX11) C X 0 rfl rfl 15 (by decide) k_3_8 rfl rfl (v := .ref (x 89)) rfl dX11_need_23 ?_
      refine lv_iload_n hx hb dX11_need_26 rfl (lv_at hl 1 rfl) ?_
      refine lv_iload_n hx hb dX11_need_27 rfl (lv_at hl 2 rfl) ?_
      refine lv_aload_n hx hb dX11_need_28 rfl (lv_at hl 0 rfl) ?_
      refine x_get (own := RX11) (T := TX11) C X 0 rfl rfl 6 (by decide) k_2_4 rfl rfl (v := .ref (x 34)) rfl dX11_need_29 ?_
      refine x_cV (own := RX11) (wr := [((x 0), .inr (11, [.ref (x 1), .ref (x 10), .int (0 : Int32), .ref (x 11), .int (0 : Int32), .ref (x 12), .ref (x 34), .ref (x 50), .int (-1 : Int32), .ref (x 66), .ref (x 67), .ref (x 68), .ref (x 76), .ref (x 81), .ref (x 84), .ref (x 89), .ref (x 97)]))]) (As := [.int p1, .int p2, .ref (x 34)]) C X hl.1 (c_roundsNeeded l D cI cJ cZ cB cO (fun k => x (k + 89)) (fun k => x (k + 34)) p1 p2 (by omega) (by omega) (by omega) (by omega)) [1, 2, 3, 4, 5, 6, 7, 8] [0] ⟨rfl, rfl, by decide, by decide, by decide⟩ (qb := 0) rfl rfl k_53_22 k_53_23 k_54_0 k_3_7 k_54_1 (n := 3) (by decide +kernel) ⟨Nat.le_of_ble_eq_true rfl, Nat.le_of_ble_eq_true rfl⟩ rfl rfl (Nat.le_of_ble_eq_true rfl) dX11_need_32 ⟨Nat.le_of_ble_eq_true rfl, Nat.le_of_ble_eq_true rfl⟩ (fun r_8 u_7 H locs w_9 X => ?_)
      have X : Wd D A s [((x 0), .inr (11, [.ref (x 1), .ref (x 10), .int (0 : Int32), .ref (x 11), .int (0 : Int32), .ref (x 12), .ref (x 34), .ref (x 50), .int (-1 : Int32), .ref (x 66), .ref (x 67), .ref (x 68), .ref (x 76), .ref (x 81), .ref (x 84), .ref (x 89), .ref (x 97)]))] H locs := X
      refine W.widen (k := 0) (n := 0) (Nat.le_of_ble_eq_true rfl) (Nat.le_of_ble_eq_true rfl) ?_
      obtain ⟨rfl, fw_9⟩ : r_8 = (1 : Int32) ∧ True := w_9
      exact x_iret C X hr hlk (v := (1 : Int32)) (by first | rfl | decide) (()) [] (by decide) rfl (Or.inl (⟨rfl, by omega⟩)) (Nat.le_of_ble_eq_true rfl) (Nat.le_of_ble_eq_true rfl) dX11_need_35
    · refine lv_if_ne (tgt := 22) hx hb dX11_need_17 (by decide) (fun c0 => absurd (by decide) c0) (fun _ => ?_)
      refine lv_iconst (v := (-1 : Int32)) hx hb dX11_need_20 (by decide) ?_
      exact x_iret C X hr hlk (v := (-1 : Int32)) (by first | rfl | decide) (()) [] (by decide) rfl (Or.inr (⟨rfl, by omega⟩)) (Nat.le_of_ble_eq_true rfl) (Nat.le_of_ble_eq_true rfl) dX11_need_21
  · refine lv_if_eq (tgt := 20) hx hb dX11_need_7 (by decide) (fun _ => ?_) (fun c0 => absurd (by decide) c0)
    refine lv_iconst (v := (-1 : Int32)) hx hb dX11_need_20 (by decide) ?_
    exact x_iret C X hr hlk (v := (-1 : Int32)) (by first | rfl | decide) (()) [] (by decide) rfl (Or.inr (⟨rfl, by omega⟩)) (Nat.le_of_ble_eq_true rfl) (Nat.le_of_ble_eq_true rfl) dX11_need_21
