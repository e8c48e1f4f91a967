theorem k_18_17 : Cond.methodLink RX11 167 yX4_readLaw ∈ wsL_law := mr_18 _ (List.mem_of_getElem? (i := 17) rfl)
theorem k_18_18 : Cond.instanceMethod yX4_readLaw ∈ wsL_law := mr_18 _ (List.mem_of_getElem? (i := 18) rfl)
theorem k_18_19 : Cond.selects RX4 yX4_readLaw yX4_readLaw ∈ wsL_law := mr_18 _ (List.mem_of_getElem? (i := 19) rfl)
theorem k_18_20 : Cond.code yX4_readLaw cX4_readLaw 5 (some .int) ∈ wsL_law := mr_18 _ (List.mem_of_getElem? (i := 20) rfl)
theorem k_18_21 : Cond.methodLink RX4 57 Lib.Math.min.name ∈ wsL_law := mr_18 _ (List.mem_of_getElem? (i := 21) rfl)
theorem k_18_22 : Cond.static Lib.Math.min.name ∈ wsL_law := mr_18 _ (List.mem_of_getElem? (i := 22) rfl)
theorem k_18_23 : Cond.initialized "java/lang/Math" ∈ wsL_law := mr_18 _ (List.mem_of_getElem? (i := 23) rfl)
theorem k_18_3 : Cond.methodLink RX11 163 yX11_feedNumber ∈ wsL_law := mr_18 _ (List.mem_of_getElem? (i := 3) rfl)
theorem k_18_4 : Cond.instanceMethod yX11_feedNumber ∈ wsL_law := mr_18 _ (List.mem_of_getElem? (i := 4) rfl)
theorem k_18_5 : Cond.selects RX11 yX11_feedNumber yX11_feedNumber ∈ wsL_law := mr_18 _ (List.mem_of_getElem? (i := 5) rfl)
theorem k_18_6 : Cond.code yX11_feedNumber cX11_feedNumber 3 none ∈ wsL_law := mr_18 _ (List.mem_of_getElem? (i := 6) rfl)
theorem k_19_0 : Cond.code Lib.Math.min.name Lib.Math.min.code 2 (some .int) ∈ wsL_law := mr_19 _ (List.mem_of_getElem? (i := 0) rfl)
theorem k_19_13 : Cond.methodLink RX4 67 yX3_spreadWeights ∈ wsL_law := mr_19 _ (List.mem_of_getElem? (i := 13) rfl)
theorem k_19_14 : Cond.instanceMethod yX3_spreadWeights ∈ wsL_law := mr_19 _ (List.mem_of_getElem? (i := 14) rfl)
theorem k_19_15 : Cond.selects RX3 yX3_spreadWeights yX3_spreadWeights ∈ wsL_law := mr_19 _ (List.mem_of_getElem? (i := 15) rfl)
theorem k_19_16 : Cond.code yX3_spreadWeights cX3_spreadWeights 3 none ∈ wsL_law := mr_19 _ (List.mem_of_getElem? (i := 16) rfl)
theorem k_19_2 : Cond.methodLink RX4 54 yX3_clear ∈ wsL_law := mr_19 _ (List.mem_of_getElem? (i := 2) rfl)
theorem k_19_3 : Cond.instanceMethod yX3_clear ∈ wsL_law := mr_19 _ (List.mem_of_getElem? (i := 3) rfl)
theorem k_19_4 : Cond.selects RX3 yX3_clear yX3_clear ∈ wsL_law := mr_19 _ (List.mem_of_getElem? (i := 4) rfl)
theorem k_19_5 : Cond.code yX3_clear cX3_clear 1 none ∈ wsL_law := mr_19 _ (List.mem_of_getElem? (i := 5) rfl)
theorem k_19_6 : Cond.methodLink RX4 63 yX4_split ∈ wsL_law := mr_19 _ (List.mem_of_getElem? (i := 6) rfl)
theorem k_19_7 : Cond.instanceMethod yX4_split ∈ wsL_law := mr_19 _ (List.mem_of_getElem? (i := 7) rfl)
theorem k_19_8 : Cond.selects RX4 yX4_split yX4_split ∈ wsL_law := mr_19 _ (List.mem_of_getElem? (i := 8) rfl)
theorem k_19_9 : Cond.code yX4_split cX4_split 6 none ∈ wsL_law := mr_19 _ (List.mem_of_getElem? (i := 9) rfl)
theorem k_52_21 : Cond.native arraycopyName ∈ wsL_law := mr_52 _ (List.mem_of_getElem? (i := 21) rfl)
theorem k_52_22 : Cond.static arraycopyName ∈ wsL_law := mr_52 _ (List.mem_of_getElem? (i := 22) rfl)
theorem k_52_23 : Cond.initialized "java/lang/System" ∈ wsL_law := mr_52 _ (List.mem_of_getElem? (i := 23) rfl)
theorem k_66_10 : Cond.code yX10_copyFrom cX10_copyFrom 2 none ∈ wsL_law := mr_66 _ (List.mem_of_getElem? (i := 10) rfl)
theorem k_66_11 : Cond.methodLink RX10 56 arraycopyName ∈ wsL_law := mr_66 _ (List.mem_of_getElem? (i := 11) rfl)
theorem k_66_7 : Cond.methodLink RX11 365 yX10_copyFrom ∈ wsL_law := mr_66 _ (List.mem_of_getElem? (i := 7) rfl)
theorem k_66_8 : Cond.instanceMethod yX10_copyFrom ∈ wsL_law := mr_66 _ (List.mem_of_getElem? (i := 8) rfl)
theorem k_66_9 : Cond.selects RX10 yX10_copyFrom yX10_copyFrom ∈ wsL_law := mr_66 _ (List.mem_of_getElem? (i := 9) rfl)
theorem dX10_copyFrom_0 : decode cX10_copyFrom 0 = .ok (.aload_n 0, 1) := by decide +kernel
theorem dX10_copyFrom_1 : decode cX10_copyFrom 1 = .ok (.aload_n 1, 1) := by decide +kernel
theorem dX10_copyFrom_2 : decode cX10_copyFrom 2 = .ok (.getfield 9, 3) := by decide +kernel
theorem dX10_copyFrom_5 : decode cX10_copyFrom 5 = .ok (.putfield 9, 3) := by decide +kernel
theorem dX10_copyFrom_8 : decode cX10_copyFrom 8 = .ok (.aload_n 0, 1) := by decide +kernel
theorem dX10_copyFrom_9 : decode cX10_copyFrom 9 = .ok (.aload_n 1, 1) := by decide +kernel
theorem dX10_copyFrom_10 : decode cX10_copyFrom 10 = .ok (.getfield 19, 3) := by decide +kernel
theorem dX10_copyFrom_13 : decode cX10_copyFrom 13 = .ok (.putfield 19, 3) := by decide +kernel
theorem dX10_copyFrom_16 : decode cX10_copyFrom 16 = .ok (.aload_n 0, 1) := by decide +kernel
theorem dX10_copyFrom_17 : decode cX10_copyFrom 17 = .ok (.aload_n 1, 1) := by decide +kernel
theorem dX10_copyFrom_18 : decode cX10_copyFrom 18 = .ok (.getfield 28, 3) := by decide +kernel
theorem dX10_copyFrom_21 : decode cX10_copyFrom 21 = .ok (.putfield 28, 3) := by decide +kernel
theorem dX10_copyFrom_24 : decode cX10_copyFrom 24 = .ok (.aload_n 0, 1) := by decide +kernel
theorem dX10_copyFrom_25 : decode cX10_copyFrom 25 = .ok (.aload_n 1, 1) := by decide +kernel
theorem dX10_copyFrom_26 : decode cX10_copyFrom 26 = .ok (.getfield 46, 3) := by decide +kernel
theorem dX10_copyFrom_29 : decode cX10_copyFrom 29 = .ok (.putfield 46, 3) := by decide +kernel
theorem dX10_copyFrom_32 : decode cX10_copyFrom 32 = .ok (.aload_n 1, 1) := by decide +kernel
theorem dX10_copyFrom_33 : decode cX10_copyFrom 33 = .ok (.getfield 15, 3) := by decide +kernel
theorem dX10_copyFrom_36 : decode cX10_copyFrom 36 = .ok (.iconst 0, 1) := by decide +kernel
theorem dX10_copyFrom_37 : decode cX10_copyFrom 37 = .ok (.aload_n 0, 1) := by decide +kernel
theorem dX10_copyFrom_38 : decode cX10_copyFrom 38 = .ok (.getfield 15, 3) := by decide +kernel
theorem dX10_copyFrom_41 : decode cX10_copyFrom 41 = .ok (.iconst 0, 1) := by decide +kernel
theorem dX10_copyFrom_42 : decode cX10_copyFrom 42 = .ok (.aload_n 0, 1) := by decide +kernel
theorem dX10_copyFrom_43 : decode cX10_copyFrom 43 = .ok (.getfield 15, 3) := by decide +kernel
theorem dX10_copyFrom_46 : decode cX10_copyFrom 46 = .ok (.arraylength, 1) := by decide +kernel
theorem dX10_copyFrom_47 : decode cX10_copyFrom 47 = .ok (.invokestatic 56, 3) := by decide +kernel
theorem dX10_copyFrom_50 : decode cX10_copyFrom 50 = .ok (.aload_n 1, 1) := by decide +kernel
theorem dX10_copyFrom_51 : decode cX10_copyFrom 51 = .ok (.getfield 22, 3) := by decide +kernel
theorem dX10_copyFrom_54 : decode cX10_copyFrom 54 = .ok (.iconst 0, 1) := by decide +kernel
theorem dX10_copyFrom_55 : decode cX10_copyFrom 55 = .ok (.aload_n 0, 1) := by decide +kernel
theorem dX10_copyFrom_56 : decode cX10_copyFrom 56 = .ok (.getfield 22, 3) := by decide +kernel
theorem dX10_copyFrom_59 : decode cX10_copyFrom 59 = .ok (.iconst 0, 1) := by decide +kernel
theorem dX10_copyFrom_60 : decode cX10_copyFrom 60 = .ok (.aload_n 0, 1) := by decide +kernel
theorem dX10_copyFrom_61 : decode cX10_copyFrom 61 = .ok (.getfield 22, 3) := by decide +kernel
theorem dX10_copyFrom_64 : decode cX10_copyFrom 64 = .ok (.arraylength, 1) := by decide +kernel
theorem dX10_copyFrom_65 : decode cX10_copyFrom 65 = .ok (.invokestatic 56, 3) := by decide +kernel
theorem dX10_copyFrom_68 : decode cX10_copyFrom 68 = .ok (.aload_n 1, 1) := by decide +kernel
theorem dX10_copyFrom_69 : decode cX10_copyFrom 69 = .ok (.getfield 25, 3) := by decide +kernel
theorem dX10_copyFrom_72 : decode cX10_copyFrom 72 = .ok (.iconst 0, 1) := by decide +kernel
theorem dX10_copyFrom_73 : decode cX10_copyFrom 73 = .ok (.aload_n 0, 1) := by decide +kernel
theorem dX10_copyFrom_74 : decode cX10_copyFrom 74 = .ok (.getfield 25, 3) := by decide +kernel
theorem dX10_copyFrom_77 : decode cX10_copyFrom 77 = .ok (.iconst 0, 1) := by decide +kernel
theorem dX10_copyFrom_78 : decode cX10_copyFrom 78 = .ok (.aload_n 0, 1) := by decide +kernel
theorem dX10_copyFrom_79 : decode cX10_copyFrom 79 = .ok (.getfield 25, 3) := by decide +kernel
theorem dX10_copyFrom_82 : decode cX10_copyFrom 82 = .ok (.arraylength, 1) := by decide +kernel
theorem dX10_copyFrom_83 : decode cX10_copyFrom 83 = .ok (.invokestatic 56, 3) := by decide +kernel
theorem dX10_copyFrom_86 : decode cX10_copyFrom 86 = .ok (.aload_n 1, 1) := by decide +kernel
theorem dX10_copyFrom_87 : decode cX10_copyFrom 87 = .ok (.getfield 31, 3) := by decide +kernel
theorem dX10_copyFrom_90 : decode cX10_copyFrom 90 = .ok (.iconst 0, 1) := by decide +kernel
theorem dX10_copyFrom_91 : decode cX10_copyFrom 91 = .ok (.aload_n 0, 1) := by decide +kernel
theorem dX10_copyFrom_92 : decode cX10_copyFrom 92 = .ok (.getfield 31, 3) := by decide +kernel
theorem dX10_copyFrom_95 : decode cX10_copyFrom 95 = .ok (.iconst 0, 1) := by decide +kernel
theorem dX10_copyFrom_96 : decode cX10_copyFrom 96 = .ok (.aload_n 0, 1) := by decide +kernel
theorem dX10_copyFrom_97 : decode cX10_copyFrom 97 = .ok (.getfield 31, 3) := by decide +kernel
theorem dX10_copyFrom_100 : decode cX10_copyFrom 100 = .ok (.arraylength, 1) := by decide +kernel
theorem dX10_copyFrom_101 : decode cX10_copyFrom 101 = .ok (.invokestatic 56, 3) := by decide +kernel
theorem dX10_copyFrom_104 : decode cX10_copyFrom 104 = .ok (.aload_n 1, 1) := by decide +kernel
theorem dX10_copyFrom_105 : decode cX10_copyFrom 105 = .ok (.getfield 34, 3) := by decide +kernel
theorem dX10_copyFrom_108 : decode cX10_copyFrom 108 = .ok (.iconst 0, 1) := by decide +kernel
theorem dX10_copyFrom_109 : decode cX10_copyFrom 109 = .ok (.aload_n 0, 1) := by decide +kernel
theorem dX10_copyFrom_110 : decode cX10_copyFrom 110 = .ok (.getfield 34, 3) := by decide +kernel
theorem dX10_copyFrom_113 : decode cX10_copyFrom 113 = .ok (.iconst 0, 1) := by decide +kernel
theorem dX10_copyFrom_114 : decode cX10_copyFrom 114 = .ok (.aload_n 0, 1) := by decide +kernel
theorem dX10_copyFrom_115 : decode cX10_copyFrom 115 = .ok (.getfield 34, 3) := by decide +kernel
theorem dX10_copyFrom_118 : decode cX10_copyFrom 118 = .ok (.arraylength, 1) := by decide +kernel
theorem dX10_copyFrom_119 : decode cX10_copyFrom 119 = .ok (.invokestatic 56, 3) := by decide +kernel
theorem dX10_copyFrom_122 : decode cX10_copyFrom 122 = .ok (.aload_n 1, 1) := by decide +kernel
theorem dX10_copyFrom_123 : decode cX10_copyFrom 123 = .ok (.getfield 37, 3) := by decide +kernel
theorem dX10_copyFrom_126 : decode cX10_copyFrom 126 = .ok (.iconst 0, 1) := by decide +kernel
theorem dX10_copyFrom_127 : decode cX10_copyFrom 127 = .ok (.aload_n 0, 1) := by decide +kernel
theorem dX10_copyFrom_128 : decode cX10_copyFrom 128 = .ok (.getfield 37, 3) := by decide +kernel
theorem dX10_copyFrom_131 : decode cX10_copyFrom 131 = .ok (.iconst 0, 1) := by decide +kernel
theorem dX10_copyFrom_132 : decode cX10_copyFrom 132 = .ok (.aload_n 0, 1) := by decide +kernel
theorem dX10_copyFrom_133 : decode cX10_copyFrom 133 = .ok (.getfield 37, 3) := by decide +kernel
theorem dX10_copyFrom_136 : decode cX10_copyFrom 136 = .ok (.arraylength, 1) := by decide +kernel
theorem dX10_copyFrom_137 : decode cX10_copyFrom 137 = .ok (.invokestatic 56, 3) := by decide +kernel
theorem dX10_copyFrom_140 : decode cX10_copyFrom 140 = .ok (.aload_n 1, 1) := by decide +kernel
theorem dX10_copyFrom_141 : decode cX10_copyFrom 141 = .ok (.getfield 40, 3) := by decide +kernel
theorem dX10_copyFrom_144 : decode cX10_copyFrom 144 = .ok (.iconst 0, 1) := by decide +kernel
theorem dX10_copyFrom_145 : decode cX10_copyFrom 145 = .ok (.aload_n 0, 1) := by decide +kernel
theorem dX10_copyFrom_146 : decode cX10_copyFrom 146 = .ok (.getfield 40, 3) := by decide +kernel
theorem dX10_copyFrom_149 : decode cX10_copyFrom 149 = .ok (.iconst 0, 1) := by decide +kernel
theorem dX10_copyFrom_150 : decode cX10_copyFrom 150 = .ok (.aload_n 0, 1) := by decide +kernel
theorem dX10_copyFrom_151 : decode cX10_copyFrom 151 = .ok (.getfield 40, 3) := by decide +kernel
theorem dX10_copyFrom_154 : decode cX10_copyFrom 154 = .ok (.arraylength, 1) := by decide +kernel
theorem dX10_copyFrom_155 : decode cX10_copyFrom 155 = .ok (.invokestatic 56, 3) := by decide +kernel
theorem dX10_copyFrom_158 : decode cX10_copyFrom 158 = .ok (.aload_n 1, 1) := by decide +kernel
theorem dX10_copyFrom_159 : decode cX10_copyFrom 159 = .ok (.getfield 43, 3) := by decide +kernel
theorem dX10_copyFrom_162 : decode cX10_copyFrom 162 = .ok (.iconst 0, 1) := by decide +kernel
theorem dX10_copyFrom_163 : decode cX10_copyFrom 163 = .ok (.aload_n 0, 1) := by decide +kernel
theorem dX10_copyFrom_164 : decode cX10_copyFrom 164 = .ok (.getfield 43, 3) := by decide +kernel
theorem dX10_copyFrom_167 : decode cX10_copyFrom 167 = .ok (.iconst 0, 1) := by decide +kernel
theorem dX10_copyFrom_168 : decode cX10_copyFrom 168 = .ok (.aload_n 0, 1) := by decide +kernel
theorem dX10_copyFrom_169 : decode cX10_copyFrom 169 = .ok (.getfield 43, 3) := by decide +kernel
theorem dX10_copyFrom_172 : decode cX10_copyFrom 172 = .ok (.arraylength, 1) := by decide +kernel
theorem dX10_copyFrom_173 : decode cX10_copyFrom 173 = .ok (.invokestatic 56, 3) := by decide +kernel
theorem dX10_copyFrom_176 : decode cX10_copyFrom 176 = .ok (.return_, 1) := by decide +kernel
theorem dX11_feed_0 : decode cX11_feed 0 = .ok (.aload_n 0, 1) := by decide +kernel
theorem dX11_feed_1 : decode cX11_feed 1 = .ok (.getfield 28, 3) := by decide +kernel
theorem dX11_feed_4 : decode cX11_feed 4 = .ok (.bipush 20, 2) := by decide +kernel
theorem dX11_feed_6 : decode cX11_feed 6 = .ok (.iadd, 1) := by decide +kernel
theorem dX11_feed_7 : decode cX11_feed 7 = .ok (.sipush 700, 3) := by decide +kernel
theorem dX11_feed_10 : decode cX11_feed 10 = .ok (.if_icmp .le 5, 3) := by decide +kernel
theorem dX11_feed_15 : decode cX11_feed 15 = .ok (.aload_n 0, 1) := by decide +kernel
theorem dX11_feed_16 : decode cX11_feed 16 = .ok (.iload_n 1, 1) := by decide +kernel
theorem dX11_feed_17 : decode cX11_feed 17 = .ok (.invokevirtual 163, 3) := by decide +kernel
theorem dX11_feed_20 : decode cX11_feed 20 = .ok (.aload_n 0, 1) := by decide +kernel
theorem dX11_feed_21 : decode cX11_feed 21 = .ok (.iload_n 2, 1) := by decide +kernel
theorem dX11_feed_22 : decode cX11_feed 22 = .ok (.invokevirtual 163, 3) := by decide +kernel
theorem dX11_feed_25 : decode cX11_feed 25 = .ok (.aload_n 0, 1) := by decide +kernel
theorem dX11_feed_26 : decode cX11_feed 26 = .ok (.iload_n 3, 1) := by decide +kernel
theorem dX11_feed_27 : decode cX11_feed 27 = .ok (.invokevirtual 163, 3) := by decide +kernel
theorem dX11_feed_30 : decode cX11_feed 30 = .ok (.aload_n 0, 1) := by decide +kernel
theorem dX11_feed_31 : decode cX11_feed 31 = .ok (.iload 4, 2) := by decide +kernel
theorem dX11_feed_33 : decode cX11_feed 33 = .ok (.invokevirtual 163, 3) := by decide +kernel
theorem dX11_feed_36 : decode cX11_feed 36 = .ok (.aload_n 0, 1) := by decide +kernel
theorem dX11_feed_37 : decode cX11_feed 37 = .ok (.iload 5, 2) := by decide +kernel
theorem dX11_feed_39 : decode cX11_feed 39 = .ok (.invokevirtual 163, 3) := by decide +kernel
theorem dX11_feed_42 : decode cX11_feed 42 = .ok (.aload_n 0, 1) := by decide +kernel
theorem dX11_feed_43 : decode cX11_feed 43 = .ok (.getfield 28, 3) := by decide +kernel
theorem dX11_feed_46 : decode cX11_feed 46 = .ok (.ireturn, 1) := by decide +kernel
theorem dX11_image_0 : decode cX11_image 0 = .ok (.aload_n 0, 1) := by decide +kernel
theorem dX11_image_1 : decode cX11_image 1 = .ok (.getfield 20, 3) := by decide +kernel
theorem dX11_image_4 : decode cX11_image 4 = .ok (.iconst 3, 1) := by decide +kernel
theorem dX11_image_5 : decode cX11_image 5 = .ok (.if_icmp .lt 9, 3) := by decide +kernel
theorem dX11_image_14 : decode cX11_image 14 = .ok (.new 7, 3) := by decide +kernel
theorem dX11_image_17 : decode cX11_image 17 = .ok (.dup, 1) := by decide +kernel
theorem dX11_image_18 : decode cX11_image 18 = .ok (.invokespecial 9, 3) := by decide +kernel
theorem dX11_image_21 : decode cX11_image 21 = .ok (.astore_n 1, 1) := by decide +kernel
theorem dX11_image_22 : decode cX11_image 22 = .ok (.aload_n 1, 1) := by decide +kernel
theorem dX11_image_23 : decode cX11_image 23 = .ok (.aload_n 0, 1) := by decide +kernel
theorem dX11_image_24 : decode cX11_image 24 = .ok (.getfield 10, 3) := by decide +kernel
theorem dX11_image_27 : decode cX11_image 27 = .ok (.invokevirtual 365, 3) := by decide +kernel
theorem dX11_image_30 : decode cX11_image 30 = .ok (.aload_n 0, 1) := by decide +kernel
theorem dX11_image_31 : decode cX11_image 31 = .ok (.getfield 16, 3) := by decide +kernel
theorem dX11_image_34 : decode cX11_image 34 = .ok (.aload_n 0, 1) := by decide +kernel
theorem dX11_image_35 : decode cX11_image 35 = .ok (.getfield 20, 3) := by decide +kernel
theorem dX11_image_38 : decode cX11_image 38 = .ok (.aload_n 1, 1) := by decide +kernel
theorem dX11_image_39 : decode cX11_image 39 = .ok (.aastore, 1) := by decide +kernel
theorem dX11_image_40 : decode cX11_image 40 = .ok (.aload_n 0, 1) := by decide +kernel
theorem dX11_image_41 : decode cX11_image 41 = .ok (.dup, 1) := by decide +kernel
theorem dX11_image_42 : decode cX11_image 42 = .ok (.getfield 20, 3) := by decide +kernel
theorem dX11_image_45 : decode cX11_image 45 = .ok (.iconst 1, 1) := by decide +kernel
theorem dX11_image_46 : decode cX11_image 46 = .ok (.iadd, 1) := by decide +kernel
theorem dX11_image_47 : decode cX11_image 47 = .ok (.putfield 20, 3) := by decide +kernel
theorem dX11_image_50 : decode cX11_image 50 = .ok (.aload_n 0, 1) := by decide +kernel
theorem dX11_image_51 : decode cX11_image 51 = .ok (.getfield 20, 3) := by decide +kernel
theorem dX11_image_54 : decode cX11_image 54 = .ok (.iconst 1, 1) := by decide +kernel
theorem dX11_image_55 : decode cX11_image 55 = .ok (.isub, 1) := by decide +kernel
theorem dX11_image_56 : decode cX11_image 56 = .ok (.ireturn, 1) := by decide +kernel
theorem dX11_law_0 : decode cX11_law 0 = .ok (.iload_n 1, 1) := by decide +kernel
theorem dX11_law_1 : decode cX11_law 1 = .ok (.ifCond .lt 11, 3) := by decide +kernel
theorem dX11_law_4 : decode cX11_law 4 = .ok (.iload_n 1, 1) := by decide +kernel
theorem dX11_law_5 : decode cX11_law 5 = .ok (.aload_n 0, 1) := by decide +kernel
theorem dX11_law_6 : decode cX11_law 6 = .ok (.getfield 28, 3) := by decide +kernel
theorem dX11_law_9 : decode cX11_law 9 = .ok (.if_icmp .le 12, 3) := by decide +kernel
theorem dX11_law_12 : decode cX11_law 12 = .ok (.aload_n 0, 1) := by decide +kernel
theorem dX11_law_13 : decode cX11_law 13 = .ok (.iconst 0, 1) := by decide +kernel
theorem dX11_law_14 : decode cX11_law 14 = .ok (.invokevirtual 110, 3) := by decide +kernel
theorem dX11_law_17 : decode cX11_law 17 = .ok (.pop, 1) := by decide +kernel
theorem dX11_law_18 : decode cX11_law 18 = .ok (.bipush (-2), 2) := by decide +kernel
theorem dX11_law_20 : decode cX11_law 20 = .ok (.ireturn, 1) := by decide +kernel
theorem dX11_law_21 : decode cX11_law 21 = .ok (.aload_n 0, 1) := by decide +kernel
theorem dX11_law_22 : decode cX11_law 22 = .ok (.aload_n 0, 1) := by decide +kernel
theorem dX11_law_23 : decode cX11_law 23 = .ok (.getfield 34, 3) := by decide +kernel
theorem dX11_law_26 : decode cX11_law 26 = .ok (.aload_n 0, 1) := by decide +kernel
theorem dX11_law_27 : decode cX11_law 27 = .ok (.getfield 24, 3) := by decide +kernel
theorem dX11_law_30 : decode cX11_law 30 = .ok (.iload_n 1, 1) := by decide +kernel
theorem dX11_law_31 : decode cX11_law 31 = .ok (.aload_n 0, 1) := by decide +kernel
theorem dX11_law_32 : decode cX11_law 32 = .ok (.getfield 45, 3) := by decide +kernel
theorem dX11_law_35 : decode cX11_law 35 = .ok (.invokevirtual 167, 3) := by decide +kernel
theorem dX11_law_38 : decode cX11_law 38 = .ok (.putfield 48, 3) := by decide +kernel
theorem dX11_law_41 : decode cX11_law 41 = .ok (.aload_n 0, 1) := by decide +kernel
theorem dX11_law_42 : decode cX11_law 42 = .ok (.iconst 0, 1) := by decide +kernel
theorem dX11_law_43 : decode cX11_law 43 = .ok (.putfield 28, 3) := by decide +kernel
theorem dX11_law_46 : decode cX11_law 46 = .ok (.aload_n 0, 1) := by decide +kernel
theorem dX11_law_47 : decode cX11_law 47 = .ok (.getfield 48, 3) := by decide +kernel
theorem dX11_law_50 : decode cX11_law 50 = .ok (.iconst (-1), 1) := by decide +kernel
theorem dX11_law_51 : decode cX11_law 51 = .ok (.if_icmp .eq 9, 3) := by decide +kernel
theorem dX11_law_60 : decode cX11_law 60 = .ok (.aload_n 0, 1) := by decide +kernel
theorem dX11_law_61 : decode cX11_law 61 = .ok (.getfield 45, 3) := by decide +kernel
theorem dX11_law_64 : decode cX11_law 64 = .ok (.astore_n 2, 1) := by decide +kernel
theorem dX11_law_65 : decode cX11_law 65 = .ok (.aload_n 0, 1) := by decide +kernel
theorem dX11_law_66 : decode cX11_law 66 = .ok (.aload_n 0, 1) := by decide +kernel
theorem dX11_law_67 : decode cX11_law 67 = .ok (.getfield 41, 3) := by decide +kernel
theorem dX11_law_70 : decode cX11_law 70 = .ok (.putfield 45, 3) := by decide +kernel
theorem dX11_law_73 : decode cX11_law 73 = .ok (.aload_n 0, 1) := by decide +kernel
theorem dX11_law_74 : decode cX11_law 74 = .ok (.aload_n 2, 1) := by decide +kernel
theorem dX11_law_75 : decode cX11_law 75 = .ok (.putfield 41, 3) := by decide +kernel
theorem dX11_law_78 : decode cX11_law 78 = .ok (.aload_n 0, 1) := by decide +kernel
theorem dX11_law_79 : decode cX11_law 79 = .ok (.getfield 41, 3) := by decide +kernel
theorem dX11_law_82 : decode cX11_law 82 = .ok (.getfield 171, 3) := by decide +kernel
theorem dX11_law_85 : decode cX11_law 85 = .ok (.ireturn, 1) := by decide +kernel
theorem dX3_clear_0 : decode cX3_clear 0 = .ok (.aload_n 0, 1) := by decide +kernel
theorem dX3_clear_1 : decode cX3_clear 1 = .ok (.iconst 0, 1) := by decide +kernel
theorem dX3_clear_2 : decode cX3_clear 2 = .ok (.putfield 9, 3) := by decide +kernel
theorem dX3_clear_5 : decode cX3_clear 5 = .ok (.aload_n 0, 1) := by decide +kernel
theorem dX3_clear_6 : decode cX3_clear 6 = .ok (.getfield 15, 3) := by decide +kernel
theorem dX3_clear_9 : decode cX3_clear 9 = .ok (.iconst 0, 1) := by decide +kernel
theorem dX3_clear_10 : decode cX3_clear 10 = .ok (.invokestatic 71, 3) := by decide +kernel
theorem dX3_clear_13 : decode cX3_clear 13 = .ok (.aload_n 0, 1) := by decide +kernel
theorem dX3_clear_14 : decode cX3_clear 14 = .ok (.getfield 19, 3) := by decide +kernel
theorem dX3_clear_17 : decode cX3_clear 17 = .ok (.iconst 0, 1) := by decide +kernel
theorem dX3_clear_18 : decode cX3_clear 18 = .ok (.invokestatic 71, 3) := by decide +kernel
theorem dX3_clear_21 : decode cX3_clear 21 = .ok (.aload_n 0, 1) := by decide +kernel
theorem dX3_clear_22 : decode cX3_clear 22 = .ok (.getfield 22, 3) := by decide +kernel
theorem dX3_clear_25 : decode cX3_clear 25 = .ok (.iconst 0, 1) := by decide +kernel
theorem dX3_clear_26 : decode cX3_clear 26 = .ok (.invokestatic 71, 3) := by decide +kernel
theorem dX3_clear_29 : decode cX3_clear 29 = .ok (.aload_n 0, 1) := by decide +kernel
theorem dX3_clear_30 : decode cX3_clear 30 = .ok (.getfield 25, 3) := by decide +kernel
theorem dX3_clear_33 : decode cX3_clear 33 = .ok (.iconst 0, 1) := by decide +kernel
theorem dX3_clear_34 : decode cX3_clear 34 = .ok (.invokestatic 71, 3) := by decide +kernel
theorem dX3_clear_37 : decode cX3_clear 37 = .ok (.aload_n 0, 1) := by decide +kernel
theorem dX3_clear_38 : decode cX3_clear 38 = .ok (.getfield 28, 3) := by decide +kernel
theorem dX3_clear_41 : decode cX3_clear 41 = .ok (.iconst 0, 1) := by decide +kernel
theorem dX3_clear_42 : decode cX3_clear 42 = .ok (.invokestatic 71, 3) := by decide +kernel
theorem dX3_clear_45 : decode cX3_clear 45 = .ok (.aload_n 0, 1) := by decide +kernel
theorem dX3_clear_46 : decode cX3_clear 46 = .ok (.getfield 31, 3) := by decide +kernel
theorem dX3_clear_49 : decode cX3_clear 49 = .ok (.iconst (-1), 1) := by decide +kernel
theorem dX3_clear_50 : decode cX3_clear 50 = .ok (.invokestatic 71, 3) := by decide +kernel
theorem dX3_clear_53 : decode cX3_clear 53 = .ok (.aload_n 0, 1) := by decide +kernel
theorem dX3_clear_54 : decode cX3_clear 54 = .ok (.iconst 0, 1) := by decide +kernel
theorem dX3_clear_55 : decode cX3_clear 55 = .ok (.putfield 37, 3) := by decide +kernel
theorem dX3_clear_58 : decode cX3_clear 58 = .ok (.aload_n 0, 1) := by decide +kernel
theorem dX3_clear_59 : decode cX3_clear 59 = .ok (.iconst 0, 1) := by decide +kernel
theorem dX3_clear_60 : decode cX3_clear 60 = .ok (.putfield 49, 3) := by decide +kernel
theorem dX3_clear_63 : decode cX3_clear 63 = .ok (.aload_n 0, 1) := by decide +kernel
theorem dX3_clear_64 : decode cX3_clear 64 = .ok (.iconst 0, 1) := by decide +kernel
theorem dX3_clear_65 : decode cX3_clear 65 = .ok (.putfield 64, 3) := by decide +kernel
theorem dX3_clear_68 : decode cX3_clear 68 = .ok (.return_, 1) := by decide +kernel
theorem dX3_spreadWeights_0 : decode cX3_spreadWeights 0 = .ok (.iconst 1, 1) := by decide +kernel
theorem dX3_spreadWeights_1 : decode cX3_spreadWeights 1 = .ok (.istore_n 1, 1) := by decide +kernel
theorem dX3_spreadWeights_2 : decode cX3_spreadWeights 2 = .ok (.iconst 0, 1) := by decide +kernel
theorem dX3_spreadWeights_3 : decode cX3_spreadWeights 3 = .ok (.istore_n 2, 1) := by decide +kernel
theorem dX3_spreadWeights_4 : decode cX3_spreadWeights 4 = .ok (.iload_n 2, 1) := by decide +kernel
theorem dX3_spreadWeights_5 : decode cX3_spreadWeights 5 = .ok (.bipush 40, 2) := by decide +kernel
theorem dX3_spreadWeights_7 : decode cX3_spreadWeights 7 = .ok (.if_icmp .gt 39, 3) := by decide +kernel
theorem dX3_spreadWeights_10 : decode cX3_spreadWeights 10 = .ok (.iload_n 2, 1) := by decide +kernel
theorem dX3_spreadWeights_11 : decode cX3_spreadWeights 11 = .ok (.bipush 40, 2) := by decide +kernel
theorem dX3_spreadWeights_13 : decode cX3_spreadWeights 13 = .ok (.if_icmp .ge 20, 3) := by decide +kernel
theorem dX3_spreadWeights_16 : decode cX3_spreadWeights 16 = .ok (.aload_n 0, 1) := by decide +kernel
theorem dX3_spreadWeights_17 : decode cX3_spreadWeights 17 = .ok (.getfield 31, 3) := by decide +kernel
theorem dX3_spreadWeights_20 : decode cX3_spreadWeights 20 = .ok (.iload_n 2, 1) := by decide +kernel
theorem dX3_spreadWeights_21 : decode cX3_spreadWeights 21 = .ok (.iaload, 1) := by decide +kernel
theorem dX3_spreadWeights_22 : decode cX3_spreadWeights 22 = .ok (.iconst (-1), 1) := by decide +kernel
theorem dX3_spreadWeights_23 : decode cX3_spreadWeights 23 = .ok (.if_icmp .eq 10, 3) := by decide +kernel
theorem dX3_spreadWeights_33 : decode cX3_spreadWeights 33 = .ok (.aload_n 0, 1) := by decide +kernel
theorem dX3_spreadWeights_34 : decode cX3_spreadWeights 34 = .ok (.getfield 34, 3) := by decide +kernel
theorem dX3_spreadWeights_37 : decode cX3_spreadWeights 37 = .ok (.iload_n 2, 1) := by decide +kernel
theorem dX3_spreadWeights_38 : decode cX3_spreadWeights 38 = .ok (.iload_n 1, 1) := by decide +kernel
theorem dX3_spreadWeights_39 : decode cX3_spreadWeights 39 = .ok (.iastore, 1) := by decide +kernel
theorem dX3_spreadWeights_40 : decode cX3_spreadWeights 40 = .ok (.iinc 2 1, 3) := by decide +kernel
theorem dX3_spreadWeights_43 : decode cX3_spreadWeights 43 = .ok (.goto (-39), 3) := by decide +kernel
theorem dX3_spreadWeights_46 : decode cX3_spreadWeights 46 = .ok (.return_, 1) := by decide +kernel
theorem dX4_readLaw_0 : decode cX4_readLaw 0 = .ok (.aload_n 0, 1) := by decide +kernel
theorem dX4_readLaw_1 : decode cX4_readLaw 1 = .ok (.aload_n 1, 1) := by decide +kernel
theorem dX4_readLaw_2 : decode cX4_readLaw 2 = .ok (.putfield 9, 3) := by decide +kernel
theorem dX4_readLaw_5 : decode cX4_readLaw 5 = .ok (.aload_n 0, 1) := by decide +kernel
theorem dX4_readLaw_6 : decode cX4_readLaw 6 = .ok (.aload_n 3, 1) := by decide +kernel
theorem dX4_readLaw_7 : decode cX4_readLaw 7 = .ok (.putfield 18, 3) := by decide +kernel
theorem dX4_readLaw_10 : decode cX4_readLaw 10 = .ok (.aload_n 0, 1) := by decide +kernel
theorem dX4_readLaw_11 : decode cX4_readLaw 11 = .ok (.getfield 18, 3) := by decide +kernel
theorem dX4_readLaw_14 : decode cX4_readLaw 14 = .ok (.invokevirtual 54, 3) := by decide +kernel
theorem dX4_readLaw_17 : decode cX4_readLaw 17 = .ok (.aload_n 0, 1) := by decide +kernel
theorem dX4_readLaw_18 : decode cX4_readLaw 18 = .ok (.iconst 0, 1) := by decide +kernel
theorem dX4_readLaw_19 : decode cX4_readLaw 19 = .ok (.putfield 32, 3) := by decide +kernel
theorem dX4_readLaw_22 : decode cX4_readLaw 22 = .ok (.aload_n 0, 1) := by decide +kernel
theorem dX4_readLaw_23 : decode cX4_readLaw 23 = .ok (.iload_n 2, 1) := by decide +kernel
theorem dX4_readLaw_24 : decode cX4_readLaw 24 = .ok (.aload_n 1, 1) := by decide +kernel
theorem dX4_readLaw_25 : decode cX4_readLaw 25 = .ok (.arraylength, 1) := by decide +kernel
theorem dX4_readLaw_26 : decode cX4_readLaw 26 = .ok (.sipush 700, 3) := by decide +kernel
theorem dX4_readLaw_29 : decode cX4_readLaw 29 = .ok (.invokestatic 57, 3) := by decide +kernel
theorem dX4_readLaw_32 : decode cX4_readLaw 32 = .ok (.invokestatic 57, 3) := by decide +kernel
theorem dX4_readLaw_35 : decode cX4_readLaw 35 = .ok (.invokevirtual 63, 3) := by decide +kernel
theorem dX4_readLaw_38 : decode cX4_readLaw 38 = .ok (.iconst 0, 1) := by decide +kernel
theorem dX4_readLaw_39 : decode cX4_readLaw 39 = .ok (.istore 4, 2) := by decide +kernel
theorem dX4_readLaw_41 : decode cX4_readLaw 41 = .ok (.iload 4, 2) := by decide +kernel
theorem dX4_readLaw_43 : decode cX4_readLaw 43 = .ok (.bipush 40, 2) := by decide +kernel
theorem dX4_readLaw_45 : decode cX4_readLaw 45 = .ok (.if_icmp .gt 76, 3) := by decide +kernel
theorem dX4_readLaw_48 : decode cX4_readLaw 48 = .ok (.aload_n 0, 1) := by decide +kernel
theorem dX4_readLaw_49 : decode cX4_readLaw 49 = .ok (.getfield 22, 3) := by decide +kernel
theorem dX4_readLaw_52 : decode cX4_readLaw 52 = .ok (.aload_n 0, 1) := by decide +kernel
theorem dX4_readLaw_53 : decode cX4_readLaw 53 = .ok (.getfield 32, 3) := by decide +kernel
theorem dX4_readLaw_56 : decode cX4_readLaw 56 = .ok (.iaload, 1) := by decide +kernel
theorem dX4_readLaw_57 : decode cX4_readLaw 57 = .ok (.ifCond .ne 12, 3) := by decide +kernel
theorem dX4_readLaw_60 : decode cX4_readLaw 60 = .ok (.aload_n 0, 1) := by decide +kernel
theorem dX4_readLaw_61 : decode cX4_readLaw 61 = .ok (.getfield 18, 3) := by decide +kernel
theorem dX4_readLaw_64 : decode cX4_readLaw 64 = .ok (.invokevirtual 67, 3) := by decide +kernel
theorem dX4_readLaw_67 : decode cX4_readLaw 67 = .ok (.iconst (-1), 1) := by decide +kernel
theorem dX4_readLaw_68 : decode cX4_readLaw 68 = .ok (.ireturn, 1) := by decide +kernel
theorem dX4_split_0 : decode cX4_split 0 = .ok (.iconst 0, 1) := by decide +kernel
theorem dX4_split_1 : decode cX4_split 1 = .ok (.istore_n 2, 1) := by decide +kernel
theorem dX4_split_2 : decode cX4_split 2 = .ok (.iconst 0, 1) := by decide +kernel
theorem dX4_split_3 : decode cX4_split 3 = .ok (.istore_n 3, 1) := by decide +kernel
theorem dX4_split_4 : decode cX4_split 4 = .ok (.iload_n 2, 1) := by decide +kernel
theorem dX4_split_5 : decode cX4_split 5 = .ok (.iload_n 1, 1) := by decide +kernel
theorem dX4_split_6 : decode cX4_split 6 = .ok (.if_icmp .ge 97, 3) := by decide +kernel
theorem dX4_split_103 : decode cX4_split 103 = .ok (.aload_n 0, 1) := by decide +kernel
theorem dX4_split_104 : decode cX4_split 104 = .ok (.getfield 22, 3) := by decide +kernel
theorem dX4_split_107 : decode cX4_split 107 = .ok (.iload_n 3, 1) := by decide +kernel
theorem dX4_split_108 : decode cX4_split 108 = .ok (.iconst 0, 1) := by decide +kernel
theorem dX4_split_109 : decode cX4_split 109 = .ok (.iastore, 1) := by decide +kernel
theorem dX4_split_110 : decode cX4_split 110 = .ok (.aload_n 0, 1) := by decide +kernel
theorem dX4_split_111 : decode cX4_split 111 = .ok (.getfield 26, 3) := by decide +kernel
theorem dX4_split_114 : decode cX4_split 114 = .ok (.iload_n 3, 1) := by decide +kernel
theorem dX4_split_115 : decode cX4_split 115 = .ok (.iload_n 1, 1) := by decide +kernel
theorem dX4_split_116 : decode cX4_split 116 = .ok (.iastore, 1) := by decide +kernel
theorem dX4_split_117 : decode cX4_split 117 = .ok (.aload_n 0, 1) := by decide +kernel
theorem dX4_split_118 : decode cX4_split 118 = .ok (.getfield 29, 3) := by decide +kernel
theorem dX4_split_121 : decode cX4_split 121 = .ok (.iload_n 3, 1) := by decide +kernel
theorem dX4_split_122 : decode cX4_split 122 = .ok (.iload_n 1, 1) := by decide +kernel
theorem dX4_split_123 : decode cX4_split 123 = .ok (.iastore, 1) := by decide +kernel
theorem dX4_split_124 : decode cX4_split 124 = .ok (.return_, 1) := by decide +kernel
set_option maxHeartbeats 4000000 in
set_option maxRecDepth 100000 in
theorem cx_feed (l : Launch) (D : va_G) (cI cJ cZ cB : ClassId) (cO : ClassId) (x : Nat → Nat) (p1 p2 p3 p4 p5 : Int32) :
    CI l D [(cI, .int), (cJ, .long), (cZ, .boolean), (cB, .byte), (cO, .object "LuckLinks$World")] yX11_feed cX11_feed 6 (some .int) ({ frames := 1, cells := 0, slots := 0, locals := 22 } : Room) [.ref (x 0), .int p1, .int p2, .int p3, .int p4, .int p5] [((x 0), .inr (11, [.ref (x 1), .ref (x 10), .int (0 : Int32), .ref (x 11), .int (0 : Int32), .ref (x 12), .ref (x 34), .ref (x 50), .int (-1 : Int32), .ref (x 66), .ref (x 67), .ref (x 68), .ref (x 76), .ref (x 81), .ref (x 84), .ref (x 89), .ref (x 97)])), ((x 11), .inl (cB, 700, .inl (fun _ => (0 : Int32))))] (fun (r : Int32) (u : Unit) => (r = (nI (0 + 4 + 4 + 4 + 4 + 4)) ∧ True)) (fun (_ : Unit) => []) := by
  intro sz
  refine body_of (y := yX11_feed) (cc := cX11_feed) (maxL := 6) (ret := (some .int)) (rm := ({ frames := 1, cells := 0, slots := 0, locals := 22 } : Room)) (wc := [((x 0), .inr (11, [.ref (x 1), .ref (x 10), .int (0 : Int32), .ref (x 11), .int (0 : Int32), .ref (x 12), .ref (x 34), .ref (x 50), .int (-1 : Int32), .ref (x 66), .ref (x 67), .ref (x 68), .ref (x 76), .ref (x 81), .ref (x 84), .ref (x 89), .ref (x 97)])), ((x 11), .inl (cB, 700, .inl (fun _ => (0 : Int32))))]) (tys := [(cI, .int), (cJ, .long), (cZ, .boolean), (cB, .byte), (cO, .object "LuckLinks$World")]) (D := D) (sz := sz) (own := RX11) (av := [.ref (x 0), .int p1, .int p2, .int p3, .int p4, .int p5]) (Qc := fun A => va_Qi (fun (r : Int32) (u : Unit) => (r = (nI (0 + 4 + 4 + 4 + 4 + 4)) ∧ True)) (fun u t => Aft D A ((fun (_ : Unit) => []) u) t) A) (by decide) rfl (Nat.le_of_ble_eq_true rfl) (fun p e s m below meth c A ls C hr hlk hin X hl => ?_)
  have hx := C.1
  have hb := C.2.1
  have hown := C.2.2.2.1
  have hts := C.2.2.2.2.1
  have hl : lv_has ls 6 [(0, .ref (x 0)), (1, .int p1), (2, .int p2), (3, .int p3), (4, .int p4), (5, .int p5)] := hl
  show W p l e _ s m _ below meth c s.heap [] 0 0 (MQ below (va_Qi (fun (r : Int32) (u : Unit) => (r = (nI (0 + 4 + 4 + 4 + 4 + 4)) ∧ True)) (fun u t => Aft D A ((fun (_ : Unit) => []) u) t) A) ([.ref (x 0), .int p1, .int p2, .int p3, .int p4, .int p5] : List Value).toArray s 0 0 A) (F0 m 0 ls [])
  have X : Wd D A s [((x 0), .inr (11, [.ref (x 1), .ref (x 10), .int (0 : Int32), .ref (x 11), .int (0 : Int32), .ref (x 12), .ref (x 34), .ref (x 50), .int (-1 : Int32), .ref (x 66), .ref (x 67), .ref (x 68), .ref (x 76), .ref (x 81), .ref (x 84), .ref (x 89), .ref (x 97)])), ((x 11), .inl (cB, 700, .inl (fun _ => (0 : Int32))))] s.heap [] := X
  obtain ⟨H, locs, eH, eL⟩ : ∃ H locs, H = s.heap ∧ locs = ([] : List Loc) := ⟨_, _, rfl, rfl⟩
  rw [← eH, ← eL] at X ⊢
  clear eH eL
  refine lv_aload_n hx hb dX11_feed_0 rfl (lv_at hl 0 rfl) ?_
  refine x_get (own := RX11) (T := TX11) C X 0 rfl rfl 4 (by decide) k_1_20 rfl rfl (v := .int (0 : Int32)) rfl dX11_feed_1 ?_
  refine lv_bipush (v := (20 : Int32)) hx hb dX11_feed_4 (by decide) ?_
  refine lv_iadd hx hb dX11_feed_6 ?_
  refine x_eqi (show (0 : Int32) + (20 : Int32) = (20 : Int32) from by decide +kernel) ?_
  refine lv_sipush (v := (700 : Int32)) hx hb dX11_feed_7 (by decide) ?_
  refine lv_icmp_le (tgt := 15) hx hb dX11_feed_10 (by decide) (fun _ => ?_) (fun c0 => absurd (by decide) c0)
  refine lv_aload_n hx hb dX11_feed_15 rfl (lv_at hl 0 rfl) ?_
  refine lv_iload_n hx hb dX11_feed_16 rfl (lv_at hl 1 rfl) ?_
  refine x_cVv (own := RX11) (wr := []) (As := [.int p1]) C X hl.1 (c_feedNumber l D cI cJ cZ cB cO x p1 (0) (fun _ => (0 : Int32)) (by omega)) [0, 1] [] ⟨rfl, rfl, by decide, by decide, by decide⟩ (qb := 0) rfl rfl k_18_3 k_18_4 k_18_5 k_1_2 k_18_6 (n := 1) (by decide +kernel) ⟨Nat.le_of_ble_eq_true rfl, Nat.le_of_ble_eq_true rfl⟩ rfl rfl (Nat.le_of_ble_eq_true rfl) dX11_feed_17 ⟨Nat.le_of_ble_eq_true rfl, Nat.le_of_ble_eq_true rfl⟩ (fun tf_1 H locs w_3 X => ?_)
  have X : Wd D A s [((x 0), .inr (11, [.ref (x 1), .ref (x 10), .int (0 : Int32), .ref (x 11), .int (nI (0 + 4)), .ref (x 12), .ref (x 34), .ref (x 50), .int (-1 : Int32), .ref (x 66), .ref (x 67), .ref (x 68), .ref (x 76), .ref (x 81), .ref (x 84), .ref (x 89), .ref (x 97)])), ((x 11), .inl (cB, 700, .inl (tf_1)))] H locs := X
  refine W.widen (k := 0) (n := 0) (Nat.le_of_ble_eq_true rfl) (Nat.le_of_ble_eq_true rfl) ?_
  refine lv_aload_n hx hb dX11_feed_20 rfl (lv_at hl 0 rfl) ?_
  refine lv_iload_n hx hb dX11_feed_21 rfl (lv_at hl 2 rfl) ?_
  refine x_cVv (own := RX11) (wr := []) (As := [.int p2]) C X hl.1 (c_feedNumber l D cI cJ cZ cB cO x p2 (0 + 4) (tf_1) (by omega)) [0, 1] [] ⟨rfl, rfl, by decide, by decide, by decide⟩ (qb := 0) rfl rfl k_18_3 k_18_4 k_18_5 k_1_2 k_18_6 (n := 1) (by decide +kernel) ⟨Nat.le_of_ble_eq_true rfl, Nat.le_of_ble_eq_true rfl⟩ rfl rfl (Nat.le_of_ble_eq_true rfl) dX11_feed_22 ⟨Nat.le_of_ble_eq_true rfl, Nat.le_of_ble_eq_true rfl⟩ (fun tf_4 H locs w_6 X => ?_)
  have X : Wd D A s [((x 0), .inr (11, [.ref (x 1), .ref (x 10), .int (0 : Int32), .ref (x 11), .int (nI (0 + 4 + 4)), .ref (x 12), .ref (x 34), .ref (x 50), .int (-1 : Int32), .ref (x 66), .ref (x 67), .ref (x 68), .ref (x 76), .ref (x 81), .ref (x 84), .ref (x 89), .ref (x 97)])), ((x 11), .inl (cB, 700, .inl (tf_4)))] H locs := X
  refine W.widen (k := 0) (n := 0) (Nat.le_of_ble_eq_true rfl) (Nat.le_of_ble_eq_true rfl) ?_
  refine lv_aload_n hx hb dX11_feed_25 rfl (lv_at hl 0 rfl) ?_
  refine lv_iload_n hx hb dX11_feed_26 rfl (lv_at hl 3 rfl) ?_
  refine x_cVv (own := RX11) (wr := []) (As := [.int p3]) C X hl.1 (c_feedNumber l D cI cJ cZ cB cO x p3 (0 + 4 + 4) (tf_4) (by omega)) [0, 1] [] ⟨rfl, rfl, by decide, by decide, by decide⟩ (qb := 0) rfl rfl k_18_3 k_18_4 k_18_5 k_1_2 k_18_6 (n := 1) (by decide +kernel) ⟨Nat.le_of_ble_eq_true rfl, Nat.le_of_ble_eq_true rfl⟩ rfl rfl (Nat.le_of_ble_eq_true rfl) dX11_feed_27 ⟨Nat.le_of_ble_eq_true rfl, Nat.le_of_ble_eq_true rfl⟩ (fun tf_7 H locs w_9 X => ?_)
  have X : Wd D A s [((x 0), .inr (11, [.ref (x 1), .ref (x 10), .int (0 : Int32), .ref (x 11), .int (nI (0 + 4 + 4 + 4)), .ref (x 12), .ref (x 34), .ref (x 50), .int (-1 : Int32), .ref (x 66), .ref (x 67), .ref (x 68), .ref (x 76), .ref (x 81), .ref (x 84), .ref (x 89), .ref (x 97)])), ((x 11), .inl (cB, 700, .inl (tf_7)))] H locs := X
  refine W.widen (k := 0) (n := 0) (Nat.le_of_ble_eq_true rfl) (Nat.le_of_ble_eq_true rfl) ?_
  refine lv_aload_n hx hb dX11_feed_30 rfl (lv_at hl 0 rfl) ?_
  refine lv_iload hx hb dX11_feed_31 (lv_at hl 4 rfl) ?_
  refine x_cVv (own := RX11) (wr := []) (As := [.int p4]) C X hl.1 (c_feedNumber l D cI cJ cZ cB cO x p4 (0 + 4 + 4 + 4) (tf_7) (by omega)) [0, 1] [] ⟨rfl, rfl, by decide, by decide, by decide⟩ (qb := 0) rfl rfl k_18_3 k_18_4 k_18_5 k_1_2 k_18_6 (n := 1) (by decide +kernel) ⟨Nat.le_of_ble_eq_true rfl, Nat.le_of_ble_eq_true rfl⟩ rfl rfl (Nat.le_of_ble_eq_true rfl) dX11_feed_33 ⟨Nat.le_of_ble_eq_true rfl, Nat.le_of_ble_eq_true rfl⟩ (fun tf_10 H locs w_12 X => ?_)
  have X : Wd D A s [((x 0), .inr (11, [.ref (x 1), .ref (x 10), .int (0 : Int32), .ref (x 11), .int (nI (0 + 4 + 4 + 4 + 4)), .ref (x 12), .ref (x 34), .ref (x 50), .int (-1 : Int32), .ref (x 66), .ref (x 67), .ref (x 68), .ref (x 76), .ref (x 81), .ref (x 84), .ref (x 89), .ref (x 97)])), ((x 11), .inl (cB, 700, .inl (tf_10)))] H locs := X
  refine W.widen (k := 0) (n := 0) (Nat.le_of_ble_eq_true rfl) (Nat.le_of_ble_eq_true rfl) ?_
  refine lv_aload_n hx hb dX11_feed_36 rfl (lv_at hl 0 rfl) ?_
  refine lv_iload hx hb dX11_feed_37 (lv_at hl 5 rfl) ?_
  refine x_cVv (own := RX11) (wr := []) (As := [.int p5]) C X hl.1 (c_feedNumber l D cI cJ cZ cB cO x p5 (0 + 4 + 4 + 4 + 4) (tf_10) (by omega)) [0, 1] [] ⟨rfl, rfl, by decide, by decide, by decide⟩ (qb := 0) rfl rfl k_18_3 k_18_4 k_18_5 k_1_2 k_18_6 (n := 1) (by decide +kernel) ⟨Nat.le_of_ble_eq_true rfl, Nat.le_of_ble_eq_true rfl⟩ rfl rfl (Nat.le_of_ble_eq_true rfl) dX11_feed_39 ⟨Nat.le_of_ble_eq_true rfl, Nat.le_of_ble_eq_true rfl⟩ (fun tf_13 H locs w_15 X => ?_)
  have X : Wd D A s [((x 0), .inr (11, [.ref (x 1), .ref (x 10), .int (0 : Int32), .ref (x 11), .int (nI (0 + 4 + 4 + 4 + 4 + 4)), .ref (x 12), .ref (x 34), .ref (x 50), .int (-1 : Int32), .ref (x 66), .ref (x 67), .ref (x 68), .ref (x 76), .ref (x 81), .ref (x 84), .ref (x 89), .ref (x 97)])), ((x 11), .inl (cB, 700, .inl (tf_13)))] H locs := X
  refine W.widen (k := 0) (n := 0) (Nat.le_of_ble_eq_true rfl) (Nat.le_of_ble_eq_true rfl) ?_
  refine lv_aload_n hx hb dX11_feed_42 rfl (lv_at hl 0 rfl) ?_
  refine x_get (own := RX11) (T := TX11) C X 0 rfl rfl 4 (by decide) k_1_20 rfl rfl (v := .int (nI (0 + 4 + 4 + 4 + 4 + 4))) rfl dX11_feed_43 ?_
  exact x_iret C X hr hlk (v := (nI (0 + 4 + 4 + 4 + 4 + 4))) (by first | rfl | decide) (()) [] (by decide) rfl (⟨rfl, trivial⟩) (Nat.le_of_ble_eq_true rfl) (Nat.le_of_ble_eq_true rfl) dX11_feed_46
set_option maxHeartbeats 4000000 in
set_option maxRecDepth 100000 in
theorem c_Lclear (l : Launch) (D : va_G) (cI cJ cZ cB : ClassId) (cO : ClassId) (g : Nat → Nat) :
    CV l D [(cI, .int), (cJ, .long), (cZ, .boolean), (cB, .byte), (cO, .object "LuckLinks$World")] yX3_clear cX3_clear 1 ({ frames := 1, cells := 0, slots := 0, locals := 23 } : Room) [.ref (g 0)] [((g 0), .inr (3, [.int (0 : Int32), .ref (g 1), .ref (g 2), .ref (g 3), .ref (g 4), .ref (g 5), .ref (g 6), .ref (g 7), .int (0 : Int32), .ref (g 8), .ref (g 9), .ref (g 10), .int (0 : Int32), .ref (g 11), .ref (g 12), .ref (g 13), .ref (g 14), .int (0 : Int32), .ref (g 15)])), ((g 1), .inl (cI, 4, .inl (fun _ => (0 : Int32)))), ((g 2), .inl (cI, 4, .inl (fun _ => (0 : Int32)))), ((g 3), .inl (cI, 3, .inl (fun _ => (0 : Int32)))), ((g 4), .inl (cI, 21, .inl (fun _ => (0 : Int32)))), ((g 5), .inl (cI, 21, .inl (fun _ => (0 : Int32)))), ((g 6), .inl (cI, 40, .inl (fun _ => (-1 : Int32))))] (fun (u : Unit) => (True)) (fun (_ : Unit) => [((g 0), .inr (3, [.int (0 : Int32), .ref (g 1), .ref (g 2), .ref (g 3), .ref (g 4), .ref (g 5), .ref (g 6), .ref (g 7), .int (0 : Int32), .ref (g 8), .ref (g 9), .ref (g 10), .int (0 : Int32), .ref (g 11), .ref (g 12), .ref (g 13), .ref (g 14), .int (0 : Int32), .ref (g 15)])), ((g 1), .inl (cI, 4, .inl (fun _ => (0 : Int32)))), ((g 2), .inl (cI, 4, .inl (fun _ => (0 : Int32)))), ((g 3), .inl (cI, 3, .inl (fun _ => (0 : Int32)))), ((g 4), .inl (cI, 21, .inl (fun _ => (0 : Int32)))), ((g 5), .inl (cI, 21, .inl (fun _ => (0 : Int32)))), ((g 6), .inl (cI, 40, .inl (fun _ => (-1 : Int32))))]) := by
  intro sz
  refine body_of (y := yX3_clear) (cc := cX3_clear) (maxL := 1) (ret := none) (rm := ({ frames := 1, cells := 0, slots := 0, locals := 23 } : Room)) (wc := [((g 0), .inr (3, [.int (0 : Int32), .ref (g 1), .ref (g 2), .ref (g 3), .ref (g 4), .ref (g 5), .ref (g 6), .ref (g 7), .int (0 : Int32), .ref (g 8), .ref (g 9), .ref (g 10), .int (0 : Int32), .ref (g 11), .ref (g 12), .ref (g 13), .ref (g 14), .int (0 : Int32), .ref (g 15)])), ((g 1), .inl (cI, 4, .inl (fun _ => (0 : Int32)))), ((g 2), .inl (cI, 4, .inl (fun _ => (0 : Int32)))), ((g 3), .inl (cI, 3, .inl (fun _ => (0 : Int32)))), ((g 4), .inl (cI, 21, .inl (fun _ => (0 : Int32)))), ((g 5), .inl (cI, 21, .inl (fun _ => (0 : Int32)))), ((g 6), .inl (cI, 40, .inl (fun _ => (-1 : Int32))))]) (tys := [(cI, .int), (cJ, .long), (cZ, .boolean), (cB, .byte), (cO, .object "LuckLinks$World")]) (D := D) (sz := sz) (own := RX3) (av := [.ref (g 0)]) (Qc := fun A => va_Qv (fun (u : Unit) => (True)) (fun u t => Aft D A ((fun (_ : Unit) => [((g 0), .inr (3, [.int (0 : Int32), .ref (g 1), .ref (g 2), .ref (g 3), .ref (g 4), .ref (g 5), .ref (g 6), .ref (g 7), .int (0 : Int32), .ref (g 8), .ref (g 9), .ref (g 10), .int (0 : Int32), .ref (g 11), .ref (g 12), .ref (g 13), .ref (g 14), .int (0 : Int32), .ref (g 15)])), ((g 1), .inl (cI, 4, .inl (fun _ => (0 : Int32)))), ((g 2), .inl (cI, 4, .inl (fun _ => (0 : Int32)))), ((g 3), .inl (cI, 3, .inl (fun _ => (0 : Int32)))), ((g 4), .inl (cI, 21, .inl (fun _ => (0 : Int32)))), ((g 5), .inl (cI, 21, .inl (fun _ => (0 : Int32)))), ((g 6), .inl (cI, 40, .inl (fun _ => (-1 : Int32))))]) u) t) A) (by decide) rfl (Nat.le_of_ble_eq_true rfl) (fun p e s m below meth c A ls C hr hlk hin X hl => ?_)
  have hx := C.1
  have hb := C.2.1
  have hown := C.2.2.2.1
  have hts := C.2.2.2.2.1
  have hl : lv_has ls 1 [(0, .ref (g 0))] := hl
  show W p l e _ s m _ below meth c s.heap [] 0 0 (MQ below (va_Qv (fun (u : Unit) => (True)) (fun u t => Aft D A ((fun (_ : Unit) => [((g 0), .inr (3, [.int (0 : Int32), .ref (g 1), .ref (g 2), .ref (g 3), .ref (g 4), .ref (g 5), .ref (g 6), .ref (g 7), .int (0 : Int32), .ref (g 8), .ref (g 9), .ref (g 10), .int (0 : Int32), .ref (g 11), .ref (g 12), .ref (g 13), .ref (g 14), .int (0 : Int32), .ref (g 15)])), ((g 1), .inl (cI, 4, .inl (fun _ => (0 : Int32)))), ((g 2), .inl (cI, 4, .inl (fun _ => (0 : Int32)))), ((g 3), .inl (cI, 3, .inl (fun _ => (0 : Int32)))), ((g 4), .inl (cI, 21, .inl (fun _ => (0 : Int32)))), ((g 5), .inl (cI, 21, .inl (fun _ => (0 : Int32)))), ((g 6), .inl (cI, 40, .inl (fun _ => (-1 : Int32))))]) u) t) A) ([.ref (g 0)] : List Value).toArray s 0 0 A) (F0 m 0 ls [])
  have X : Wd D A s [((g 0), .inr (3, [.int (0 : Int32), .ref (g 1), .ref (g 2), .ref (g 3), .ref (g 4), .ref (g 5), .ref (g 6), .ref (g 7), .int (0 : Int32), .ref (g 8), .ref (g 9), .ref (g 10), .int (0 : Int32), .ref (g 11), .ref (g 12), .ref (g 13), .ref (g 14), .int (0 : Int32), .ref (g 15)])), ((g 1), .inl (cI, 4, .inl (fun _ => (0 : Int32)))), ((g 2), .inl (cI, 4, .inl (fun _ => (0 : Int32)))), ((g 3), .inl (cI, 3, .inl (fun _ => (0 : Int32)))), ((g 4), .inl (cI, 21, .inl (fun _ => (0 : Int32)))), ((g 5), .inl (cI, 21, .inl (fun _ => (0 : Int32)))), ((g 6), .inl (cI, 40, .inl (fun _ => (-1 : Int32))))] s.heap [] := X
  obtain ⟨H, locs, eH, eL⟩ : ∃ H locs, H = s.heap ∧ locs = ([] : List Loc) := ⟨_, _, rfl, rfl⟩
  rw [← eH, ← eL] at X ⊢
  clear eH eL
  refine lv_aload_n hx hb dX3_clear_0 rfl (lv_at hl 0 rfl) ?_
  refine lv_iconst (v := (0 : Int32)) hx hb dX3_clear_1 (by decide) ?_
  refine x_put (own := RX3) (T := TX3) C X 0 rfl rfl 0 (by decide) k_5_6 rfl rfl rfl (ty := .int) (v := .int (0 : Int32)) (by decide +kernel) rfl rfl (Nat.le_of_ble_eq_true rfl) dX3_clear_2 (fun H locs X => ?_)
  have X : Wd D A s [((g 0), .inr (3, [.int (0 : Int32), .ref (g 1), .ref (g 2), .ref (g 3), .ref (g 4), .ref (g 5), .ref (g 6), .ref (g 7), .int (0 : Int32), .ref (g 8), .ref (g 9), .ref (g 10), .int (0 : Int32), .ref (g 11), .ref (g 12), .ref (g 13), .ref (g 14), .int (0 : Int32), .ref (g 15)])), ((g 1), .inl (cI, 4, .inl (fun _ => (0 : Int32)))), ((g 2), .inl (cI, 4, .inl (fun _ => (0 : Int32)))), ((g 3), .inl (cI, 3, .inl (fun _ => (0 : Int32)))), ((g 4), .inl (cI, 21, .inl (fun _ => (0 : Int32)))), ((g 5), .inl (cI, 21, .inl (fun _ => (0 : Int32)))), ((g 6), .inl (cI, 40, .inl (fun _ => (-1 : Int32))))] H locs := X
  refine lv_aload_n hx hb dX3_clear_5 rfl (lv_at hl 0 rfl) ?_
  refine x_get (own := RX3) (T := TX3) C X 0 rfl rfl 1 (by decide) k_5_7 rfl rfl (v := .ref (g 1)) rfl dX3_clear_6 ?_
  refine lv_iconst (v := (0 : Int32)) hx hb dX3_clear_9 (by decide) ?_
  refine x_cSv (own := RX3) (wr := [((g 0), .inr (3, [.int (0 : Int32), .ref (g 1), .ref (g 2), .ref (g 3), .ref (g 4), .ref (g 5), .ref (g 6), .ref (g 7), .int (0 : Int32), .ref (g 8), .ref (g 9), .ref (g 10), .int (0 : Int32), .ref (g 11), .ref (g 12), .ref (g 13), .ref (g 14), .int (0 : Int32), .ref (g 15)])), ((g 2), .inl (cI, 4, .inl (fun _ => (0 : Int32)))), ((g 3), .inl (cI, 3, .inl (fun _ => (0 : Int32)))), ((g 4), .inl (cI, 21, .inl (fun _ => (0 : Int32)))), ((g 5), .inl (cI, 21, .inl (fun _ => (0 : Int32)))), ((g 6), .inl (cI, 40, .inl (fun _ => (-1 : Int32))))]) (As := [.ref (g 1), .int (0 : Int32)]) C X hl.1 (c_fillI l D cI cJ cZ cB cO (g 1) 4 (fun _ => (0 : Int32)) (0 : Int32) (by omega)) [1] [0, 2, 3, 4, 5, 6] ⟨rfl, rfl, by decide, by decide, by decide⟩ k_6_2 k_4_6 k_4_7 k_4_8 (n := 2) (by decide +kernel) ⟨Nat.le_of_ble_eq_true rfl, Nat.le_of_ble_eq_true rfl⟩ rfl rfl (Nat.le_of_ble_eq_true rfl) dX3_clear_10 ⟨Nat.le_of_ble_eq_true rfl, Nat.le_of_ble_eq_true rfl⟩ (fun u_1 H locs w_3 X => ?_)
  have X : Wd D A s [((g 0), .inr (3, [.int (0 : Int32), .ref (g 1), .ref (g 2), .ref (g 3), .ref (g 4), .ref (g 5), .ref (g 6), .ref (g 7), .int (0 : Int32), .ref (g 8), .ref (g 9), .ref (g 10), .int (0 : Int32), .ref (g 11), .ref (g 12), .ref (g 13), .ref (g 14), .int (0 : Int32), .ref (g 15)])), ((g 2), .inl (cI, 4, .inl (fun _ => (0 : Int32)))), ((g 3), .inl (cI, 3, .inl (fun _ => (0 : Int32)))), ((g 4), .inl (cI, 21, .inl (fun _ => (0 : Int32)))), ((g 5), .inl (cI, 21, .inl (fun _ => (0 : Int32)))), ((g 6), .inl (cI, 40, .inl (fun _ => (-1 : Int32)))), ((g 1), .inl (cI, 4, .inl (fun _ => (0 : Int32))))] H locs := X
  refine W.widen (k := 0) (n := 0) (Nat.le_of_ble_eq_true rfl) (Nat.le_of_ble_eq_true rfl) ?_
  refine lv_aload_n hx hb dX3_clear_13 rfl (lv_at hl 0 rfl) ?_
  refine x_get (own := RX3) (T := TX3) C X 0 rfl rfl 2 (by decide) k_5_8 rfl rfl (v := .ref (g 2)) rfl dX3_clear_14 ?_
  refine lv_iconst (v := (0 : Int32)) hx hb dX3_clear_17 (by decide) ?_
  refine x_cSv (own := RX3) (wr := [((g 0), .inr (3, [.int (0 : Int32), .ref (g 1), .ref (g 2), .ref (g 3), .ref (g 4), .ref (g 5), .ref (g 6), .ref (g 7), .int (0 : Int32), .ref (g 8), .ref (g 9), .ref (g 10), .int (0 : Int32), .ref (g 11), .ref (g 12), .ref (g 13), .ref (g 14), .int (0 : Int32), .ref (g 15)])), ((g 3), .inl (cI, 3, .inl (fun _ => (0 : Int32)))), ((g 4), .inl (cI, 21, .inl (fun _ => (0 : Int32)))), ((g 5), .inl (cI, 21, .inl (fun _ => (0 : Int32)))), ((g 6), .inl (cI, 40, .inl (fun _ => (-1 : Int32)))), ((g 1), .inl (cI, 4, .inl (fun _ => (0 : Int32))))]) (As := [.ref (g 2), .int (0 : Int32)]) C X hl.1 (c_fillI l D cI cJ cZ cB cO (g 2) 4 (fun _ => (0 : Int32)) (0 : Int32) (by omega)) [1] [0, 2, 3, 4, 5, 6] ⟨rfl, rfl, by decide, by decide, by decide⟩ k_6_2 k_4_6 k_4_7 k_4_8 (n := 2) (by decide +kernel) ⟨Nat.le_of_ble_eq_true rfl, Nat.le_of_ble_eq_true rfl⟩ rfl rfl (Nat.le_of_ble_eq_true rfl) dX3_clear_18 ⟨Nat.le_of_ble_eq_true rfl, Nat.le_of_ble_eq_true rfl⟩ (fun u_4 H locs w_6 X => ?_)
  have X : Wd D A s [((g 0), .inr (3, [.int (0 : Int32), .ref (g 1), .ref (g 2), .ref (g 3), .ref (g 4), .ref (g 5), .ref (g 6), .ref (g 7), .int (0 : Int32), .ref (g 8), .ref (g 9), .ref (g 10), .int (0 : Int32), .ref (g 11), .ref (g 12), .ref (g 13), .ref (g 14), .int (0 : Int32), .ref (g 15)])), ((g 3), .inl (cI, 3, .inl (fun _ => (0 : Int32)))), ((g 4), .inl (cI, 21, .inl (fun _ => (0 : Int32)))), ((g 5), .inl (cI, 21, .inl (fun _ => (0 : Int32)))), ((g 6), .inl (cI, 40, .inl (fun _ => (-1 : Int32)))), ((g 1), .inl (cI, 4, .inl (fun _ => (0 : Int32)))), ((g 2), .inl (cI, 4, .inl (fun _ => (0 : Int32))))] H locs := X
  refine W.widen (k := 0) (n := 0) (Nat.le_of_ble_eq_true rfl) (Nat.le_of_ble_eq_true rfl) ?_
  refine lv_aload_n hx hb dX3_clear_21 rfl (lv_at hl 0 rfl) ?_
  refine x_get (own := RX3) (T := TX3) C X 0 rfl rfl 3 (by decide) k_5_9 rfl rfl (v := .ref (g 3)) rfl dX3_clear_22 ?_
  refine lv_iconst (v := (0 : Int32)) hx hb dX3_clear_25 (by decide) ?_
  refine x_cSv (own := RX3) (wr := [((g 0), .inr (3, [.int (0 : Int32), .ref (g 1), .ref (g 2), .ref (g 3), .ref (g 4), .ref (g 5), .ref (g 6), .ref (g 7), .int (0 : Int32), .ref (g 8), .ref (g 9), .ref (g 10), .int (0 : Int32), .ref (g 11), .ref (g 12), .ref (g 13), .ref (g 14), .int (0 : Int32), .ref (g 15)])), ((g 4), .inl (cI, 21, .inl (fun _ => (0 : Int32)))), ((g 5), .inl (cI, 21, .inl (fun _ => (0 : Int32)))), ((g 6), .inl (cI, 40, .inl (fun _ => (-1 : Int32)))), ((g 1), .inl (cI, 4, .inl (fun _ => (0 : Int32)))), ((g 2), .inl (cI, 4, .inl (fun _ => (0 : Int32))))]) (As := [.ref (g 3), .int (0 : Int32)]) C X hl.1 (c_fillI l D cI cJ cZ cB cO (g 3) 3 (fun _ => (0 : Int32)) (0 : Int32) (by omega)) [1] [0, 2, 3, 4, 5, 6] ⟨rfl, rfl, by decide, by decide, by decide⟩ k_6_2 k_4_6 k_4_7 k_4_8 (n := 2) (by decide +kernel) ⟨Nat.le_of_ble_eq_true rfl, Nat.le_of_ble_eq_true rfl⟩ rfl rfl (Nat.le_of_ble_eq_true rfl) dX3_clear_26 ⟨Nat.le_of_ble_eq_true rfl, Nat.le_of_ble_eq_true rfl⟩ (fun u_7 H locs w_9 X => ?_)
  have X : Wd D A s [((g 0), .inr (3, [.int (0 : Int32), .ref (g 1), .ref (g 2), .ref (g 3), .ref (g 4), .ref (g 5), .ref (g 6), .ref (g 7), .int (0 : Int32), .ref (g 8), .ref (g 9), .ref (g 10), .int (0 : Int32), .ref (g 11), .ref (g 12), .ref (g 13), .ref (g 14), .int (0 : Int32), .ref (g 15)])), ((g 4), .inl (cI, 21, .inl (fun _ => (0 : Int32)))), ((g 5), .inl (cI, 21, .inl (fun _ => (0 : Int32)))), ((g 6), .inl (cI, 40, .inl (fun _ => (-1 : Int32)))), ((g 1), .inl (cI, 4, .inl (fun _ => (0 : Int32)))), ((g 2), .inl (cI, 4, .inl (fun _ => (0 : Int32)))), ((g 3), .inl (cI, 3, .inl (fun _ => (0 : Int32))))] H locs := X
  refine W.widen (k := 0) (n := 0) (Nat.le_of_ble_eq_true rfl) (Nat.le_of_ble_eq_true rfl) ?_
  refine lv_aload_n hx hb dX3_clear_29 rfl (lv_at hl 0 rfl) ?_
  refine x_get (own := RX3) (T := TX3) C X 0 rfl rfl 4 (by decide) k_5_10 rfl rfl (v := .ref (g 4)) rfl dX3_clear_30 ?_
  refine lv_iconst (v := (0 : Int32)) hx hb dX3_clear_33 (by decide) ?_
  refine x_cSv (own := RX3) (wr := [((g 0), .inr (3, [.int (0 : Int32), .ref (g 1), .ref (g 2), .ref (g 3), .ref (g 4), .ref (g 5), .ref (g 6), .ref (g 7), .int (0 : Int32), .ref (g 8), .ref (g 9), .ref (g 10), .int (0 : Int32), .ref (g 11), .ref (g 12), .ref (g 13), .ref (g 14), .int (0 : Int32), .ref (g 15)])), ((g 5), .inl (cI, 21, .inl (fun _ => (0 : Int32)))), ((g 6), .inl (cI, 40, .inl (fun _ => (-1 : Int32)))), ((g 1), .inl (cI, 4, .inl (fun _ => (0 : Int32)))), ((g 2), .inl (cI, 4, .inl (fun _ => (0 : Int32)))), ((g 3), .inl (cI, 3, .inl (fun _ => (0 : Int32))))]) (As := [.ref (g 4), .int (0 : Int32)]) C X hl.1 (c_fillI l D cI cJ cZ cB cO (g 4) 21 (fun _ => (0 : Int32)) (0 : Int32) (by omega)) [1] [0, 2, 3, 4, 5, 6] ⟨rfl, rfl, by decide, by decide, by decide⟩ k_6_2 k_4_6 k_4_7 k_4_8 (n := 2) (by decide +kernel) ⟨Nat.le_of_ble_eq_true rfl, Nat.le_of_ble_eq_true rfl⟩ rfl rfl (Nat.le_of_ble_eq_true rfl) dX3_clear_34 ⟨Nat.le_of_ble_eq_true rfl, Nat.le_of_ble_eq_true rfl⟩ (fun u_10 H locs w_12 X => ?_)
  have X : Wd D A s [((g 0), .inr (3, [.int (0 : Int32), .ref (g 1), .ref (g 2), .ref (g 3), .ref (g 4), .ref (g 5), .ref (g 6), .ref (g 7), .int (0 : Int32), .ref (g 8), .ref (g 9), .ref (g 10), .int (0 : Int32), .ref (g 11), .ref (g 12), .ref (g 13), .ref (g 14), .int (0 : Int32), .ref (g 15)])), ((g 5), .inl (cI, 21, .inl (fun _ => (0 : Int32)))), ((g 6), .inl (cI, 40, .inl (fun _ => (-1 : Int32)))), ((g 1), .inl (cI, 4, .inl (fun _ => (0 : Int32)))), ((g 2), .inl (cI, 4, .inl (fun _ => (0 : Int32)))), ((g 3), .inl (cI, 3, .inl (fun _ => (0 : Int32)))), ((g 4), .inl (cI, 21, .inl (fun _ => (0 : Int32))))] H locs := X
  refine W.widen (k := 0) (n := 0) (Nat.le_of_ble_eq_true rfl) (Nat.le_of_ble_eq_true rfl) ?_
  refine lv_aload_n hx hb dX3_clear_37 rfl (lv_at hl 0 rfl) ?_
  refine x_get (own := RX3) (T := TX3) C X 0 rfl rfl 5 (by decide) k_5_11 rfl rfl (v := .ref (g 5)) rfl dX3_clear_38 ?_
  refine lv_iconst (v := (0 : Int32)) hx hb dX3_clear_41 (by decide) ?_
  refine x_cSv (own := RX3) (wr := [((g 0), .inr (3, [.int (0 : Int32), .ref (g 1), .ref (g 2), .ref (g 3), .ref (g 4), .ref (g 5), .ref (g 6), .ref (g 7), .int (0 : Int32), .ref (g 8), .ref (g 9), .ref (g 10), .int (0 : Int32), .ref (g 11), .ref (g 12), .ref (g 13), .ref (g 14), .int (0 : Int32), .ref (g 15)])), ((g 6), .inl (cI, 40, .inl (fun _ => (-1 : Int32)))), ((g 1), .inl (cI, 4, .inl (fun _ => (0 : Int32)))), ((g 2), .inl (cI, 4, .inl (fun _ => (0 : Int32)))), ((g 3), .inl (cI, 3, .inl (fun _ => (0 : Int32)))), ((g 4), .inl (cI, 21, .inl (fun _ => (0 : Int32))))]) (As := [.ref (g 5), .int (0 : Int32)]) C X hl.1 (c_fillI l D cI cJ cZ cB cO (g 5) 21 (fun _ => (0 : Int32)) (0 : Int32) (by omega)) [1] [0, 2, 3, 4, 5, 6] ⟨rfl, rfl, by decide, by decide, by decide⟩ k_6_2 k_4_6 k_4_7 k_4_8 (n := 2) (by decide +kernel) ⟨Nat.le_of_ble_eq_true rfl, Nat.le_of_ble_eq_true rfl⟩ rfl rfl (Nat.le_of_ble_eq_true rfl) dX3_clear_42 ⟨Nat.le_of_ble_eq_true rfl, Nat.le_of_ble_eq_true rfl⟩ (fun u_13 H locs w_15 X => ?_)
  have X : Wd D A s [((g 0), .inr (3, [.int (0 : Int32), .ref (g 1), .ref (g 2), .ref (g 3), .ref (g 4), .ref (g 5), .ref (g 6), .ref (g 7), .int (0 : Int32), .ref (g 8), .ref (g 9), .ref (g 10), .int (0 : Int32), .ref (g 11), .ref (g 12), .ref (g 13), .ref (g 14), .int (0 : Int32), .ref (g 15)])), ((g 6), .inl (cI, 40, .inl (fun _ => (-1 : Int32)))), ((g 1), .inl (cI, 4, .inl (fun _ => (0 : Int32)))), ((g 2), .inl (cI, 4, .inl (fun _ => (0 : Int32)))), ((g 3), .inl (cI, 3, .inl (fun _ => (0 : Int32)))), ((g 4), .inl (cI, 21, .inl (fun _ => (0 : Int32)))), ((g 5), .inl (cI, 21, .inl (fun _ => (0 : Int32))))] H locs := X
  refine W.widen (k := 0) (n := 0) (Nat.le_of_ble_eq_true rfl) (Nat.le_of_ble_eq_true rfl) ?_
  refine lv_aload_n hx hb dX3_clear_45 rfl (lv_at hl 0 rfl) ?_
  refine x_get (own := RX3) (T := TX3) C X 0 rfl rfl 6 (by decide) k_5_12 rfl rfl (v := .ref (g 6)) rfl dX3_clear_46 ?_
  refine lv_iconst (v := (-1 : Int32)) hx hb dX3_clear_49 (by decide) ?_
  refine x_cSv (own := RX3) (wr := [((g 0), .inr (3, [.int (0 : Int32), .ref (g 1), .ref (g 2), .ref (g 3), .ref (g 4), .ref (g 5), .ref (g 6), .ref (g 7), .int (0 : Int32), .ref (g 8), .ref (g 9), .ref (g 10), .int (0 : Int32), .ref (g 11), .ref (g 12), .ref (g 13), .ref (g 14), .int (0 : Int32), .ref (g 15)])), ((g 1), .inl (cI, 4, .inl (fun _ => (0 : Int32)))), ((g 2), .inl (cI, 4, .inl (fun _ => (0 : Int32)))), ((g 3), .inl (cI, 3, .inl (fun _ => (0 : Int32)))), ((g 4), .inl (cI, 21, .inl (fun _ => (0 : Int32)))), ((g 5), .inl (cI, 21, .inl (fun _ => (0 : Int32))))]) (As := [.ref (g 6), .int (-1 : Int32)]) C X hl.1 (c_fillI l D cI cJ cZ cB cO (g 6) 40 (fun _ => (-1 : Int32)) (-1 : Int32) (by omega)) [1] [0, 2, 3, 4, 5, 6] ⟨rfl, rfl, by decide, by decide, by decide⟩ k_6_2 k_4_6 k_4_7 k_4_8 (n := 2) (by decide +kernel) ⟨Nat.le_of_ble_eq_true rfl, Nat.le_of_ble_eq_true rfl⟩ rfl rfl (Nat.le_of_ble_eq_true rfl) dX3_clear_50 ⟨Nat.le_of_ble_eq_true rfl, Nat.le_of_ble_eq_true rfl⟩ (fun u_16 H locs w_18 X => ?_)
  have X : Wd D A s [((g 0), .inr (3, [.int (0 : Int32), .ref (g 1), .ref (g 2), .ref (g 3), .ref (g 4), .ref (g 5), .ref (g 6), .ref (g 7), .int (0 : Int32), .ref (g 8), .ref (g 9), .ref (g 10), .int (0 : Int32), .ref (g 11), .ref (g 12), .ref (g 13), .ref (g 14), .int (0 : Int32), .ref (g 15)])), ((g 1), .inl (cI, 4, .inl (fun _ => (0 : Int32)))), ((g 2), .inl (cI, 4, .inl (fun _ => (0 : Int32)))), ((g 3), .inl (cI, 3, .inl (fun _ => (0 : Int32)))), ((g 4), .inl (cI, 21, .inl (fun _ => (0 : Int32)))), ((g 5), .inl (cI, 21, .inl (fun _ => (0 : Int32)))), ((g 6), .inl (cI, 40, .inl (fun _ => (-1 : Int32))))] H locs := X
  refine W.widen (k := 0) (n := 0) (Nat.le_of_ble_eq_true rfl) (Nat.le_of_ble_eq_true rfl) ?_
  refine lv_aload_n hx hb dX3_clear_53 rfl (lv_at hl 0 rfl) ?_
  refine lv_iconst (v := (0 : Int32)) hx hb dX3_clear_54 (by decide) ?_
  refine x_put (own := RX3) (T := TX3) C X 0 rfl rfl 8 (by decide) k_5_14 rfl rfl rfl (ty := .int) (v := .int (0 : Int32)) (by decide +kernel) rfl rfl (Nat.le_of_ble_eq_true rfl) dX3_clear_55 (fun H locs X => ?_)
  have X : Wd D A s [((g 0), .inr (3, [.int (0 : Int32), .ref (g 1), .ref (g 2), .ref (g 3), .ref (g 4), .ref (g 5), .ref (g 6), .ref (g 7), .int (0 : Int32), .ref (g 8), .ref (g 9), .ref (g 10), .int (0 : Int32), .ref (g 11), .ref (g 12), .ref (g 13), .ref (g 14), .int (0 : Int32), .ref (g 15)])), ((g 1), .inl (cI, 4, .inl (fun _ => (0 : Int32)))), ((g 2), .inl (cI, 4, .inl (fun _ => (0 : Int32)))), ((g 3), .inl (cI, 3, .inl (fun _ => (0 : Int32)))), ((g 4), .inl (cI, 21, .inl (fun _ => (0 : Int32)))), ((g 5), .inl (cI, 21, .inl (fun _ => (0 : Int32)))), ((g 6), .inl (cI, 40, .inl (fun _ => (-1 : Int32))))] H locs := X
  refine lv_aload_n hx hb dX3_clear_58 rfl (lv_at hl 0 rfl) ?_
  refine lv_iconst (v := (0 : Int32)) hx hb dX3_clear_59 (by decide) ?_
  refine x_put (own := RX3) (T := TX3) C X 0 rfl rfl 12 (by decide) k_5_18 rfl rfl rfl (ty := .int) (v := .int (0 : Int32)) (by decide +kernel) rfl rfl (Nat.le_of_ble_eq_true rfl) dX3_clear_60 (fun H locs X => ?_)
  have X : Wd D A s [((g 0), .inr (3, [.int (0 : Int32), .ref (g 1), .ref (g 2), .ref (g 3), .ref (g 4), .ref (g 5), .ref (g 6), .ref (g 7), .int (0 : Int32), .ref (g 8), .ref (g 9), .ref (g 10), .int (0 : Int32), .ref (g 11), .ref (g 12), .ref (g 13), .ref (g 14), .int (0 : Int32), .ref (g 15)])), ((g 1), .inl (cI, 4, .inl (fun _ => (0 : Int32)))), ((g 2), .inl (cI, 4, .inl (fun _ => (0 : Int32)))), ((g 3), .inl (cI, 3, .inl (fun _ => (0 : Int32)))), ((g 4), .inl (cI, 21, .inl (fun _ => (0 : Int32)))), ((g 5), .inl (cI, 21, .inl (fun _ => (0 : Int32)))), ((g 6), .inl (cI, 40, .inl (fun _ => (-1 : Int32))))] H locs := X
  refine lv_aload_n hx hb dX3_clear_63 rfl (lv_at hl 0 rfl) ?_
  refine lv_iconst (v := (0 : Int32)) hx hb dX3_clear_64 (by decide) ?_
  refine x_put (own := RX3) (T := TX3) C X 0 rfl rfl 17 (by decide) k_5_23 rfl rfl rfl (ty := .int) (v := .int (0 : Int32)) (by decide +kernel) rfl rfl (Nat.le_of_ble_eq_true rfl) dX3_clear_65 (fun H locs X => ?_)
  have X : Wd D A s [((g 0), .inr (3, [.int (0 : Int32), .ref (g 1), .ref (g 2), .ref (g 3), .ref (g 4), .ref (g 5), .ref (g 6), .ref (g 7), .int (0 : Int32), .ref (g 8), .ref (g 9), .ref (g 10), .int (0 : Int32), .ref (g 11), .ref (g 12), .ref (g 13), .ref (g 14), .int (0 : Int32), .ref (g 15)])), ((g 1), .inl (cI, 4, .inl (fun _ => (0 : Int32)))), ((g 2), .inl (cI, 4, .inl (fun _ => (0 : Int32)))), ((g 3), .inl (cI, 3, .inl (fun _ => (0 : Int32)))), ((g 4), .inl (cI, 21, .inl (fun _ => (0 : Int32)))), ((g 5), .inl (cI, 21, .inl (fun _ => (0 : Int32)))), ((g 6), .inl (cI, 40, .inl (fun _ => (-1 : Int32))))] H locs := X
  exact x_vret C X hr hlk (()) [0, 1, 2, 3, 4, 5, 6] (by decide) rfl (trivial) (Nat.le_of_ble_eq_true rfl) (Nat.le_of_ble_eq_true rfl) dX3_clear_68
set_option maxHeartbeats 4000000 in
set_option maxRecDepth 100000 in
theorem c_Lspread (l : Launch) (D : va_G) (cI cJ cZ cB : ClassId) (cO : ClassId) (g : Nat → Nat) :
    CV l D [(cI, .int), (cJ, .long), (cZ, .boolean), (cB, .byte), (cO, .object "LuckLinks$World")] yX3_spreadWeights cX3_spreadWeights 3 ({ frames := 0, cells := 0, slots := 0, locals := 0 } : Room) [.ref (g 0)] [((g 0), .inr (3, [.int (0 : Int32), .ref (g 1), .ref (g 2), .ref (g 3), .ref (g 4), .ref (g 5), .ref (g 6), .ref (g 7), .int (0 : Int32), .ref (g 8), .ref (g 9), .ref (g 10), .int (0 : Int32), .ref (g 11), .ref (g 12), .ref (g 13), .ref (g 14), .int (0 : Int32), .ref (g 15)])), ((g 6), .inl (cI, 40, .inl (fun _ => (-1 : Int32)))), ((g 7), .inl (cI, 41, .inl (fun _ => (1 : Int32))))] (fun (u : Unit) => (True)) (fun (_ : Unit) => [((g 0), .inr (3, [.int (0 : Int32), .ref (g 1), .ref (g 2), .ref (g 3), .ref (g 4), .ref (g 5), .ref (g 6), .ref (g 7), .int (0 : Int32), .ref (g 8), .ref (g 9), .ref (g 10), .int (0 : Int32), .ref (g 11), .ref (g 12), .ref (g 13), .ref (g 14), .int (0 : Int32), .ref (g 15)])), ((g 6), .inl (cI, 40, .inl (fun _ => (-1 : Int32)))), ((g 7), .inl (cI, 41, .inl (fun _ => (1 : Int32))))]) := by
  intro sz
  refine body_of (y := yX3_spreadWeights) (cc := cX3_spreadWeights) (maxL := 3) (ret := none) (rm := ({ frames := 0, cells := 0, slots := 0, locals := 0 } : Room)) (wc := [((g 0), .inr (3, [.int (0 : Int32), .ref (g 1), .ref (g 2), .ref (g 3), .ref (g 4), .ref (g 5), .ref (g 6), .ref (g 7), .int (0 : Int32), .ref (g 8), .ref (g 9), .ref (g 10), .int (0 : Int32), .ref (g 11), .ref (g 12), .ref (g 13), .ref (g 14), .int (0 : Int32), .ref (g 15)])), ((g 6), .inl (cI, 40, .inl (fun _ => (-1 : Int32)))), ((g 7), .inl (cI, 41, .inl (fun _ => (1 : Int32))))]) (tys := [(cI, .int), (cJ, .long), (cZ, .boolean), (cB, .byte), (cO, .object "LuckLinks$World")]) (D := D) (sz := sz) (own := RX3) (av := [.ref (g 0)]) (Qc := fun A => va_Qv (fun (u : Unit) => (True)) (fun u t => Aft D A ((fun (_ : Unit) => [((g 0), .inr (3, [.int (0 : Int32), .ref (g 1), .ref (g 2), .ref (g 3), .ref (g 4), .ref (g 5), .ref (g 6), .ref (g 7), .int (0 : Int32), .ref (g 8), .ref (g 9), .ref (g 10), .int (0 : Int32), .ref (g 11), .ref (g 12), .ref (g 13), .ref (g 14), .int (0 : Int32), .ref (g 15)])), ((g 6), .inl (cI, 40, .inl (fun _ => (-1 : Int32)))), ((g 7), .inl (cI, 41, .inl (fun _ => (1 : Int32))))]) u) t) A) (by decide) rfl (Nat.le_of_ble_eq_true rfl) (fun p e s m below meth c A ls C hr hlk hin X hl => ?_)
  have hx := C.1
  have hb := C.2.1
  have hown := C.2.2.2.1
  have hts := C.2.2.2.2.1
  have hl : lv_has ls 3 [(0, .ref (g 0))] := hl
  show W p l e _ s m _ below meth c s.heap [] 0 0 (MQ below (va_Qv (fun (u : Unit) => (True)) (fun u t => Aft D A ((fun (_ : Unit) => [((g 0), .inr (3, [.int (0 : Int32), .ref (g 1), .ref (g 2), .ref (g 3), .ref (g 4), .ref (g 5), .ref (g 6), .ref (g 7), .int (0 : Int32), .ref (g 8), .ref (g 9), .ref (g 10), .int (0 : Int32), .ref (g 11), .ref (g 12), .ref (g 13), .ref (g 14), .int (0 : Int32), .ref (g 15)])), ((g 6), .inl (cI, 40, .inl (fun _ => (-1 : Int32)))), ((g 7), .inl (cI, 41, .inl (fun _ => (1 : Int32))))]) u) t) A) ([.ref (g 0)] : List Value).toArray s 0 0 A) (F0 m 0 ls [])
  have X : Wd D A s [((g 0), .inr (3, [.int (0 : Int32), .ref (g 1), .ref (g 2), .ref (g 3), .ref (g 4), .ref (g 5), .ref (g 6), .ref (g 7), .int (0 : Int32), .ref (g 8), .ref (g 9), .ref (g 10), .int (0 : Int32), .ref (g 11), .ref (g 12), .ref (g 13), .ref (g 14), .int (0 : Int32), .ref (g 15)])), ((g 6), .inl (cI, 40, .inl (fun _ => (-1 : Int32)))), ((g 7), .inl (cI, 41, .inl (fun _ => (1 : Int32))))] s.heap [] := X
  obtain ⟨H, locs, eH, eL⟩ : ∃ H locs, H = s.heap ∧ locs = ([] : List Loc) := ⟨_, _, rfl, rfl⟩
  rw [← eH, ← eL] at X ⊢
  clear eH eL
  refine lv_iconst (v := (1 : Int32)) hx hb dX3_spreadWeights_0 (by decide) ?_
  refine lv_istore_n (lv' := [(1, .int (1 : Int32)), (0, .ref (g 0))]) hx hb dX3_spreadWeights_1 rfl hl (by decide) rfl (fun ls hl => ?_)
  refine lv_iconst (v := (0 : Int32)) hx hb dX3_spreadWeights_2 (by decide) ?_
  refine lv_istore_n (lv' := [(2, .int (0 : Int32)), (1, .int (1 : Int32)), (0, .ref (g 0))]) hx hb dX3_spreadWeights_3 rfl hl (by decide) rfl (fun ls hl => ?_)
  have L4 : ∀ (n : Nat) (i : Nat) (H : Heap) (locs : List Loc) (ls : Array Slot), (h1 : i ≤ 41) → 41 < i + n → Wd D A s [((g 0), .inr (3, [.int (0 : Int32), .ref (g 1), .ref (g 2), .ref (g 3), .ref (g 4), .ref (g 5), .ref (g 6), .ref (g 7), .int (0 : Int32), .ref (g 8), .ref (g 9), .ref (g 10), .int (0 : Int32), .ref (g 11), .ref (g 12), .ref (g 13), .ref (g 14), .int (0 : Int32), .ref (g 15)])), ((g 6), .inl (cI, 40, .inl (fun _ => (-1 : Int32)))), ((g 7), .inl (cI, 41, .inl (fun _ => (1 : Int32))))] H locs → lv_has ls 3 [(2, .int (nI (i))), (1, .int (1 : Int32)), (0, .ref (g 0))] → W p l e ({ frames := 0, cells := 0, slots := 0, locals := 0 } : Room) s m ([.ref (g 0)] : List Value).toArray below meth c H locs 0 0 (MQ below (va_Qv (fun (u : Unit) => (True)) (fun u t => Aft D A ((fun (_ : Unit) => [((g 0), .inr (3, [.int (0 : Int32), .ref (g 1), .ref (g 2), .ref (g 3), .ref (g 4), .ref (g 5), .ref (g 6), .ref (g 7), .int (0 : Int32), .ref (g 8), .ref (g 9), .ref (g 10), .int (0 : Int32), .ref (g 11), .ref (g 12), .ref (g 13), .ref (g 14), .int (0 : Int32), .ref (g 15)])), ((g 6), .inl (cI, 40, .inl (fun _ => (-1 : Int32)))), ((g 7), .inl (cI, 41, .inl (fun _ => (1 : Int32))))]) u) t) A) ([.ref (g 0)] : List Value).toArray s 0 0 A) (F0 m 4 ls []) := by
    intro n
    induction n with
    | zero => intro i H locs ls h1 hn; exact absurd hn (by omega)
    | succ n ih =>
      intro i H locs ls h1 hn X hl
      have ih4 := ih
      refine lv_iload_n hx hb dX3_spreadWeights_4 rfl (lv_at hl 0 rfl) ?_
      refine lv_bipush (v := (40 : Int32)) hx hb dX3_spreadWeights_5 (by decide) ?_
      refine lv_icmp_gt (tgt := 46) hx hb dX3_spreadWeights_7 (by decide) (fun c_1 => ?_) (fun c_1 => ?_)
      · have fc_1 : (40 : Int) < ((i : Nat) : Int) := (by have h9 := i_lt c_1; simp only [nI_toInt (n := i) (by omega)] at h9; exact h9)
        exact x_vret C X hr hlk (()) [0, 1, 2] (by decide) rfl (trivial) (Nat.le_of_ble_eq_true rfl) (Nat.le_of_ble_eq_true rfl) dX3_spreadWeights_46
      · have fc_1 : ((i : Nat) : Int) ≤ (40 : Int) := (by have h9 := i_nlt c_1; simp only [nI_toInt (n := i) (by omega)] at h9; exact h9)
        refine lv_iload_n hx hb dX3_spreadWeights_10 rfl (lv_at hl 0 rfl) ?_
        refine lv_bipush (v := (40 : Int32)) hx hb dX3_spreadWeights_11 (by decide) ?_
        refine lv_icmp_ge (tgt := 33) hx hb dX3_spreadWeights_13 (by decide) (fun c_2 => ?_) (fun c_2 => ?_)
        · have fc_2 : (40 : Int) ≤ ((i : Nat) : Int) := (by have h9 := i_le c_2; simp only [nI_toInt (n := i) (by omega)] at h9; exact h9)
          refine lv_aload_n hx hb dX3_spreadWeights_33 rfl (lv_at hl 2 rfl) ?_
          refine x_get (own := RX3) (T := TX3) C X 0 rfl rfl 7 (by decide) k_5_13 rfl rfl (v := .ref (g 7)) rfl dX3_spreadWeights_34 ?_
          refine lv_iload_n hx hb dX3_spreadWeights_37 rfl (lv_at hl 0 rfl) ?_
          refine lv_iload_n hx hb dX3_spreadWeights_38 rfl (lv_at hl 1 rfl) ?_
          refine x_iast C X 2 0 rfl rfl (j := i) (nI_clamp (by omega)) (vp_in_nI (by omega) (by omega)) dX3_spreadWeights_39 (fun H locs X => ?_)
          have X := x_cng X 2 rfl (arr_eq _ _ (g := fun _ => (1 : Int32)) (fun j h => by first | rfl | (unfold upd; split <;> rfl)))
          have X : Wd D A s [((g 0), .inr (3, [.int (0 : Int32), .ref (g 1), .ref (g 2), .ref (g 3), .ref (g 4), .ref (g 5), .ref (g 6), .ref (g 7), .int (0 : Int32), .ref (g 8), .ref (g 9), .ref (g 10), .int (0 : Int32), .ref (g 11), .ref (g 12), .ref (g 13), .ref (g 14), .int (0 : Int32), .ref (g 15)])), ((g 6), .inl (cI, 40, .inl (fun _ => (-1 : Int32)))), ((g 7), .inl (cI, 41, .inl (fun _ => (1 : Int32))))] H locs := X
          refine lv_iinc (v := (nI (i + 1))) (lv' := [(2, .int (nI (i + 1))), (1, .int (1 : Int32)), (0, .ref (g 0))]) hx hb dX3_spreadWeights_40 hl (k := 0) rfl (nI_add _ 1) (by decide) rfl (fun ls hl => ?_)
          refine lv_goto (tgt := 4) hx hb dX3_spreadWeights_43 (by decide) ?_
          exact ih4  (i + 1) H locs ls (by omega) (by omega) (x_sub X [0, 1, 2] (by decide) rfl) (lv_sub hl [0, 1, 2] rfl)
        · have fc_2 : ((i : Nat) : Int) < (40 : Int) := (by have h9 := i_nle c_2; simp only [nI_toInt (n := i) (by omega)] at h9; exact h9)
          refine lv_aload_n hx hb dX3_spreadWeights_16 rfl (lv_at hl 2 rfl) ?_
          refine x_get (own := RX3) (T := TX3) C X 0 rfl rfl 6 (by decide) k_5_12 rfl rfl (v := .ref (g 6)) rfl dX3_spreadWeights_17 ?_
          refine lv_iload_n hx hb dX3_spreadWeights_20 rfl (lv_at hl 0 rfl) ?_
          refine x_iald C X 1 0 rfl rfl (j := i) (nI_clamp (by omega)) (vp_in_nI (by omega) (by omega)) (v := (-1 : Int32)) (rfl) dX3_spreadWeights_21 ?_
          refine lv_iconst (v := (-1 : Int32)) hx hb dX3_spreadWeights_22 (by decide) ?_
          refine lv_icmp_eq (tgt := 33) hx hb dX3_spreadWeights_23 (by decide) (fun _ => ?_) (fun c0 => absurd (by decide) c0)
          refine lv_aload_n hx hb dX3_spreadWeights_33 rfl (lv_at hl 2 rfl) ?_
          refine x_get (own := RX3) (T := TX3) C X 0 rfl rfl 7 (by decide) k_5_13 rfl rfl (v := .ref (g 7)) rfl dX3_spreadWeights_34 ?_
          refine lv_iload_n hx hb dX3_spreadWeights_37 rfl (lv_at hl 0 rfl) ?_
          refine lv_iload_n hx hb dX3_spreadWeights_38 rfl (lv_at hl 1 rfl) ?_
          refine x_iast C X 2 0 rfl rfl (j := i) (nI_clamp (by omega)) (vp_in_nI (by omega) (by omega)) dX3_spreadWeights_39 (fun H locs X => ?_)
          have X := x_cng X 2 rfl (arr_eq _ _ (g := fun _ => (1 : Int32)) (fun j h => by first | rfl | (unfold upd; split <;> rfl)))
          have X : Wd D A s [((g 0), .inr (3, [.int (0 : Int32), .ref (g 1), .ref (g 2), .ref (g 3), .ref (g 4), .ref (g 5), .ref (g 6), .ref (g 7), .int (0 : Int32), .ref (g 8), .ref (g 9), .ref (g 10), .int (0 : Int32), .ref (g 11), .ref (g 12), .ref (g 13), .ref (g 14), .int (0 : Int32), .ref (g 15)])), ((g 6), .inl (cI, 40, .inl (fun _ => (-1 : Int32)))), ((g 7), .inl (cI, 41, .inl (fun _ => (1 : Int32))))] H locs := X
          refine lv_iinc (v := (nI (i + 1))) (lv' := [(2, .int (nI (i + 1))), (1, .int (1 : Int32)), (0, .ref (g 0))]) hx hb dX3_spreadWeights_40 hl (k := 0) rfl (nI_add _ 1) (by decide) rfl (fun ls hl => ?_)
          refine lv_goto (tgt := 4) hx hb dX3_spreadWeights_43 (by decide) ?_
          exact ih4  (i + 1) H locs ls (by omega) (by omega) (x_sub X [0, 1, 2] (by decide) rfl) (lv_sub hl [0, 1, 2] rfl)
  exact L4 (41 + 1) (0) H locs ls (by omega) (by omega) (x_sub X [0, 1, 2] (by decide) rfl) (lv_sub hl [0, 1, 2] rfl)
set_option maxHeartbeats 4000000 in
set_option maxRecDepth 100000 in
theorem c_split (l : Launch) (D : va_G) (cI cJ cZ cB : ClassId) (cO : ClassId) (r : Nat → Nat) (tx lw : Nat) :
    CV l D [(cI, .int), (cJ, .long), (cZ, .boolean), (cB, .byte), (cO, .object "LuckLinks$World")] yX4_split cX4_split 6 ({ frames := 0, cells := 0, slots := 0, locals := 0 } : Room) [.ref (r 0), .int (0 : Int32)] [((r 0), .inr (4, [.ref tx, .ref lw, .ref (r 18), .ref (r 19), .ref (r 20), .int (0 : Int32), .int (0 : Int32), .int (0 : Int32), .ref (r 21), .int (0 : Int32), .int (0 : Int32), .int (0 : Int32)])), ((r 18), .inl (cI, 701, .inl (fun _ => (0 : Int32)))), ((r 19), .inl (cI, 701, .inl (fun _ => (0 : Int32)))), ((r 20), .inl (cI, 701, .inl (fun _ => (0 : Int32))))] (fun (u : Unit) => (True)) (fun (_ : Unit) => [((r 0), .inr (4, [.ref tx, .ref lw, .ref (r 18), .ref (r 19), .ref (r 20), .int (0 : Int32), .int (0 : Int32), .int (0 : Int32), .ref (r 21), .int (0 : Int32), .int (0 : Int32), .int (0 : Int32)])), ((r 18), .inl (cI, 701, .inl (fun _ => (0 : Int32)))), ((r 19), .inl (cI, 701, .inl (fun _ => (0 : Int32)))), ((r 20), .inl (cI, 701, .inl (fun _ => (0 : Int32))))]) := by
  intro sz
  refine body_of (y := yX4_split) (cc := cX4_split) (maxL := 6) (ret := none) (rm := ({ frames := 0, cells := 0, slots := 0, locals := 0 } : Room)) (wc := [((r 0), .inr (4, [.ref tx, .ref lw, .ref (r 18), .ref (r 19), .ref (r 20), .int (0 : Int32), .int (0 : Int32), .int (0 : Int32), .ref (r 21), .int (0 : Int32), .int (0 : Int32), .int (0 : Int32)])), ((r 18), .inl (cI, 701, .inl (fun _ => (0 : Int32)))), ((r 19), .inl (cI, 701, .inl (fun _ => (0 : Int32)))), ((r 20), .inl (cI, 701, .inl (fun _ => (0 : Int32))))]) (tys := [(cI, .int), (cJ, .long), (cZ, .boolean), (cB, .byte), (cO, .object "LuckLinks$World")]) (D := D) (sz := sz) (own := RX4) (av := [.ref (r 0), .int (0 : Int32)]) (Qc := fun A => va_Qv (fun (u : Unit) => (True)) (fun u t => Aft D A ((fun (_ : Unit) => [((r 0), .inr (4, [.ref tx, .ref lw, .ref (r 18), .ref (r 19), .ref (r 20), .int (0 : Int32), .int (0 : Int32), .int (0 : Int32), .ref (r 21), .int (0 : Int32), .int (0 : Int32), .int (0 : Int32)])), ((r 18), .inl (cI, 701, .inl (fun _ => (0 : Int32)))), ((r 19), .inl (cI, 701, .inl (fun _ => (0 : Int32)))), ((r 20), .inl (cI, 701, .inl (fun _ => (0 : Int32))))]) u) t) A) (by decide) rfl (Nat.le_of_ble_eq_true rfl) (fun p e s m below meth c A ls C hr hlk hin X hl => ?_)
  have hx := C.1
  have hb := C.2.1
  have hown := C.2.2.2.1
  have hts := C.2.2.2.2.1
  have hl : lv_has ls 6 [(0, .ref (r 0)), (1, .int (0 : Int32))] := hl
  show W p l e _ s m _ below meth c s.heap [] 0 0 (MQ below (va_Qv (fun (u : Unit) => (True)) (fun u t => Aft D A ((fun (_ : Unit) => [((r 0), .inr (4, [.ref tx, .ref lw, .ref (r 18), .ref (r 19), .ref (r 20), .int (0 : Int32), .int (0 : Int32), .int (0 : Int32), .ref (r 21), .int (0 : Int32), .int (0 : Int32), .int (0 : Int32)])), ((r 18), .inl (cI, 701, .inl (fun _ => (0 : Int32)))), ((r 19), .inl (cI, 701, .inl (fun _ => (0 : Int32)))), ((r 20), .inl (cI, 701, .inl (fun _ => (0 : Int32))))]) u) t) A) ([.ref (r 0), .int (0 : Int32)] : List Value).toArray s 0 0 A) (F0 m 0 ls [])
  have X : Wd D A s [((r 0), .inr (4, [.ref tx, .ref lw, .ref (r 18), .ref (r 19), .ref (r 20), .int (0 : Int32), .int (0 : Int32), .int (0 : Int32), .ref (r 21), .int (0 : Int32), .int (0 : Int32), .int (0 : Int32)])), ((r 18), .inl (cI, 701, .inl (fun _ => (0 : Int32)))), ((r 19), .inl (cI, 701, .inl (fun _ => (0 : Int32)))), ((r 20), .inl (cI, 701, .inl (fun _ => (0 : Int32))))] s.heap [] := X
  obtain ⟨H, locs, eH, eL⟩ : ∃ H locs, H = s.heap ∧ locs = ([] : List Loc) := ⟨_, _, rfl, rfl⟩
  rw [← eH, ← eL] at X ⊢
  clear eH eL
  refine lv_iconst (v := (0 : Int32)) hx hb dX4_split_0 (by decide) ?_
  refine lv_istore_n (lv' := [(2, .int (0 : Int32)), (0, .ref (r 0)), (1, .int (0 : Int32))]) hx hb dX4_split_1 rfl hl (by decide) rfl (fun ls hl => ?_)
  refine lv_iconst (v := (0 : Int32)) hx hb dX4_split_2 (by decide) ?_
  refine lv_istore_n (lv' := [(3, .int (0 : Int32)), (2, .int (0 : Int32)), (0, .ref (r 0)), (1, .int (0 : Int32))]) hx hb dX4_split_3 rfl hl (by decide) rfl (fun ls hl => ?_)
  refine lv_iload_n hx hb dX4_split_4 rfl (lv_at hl 1 rfl) ?_
  refine lv_iload_n hx hb dX4_split_5 rfl (lv_at hl 3 rfl) ?_
  refine lv_icmp_ge (tgt := 103) hx hb dX4_split_6 (by decide) (fun _ => ?_) (fun c0 => absurd (by decide) c0)
  refine lv_aload_n hx hb dX4_split_103 rfl (lv_at hl 2 rfl) ?_
  refine x_get (own := RX4) (T := TX4) C X 0 rfl rfl 2 (by decide) k_4_16 rfl rfl (v := .ref (r 18)) rfl dX4_split_104 ?_
  refine lv_iload_n hx hb dX4_split_107 rfl (lv_at hl 0 rfl) ?_
  refine lv_iconst (v := (0 : Int32)) hx hb dX4_split_108 (by decide) ?_
  refine x_iast C X 1 0 rfl rfl (j := 0) rfl (vp_in_nI (n := 0) (by omega) (by omega)) dX4_split_109 (fun H locs X => ?_)
  have X := x_cng X 1 rfl (arr_eq _ _ (g := fun _ => (0 : Int32)) (fun j h => by first | rfl | (unfold upd; split <;> rfl)))
  have X : Wd D A s [((r 0), .inr (4, [.ref tx, .ref lw, .ref (r 18), .ref (r 19), .ref (r 20), .int (0 : Int32), .int (0 : Int32), .int (0 : Int32), .ref (r 21), .int (0 : Int32), .int (0 : Int32), .int (0 : Int32)])), ((r 18), .inl (cI, 701, .inl (fun _ => (0 : Int32)))), ((r 19), .inl (cI, 701, .inl (fun _ => (0 : Int32)))), ((r 20), .inl (cI, 701, .inl (fun _ => (0 : Int32))))] H locs := X
  refine lv_aload_n hx hb dX4_split_110 rfl (lv_at hl 2 rfl) ?_
  refine x_get (own := RX4) (T := TX4) C X 0 rfl rfl 3 (by decide) k_4_17 rfl rfl (v := .ref (r 19)) rfl dX4_split_111 ?_
  refine lv_iload_n hx hb dX4_split_114 rfl (lv_at hl 0 rfl) ?_
  refine lv_iload_n hx hb dX4_split_115 rfl (lv_at hl 3 rfl) ?_
  refine x_iast C X 2 0 rfl rfl (j := 0) rfl (vp_in_nI (n := 0) (by omega) (by omega)) dX4_split_116 (fun H locs X => ?_)
  have X := x_cng X 2 rfl (arr_eq _ _ (g := fun _ => (0 : Int32)) (fun j h => by first | rfl | (unfold upd; split <;> rfl)))
  have X : Wd D A s [((r 0), .inr (4, [.ref tx, .ref lw, .ref (r 18), .ref (r 19), .ref (r 20), .int (0 : Int32), .int (0 : Int32), .int (0 : Int32), .ref (r 21), .int (0 : Int32), .int (0 : Int32), .int (0 : Int32)])), ((r 18), .inl (cI, 701, .inl (fun _ => (0 : Int32)))), ((r 19), .inl (cI, 701, .inl (fun _ => (0 : Int32)))), ((r 20), .inl (cI, 701, .inl (fun _ => (0 : Int32))))] H locs := X
  refine lv_aload_n hx hb dX4_split_117 rfl (lv_at hl 2 rfl) ?_
  refine x_get (own := RX4) (T := TX4) C X 0 rfl rfl 4 (by decide) k_4_18 rfl rfl (v := .ref (r 20)) rfl dX4_split_118 ?_
  refine lv_iload_n hx hb dX4_split_121 rfl (lv_at hl 0 rfl) ?_
  refine lv_iload_n hx hb dX4_split_122 rfl (lv_at hl 3 rfl) ?_
  refine x_iast C X 3 0 rfl rfl (j := 0) rfl (vp_in_nI (n := 0) (by omega) (by omega)) dX4_split_123 (fun H locs X => ?_)
  have X := x_cng X 3 rfl (arr_eq _ _ (g := fun _ => (0 : Int32)) (fun j h => by first | rfl | (unfold upd; split <;> rfl)))
  have X : Wd D A s [((r 0), .inr (4, [.ref tx, .ref lw, .ref (r 18), .ref (r 19), .ref (r 20), .int (0 : Int32), .int (0 : Int32), .int (0 : Int32), .ref (r 21), .int (0 : Int32), .int (0 : Int32), .int (0 : Int32)])), ((r 18), .inl (cI, 701, .inl (fun _ => (0 : Int32)))), ((r 19), .inl (cI, 701, .inl (fun _ => (0 : Int32)))), ((r 20), .inl (cI, 701, .inl (fun _ => (0 : Int32))))] H locs := X
  exact x_vret C X hr hlk (()) [0, 1, 2, 3] (by decide) rfl (trivial) (Nat.le_of_ble_eq_true rfl) (Nat.le_of_ble_eq_true rfl) dX4_split_124
set_option maxHeartbeats 4000000 in
set_option maxRecDepth 100000 in
theorem c_readLaw (l : Launch) (D : va_G) (cI cJ cZ cB : ClassId) (cO : ClassId) (r g : Nat → Nat) (tx : Nat) :
    CI l D [(cI, .int), (cJ, .long), (cZ, .boolean), (cB, .byte), (cO, .object "LuckLinks$World")] yX4_readLaw cX4_readLaw 5 (some .int) ({ frames := 2, cells := 0, slots := 0, locals := 43 } : Room) [.ref (r 0), .ref tx, .int (0 : Int32), .ref (g 0)] [((r 0), .inr (4, [.ref (r 1), .ref (r 2), .ref (r 18), .ref (r 19), .ref (r 20), .int (0 : Int32), .int (0 : Int32), .int (0 : Int32), .ref (r 21), .int (0 : Int32), .int (0 : Int32), .int (0 : Int32)])), ((r 18), .inl (cI, 701, .inl (fun _ => (0 : Int32)))), ((r 19), .inl (cI, 701, .inl (fun _ => (0 : Int32)))), ((r 20), .inl (cI, 701, .inl (fun _ => (0 : Int32)))), (tx, .inl (cB, 700, .inl (fun _ => (0 : Int32)))), ((g 0), .inr (3, [.int (0 : Int32), .ref (g 1), .ref (g 2), .ref (g 3), .ref (g 4), .ref (g 5), .ref (g 6), .ref (g 7), .int (0 : Int32), .ref (g 8), .ref (g 9), .ref (g 10), .int (0 : Int32), .ref (g 11), .ref (g 12), .ref (g 13), .ref (g 14), .int (0 : Int32), .ref (g 15)])), ((g 1), .inl (cI, 4, .inl (fun _ => (0 : Int32)))), ((g 2), .inl (cI, 4, .inl (fun _ => (0 : Int32)))), ((g 3), .inl (cI, 3, .inl (fun _ => (0 : Int32)))), ((g 4), .inl (cI, 21, .inl (fun _ => (0 : Int32)))), ((g 5), .inl (cI, 21, .inl (fun _ => (0 : Int32)))), ((g 6), .inl (cI, 40, .inl (fun _ => (-1 : Int32)))), ((g 7), .inl (cI, 41, .inl (fun _ => (1 : Int32))))] (fun (r : Int32) (u : Unit) => (r = (-1 : Int32) ∧ True)) (fun (_ : Unit) => [((g 0), .inr (3, [.int (0 : Int32), .ref (g 1), .ref (g 2), .ref (g 3), .ref (g 4), .ref (g 5), .ref (g 6), .ref (g 7), .int (0 : Int32), .ref (g 8), .ref (g 9), .ref (g 10), .int (0 : Int32), .ref (g 11), .ref (g 12), .ref (g 13), .ref (g 14), .int (0 : Int32), .ref (g 15)]))]) := by
  intro sz
  refine body_of (y := yX4_readLaw) (cc := cX4_readLaw) (maxL := 5) (ret := (some .int)) (rm := ({ frames := 2, cells := 0, slots := 0, locals := 43 } : Room)) (wc := [((r 0), .inr (4, [.ref (r 1), .ref (r 2), .ref (r 18), .ref (r 19), .ref (r 20), .int (0 : Int32), .int (0 : Int32), .int (0 : Int32), .ref (r 21), .int (0 : Int32), .int (0 : Int32), .int (0 : Int32)])), ((r 18), .inl (cI, 701, .inl (fun _ => (0 : Int32)))), ((r 19), .inl (cI, 701, .inl (fun _ => (0 : Int32)))), ((r 20), .inl (cI, 701, .inl (fun _ => (0 : Int32)))), (tx, .inl (cB, 700, .inl (fun _ => (0 : Int32)))), ((g 0), .inr (3, [.int (0 : Int32), .ref (g 1), .ref (g 2), .ref (g 3), .ref (g 4), .ref (g 5), .ref (g 6), .ref (g 7), .int (0 : Int32), .ref (g 8), .ref (g 9), .ref (g 10), .int (0 : Int32), .ref (g 11), .ref (g 12), .ref (g 13), .ref (g 14), .int (0 : Int32), .ref (g 15)])), ((g 1), .inl (cI, 4, .inl (fun _ => (0 : Int32)))), ((g 2), .inl (cI, 4, .inl (fun _ => (0 : Int32)))), ((g 3), .inl (cI, 3, .inl (fun _ => (0 : Int32)))), ((g 4), .inl (cI, 21, .inl (fun _ => (0 : Int32)))), ((g 5), .inl (cI, 21, .inl (fun _ => (0 : Int32)))), ((g 6), .inl (cI, 40, .inl (fun _ => (-1 : Int32)))), ((g 7), .inl (cI, 41, .inl (fun _ => (1 : Int32))))]) (tys := [(cI, .int), (cJ, .long), (cZ, .boolean), (cB, .byte), (cO, .object "LuckLinks$World")]) (D := D) (sz := sz) (own := RX4) (av := [.ref (r 0), .ref tx, .int (0 : Int32), .ref (g 0)]) (Qc := fun A => va_Qi (fun (r : Int32) (u : Unit) => (r = (-1 : Int32) ∧ True)) (fun u t => Aft D A ((fun (_ : Unit) => [((g 0), .inr (3, [.int (0 : Int32), .ref (g 1), .ref (g 2), .ref (g 3), .ref (g 4), .ref (g 5), .ref (g 6), .ref (g 7), .int (0 : Int32), .ref (g 8), .ref (g 9), .ref (g 10), .int (0 : Int32), .ref (g 11), .ref (g 12), .ref (g 13), .ref (g 14), .int (0 : Int32), .ref (g 15)]))]) u) t) A) (by decide) rfl (Nat.le_of_ble_eq_true rfl) (fun p e s m below meth c A ls C hr hlk hin X hl => ?_)
  have hx := C.1
  have hb := C.2.1
  have hown := C.2.2.2.1
  have hts := C.2.2.2.2.1
  have hl : lv_has ls 5 [(0, .ref (r 0)), (1, .ref tx), (2, .int (0 : Int32)), (3, .ref (g 0))] := hl
  show W p l e _ s m _ below meth c s.heap [] 0 0 (MQ below (va_Qi (fun (r : Int32) (u : Unit) => (r = (-1 : Int32) ∧ True)) (fun u t => Aft D A ((fun (_ : Unit) => [((g 0), .inr (3, [.int (0 : Int32), .ref (g 1), .ref (g 2), .ref (g 3), .ref (g 4), .ref (g 5), .ref (g 6), .ref (g 7), .int (0 : Int32), .ref (g 8), .ref (g 9), .ref (g 10), .int (0 : Int32), .ref (g 11), .ref (g 12), .ref (g 13), .ref (g 14), .int (0 : Int32), .ref (g 15)]))]) u) t) A) ([.ref (r 0), .ref tx, .int (0 : Int32), .ref (g 0)] : List Value).toArray s 0 0 A) (F0 m 0 ls [])
  have X : Wd D A s [((r 0), .inr (4, [.ref (r 1), .ref (r 2), .ref (r 18), .ref (r 19), .ref (r 20), .int (0 : Int32), .int (0 : Int32), .int (0 : Int32), .ref (r 21), .int (0 : Int32), .int (0 : Int32), .int (0 : Int32)])), ((r 18), .inl (cI, 701, .inl (fun _ => (0 : Int32)))), ((r 19), .inl (cI, 701, .inl (fun _ => (0 : Int32)))), ((r 20), .inl (cI, 701, .inl (fun _ => (0 : Int32)))), (tx, .inl (cB, 700, .inl (fun _ => (0 : Int32)))), ((g 0), .inr (3, [.int (0 : Int32), .ref (g 1), .ref (g 2), .ref (g 3), .ref (g 4), .ref (g 5), .ref (g 6), .ref (g 7), .int (0 : Int32), .ref (g 8), .ref (g 9), .ref (g 10), .int (0 : Int32), .ref (g 11), .ref (g 12), .ref (g 13), .ref (g 14), .int (0 : Int32), .ref (g 15)])), ((g 1), .inl (cI, 4, .inl (fun _ => (0 : Int32)))), ((g 2), .inl (cI, 4, .inl (fun _ => (0 : Int32)))), ((g 3), .inl (cI, 3, .inl (fun _ => (0 : Int32)))), ((g 4), .inl (cI, 21, .inl (fun _ => (0 : Int32)))), ((g 5), .inl (cI, 21, .inl (fun _ => (0 : Int32)))), ((g 6), .inl (cI, 40, .inl (fun _ => (-1 : Int32)))), ((g 7), .inl (cI, 41, .inl (fun _ => (1 : Int32))))] s.heap [] := X
  obtain ⟨H, locs, eH, eL⟩ : ∃ H locs, H = s.heap ∧ locs = ([] : List Loc) := ⟨_, _, rfl, rfl⟩
  rw [← eH, ← eL] at X ⊢
  clear eH eL
  refine lv_aload_n hx hb dX4_readLaw_0 rfl (lv_at hl 0 rfl) ?_
  refine lv_aload_n hx hb dX4_readLaw_1 rfl (lv_at hl 1 rfl) ?_
  refine x_put (own := RX4) (T := TX4) C X 0 rfl rfl 0 (by decide) k_4_13 rfl rfl rfl (ty := (tyX4 0)) (v := .ref tx) (by decide +kernel) rfl rfl (Nat.le_of_ble_eq_true rfl) dX4_readLaw_2 (fun H locs X => ?_)
  have X : Wd D A s [((r 0), .inr (4, [.ref tx, .ref (r 2), .ref (r 18), .ref (r 19), .ref (r 20), .int (0 : Int32), .int (0 : Int32), .int (0 : Int32), .ref (r 21), .int (0 : Int32), .int (0 : Int32), .int (0 : Int32)])), ((r 18), .inl (cI, 701, .inl (fun _ => (0 : Int32)))), ((r 19), .inl (cI, 701, .inl (fun _ => (0 : Int32)))), ((r 20), .inl (cI, 701, .inl (fun _ => (0 : Int32)))), (tx, .inl (cB, 700, .inl (fun _ => (0 : Int32)))), ((g 0), .inr (3, [.int (0 : Int32), .ref (g 1), .ref (g 2), .ref (g 3), .ref (g 4), .ref (g 5), .ref (g 6), .ref (g 7), .int (0 : Int32), .ref (g 8), .ref (g 9), .ref (g 10), .int (0 : Int32), .ref (g 11), .ref (g 12), .ref (g 13), .ref (g 14), .int (0 : Int32), .ref (g 15)])), ((g 1), .inl (cI, 4, .inl (fun _ => (0 : Int32)))), ((g 2), .inl (cI, 4, .inl (fun _ => (0 : Int32)))), ((g 3), .inl (cI, 3, .inl (fun _ => (0 : Int32)))), ((g 4), .inl (cI, 21, .inl (fun _ => (0 : Int32)))), ((g 5), .inl (cI, 21, .inl (fun _ => (0 : Int32)))), ((g 6), .inl (cI, 40, .inl (fun _ => (-1 : Int32)))), ((g 7), .inl (cI, 41, .inl (fun _ => (1 : Int32))))] H locs := X
  refine lv_aload_n hx hb dX4_readLaw_5 rfl (lv_at hl 0 rfl) ?_
  refine lv_aload_n hx hb dX4_readLaw_6 rfl (lv_at hl 3 rfl) ?_
  refine x_put (own := RX4) (T := TX4) C X 0 rfl rfl 1 (by decide) k_4_15 rfl rfl rfl (ty := (tyX4 1)) (v := .ref (g 0)) (by decide +kernel) rfl rfl (Nat.le_of_ble_eq_true rfl) dX4_readLaw_7 (fun H locs X => ?_)
  have X : Wd D A s [((r 0), .inr (4, [.ref tx, .ref (g 0), .ref (r 18), .ref (r 19), .ref (r 20), .int (0 : Int32), .int (0 : Int32), .int (0 : Int32), .ref (r 21), .int (0 : Int32), .int (0 : Int32), .int (0 : Int32)])), ((r 18), .inl (cI, 701, .inl (fun _ => (0 : Int32)))), ((r 19), .inl (cI, 701, .inl (fun _ => (0 : Int32)))), ((r 20), .inl (cI, 701, .inl (fun _ => (0 : Int32)))), (tx, .inl (cB, 700, .inl (fun _ => (0 : Int32)))), ((g 0), .inr (3, [.int (0 : Int32), .ref (g 1), .ref (g 2), .ref (g 3), .ref (g 4), .ref (g 5), .ref (g 6), .ref (g 7), .int (0 : Int32), .ref (g 8), .ref (g 9), .ref (g 10), .int (0 : Int32), .ref (g 11), .ref (g 12), .ref (g 13), .ref (g 14), .int (0 : Int32), .ref (g 15)])), ((g 1), .inl (cI, 4, .inl (fun _ => (0 : Int32)))), ((g 2), .inl (cI, 4, .inl (fun _ => (0 : Int32)))), ((g 3), .inl (cI, 3, .inl (fun _ => (0 : Int32)))), ((g 4), .inl (cI, 21, .inl (fun _ => (0 : Int32)))), ((g 5), .inl (cI, 21, .inl (fun _ => (0 : Int32)))), ((g 6), .inl (cI, 40, .inl (fun _ => (-1 : Int32)))), ((g 7), .inl (cI, 41, .inl (fun _ => (1 : Int32))))] H locs := X
  refine lv_aload_n hx hb dX4_readLaw_10 rfl (lv_at hl 0 rfl) ?_
  refine x_get (own := RX4) (T := TX4) C X 0 rfl rfl 1 (by decide) k_4_15 rfl rfl (v := .ref (g 0)) rfl dX4_readLaw_11 ?_
  refine x_cVv (own := RX4) (wr := [((r 0), .inr (4, [.ref tx, .ref (g 0), .ref (r 18), .ref (r 19), .ref (r 20), .int (0 : Int32), .int (0 : Int32), .int (0 : Int32), .ref (r 21), .int (0 : Int32), .int (0 : Int32), .int (0 : Int32)])), ((r 18), .inl (cI, 701, .inl (fun _ => (0 : Int32)))), ((r 19), .inl (cI, 701, .inl (fun _ => (0 : Int32)))), ((r 20), .inl (cI, 701, .inl (fun _ => (0 : Int32)))), (tx, .inl (cB, 700, .inl (fun _ => (0 : Int32)))), ((g 7), .inl (cI, 41, .inl (fun _ => (1 : Int32))))]) (As := []) C X hl.1 (c_Lclear l D cI cJ cZ cB cO g) [5, 6, 7, 8, 9, 10, 11] [0, 1, 2, 3, 4, 12] ⟨rfl, rfl, by decide, by decide, by decide⟩ (qb := 0) rfl rfl k_19_2 k_19_3 k_19_4 k_2_3 k_19_5 (n := 0) (by decide +kernel) ⟨Nat.le_of_ble_eq_true rfl, Nat.le_of_ble_eq_true rfl⟩ rfl rfl (Nat.le_of_ble_eq_true rfl) dX4_readLaw_14 ⟨Nat.le_of_ble_eq_true rfl, Nat.le_of_ble_eq_true rfl⟩ (fun u_1 H locs w_3 X => ?_)
  have X : Wd D A s [((r 0), .inr (4, [.ref tx, .ref (g 0), .ref (r 18), .ref (r 19), .ref (r 20), .int (0 : Int32), .int (0 : Int32), .int (0 : Int32), .ref (r 21), .int (0 : Int32), .int (0 : Int32), .int (0 : Int32)])), ((r 18), .inl (cI, 701, .inl (fun _ => (0 : Int32)))), ((r 19), .inl (cI, 701, .inl (fun _ => (0 : Int32)))), ((r 20), .inl (cI, 701, .inl (fun _ => (0 : Int32)))), (tx, .inl (cB, 700, .inl (fun _ => (0 : Int32)))), ((g 7), .inl (cI, 41, .inl (fun _ => (1 : Int32)))), ((g 0), .inr (3, [.int (0 : Int32), .ref (g 1), .ref (g 2), .ref (g 3), .ref (g 4), .ref (g 5), .ref (g 6), .ref (g 7), .int (0 : Int32), .ref (g 8), .ref (g 9), .ref (g 10), .int (0 : Int32), .ref (g 11), .ref (g 12), .ref (g 13), .ref (g 14), .int (0 : Int32), .ref (g 15)])), ((g 1), .inl (cI, 4, .inl (fun _ => (0 : Int32)))), ((g 2), .inl (cI, 4, .inl (fun _ => (0 : Int32)))), ((g 3), .inl (cI, 3, .inl (fun _ => (0 : Int32)))), ((g 4), .inl (cI, 21, .inl (fun _ => (0 : Int32)))), ((g 5), .inl (cI, 21, .inl (fun _ => (0 : Int32)))), ((g 6), .inl (cI, 40, .inl (fun _ => (-1 : Int32))))] H locs := X
  refine W.widen (k := 0) (n := 0) (Nat.le_of_ble_eq_true rfl) (Nat.le_of_ble_eq_true rfl) ?_
  refine lv_aload_n hx hb dX4_readLaw_17 rfl (lv_at hl 0 rfl) ?_
  refine lv_iconst (v := (0 : Int32)) hx hb dX4_readLaw_18 (by decide) ?_
  refine x_put (own := RX4) (T := TX4) C X 0 rfl rfl 5 (by decide) k_4_19 rfl rfl rfl (ty := .int) (v := .int (0 : Int32)) (by decide +kernel) rfl rfl (Nat.le_of_ble_eq_true rfl) dX4_readLaw_19 (fun H locs X => ?_)
  have X : Wd D A s [((r 0), .inr (4, [.ref tx, .ref (g 0), .ref (r 18), .ref (r 19), .ref (r 20), .int (0 : Int32), .int (0 : Int32), .int (0 : Int32), .ref (r 21), .int (0 : Int32), .int (0 : Int32), .int (0 : Int32)])), ((r 18), .inl (cI, 701, .inl (fun _ => (0 : Int32)))), ((r 19), .inl (cI, 701, .inl (fun _ => (0 : Int32)))), ((r 20), .inl (cI, 701, .inl (fun _ => (0 : Int32)))), (tx, .inl (cB, 700, .inl (fun _ => (0 : Int32)))), ((g 7), .inl (cI, 41, .inl (fun _ => (1 : Int32)))), ((g 0), .inr (3, [.int (0 : Int32), .ref (g 1), .ref (g 2), .ref (g 3), .ref (g 4), .ref (g 5), .ref (g 6), .ref (g 7), .int (0 : Int32), .ref (g 8), .ref (g 9), .ref (g 10), .int (0 : Int32), .ref (g 11), .ref (g 12), .ref (g 13), .ref (g 14), .int (0 : Int32), .ref (g 15)])), ((g 1), .inl (cI, 4, .inl (fun _ => (0 : Int32)))), ((g 2), .inl (cI, 4, .inl (fun _ => (0 : Int32)))), ((g 3), .inl (cI, 3, .inl (fun _ => (0 : Int32)))), ((g 4), .inl (cI, 21, .inl (fun _ => (0 : Int32)))), ((g 5), .inl (cI, 21, .inl (fun _ => (0 : Int32)))), ((g 6), .inl (cI, 40, .inl (fun _ => (-1 : Int32))))] H locs := X
  refine lv_aload_n hx hb dX4_readLaw_22 rfl (lv_at hl 0 rfl) ?_
  refine lv_iload_n hx hb dX4_readLaw_23 rfl (lv_at hl 2 rfl) ?_
  refine lv_aload_n hx hb dX4_readLaw_24 rfl (lv_at hl 1 rfl) ?_
  refine x_alen C X 4 3 rfl rfl (v := (700 : Int32)) (by decide) dX4_readLaw_25 ?_
  refine lv_sipush (v := (700 : Int32)) hx hb dX4_readLaw_26 (by decide) ?_
  refine va_mmin hx hb (by rw [C.2.2.1]; exact hl.1.symm) (own := RX4) hown (hts _ k_18_21) (hts _ k_18_22) (hts _ k_18_23) (hts _ k_19_0) (Nat.le_of_ble_eq_true rfl) (Nat.le_of_ble_eq_true rfl) (Nat.le_of_ble_eq_true rfl) (Nat.le_of_ble_eq_true rfl) dX4_readLaw_29 ?_
  refine x_eqi (show (if (700 : Int32) < (700 : Int32) then (700 : Int32) else (700 : Int32)) = (700 : Int32) from by decide) ?_
  refine va_mmin hx hb (by rw [C.2.2.1]; exact hl.1.symm) (own := RX4) hown (hts _ k_18_21) (hts _ k_18_22) (hts _ k_18_23) (hts _ k_19_0) (Nat.le_of_ble_eq_true rfl) (Nat.le_of_ble_eq_true rfl) (Nat.le_of_ble_eq_true rfl) (Nat.le_of_ble_eq_true rfl) dX4_readLaw_32 ?_
  refine x_eqi (show (if (700 : Int32) < (0 : Int32) then (700 : Int32) else (0 : Int32)) = (0 : Int32) from by decide) ?_
  refine x_cVv (own := RX4) (wr := [(tx, .inl (cB, 700, .inl (fun _ => (0 : Int32)))), ((g 7), .inl (cI, 41, .inl (fun _ => (1 : Int32)))), ((g 0), .inr (3, [.int (0 : Int32), .ref (g 1), .ref (g 2), .ref (g 3), .ref (g 4), .ref (g 5), .ref (g 6), .ref (g 7), .int (0 : Int32), .ref (g 8), .ref (g 9), .ref (g 10), .int (0 : Int32), .ref (g 11), .ref (g 12), .ref (g 13), .ref (g 14), .int (0 : Int32), .ref (g 15)])), ((g 1), .inl (cI, 4, .inl (fun _ => (0 : Int32)))), ((g 2), .inl (cI, 4, .inl (fun _ => (0 : Int32)))), ((g 3), .inl (cI, 3, .inl (fun _ => (0 : Int32)))), ((g 4), .inl (cI, 21, .inl (fun _ => (0 : Int32)))), ((g 5), .inl (cI, 21, .inl (fun _ => (0 : Int32)))), ((g 6), .inl (cI, 40, .inl (fun _ => (-1 : Int32))))]) (As := [.int (0 : Int32)]) C X hl.1 (c_split l D cI cJ cZ cB cO r tx (g 0)) [0, 1, 2, 3] [4, 5, 6, 7, 8, 9, 10, 11, 12] ⟨rfl, rfl, by decide, by decide, by decide⟩ (qb := 0) rfl rfl k_19_6 k_19_7 k_19_8 k_1_23 k_19_9 (n := 1) (by decide +kernel) ⟨Nat.le_of_ble_eq_true rfl, Nat.le_of_ble_eq_true rfl⟩ rfl rfl (Nat.le_of_ble_eq_true rfl) dX4_readLaw_35 ⟨Nat.le_of_ble_eq_true rfl, Nat.le_of_ble_eq_true rfl⟩ (fun u_4 H locs w_6 X => ?_)
  have X : Wd D A s [(tx, .inl (cB, 700, .inl (fun _ => (0 : Int32)))), ((g 7), .inl (cI, 41, .inl (fun _ => (1 : Int32)))), ((g 0), .inr (3, [.int (0 : Int32), .ref (g 1), .ref (g 2), .ref (g 3), .ref (g 4), .ref (g 5), .ref (g 6), .ref (g 7), .int (0 : Int32), .ref (g 8), .ref (g 9), .ref (g 10), .int (0 : Int32), .ref (g 11), .ref (g 12), .ref (g 13), .ref (g 14), .int (0 : Int32), .ref (g 15)])), ((g 1), .inl (cI, 4, .inl (fun _ => (0 : Int32)))), ((g 2), .inl (cI, 4, .inl (fun _ => (0 : Int32)))), ((g 3), .inl (cI, 3, .inl (fun _ => (0 : Int32)))), ((g 4), .inl (cI, 21, .inl (fun _ => (0 : Int32)))), ((g 5), .inl (cI, 21, .inl (fun _ => (0 : Int32)))), ((g 6), .inl (cI, 40, .inl (fun _ => (-1 : Int32)))), ((r 0), .inr (4, [.ref tx, .ref (g 0), .ref (r 18), .ref (r 19), .ref (r 20), .int (0 : Int32), .int (0 : Int32), .int (0 : Int32), .ref (r 21), .int (0 : Int32), .int (0 : Int32), .int (0 : Int32)])), ((r 18), .inl (cI, 701, .inl (fun _ => (0 : Int32)))), ((r 19), .inl (cI, 701, .inl (fun _ => (0 : Int32)))), ((r 20), .inl (cI, 701, .inl (fun _ => (0 : Int32))))] H locs := X
  refine W.widen (k := 0) (n := 0) (Nat.le_of_ble_eq_true rfl) (Nat.le_of_ble_eq_true rfl) ?_
  refine lv_iconst (v := (0 : Int32)) hx hb dX4_readLaw_38 (by decide) ?_
  refine lv_istore (lv' := [(4, .int (0 : Int32)), (0, .ref (r 0)), (1, .ref tx), (2, .int (0 : Int32)), (3, .ref (g 0))]) hx hb dX4_readLaw_39 hl (by decide) rfl (fun ls hl => ?_)
  refine lv_iload hx hb dX4_readLaw_41 (lv_at hl 0 rfl) ?_
  refine lv_bipush (v := (40 : Int32)) hx hb dX4_readLaw_43 (by decide) ?_
  refine lv_icmp_gt (tgt := 121) hx hb dX4_readLaw_45 (by decide) (fun c0 => absurd c0 (by decide)) (fun _ => ?_)
  refine lv_aload_n hx hb dX4_readLaw_48 rfl (lv_at hl 1 rfl) ?_
  refine x_get (own := RX4) (T := TX4) C X 9 rfl rfl 2 (by decide) k_4_16 rfl rfl (v := .ref (r 18)) rfl dX4_readLaw_49 ?_
  refine lv_aload_n hx hb dX4_readLaw_52 rfl (lv_at hl 1 rfl) ?_
  refine x_get (own := RX4) (T := TX4) C X 9 rfl rfl 5 (by decide) k_4_19 rfl rfl (v := .int (0 : Int32)) rfl dX4_readLaw_53 ?_
  refine x_iald C X 10 0 rfl rfl (j := 0) rfl (vp_in_nI (n := 0) (by omega) (by omega)) (v := (0 : Int32)) (rfl) dX4_readLaw_56 ?_
  refine lv_if_ne (tgt := 69) hx hb dX4_readLaw_57 (by decide) (fun c0 => absurd (by decide) c0) (fun _ => ?_)
  refine lv_aload_n hx hb dX4_readLaw_60 rfl (lv_at hl 1 rfl) ?_
  refine x_get (own := RX4) (T := TX4) C X 9 rfl rfl 1 (by decide) k_4_15 rfl rfl (v := .ref (g 0)) rfl dX4_readLaw_61 ?_
  refine x_cVv (own := RX4) (wr := [(tx, .inl (cB, 700, .inl (fun _ => (0 : Int32)))), ((g 1), .inl (cI, 4, .inl (fun _ => (0 : Int32)))), ((g 2), .inl (cI, 4, .inl (fun _ => (0 : Int32)))), ((g 3), .inl (cI, 3, .inl (fun _ => (0 : Int32)))), ((g 4), .inl (cI, 21, .inl (fun _ => (0 : Int32)))), ((g 5), .inl (cI, 21, .inl (fun _ => (0 : Int32)))), ((r 0), .inr (4, [.ref tx, .ref (g 0), .ref (r 18), .ref (r 19), .ref (r 20), .int (0 : Int32), .int (0 : Int32), .int (0 : Int32), .ref (r 21), .int (0 : Int32), .int (0 : Int32), .int (0 : Int32)])), ((r 18), .inl (cI, 701, .inl (fun _ => (0 : Int32)))), ((r 19), .inl (cI, 701, .inl (fun _ => (0 : Int32)))), ((r 20), .inl (cI, 701, .inl (fun _ => (0 : Int32))))]) (As := []) C X hl.1 (c_Lspread l D cI cJ cZ cB cO g) [2, 8, 1] [0, 3, 4, 5, 6, 7, 9, 10, 11, 12] ⟨rfl, rfl, by decide, by decide, by decide⟩ (qb := 0) rfl rfl k_19_13 k_19_14 k_19_15 k_2_3 k_19_16 (n := 0) (by decide +kernel) ⟨Nat.le_of_ble_eq_true rfl, Nat.le_of_ble_eq_true rfl⟩ rfl rfl (Nat.le_of_ble_eq_true rfl) dX4_readLaw_64 ⟨Nat.le_of_ble_eq_true rfl, Nat.le_of_ble_eq_true rfl⟩ (fun u_7 H locs w_9 X => ?_)
  have X : Wd D A s [(tx, .inl (cB, 700, .inl (fun _ => (0 : Int32)))), ((g 1), .inl (cI, 4, .inl (fun _ => (0 : Int32)))), ((g 2), .inl (cI, 4, .inl (fun _ => (0 : Int32)))), ((g 3), .inl (cI, 3, .inl (fun _ => (0 : Int32)))), ((g 4), .inl (cI, 21, .inl (fun _ => (0 : Int32)))), ((g 5), .inl (cI, 21, .inl (fun _ => (0 : Int32)))), ((r 0), .inr (4, [.ref tx, .ref (g 0), .ref (r 18), .ref (r 19), .ref (r 20), .int (0 : Int32), .int (0 : Int32), .int (0 : Int32), .ref (r 21), .int (0 : Int32), .int (0 : Int32), .int (0 : Int32)])), ((r 18), .inl (cI, 701, .inl (fun _ => (0 : Int32)))), ((r 19), .inl (cI, 701, .inl (fun _ => (0 : Int32)))), ((r 20), .inl (cI, 701, .inl (fun _ => (0 : Int32)))), ((g 0), .inr (3, [.int (0 : Int32), .ref (g 1), .ref (g 2), .ref (g 3), .ref (g 4), .ref (g 5), .ref (g 6), .ref (g 7), .int (0 : Int32), .ref (g 8), .ref (g 9), .ref (g 10), .int (0 : Int32), .ref (g 11), .ref (g 12), .ref (g 13), .ref (g 14), .int (0 : Int32), .ref (g 15)])), ((g 6), .inl (cI, 40, .inl (fun _ => (-1 : Int32)))), ((g 7), .inl (cI, 41, .inl (fun _ => (1 : Int32))))] H locs := X
  refine W.widen (k := 0) (n := 0) (Nat.le_of_ble_eq_true rfl) (Nat.le_of_ble_eq_true rfl) ?_
  refine lv_iconst (v := (-1 : Int32)) hx hb dX4_readLaw_67 (by decide) ?_
  exact x_iret C X hr hlk (v := (-1 : Int32)) (by first | rfl | decide) (()) [10] (by decide) rfl (⟨rfl, trivial⟩) (Nat.le_of_ble_eq_true rfl) (Nat.le_of_ble_eq_true rfl) dX4_readLaw_68
set_option maxHeartbeats 4000000 in
set_option maxRecDepth 100000 in
theorem cx_law (l : Launch) (D : va_G) (cI cJ cZ cB : ClassId) (cO : ClassId) (x : Nat → Nat) (p1 : Int32) :
    CI l D [(cI, .int), (cJ, .long), (cZ, .boolean), (cB, .byte), (cO, .object "LuckLinks$World")] yX11_law cX11_law 3 (some .int) ({ frames := 3, cells := 0, slots := 0, locals := 67 } : Room) [.ref (x 0), .int p1] [((x 0), .inr (11, [.ref (x 1), .ref (x 10), .int (0 : Int32), .ref (x 11), .int (0 : Int32), .ref (x 12), .ref (x 34), .ref (x 50), .int (-1 : Int32), .ref (x 66), .ref (x 67), .ref (x 68), .ref (x 76), .ref (x 81), .ref (x 84), .ref (x 89), .ref (x 97)])), ((x 12), .inr (4, [.ref (x 13), .ref (x 14), .ref (x 30), .ref (x 31), .ref (x 32), .int (0 : Int32), .int (0 : Int32), .int (0 : Int32), .ref (x 33), .int (0 : Int32), .int (0 : Int32), .int (0 : Int32)])), ((x 30), .inl (cI, 701, .inl (fun _ => (0 : Int32)))), ((x 31), .inl (cI, 701, .inl (fun _ => (0 : Int32)))), ((x 32), .inl (cI, 701, .inl (fun _ => (0 : Int32)))), ((x 11), .inl (cB, 700, .inl (fun _ => (0 : Int32)))), ((x 50), .inr (3, [.int (0 : Int32), .ref (x 51), .ref (x 52), .ref (x 53), .ref (x 54), .ref (x 55), .ref (x 56), .ref (x 57), .int (0 : Int32), .ref (x 58), .ref (x 59), .ref (x 60), .int (0 : Int32), .ref (x 61), .ref (x 62), .ref (x 63), .ref (x 64), .int (0 : Int32), .ref (x 65)])), ((x 51), .inl (cI, 4, .inl (fun _ => (0 : Int32)))), ((x 52), .inl (cI, 4, .inl (fun _ => (0 : Int32)))), ((x 53), .inl (cI, 3, .inl (fun _ => (0 : Int32)))), ((x 54), .inl (cI, 21, .inl (fun _ => (0 : Int32)))), ((x 55), .inl (cI, 21, .inl (fun _ => (0 : Int32)))), ((x 56), .inl (cI, 40, .inl (fun _ => (-1 : Int32)))), ((x 57), .inl (cI, 41, .inl (fun _ => (1 : Int32)))), ((x 34), .inr (3, [.int (0 : Int32), .ref (x 35), .ref (x 36), .ref (x 37), .ref (x 38), .ref (x 39), .ref (x 40), .ref (x 41), .int (0 : Int32), .ref (x 42), .ref (x 43), .ref (x 44), .int (0 : Int32), .ref (x 45), .ref (x 46), .ref (x 47), .ref (x 48), .int (0 : Int32), .ref (x 49)])), ((x 66), .inl (cI, 3, .inl (fun _ => (0 : Int32))))] (fun (r : Int32) (u : Unit) => (r = (0 : Int32) ∧ p1.toInt = 0) ∨ (r = (-2 : Int32) ∧ p1.toInt ≠ 0)) (fun (_ : Unit) => []) := by
  intro sz
  refine body_of (y := yX11_law) (cc := cX11_law) (maxL := 3) (ret := (some .int)) (rm := ({ frames := 3, cells := 0, slots := 0, locals := 67 } : Room)) (wc := [((x 0), .inr (11, [.ref (x 1), .ref (x 10), .int (0 : Int32), .ref (x 11), .int (0 : Int32), .ref (x 12), .ref (x 34), .ref (x 50), .int (-1 : Int32), .ref (x 66), .ref (x 67), .ref (x 68), .ref (x 76), .ref (x 81), .ref (x 84), .ref (x 89), .ref (x 97)])), ((x 12), .inr (4, [.ref (x 13), .ref (x 14), .ref (x 30), .ref (x 31), .ref (x 32), .int (0 : Int32), .int (0 : Int32), .int (0 : Int32), .ref (x 33), .int (0 : Int32), .int (0 : Int32), .int (0 : Int32)])), ((x 30), .inl (cI, 701, .inl (fun _ => (0 : Int32)))), ((x 31), .inl (cI, 701, .inl (fun _ => (0 : Int32)))), ((x 32), .inl (cI, 701, .inl (fun _ => (0 : Int32)))), ((x 11), .inl (cB, 700, .inl (fun _ => (0 : Int32)))), ((x 50), .inr (3, [.int (0 : Int32), .ref (x 51), .ref (x 52), .ref (x 53), .ref (x 54), .ref (x 55), .ref (x 56), .ref (x 57), .int (0 : Int32), .ref (x 58), .ref (x 59), .ref (x 60), .int (0 : Int32), .ref (x 61), .ref (x 62), .ref (x 63), .ref (x 64), .int (0 : Int32), .ref (x 65)])), ((x 51), .inl (cI, 4, .inl (fun _ => (0 : Int32)))), ((x 52), .inl (cI, 4, .inl (fun _ => (0 : Int32)))), ((x 53), .inl (cI, 3, .inl (fun _ => (0 : Int32)))), ((x 54), .inl (cI, 21, .inl (fun _ => (0 : Int32)))), ((x 55), .inl (cI, 21, .inl (fun _ => (0 : Int32)))), ((x 56), .inl (cI, 40, .inl (fun _ => (-1 : Int32)))), ((x 57), .inl (cI, 41, .inl (fun _ => (1 : Int32)))), ((x 34), .inr (3, [.int (0 : Int32), .ref (x 35), .ref (x 36), .ref (x 37), .ref (x 38), .ref (x 39), .ref (x 40), .ref (x 41), .int (0 : Int32), .ref (x 42), .ref (x 43), .ref (x 44), .int (0 : Int32), .ref (x 45), .ref (x 46), .ref (x 47), .ref (x 48), .int (0 : Int32), .ref (x 49)])), ((x 66), .inl (cI, 3, .inl (fun _ => (0 : Int32))))]) (tys := [(cI, .int), (cJ, .long), (cZ, .boolean), (cB, .byte), (cO, .object "LuckLinks$World")]) (D := D) (sz := sz) (own := RX11) (av := [.ref (x 0), .int p1]) (Qc := fun A => va_Qi (fun (r : Int32) (u : Unit) => (r = (0 : Int32) ∧ p1.toInt = 0) ∨ (r = (-2 : Int32) ∧ p1.toInt ≠ 0)) (fun u t => Aft D A ((fun (_ : Unit) => []) u) t) A) (by decide) rfl (Nat.le_of_ble_eq_true rfl) (fun p e s m below meth c A ls C hr hlk hin X hl => ?_)
  have hx := C.1
  have hb := C.2.1
  have hown := C.2.2.2.1
  have hts := C.2.2.2.2.1
  have hl : lv_has ls 3 [(0, .ref (x 0)), (1, .int p1)] := hl
  show W p l e _ s m _ below meth c s.heap [] 0 0 (MQ below (va_Qi (fun (r : Int32) (u : Unit) => (r = (0 : Int32) ∧ p1.toInt = 0) ∨ (r = (-2 : Int32) ∧ p1.toInt ≠ 0)) (fun u t => Aft D A ((fun (_ : Unit) => []) u) t) A) ([.ref (x 0), .int p1] : List Value).toArray s 0 0 A) (F0 m 0 ls [])
  have X : Wd D A s [((x 0), .inr (11, [.ref (x 1), .ref (x 10), .int (0 : Int32), .ref (x 11), .int (0 : Int32), .ref (x 12), .ref (x 34), .ref (x 50), .int (-1 : Int32), .ref (x 66), .ref (x 67), .ref (x 68), .ref (x 76), .ref (x 81), .ref (x 84), .ref (x 89), .ref (x 97)])), ((x 12), .inr (4, [.ref (x 13), .ref (x 14), .ref (x 30), .ref (x 31), .ref (x 32), .int (0 : Int32), .int (0 : Int32), .int (0 : Int32), .ref (x 33), .int (0 : Int32), .int (0 : Int32), .int (0 : Int32)])), ((x 30), .inl (cI, 701, .inl (fun _ => (0 : Int32)))), ((x 31), .inl (cI, 701, .inl (fun _ => (0 : Int32)))), ((x 32), .inl (cI, 701, .inl (fun _ => (0 : Int32)))), ((x 11), .inl (cB, 700, .inl (fun _ => (0 : Int32)))), ((x 50), .inr (3, [.int (0 : Int32), .ref (x 51), .ref (x 52), .ref (x 53), .ref (x 54), .ref (x 55), .ref (x 56), .ref (x 57), .int (0 : Int32), .ref (x 58), .ref (x 59), .ref (x 60), .int (0 : Int32), .ref (x 61), .ref (x 62), .ref (x 63), .ref (x 64), .int (0 : Int32), .ref (x 65)])), ((x 51), .inl (cI, 4, .inl (fun _ => (0 : Int32)))), ((x 52), .inl (cI, 4, .inl (fun _ => (0 : Int32)))), ((x 53), .inl (cI, 3, .inl (fun _ => (0 : Int32)))), ((x 54), .inl (cI, 21, .inl (fun _ => (0 : Int32)))), ((x 55), .inl (cI, 21, .inl (fun _ => (0 : Int32)))), ((x 56), .inl (cI, 40, .inl (fun _ => (-1 : Int32)))), ((x 57), .inl (cI, 41, .inl (fun _ => (1 : Int32)))), ((x 34), .inr (3, [.int (0 : Int32), .ref (x 35), .ref (x 36), .ref (x 37), .ref (x 38), .ref (x 39), .ref (x 40), .ref (x 41), .int (0 : Int32), .ref (x 42), .ref (x 43), .ref (x 44), .int (0 : Int32), .ref (x 45), .ref (x 46), .ref (x 47), .ref (x 48), .int (0 : Int32), .ref (x 49)])), ((x 66), .inl (cI, 3, .inl (fun _ => (0 : Int32))))] s.heap [] := X
  obtain ⟨H, locs, eH, eL⟩ : ∃ H locs, H = s.heap ∧ locs = ([] : List Loc) := ⟨_, _, rfl, rfl⟩
  rw [← eH, ← eL] at X ⊢
  clear eH eL
  refine lv_iload_n hx hb dX11_law_0 rfl (lv_at hl 1 rfl) ?_
  refine lv_if_lt (tgt := 12) hx hb dX11_law_1 (by decide) (fun c_1 => ?_) (fun c_1 => ?_)
  · have fc_1 : (p1).toInt < (0 : Int) := i_lt c_1
    refine lv_aload_n hx hb dX11_law_12 rfl (lv_at hl 0 rfl) ?_
    refine lv_iconst (v := (0 : Int32)) hx hb dX11_law_13 (by decide) ?_
    refine x_cV (own := RX11) (wr := [((x 12), .inr (4, [.ref (x 13), .ref (x 14), .ref (x 30), .ref (x 31), .ref (x 32), .int (0 : Int32), .int (0 : Int32), .int (0 : Int32), .ref (x 33), .int (0 : Int32), .int (0 : Int32), .int (0 : Int32)])), ((x 30), .inl (cI, 701, .inl (fun _ => (0 : Int32)))), ((x 31), .inl (cI, 701, .inl (fun _ => (0 : Int32)))), ((x 32), .inl (cI, 701, .inl (fun _ => (0 : Int32)))), ((x 11), .inl (cB, 700, .inl (fun _ => (0 : Int32)))), ((x 50), .inr (3, [.int (0 : Int32), .ref (x 51), .ref (x 52), .ref (x 53), .ref (x 54), .ref (x 55), .ref (x 56), .ref (x 57), .int (0 : Int32), .ref (x 58), .ref (x 59), .ref (x 60), .int (0 : Int32), .ref (x 61), .ref (x 62), .ref (x 63), .ref (x 64), .int (0 : Int32), .ref (x 65)])), ((x 51), .inl (cI, 4, .inl (fun _ => (0 : Int32)))), ((x 52), .inl (cI, 4, .inl (fun _ => (0 : Int32)))), ((x 53), .inl (cI, 3, .inl (fun _ => (0 : Int32)))), ((x 54), .inl (cI, 21, .inl (fun _ => (0 : Int32)))), ((x 55), .inl (cI, 21, .inl (fun _ => (0 : Int32)))), ((x 56), .inl (cI, 40, .inl (fun _ => (-1 : Int32)))), ((x 57), .inl (cI, 41, .inl (fun _ => (1 : Int32)))), ((x 34), .inr (3, [.int (0 : Int32), .ref (x 35), .ref (x 36), .ref (x 37), .ref (x 38), .ref (x 39), .ref (x 40), .ref (x 41), .int (0 : Int32), .ref (x 42), .ref (x 43), .ref (x 44), .int (0 : Int32), .ref (x 45), .ref (x 46), .ref (x 47), .ref (x 48), .int (0 : Int32), .ref (x 49)]))]) (As := [.int (0 : Int32)]) C X hl.1 (c_refuse l D cI cJ cZ cB cO x) [0, 15] [1, 2, 3, 4, 5, 6, 7, 8, 9, 10, 11, 12, 13, 14] ⟨rfl, rfl, by decide, by decide, by decide⟩ (qb := 0) rfl rfl k_12_8 k_12_9 k_12_10 k_1_2 k_12_11 (n := 1) (by decide +kernel) ⟨Nat.le_of_ble_eq_true rfl, Nat.le_of_ble_eq_true rfl⟩ rfl rfl (Nat.le_of_ble_eq_true rfl) dX11_law_14 ⟨Nat.le_of_ble_eq_true rfl, Nat.le_of_ble_eq_true rfl⟩ (fun r_3 u_2 H locs w_4 X => ?_)
    have X : Wd D A s [((x 12), .inr (4, [.ref (x 13), .ref (x 14), .ref (x 30), .ref (x 31), .ref (x 32), .int (0 : Int32), .int (0 : Int32), .int (0 : Int32), .ref (x 33), .int (0 : Int32), .int (0 : Int32), .int (0 : Int32)])), ((x 30), .inl (cI, 701, .inl (fun _ => (0 : Int32)))), ((x 31), .inl (cI, 701, .inl (fun _ => (0 : Int32)))), ((x 32), .inl (cI, 701, .inl (fun _ => (0 : Int32)))), ((x 11), .inl (cB, 700, .inl (fun _ => (0 : Int32)))), ((x 50), .inr (3, [.int (0 : Int32), .ref (x 51), .ref (x 52), .ref (x 53), .ref (x 54), .ref (x 55), .ref (x 56), .ref (x 57), .int (0 : Int32), .ref (x 58), .ref (x 59), .ref (x 60), .int (0 : Int32), .ref (x 61), .ref (x 62), .ref (x 63), .ref (x 64), .int (0 : Int32), .ref (x 65)])), ((x 51), .inl (cI, 4, .inl (fun _ => (0 : Int32)))), ((x 52), .inl (cI, 4, .inl (fun _ => (0 : Int32)))), ((x 53), .inl (cI, 3, .inl (fun _ => (0 : Int32)))), ((x 54), .inl (cI, 21, .inl (fun _ => (0 : Int32)))), ((x 55), .inl (cI, 21, .inl (fun _ => (0 : Int32)))), ((x 56), .inl (cI, 40, .inl (fun _ => (-1 : Int32)))), ((x 57), .inl (cI, 41, .inl (fun _ => (1 : Int32)))), ((x 34), .inr (3, [.int (0 : Int32), .ref (x 35), .ref (x 36), .ref (x 37), .ref (x 38), .ref (x 39), .ref (x 40), .ref (x 41), .int (0 : Int32), .ref (x 42), .ref (x 43), .ref (x 44), .int (0 : Int32), .ref (x 45), .ref (x 46), .ref (x 47), .ref (x 48), .int (0 : Int32), .ref (x 49)]))] H locs := X
    refine W.widen (k := 0) (n := 0) (Nat.le_of_ble_eq_true rfl) (Nat.le_of_ble_eq_true rfl) ?_
    obtain ⟨rfl, fw_4⟩ : r_3 = (-1 : Int32) ∧ True := w_4
    refine lv_pop hx hb dX11_law_17 rfl ?_
    refine lv_bipush (v := (-2 : Int32)) hx hb dX11_law_18 (by decide) ?_
    exact x_iret C X hr hlk (v := (-2 : Int32)) (by first | rfl | decide) (()) [] (by decide) rfl (Or.inr (⟨rfl, by omega⟩)) (Nat.le_of_ble_eq_true rfl) (Nat.le_of_ble_eq_true rfl) dX11_law_20
  · have fc_1 : (0 : Int) ≤ (p1).toInt := i_nlt c_1
    refine lv_iload_n hx hb dX11_law_4 rfl (lv_at hl 1 rfl) ?_
    refine lv_aload_n hx hb dX11_law_5 rfl (lv_at hl 0 rfl) ?_
    refine x_get (own := RX11) (T := TX11) C X 0 rfl rfl 4 (by decide) k_1_20 rfl rfl (v := .int (0 : Int32)) rfl dX11_law_6 ?_
    refine lv_icmp_le (tgt := 21) hx hb dX11_law_9 (by decide) (fun c_5 => ?_) (fun c_5 => ?_)
    · have fc_5 : (p1).toInt ≤ (0 : Int) := i_le c_5
      have hq1 : p1 = (0 : Int32) := Int32.toInt_inj.mp (by show p1.toInt = 0; omega)
      rw [hq1] at hl
      have hl : lv_has ls 3 [(0, .ref (x 0)), (1, .int (0 : Int32))] := hl
      refine lv_aload_n hx hb dX11_law_21 rfl (lv_at hl 0 rfl) ?_
      refine lv_aload_n hx hb dX11_law_22 rfl (lv_at hl 0 rfl) ?_
      refine x_get (own := RX11) (T := TX11) C X 0 rfl rfl 5 (by decide) k_2_0 rfl rfl (v := .ref (x 12)) rfl dX11_law_23 ?_
      refine lv_aload_n hx hb dX11_law_26 rfl (lv_at hl 0 rfl) ?_
      refine x_get (own := RX11) (T := TX11) C X 0 rfl rfl 3 (by decide) k_1_19 rfl rfl (v := .ref (x 11)) rfl dX11_law_27 ?_
      refine lv_iload_n hx hb dX11_law_30 rfl (lv_at hl 1 rfl) ?_
      refine lv_aload_n hx hb dX11_law_31 rfl (lv_at hl 0 rfl) ?_
      refine x_get (own := RX11) (T := TX11) C X 0 rfl rfl 7 (by decide) k_2_5 rfl rfl (v := .ref (x 50)) rfl dX11_law_32 ?_
      refine x_cV (own := RX11) (wr := [((x 0), .inr (11, [.ref (x 1), .ref (x 10), .int (0 : Int32), .ref (x 11), .int (0 : Int32), .ref (x 12), .ref (x 34), .ref (x 50), .int (-1 : Int32), .ref (x 66), .ref (x 67), .ref (x 68), .ref (x 76), .ref (x 81), .ref (x 84), .ref (x 89), .ref (x 97)])), ((x 34), .inr (3, [.int (0 : Int32), .ref (x 35), .ref (x 36), .ref (x 37), .ref (x 38), .ref (x 39), .ref (x 40), .ref (x 41), .int (0 : Int32), .ref (x 42), .ref (x 43), .ref (x 44), .int (0 : Int32), .ref (x 45), .ref (x 46), .ref (x 47), .ref (x 48), .int (0 : Int32), .ref (x 49)])), ((x 66), .inl (cI, 3, .inl (fun _ => (0 : Int32))))]) (As := [.ref (x 11), .int (0 : Int32), .ref (x 50)]) C X hl.1 (c_readLaw l D cI cJ cZ cB cO (fun k => x (k + 12)) (fun k => x (k + 50)) (x 11)) [1, 2, 3, 4, 5, 6, 7, 8, 9, 10, 11, 12, 13] [0, 14, 15] ⟨rfl, rfl, by decide, by decide, by decide⟩ (qb := 0) rfl rfl k_18_17 k_18_18 k_18_19 k_1_23 k_18_20 (n := 3) (by decide +kernel) ⟨Nat.le_of_ble_eq_true rfl, Nat.le_of_ble_eq_true rfl⟩ rfl rfl (Nat.le_of_ble_eq_true rfl) dX11_law_35 ⟨Nat.le_of_ble_eq_true rfl, Nat.le_of_ble_eq_true rfl⟩ (fun r_7 u_6 H locs w_8 X => ?_)
      have X : Wd D A s [((x 0), .inr (11, [.ref (x 1), .ref (x 10), .int (0 : Int32), .ref (x 11), .int (0 : Int32), .ref (x 12), .ref (x 34), .ref (x 50), .int (-1 : Int32), .ref (x 66), .ref (x 67), .ref (x 68), .ref (x 76), .ref (x 81), .ref (x 84), .ref (x 89), .ref (x 97)])), ((x 34), .inr (3, [.int (0 : Int32), .ref (x 35), .ref (x 36), .ref (x 37), .ref (x 38), .ref (x 39), .ref (x 40), .ref (x 41), .int (0 : Int32), .ref (x 42), .ref (x 43), .ref (x 44), .int (0 : Int32), .ref (x 45), .ref (x 46), .ref (x 47), .ref (x 48), .int (0 : Int32), .ref (x 49)])), ((x 66), .inl (cI, 3, .inl (fun _ => (0 : Int32)))), ((x 50), .inr (3, [.int (0 : Int32), .ref (x 51), .ref (x 52), .ref (x 53), .ref (x 54), .ref (x 55), .ref (x 56), .ref (x 57), .int (0 : Int32), .ref (x 58), .ref (x 59), .ref (x 60), .int (0 : Int32), .ref (x 61), .ref (x 62), .ref (x 63), .ref (x 64), .int (0 : Int32), .ref (x 65)]))] H locs := X
      refine W.widen (k := 0) (n := 0) (Nat.le_of_ble_eq_true rfl) (Nat.le_of_ble_eq_true rfl) ?_
      obtain ⟨rfl, fw_8⟩ : r_7 = (-1 : Int32) ∧ True := w_8
      refine x_put (own := RX11) (T := TX11) C X 0 rfl rfl 8 (by decide) k_2_6 rfl rfl rfl (ty := .int) (v := .int (-1 : Int32)) (by decide +kernel) rfl rfl (Nat.le_of_ble_eq_true rfl) dX11_law_38 (fun H locs X => ?_)
      have X : Wd D A s [((x 0), .inr (11, [.ref (x 1), .ref (x 10), .int (0 : Int32), .ref (x 11), .int (0 : Int32), .ref (x 12), .ref (x 34), .ref (x 50), .int (-1 : Int32), .ref (x 66), .ref (x 67), .ref (x 68), .ref (x 76), .ref (x 81), .ref (x 84), .ref (x 89), .ref (x 97)])), ((x 34), .inr (3, [.int (0 : Int32), .ref (x 35), .ref (x 36), .ref (x 37), .ref (x 38), .ref (x 39), .ref (x 40), .ref (x 41), .int (0 : Int32), .ref (x 42), .ref (x 43), .ref (x 44), .int (0 : Int32), .ref (x 45), .ref (x 46), .ref (x 47), .ref (x 48), .int (0 : Int32), .ref (x 49)])), ((x 66), .inl (cI, 3, .inl (fun _ => (0 : Int32)))), ((x 50), .inr (3, [.int (0 : Int32), .ref (x 51), .ref (x 52), .ref (x 53), .ref (x 54), .ref (x 55), .ref (x 56), .ref (x 57), .int (0 : Int32), .ref (x 58), .ref (x 59), .ref (x 60), .int (0 : Int32), .ref (x 61), .ref (x 62), .ref (x 63), .ref (x 64), .int (0 : Int32), .ref (x 65)]))] H locs := X
      refine lv_aload_n hx hb dX11_law_41 rfl (lv_at hl 0 rfl) ?_
      refine lv_iconst (v := (0 : Int32)) hx hb dX11_law_42 (by decide) ?_
      refine x_put (own := RX11) (T := TX11) C X 0 rfl rfl 4 (by decide) k_1_20 rfl rfl rfl (ty := .int) (v := .int (0 : Int32)) (by decide +kernel) rfl rfl (Nat.le_of_ble_eq_true rfl) dX11_law_43 (fun H locs X => ?_)
      have X : Wd D A s [((x 0), .inr (11, [.ref (x 1), .ref (x 10), .int (0 : Int32), .ref (x 11), .int (0 : Int32), .ref (x 12), .ref (x 34), .ref (x 50), .int (-1 : Int32), .ref (x 66), .ref (x 67), .ref (x 68), .ref (x 76), .ref (x 81), .ref (x 84), .ref (x 89), .ref (x 97)])), ((x 34), .inr (3, [.int (0 : Int32), .ref (x 35), .ref (x 36), .ref (x 37), .ref (x 38), .ref (x 39), .ref (x 40), .ref (x 41), .int (0 : Int32), .ref (x 42), .ref (x 43), .ref (x 44), .int (0 : Int32), .ref (x 45), .ref (x 46), .ref (x 47), .ref (x 48), .int (0 : Int32), .ref (x 49)])), ((x 66), .inl (cI, 3, .inl (fun _ => (0 : Int32)))), ((x 50), .inr (3, [.int (0 : Int32), .ref (x 51), .ref (x 52), .ref (x 53), .ref (x 54), .ref (x 55), .ref (x 56), .ref (x 57), .int (0 : Int32), .ref (x 58), .ref (x 59), .ref (x 60), .int (0 : Int32), .ref (x 61), .ref (x 62), .ref (x 63), .ref (x 64), .int (0 : Int32), .ref (x 65)]))] H locs := X
      refine lv_aload_n hx hb dX11_law_46 rfl (lv_at hl 0 rfl) ?_
      refine x_get (own := RX11) (T := TX11) C X 0 rfl rfl 8 (by decide) k_2_6 rfl rfl (v := .int (-1 : Int32)) rfl dX11_law_47 ?_
      refine lv_iconst (v := (-1 : Int32)) hx hb dX11_law_50 (by decide) ?_
      refine lv_icmp_eq (tgt := 60) hx hb dX11_law_51 (by decide) (fun _ => ?_) (fun c0 => absurd (by decide) c0)
      refine lv_aload_n hx hb dX11_law_60 rfl (lv_at hl 0 rfl) ?_
      refine x_get (own := RX11) (T := TX11) C X 0 rfl rfl 7 (by decide) k_2_5 rfl rfl (v := .ref (x 50)) rfl dX11_law_61 ?_
      refine lv_astore_n (lv' := [(2, .ref (x 50)), (0, .ref (x 0)), (1, .int (0 : Int32))]) hx hb dX11_law_64 rfl hl (by decide) rfl (fun ls hl => ?_)
      refine lv_aload_n hx hb dX11_law_65 rfl (lv_at hl 1 rfl) ?_
      refine lv_aload_n hx hb dX11_law_66 rfl (lv_at hl 1 rfl) ?_
      refine x_get (own := RX11) (T := TX11) C X 0 rfl rfl 6 (by decide) k_2_4 rfl rfl (v := .ref (x 34)) rfl dX11_law_67 ?_
      refine x_put (own := RX11) (T := TX11) C X 0 rfl rfl 7 (by decide) k_2_5 rfl rfl rfl (ty := (tyX11 7)) (v := .ref (x 34)) (by decide +kernel) rfl rfl (Nat.le_of_ble_eq_true rfl) dX11_law_70 (fun H locs X => ?_)
      have X : Wd D A s [((x 0), .inr (11, [.ref (x 1), .ref (x 10), .int (0 : Int32), .ref (x 11), .int (0 : Int32), .ref (x 12), .ref (x 34), .ref (x 34), .int (-1 : Int32), .ref (x 66), .ref (x 67), .ref (x 68), .ref (x 76), .ref (x 81), .ref (x 84), .ref (x 89), .ref (x 97)])), ((x 34), .inr (3, [.int (0 : Int32), .ref (x 35), .ref (x 36), .ref (x 37), .ref (x 38), .ref (x 39), .ref (x 40), .ref (x 41), .int (0 : Int32), .ref (x 42), .ref (x 43), .ref (x 44), .int (0 : Int32), .ref (x 45), .ref (x 46), .ref (x 47), .ref (x 48), .int (0 : Int32), .ref (x 49)])), ((x 66), .inl (cI, 3, .inl (fun _ => (0 : Int32)))), ((x 50), .inr (3, [.int (0 : Int32), .ref (x 51), .ref (x 52), .ref (x 53), .ref (x 54), .ref (x 55), .ref (x 56), .ref (x 57), .int (0 : Int32), .ref (x 58), .ref (x 59), .ref (x 60), .int (0 : Int32), .ref (x 61), .ref (x 62), .ref (x 63), .ref (x 64), .int (0 : Int32), .ref (x 65)]))] H locs := X
      refine lv_aload_n hx hb dX11_law_73 rfl (lv_at hl 1 rfl) ?_
      refine lv_aload_n hx hb dX11_law_74 rfl (lv_at hl 0 rfl) ?_
      refine x_put (own := RX11) (T := TX11) C X 0 rfl rfl 6 (by decide) k_2_4 rfl rfl rfl (ty := (tyX11 6)) (v := .ref (x 50)) (by decide +kernel) rfl rfl (Nat.le_of_ble_eq_true rfl) dX11_law_75 (fun H locs X => ?_)
      have X : Wd D A s [((x 0), .inr (11, [.ref (x 1), .ref (x 10), .int (0 : Int32), .ref (x 11), .int (0 : Int32), .ref (x 12), .ref (x 50), .ref (x 34), .int (-1 : Int32), .ref (x 66), .ref (x 67), .ref (x 68), .ref (x 76), .ref (x 81), .ref (x 84), .ref (x 89), .ref (x 97)])), ((x 34), .inr (3, [.int (0 : Int32), .ref (x 35), .ref (x 36), .ref (x 37), .ref (x 38), .ref (x 39), .ref (x 40), .ref (x 41), .int (0 : Int32), .ref (x 42), .ref (x 43), .ref (x 44), .int (0 : Int32), .ref (x 45), .ref (x 46), .ref (x 47), .ref (x 48), .int (0 : Int32), .ref (x 49)])), ((x 66), .inl (cI, 3, .inl (fun _ => (0 : Int32)))), ((x 50), .inr (3, [.int (0 : Int32), .ref (x 51), .ref (x 52), .ref (x 53), .ref (x 54), .ref (x 55), .ref (x 56), .ref (x 57), .int (0 : Int32), .ref (x 58), .ref (x 59), .ref (x 60), .int (0 : Int32), .ref (x 61), .ref (x 62), .ref (x 63), .ref (x 64), .int (0 : Int32), .ref (x 65)]))] H locs := X
      refine lv_aload_n hx hb dX11_law_78 rfl (lv_at hl 1 rfl) ?_
      refine x_get (own := RX11) (T := TX11) C X 0 rfl rfl 6 (by decide) k_2_4 rfl rfl (v := .ref (x 50)) rfl dX11_law_79 ?_
      refine x_get (own := RX11) (T := TX3) C X 3 rfl rfl 0 (by decide) k_18_16 rfl rfl (v := .int (0 : Int32)) rfl dX11_law_82 ?_
      exact x_iret C X hr hlk (v := (0 : Int32)) (by first | rfl | decide) (()) [] (by decide) rfl (Or.inl (⟨rfl, by omega⟩)) (Nat.le_of_ble_eq_true rfl) (Nat.le_of_ble_eq_true rfl) dX11_law_85
    · have fc_5 : (0 : Int) < (p1).toInt := i_nle c_5
      refine lv_aload_n hx hb dX11_law_12 rfl (lv_at hl 0 rfl) ?_
      refine lv_iconst (v := (0 : Int32)) hx hb dX11_law_13 (by decide) ?_
      refine x_cV (own := RX11) (wr := [((x 12), .inr (4, [.ref (x 13), .ref (x 14), .ref (x 30), .ref (x 31), .ref (x 32), .int (0 : Int32), .int (0 : Int32), .int (0 : Int32), .ref (x 33), .int (0 : Int32), .int (0 : Int32), .int (0 : Int32)])), ((x 30), .inl (cI, 701, .inl (fun _ => (0 : Int32)))), ((x 31), .inl (cI, 701, .inl (fun _ => (0 : Int32)))), ((x 32), .inl (cI, 701, .inl (fun _ => (0 : Int32)))), ((x 11), .inl (cB, 700, .inl (fun _ => (0 : Int32)))), ((x 50), .inr (3, [.int (0 : Int32), .ref (x 51), .ref (x 52), .ref (x 53), .ref (x 54), .ref (x 55), .ref (x 56), .ref (x 57), .int (0 : Int32), .ref (x 58), .ref (x 59), .ref (x 60), .int (0 : Int32), .ref (x 61), .ref (x 62), .ref (x 63), .ref (x 64), .int (0 : Int32), .ref (x 65)])), ((x 51), .inl (cI, 4, .inl (fun _ => (0 : Int32)))), ((x 52), .inl (cI, 4, .inl (fun _ => (0 : Int32)))), ((x 53), .inl (cI, 3, .inl (fun _ => (0 : Int32)))), ((x 54), .inl (cI, 21, .inl (fun _ => (0 : Int32)))), ((x 55), .inl (cI, 21, .inl (fun _ => (0 : Int32)))), ((x 56), .inl (cI, 40, .inl (fun _ => (-1 : Int32)))), ((x 57), .inl (cI, 41, .inl (fun _ => (1 : Int32)))), ((x 34), .inr (3, [.int (0 : Int32), .ref (x 35), .ref (x 36), .ref (x 37), .ref (x 38), .ref (x 39), .ref (x 40), .ref (x 41), .int (0 : Int32), .ref (x 42), .ref (x 43), .ref (x 44), .int (0 : Int32), .ref (x 45), .ref (x 46), .ref (x 47), .ref (x 48), .int (0 : Int32), .ref (x 49)]))]) (As := [.int (0 : Int32)]) C X hl.1 (c_refuse l D cI cJ cZ cB cO x) [0, 15] [1, 2, 3, 4, 5, 6, 7, 8, 9, 10, 11, 12, 13, 14] ⟨rfl, rfl, by decide, by decide, by decide⟩ (qb := 0) rfl rfl k_12_8 k_12_9 k_12_10 k_1_2 k_12_11 (n := 1) (by decide +kernel) ⟨Nat.le_of_ble_eq_true rfl, Nat.le_of_ble_eq_true rfl⟩ rfl rfl (Nat.le_of_ble_eq_true rfl) dX11_law_14 ⟨Nat.le_of_ble_eq_true rfl, Nat.le_of_ble_eq_true rfl⟩ (fun r_10 u_9 H locs w_11 X => ?_)
      have X : Wd D A s [((x 12), .inr (4, [.ref (x 13), .ref (x 14), .ref (x 30), .ref (x 31), .ref (x 32), .int (0 : Int32), .int (0 : Int32), .int (0 : Int32), .ref (x 33), .int (0 : Int32), .int (0 : Int32), .int (0 : Int32)])), ((x 30), .inl (cI, 701, .inl (fun _ => (0 : Int32)))), ((x 31), .inl (cI, 701, .inl (fun _ => (0 : Int32)))), ((x 32), .inl (cI, 701, .inl (fun _ => (0 : Int32)))), ((x 11), .inl (cB, 700, .inl (fun _ => (0 : Int32)))), ((x 50), .inr (3, [.int (0 : Int32), .ref (x 51), .ref (x 52), .ref (x 53), .ref (x 54), .ref (x 55), .ref (x 56), .ref (x 57), .int (0 : Int32), .ref (x 58), .ref (x 59), .ref (x 60), .int (0 : Int32), .ref (x 61), .ref (x 62), .ref (x 63), .ref (x 64), .int (0 : Int32), .ref (x 65)])), ((x 51), .inl (cI, 4, .inl (fun _ => (0 : Int32)))), ((x 52), .inl (cI, 4, .inl (fun _ => (0 : Int32)))), ((x 53), .inl (cI, 3, .inl (fun _ => (0 : Int32)))), ((x 54), .inl (cI, 21, .inl (fun _ => (0 : Int32)))), ((x 55), .inl (cI, 21, .inl (fun _ => (0 : Int32)))), ((x 56), .inl (cI, 40, .inl (fun _ => (-1 : Int32)))), ((x 57), .inl (cI, 41, .inl (fun _ => (1 : Int32)))), ((x 34), .inr (3, [.int (0 : Int32), .ref (x 35), .ref (x 36), .ref (x 37), .ref (x 38), .ref (x 39), .ref (x 40), .ref (x 41), .int (0 : Int32), .ref (x 42), .ref (x 43), .ref (x 44), .int (0 : Int32), .ref (x 45), .ref (x 46), .ref (x 47), .ref (x 48), .int (0 : Int32), .ref (x 49)]))] H locs := X
      refine W.widen (k := 0) (n := 0) (Nat.le_of_ble_eq_true rfl) (Nat.le_of_ble_eq_true rfl) ?_
      obtain ⟨rfl, fw_11⟩ : r_10 = (-1 : Int32) ∧ True := w_11
      refine lv_pop hx hb dX11_law_17 rfl ?_
      refine lv_bipush (v := (-2 : Int32)) hx hb dX11_law_18 (by decide) ?_
      exact x_iret C X hr hlk (v := (-2 : Int32)) (by first | rfl | decide) (()) [] (by decide) rfl (Or.inr (⟨rfl, by omega⟩)) (Nat.le_of_ble_eq_true rfl) (Nat.le_of_ble_eq_true rfl) dX11_law_20
set_option maxHeartbeats 4000000 in
set_option maxRecDepth 100000 in
theorem c_copyFrom (l : Launch) (D : va_G) (cI cJ cZ cB : ClassId) (cO : ClassId) (w v : Nat → Nat) :
    CV l D [(cI, .int), (cJ, .long), (cZ, .boolean), (cB, .byte), (cO, .object "LuckLinks$World")] yX10_copyFrom cX10_copyFrom 2 ({ frames := 1, cells := 0, slots := 0, locals := 60 } : Room) [.ref (w 0), .ref (v 0)] [((w 0), .inr (10, [.int (0 : Int32), .ref (w 1), .int (0 : Int32), .ref (w 2), .ref (w 3), .int (0 : Int32), .ref (w 4), .ref (w 5), .ref (w 6), .ref (w 7), .ref (w 8), .long (1 : Int64)])), ((w 1), .inl (cI, 80, .inl (fun _ => (0 : Int32)))), ((w 2), .inl (cI, 24, .inl (fun _ => (0 : Int32)))), ((w 3), .inl (cI, 40, .inl (fun _ => (-1 : Int32)))), ((w 4), .inl (cI, 3200, .inl (fun _ => (-1 : Int32)))), ((w 5), .inl (cI, 16000, .inl (fun _ => (0 : Int32)))), ((w 6), .inl (cI, 160, .inl (fun _ => (0 : Int32)))), ((w 7), .inl (cI, 800, .inl (fun _ => (0 : Int32)))), ((w 8), .inl (cI, 800, .inl (fun _ => (0 : Int32)))), ((v 0), .inr (10, [.int (0 : Int32), .ref (v 1), .int (0 : Int32), .ref (v 2), .ref (v 3), .int (0 : Int32), .ref (v 4), .ref (v 5), .ref (v 6), .ref (v 7), .ref (v 8), .long (1 : Int64)])), ((v 1), .inl (cI, 80, .inl (fun _ => (0 : Int32)))), ((v 2), .inl (cI, 24, .inl (fun _ => (0 : Int32)))), ((v 3), .inl (cI, 40, .inl (fun _ => (-1 : Int32)))), ((v 4), .inl (cI, 3200, .inl (fun _ => (-1 : Int32)))), ((v 5), .inl (cI, 16000, .inl (fun _ => (0 : Int32)))), ((v 6), .inl (cI, 160, .inl (fun _ => (0 : Int32)))), ((v 7), .inl (cI, 800, .inl (fun _ => (0 : Int32)))), ((v 8), .inl (cI, 800, .inl (fun _ => (0 : Int32))))] (fun (u : Unit) => (True)) (fun (_ : Unit) => [((w 0), .inr (10, [.int (0 : Int32), .ref (w 1), .int (0 : Int32), .ref (w 2), .ref (w 3), .int (0 : Int32), .ref (w 4), .ref (w 5), .ref (w 6), .ref (w 7), .ref (w 8), .long (1 : Int64)]))]) := by
  intro sz
  refine body_of (y := yX10_copyFrom) (cc := cX10_copyFrom) (maxL := 2) (ret := none) (rm := ({ frames := 1, cells := 0, slots := 0, locals := 60 } : Room)) (wc := [((w 0), .inr (10, [.int (0 : Int32), .ref (w 1), .int (0 : Int32), .ref (w 2), .ref (w 3), .int (0 : Int32), .ref (w 4), .ref (w 5), .ref (w 6), .ref (w 7), .ref (w 8), .long (1 : Int64)])), ((w 1), .inl (cI, 80, .inl (fun _ => (0 : Int32)))), ((w 2), .inl (cI, 24, .inl (fun _ => (0 : Int32)))), ((w 3), .inl (cI, 40, .inl (fun _ => (-1 : Int32)))), ((w 4), .inl (cI, 3200, .inl (fun _ => (-1 : Int32)))), ((w 5), .inl (cI, 16000, .inl (fun _ => (0 : Int32)))), ((w 6), .inl (cI, 160, .inl (fun _ => (0 : Int32)))), ((w 7), .inl (cI, 800, .inl (fun _ => (0 : Int32)))), ((w 8), .inl (cI, 800, .inl (fun _ => (0 : Int32)))), ((v 0), .inr (10, [.int (0 : Int32), .ref (v 1), .int (0 : Int32), .ref (v 2), .ref (v 3), .int (0 : Int32), .ref (v 4), .ref (v 5), .ref (v 6), .ref (v 7), .ref (v 8), .long (1 : Int64)])), ((v 1), .inl (cI, 80, .inl (fun _ => (0 : Int32)))), ((v 2), .inl (cI, 24, .inl (fun _ => (0 : Int32)))), ((v 3), .inl (cI, 40, .inl (fun _ => (-1 : Int32)))), ((v 4), .inl (cI, 3200, .inl (fun _ => (-1 : Int32)))), ((v 5), .inl (cI, 16000, .inl (fun _ => (0 : Int32)))), ((v 6), .inl (cI, 160, .inl (fun _ => (0 : Int32)))), ((v 7), .inl (cI, 800, .inl (fun _ => (0 : Int32)))), ((v 8), .inl (cI, 800, .inl (fun _ => (0 : Int32))))]) (tys := [(cI, .int), (cJ, .long), (cZ, .boolean), (cB, .byte), (cO, .object "LuckLinks$World")]) (D := D) (sz := sz) (own := RX10) (av := [.ref (w 0), .ref (v 0)]) (Qc := fun A => va_Qv (fun (u : Unit) => (True)) (fun u t => Aft D A ((fun (_ : Unit) => [((w 0), .inr (10, [.int (0 : Int32), .ref (w 1), .int (0 : Int32), .ref (w 2), .ref (w 3), .int (0 : Int32), .ref (w 4), .ref (w 5), .ref (w 6), .ref (w 7), .ref (w 8), .long (1 : Int64)]))]) u) t) A) (by decide) rfl (Nat.le_of_ble_eq_true rfl) (fun p e s m below meth c A ls C hr hlk hin X hl => ?_)
  have hx := C.1
  have hb := C.2.1
  have hown := C.2.2.2.1
  have hts := C.2.2.2.2.1
  have hl : lv_has ls 2 [(0, .ref (w 0)), (1, .ref (v 0))] := hl
  show W p l e _ s m _ below meth c s.heap [] 0 0 (MQ below (va_Qv (fun (u : Unit) => (True)) (fun u t => Aft D A ((fun (_ : Unit) => [((w 0), .inr (10, [.int (0 : Int32), .ref (w 1), .int (0 : Int32), .ref (w 2), .ref (w 3), .int (0 : Int32), .ref (w 4), .ref (w 5), .ref (w 6), .ref (w 7), .ref (w 8), .long (1 : Int64)]))]) u) t) A) ([.ref (w 0), .ref (v 0)] : List Value).toArray s 0 0 A) (F0 m 0 ls [])
  have X : Wd D A s [((w 0), .inr (10, [.int (0 : Int32), .ref (w 1), .int (0 : Int32), .ref (w 2), .ref (w 3), .int (0 : Int32), .ref (w 4), .ref (w 5), .ref (w 6), .ref (w 7), .ref (w 8), .long (1 : Int64)])), ((w 1), .inl (cI, 80, .inl (fun _ => (0 : Int32)))), ((w 2), .inl (cI, 24, .inl (fun _ => (0 : Int32)))), ((w 3), .inl (cI, 40, .inl (fun _ => (-1 : Int32)))), ((w 4), .inl (cI, 3200, .inl (fun _ => (-1 : Int32)))), ((w 5), .inl (cI, 16000, .inl (fun _ => (0 : Int32)))), ((w 6), .inl (cI, 160, .inl (fun _ => (0 : Int32)))), ((w 7), .inl (cI, 800, .inl (fun _ => (0 : Int32)))), ((w 8), .inl (cI, 800, .inl (fun _ => (0 : Int32)))), ((v 0), .inr (10, [.int (0 : Int32), .ref (v 1), .int (0 : Int32), .ref (v 2), .ref (v 3), .int (0 : Int32), .ref (v 4), .ref (v 5), .ref (v 6), .ref (v 7), .ref (v 8), .long (1 : Int64)])), ((v 1), .inl (cI, 80, .inl (fun _ => (0 : Int32)))), ((v 2), .inl (cI, 24, .inl (fun _ => (0 : Int32)))), ((v 3), .inl (cI, 40, .inl (fun _ => (-1 : Int32)))), ((v 4), .inl (cI, 3200, .inl (fun _ => (-1 : Int32)))), ((v 5), .inl (cI, 16000, .inl (fun _ => (0 : Int32)))), ((v 6), .inl (cI, 160, .inl (fun _ => (0 : Int32)))), ((v 7), .inl (cI, 800, .inl (fun _ => (0 : Int32)))), ((v 8), .inl (cI, 800, .inl (fun _ => (0 : Int32))))] s.heap [] := X
  obtain ⟨H, locs, eH, eL⟩ : ∃ H locs, H = s.heap ∧ locs = ([] : List Loc) := ⟨_, _, rfl, rfl⟩
  rw [← eH, ← eL] at X ⊢
  clear eH eL
  refine lv_aload_n hx hb dX10_copyFrom_0 rfl (lv_at hl 0 rfl) ?_
  refine lv_aload_n hx hb dX10_copyFrom_1 rfl (lv_at hl 1 rfl) ?_
  refine x_get (own := RX10) (T := TX10) C X 9 rfl rfl 0 (by decide) k_3_17 rfl rfl (v := .int (0 : Int32)) rfl dX10_copyFrom_2 ?_
  refine x_put (own := RX10) (T := TX10) C X 0 rfl rfl 0 (by decide) k_3_17 rfl rfl rfl (ty := .int) (v := .int (0 : Int32)) (by decide +kernel) rfl rfl (Nat.le_of_ble_eq_true rfl) dX10_copyFrom_5 (fun H locs X => ?_)
  have X : Wd D A s [((w 0), .inr (10, [.int (0 : Int32), .ref (w 1), .int (0 : Int32), .ref (w 2), .ref (w 3), .int (0 : Int32), .ref (w 4), .ref (w 5), .ref (w 6), .ref (w 7), .ref (w 8), .long (1 : Int64)])), ((w 1), .inl (cI, 80, .inl (fun _ => (0 : Int32)))), ((w 2), .inl (cI, 24, .inl (fun _ => (0 : Int32)))), ((w 3), .inl (cI, 40, .inl (fun _ => (-1 : Int32)))), ((w 4), .inl (cI, 3200, .inl (fun _ => (-1 : Int32)))), ((w 5), .inl (cI, 16000, .inl (fun _ => (0 : Int32)))), ((w 6), .inl (cI, 160, .inl (fun _ => (0 : Int32)))), ((w 7), .inl (cI, 800, .inl (fun _ => (0 : Int32)))), ((w 8), .inl (cI, 800, .inl (fun _ => (0 : Int32)))), ((v 0), .inr (10, [.int (0 : Int32), .ref (v 1), .int (0 : Int32), .ref (v 2), .ref (v 3), .int (0 : Int32), .ref (v 4), .ref (v 5), .ref (v 6), .ref (v 7), .ref (v 8), .long (1 : Int64)])), ((v 1), .inl (cI, 80, .inl (fun _ => (0 : Int32)))), ((v 2), .inl (cI, 24, .inl (fun _ => (0 : Int32)))), ((v 3), .inl (cI, 40, .inl (fun _ => (-1 : Int32)))), ((v 4), .inl (cI, 3200, .inl (fun _ => (-1 : Int32)))), ((v 5), .inl (cI, 16000, .inl (fun _ => (0 : Int32)))), ((v 6), .inl (cI, 160, .inl (fun _ => (0 : Int32)))), ((v 7), .inl (cI, 800, .inl (fun _ => (0 : Int32)))), ((v 8), .inl (cI, 800, .inl (fun _ => (0 : Int32))))] H locs := X
  refine lv_aload_n hx hb dX10_copyFrom_8 rfl (lv_at hl 0 rfl) ?_
  refine lv_aload_n hx hb dX10_copyFrom_9 rfl (lv_at hl 1 rfl) ?_
  refine x_get (own := RX10) (T := TX10) C X 9 rfl rfl 2 (by decide) k_3_19 rfl rfl (v := .int (0 : Int32)) rfl dX10_copyFrom_10 ?_
  refine x_put (own := RX10) (T := TX10) C X 0 rfl rfl 2 (by decide) k_3_19 rfl rfl rfl (ty := .int) (v := .int (0 : Int32)) (by decide +kernel) rfl rfl (Nat.le_of_ble_eq_true rfl) dX10_copyFrom_13 (fun H locs X => ?_)
  have X : Wd D A s [((w 0), .inr (10, [.int (0 : Int32), .ref (w 1), .int (0 : Int32), .ref (w 2), .ref (w 3), .int (0 : Int32), .ref (w 4), .ref (w 5), .ref (w 6), .ref (w 7), .ref (w 8), .long (1 : Int64)])), ((w 1), .inl (cI, 80, .inl (fun _ => (0 : Int32)))), ((w 2), .inl (cI, 24, .inl (fun _ => (0 : Int32)))), ((w 3), .inl (cI, 40, .inl (fun _ => (-1 : Int32)))), ((w 4), .inl (cI, 3200, .inl (fun _ => (-1 : Int32)))), ((w 5), .inl (cI, 16000, .inl (fun _ => (0 : Int32)))), ((w 6), .inl (cI, 160, .inl (fun _ => (0 : Int32)))), ((w 7), .inl (cI, 800, .inl (fun _ => (0 : Int32)))), ((w 8), .inl (cI, 800, .inl (fun _ => (0 : Int32)))), ((v 0), .inr (10, [.int (0 : Int32), .ref (v 1), .int (0 : Int32), .ref (v 2), .ref (v 3), .int (0 : Int32), .ref (v 4), .ref (v 5), .ref (v 6), .ref (v 7), .ref (v 8), .long (1 : Int64)])), ((v 1), .inl (cI, 80, .inl (fun _ => (0 : Int32)))), ((v 2), .inl (cI, 24, .inl (fun _ => (0 : Int32)))), ((v 3), .inl (cI, 40, .inl (fun _ => (-1 : Int32)))), ((v 4), .inl (cI, 3200, .inl (fun _ => (-1 : Int32)))), ((v 5), .inl (cI, 16000, .inl (fun _ => (0 : Int32)))), ((v 6), .inl (cI, 160, .inl (fun _ => (0 : Int32)))), ((v 7), .inl (cI, 800, .inl (fun _ => (0 : Int32)))), ((v 8), .inl (cI, 800, .inl (fun _ => (0 : Int32))))] H locs := X
  refine lv_aload_n hx hb dX10_copyFrom_16 rfl (lv_at hl 0 rfl) ?_
  refine lv_aload_n hx hb dX10_copyFrom_17 rfl (lv_at hl 1 rfl) ?_
  refine x_get (own := RX10) (T := TX10) C X 9 rfl rfl 5 (by decide) k_3_22 rfl rfl (v := .int (0 : Int32)) rfl dX10_copyFrom_18 ?_
  refine x_put (own := RX10) (T := TX10) C X 0 rfl rfl 5 (by decide) k_3_22 rfl rfl rfl (ty := .int) (v := .int (0 : Int32)) (by decide +kernel) rfl rfl (Nat.le_of_ble_eq_true rfl) dX10_copyFrom_21 (fun H locs X => ?_)
  have X : Wd D A s [((w 0), .inr (10, [.int (0 : Int32), .ref (w 1), .int (0 : Int32), .ref (w 2), .ref (w 3), .int (0 : Int32), .ref (w 4), .ref (w 5), .ref (w 6), .ref (w 7), .ref (w 8), .long (1 : Int64)])), ((w 1), .inl (cI, 80, .inl (fun _ => (0 : Int32)))), ((w 2), .inl (cI, 24, .inl (fun _ => (0 : Int32)))), ((w 3), .inl (cI, 40, .inl (fun _ => (-1 : Int32)))), ((w 4), .inl (cI, 3200, .inl (fun _ => (-1 : Int32)))), ((w 5), .inl (cI, 16000, .inl (fun _ => (0 : Int32)))), ((w 6), .inl (cI, 160, .inl (fun _ => (0 : Int32)))), ((w 7), .inl (cI, 800, .inl (fun _ => (0 : Int32)))), ((w 8), .inl (cI, 800, .inl (fun _ => (0 : Int32)))), ((v 0), .inr (10, [.int (0 : Int32), .ref (v 1), .int (0 : Int32), .ref (v 2), .ref (v 3), .int (0 : Int32), .ref (v 4), .ref (v 5), .ref (v 6), .ref (v 7), .ref (v 8), .long (1 : Int64)])), ((v 1), .inl (cI, 80, .inl (fun _ => (0 : Int32)))), ((v 2), .inl (cI, 24, .inl (fun _ => (0 : Int32)))), ((v 3), .inl (cI, 40, .inl (fun _ => (-1 : Int32)))), ((v 4), .inl (cI, 3200, .inl (fun _ => (-1 : Int32)))), ((v 5), .inl (cI, 16000, .inl (fun _ => (0 : Int32)))), ((v 6), .inl (cI, 160, .inl (fun _ => (0 : Int32)))), ((v 7), .inl (cI, 800, .inl (fun _ => (0 : Int32)))), ((v 8), .inl (cI, 800, .inl (fun _ => (0 : Int32))))] H locs := X
  refine lv_aload_n hx hb dX10_copyFrom_24 rfl (lv_at hl 0 rfl) ?_
  refine lv_aload_n hx hb dX10_copyFrom_25 rfl (lv_at hl 1 rfl) ?_
  refine x_get (own := RX10) (T := TX10) C X 9 rfl rfl 11 (by decide) k_4_4 rfl rfl (v := .long (1 : Int64)) rfl dX10_copyFrom_26 ?_
  refine x_put (own := RX10) (T := TX10) C X 0 rfl rfl 11 (by decide) k_4_4 rfl rfl rfl (ty := .long) (v := .long (1 : Int64)) (by decide +kernel) rfl rfl (Nat.le_of_ble_eq_true rfl) dX10_copyFrom_29 (fun H locs X => ?_)
  have X : Wd D A s [((w 0), .inr (10, [.int (0 : Int32), .ref (w 1), .int (0 : Int32), .ref (w 2), .ref (w 3), .int (0 : Int32), .ref (w 4), .ref (w 5), .ref (w 6), .ref (w 7), .ref (w 8), .long (1 : Int64)])), ((w 1), .inl (cI, 80, .inl (fun _ => (0 : Int32)))), ((w 2), .inl (cI, 24, .inl (fun _ => (0 : Int32)))), ((w 3), .inl (cI, 40, .inl (fun _ => (-1 : Int32)))), ((w 4), .inl (cI, 3200, .inl (fun _ => (-1 : Int32)))), ((w 5), .inl (cI, 16000, .inl (fun _ => (0 : Int32)))), ((w 6), .inl (cI, 160, .inl (fun _ => (0 : Int32)))), ((w 7), .inl (cI, 800, .inl (fun _ => (0 : Int32)))), ((w 8), .inl (cI, 800, .inl (fun _ => (0 : Int32)))), ((v 0), .inr (10, [.int (0 : Int32), .ref (v 1), .int (0 : Int32), .ref (v 2), .ref (v 3), .int (0 : Int32), .ref (v 4), .ref (v 5), .ref (v 6), .ref (v 7), .ref (v 8), .long (1 : Int64)])), ((v 1), .inl (cI, 80, .inl (fun _ => (0 : Int32)))), ((v 2), .inl (cI, 24, .inl (fun _ => (0 : Int32)))), ((v 3), .inl (cI, 40, .inl (fun _ => (-1 : Int32)))), ((v 4), .inl (cI, 3200, .inl (fun _ => (-1 : Int32)))), ((v 5), .inl (cI, 16000, .inl (fun _ => (0 : Int32)))), ((v 6), .inl (cI, 160, .inl (fun _ => (0 : Int32)))), ((v 7), .inl (cI, 800, .inl (fun _ => (0 : Int32)))), ((v 8), .inl (cI, 800, .inl (fun _ => (0 : Int32))))] H locs := X
  refine lv_aload_n hx hb dX10_copyFrom_32 rfl (lv_at hl 1 rfl) ?_
  refine x_get (own := RX10) (T := TX10) C X 9 rfl rfl 1 (by decide) k_3_18 rfl rfl (v := .ref (v 1)) rfl dX10_copyFrom_33 ?_
  refine lv_iconst (v := (0 : Int32)) hx hb dX10_copyFrom_36 (by decide) ?_
  refine lv_aload_n hx hb dX10_copyFrom_37 rfl (lv_at hl 0 rfl) ?_
  refine x_get (own := RX10) (T := TX10) C X 0 rfl rfl 1 (by decide) k_3_18 rfl rfl (v := .ref (w 1)) rfl dX10_copyFrom_38 ?_
  refine lv_iconst (v := (0 : Int32)) hx hb dX10_copyFrom_41 (by decide) ?_
  refine lv_aload_n hx hb dX10_copyFrom_42 rfl (lv_at hl 0 rfl) ?_
  refine x_get (own := RX10) (T := TX10) C X 0 rfl rfl 1 (by decide) k_3_18 rfl rfl (v := .ref (w 1)) rfl dX10_copyFrom_43 ?_
  refine x_alen C X 1 0 rfl rfl (v := (80 : Int32)) (by decide) dX10_copyFrom_46 ?_
  refine va_copyi (ty := .int) hx hb (by rw [C.2.2.1]; exact hl.1.symm) (own := RX10) hown (hts _ k_66_11) (hts _ k_52_21) (hts _ k_52_22) (hts _ k_52_23) C.2.2.2.2.2.1 X.1 X.2.1 X.2.2.1 10 1 0 0 rfl rfl rfl rfl rfl (by decide) (by decide) (by decide) (Nat.le_of_ble_eq_true rfl) (Nat.le_of_ble_eq_true rfl) (fun _ _ => rfl) (Nat.le_of_ble_eq_true rfl) (by decide) dX10_copyFrom_47 (fun H locs a1 a2 a3 => ?_)
  have X : Wd D A s [((w 0), .inr (10, [.int (0 : Int32), .ref (w 1), .int (0 : Int32), .ref (w 2), .ref (w 3), .int (0 : Int32), .ref (w 4), .ref (w 5), .ref (w 6), .ref (w 7), .ref (w 8), .long (1 : Int64)])), ((w 1), .inl (cI, 80, .inl (va_cpy (fun _ => (0 : Int32)) (fun _ => (0 : Int32)) 0 0 80))), ((w 2), .inl (cI, 24, .inl (fun _ => (0 : Int32)))), ((w 3), .inl (cI, 40, .inl (fun _ => (-1 : Int32)))), ((w 4), .inl (cI, 3200, .inl (fun _ => (-1 : Int32)))), ((w 5), .inl (cI, 16000, .inl (fun _ => (0 : Int32)))), ((w 6), .inl (cI, 160, .inl (fun _ => (0 : Int32)))), ((w 7), .inl (cI, 800, .inl (fun _ => (0 : Int32)))), ((w 8), .inl (cI, 800, .inl (fun _ => (0 : Int32)))), ((v 0), .inr (10, [.int (0 : Int32), .ref (v 1), .int (0 : Int32), .ref (v 2), .ref (v 3), .int (0 : Int32), .ref (v 4), .ref (v 5), .ref (v 6), .ref (v 7), .ref (v 8), .long (1 : Int64)])), ((v 1), .inl (cI, 80, .inl (fun _ => (0 : Int32)))), ((v 2), .inl (cI, 24, .inl (fun _ => (0 : Int32)))), ((v 3), .inl (cI, 40, .inl (fun _ => (-1 : Int32)))), ((v 4), .inl (cI, 3200, .inl (fun _ => (-1 : Int32)))), ((v 5), .inl (cI, 16000, .inl (fun _ => (0 : Int32)))), ((v 6), .inl (cI, 160, .inl (fun _ => (0 : Int32)))), ((v 7), .inl (cI, 800, .inl (fun _ => (0 : Int32)))), ((v 8), .inl (cI, 800, .inl (fun _ => (0 : Int32))))] H locs := ⟨a1, a2, a3, X.2.2.2⟩
  refine lv_aload_n hx hb dX10_copyFrom_50 rfl (lv_at hl 1 rfl) ?_
  refine x_get (own := RX10) (T := TX10) C X 9 rfl rfl 3 (by decide) k_3_20 rfl rfl (v := .ref (v 2)) rfl dX10_copyFrom_51 ?_
  refine lv_iconst (v := (0 : Int32)) hx hb dX10_copyFrom_54 (by decide) ?_
  refine lv_aload_n hx hb dX10_copyFrom_55 rfl (lv_at hl 0 rfl) ?_
  refine x_get (own := RX10) (T := TX10) C X 0 rfl rfl 3 (by decide) k_3_20 rfl rfl (v := .ref (w 2)) rfl dX10_copyFrom_56 ?_
  refine lv_iconst (v := (0 : Int32)) hx hb dX10_copyFrom_59 (by decide) ?_
  refine lv_aload_n hx hb dX10_copyFrom_60 rfl (lv_at hl 0 rfl) ?_
  refine x_get (own := RX10) (T := TX10) C X 0 rfl rfl 3 (by decide) k_3_20 rfl rfl (v := .ref (w 2)) rfl dX10_copyFrom_61 ?_
  refine x_alen C X 2 0 rfl rfl (v := (24 : Int32)) (by decide) dX10_copyFrom_64 ?_
  refine va_copyi (ty := .int) hx hb (by rw [C.2.2.1]; exact hl.1.symm) (own := RX10) hown (hts _ k_66_11) (hts _ k_52_21) (hts _ k_52_22) (hts _ k_52_23) C.2.2.2.2.2.1 X.1 X.2.1 X.2.2.1 11 2 0 0 rfl rfl rfl rfl rfl (by decide) (by decide) (by decide) (Nat.le_of_ble_eq_true rfl) (Nat.le_of_ble_eq_true rfl) (fun _ _ => rfl) (Nat.le_of_ble_eq_true rfl) (by decide) dX10_copyFrom_65 (fun H locs a1 a2 a3 => ?_)
  have X : Wd D A s [((w 0), .inr (10, [.int (0 : Int32), .ref (w 1), .int (0 : Int32), .ref (w 2), .ref (w 3), .int (0 : Int32), .ref (w 4), .ref (w 5), .ref (w 6), .ref (w 7), .ref (w 8), .long (1 : Int64)])), ((w 1), .inl (cI, 80, .inl (va_cpy (fun _ => (0 : Int32)) (fun _ => (0 : Int32)) 0 0 80))), ((w 2), .inl (cI, 24, .inl (va_cpy (fun _ => (0 : Int32)) (fun _ => (0 : Int32)) 0 0 24))), ((w 3), .inl (cI, 40, .inl (fun _ => (-1 : Int32)))), ((w 4), .inl (cI, 3200, .inl (fun _ => (-1 : Int32)))), ((w 5), .inl (cI, 16000, .inl (fun _ => (0 : Int32)))), ((w 6), .inl (cI, 160, .inl (fun _ => (0 : Int32)))), ((w 7), .inl (cI, 800, .inl (fun _ => (0 : Int32)))), ((w 8), .inl (cI, 800, .inl (fun _ => (0 : Int32)))), ((v 0), .inr (10, [.int (0 : Int32), .ref (v 1), .int (0 : Int32), .ref (v 2), .ref (v 3), .int (0 : Int32), .ref (v 4), .ref (v 5), .ref (v 6), .ref (v 7), .ref (v 8), .long (1 : Int64)])), ((v 1), .inl (cI, 80, .inl (fun _ => (0 : Int32)))), ((v 2), .inl (cI, 24, .inl (fun _ => (0 : Int32)))), ((v 3), .inl (cI, 40, .inl (fun _ => (-1 : Int32)))), ((v 4), .inl (cI, 3200, .inl (fun _ => (-1 : Int32)))), ((v 5), .inl (cI, 16000, .inl (fun _ => (0 : Int32)))), ((v 6), .inl (cI, 160, .inl (fun _ => (0 : Int32)))), ((v 7), .inl (cI, 800, .inl (fun _ => (0 : Int32)))), ((v 8), .inl (cI, 800, .inl (fun _ => (0 : Int32))))] H locs := ⟨a1, a2, a3, X.2.2.2⟩
  refine lv_aload_n hx hb dX10_copyFrom_68 rfl (lv_at hl 1 rfl) ?_
  refine x_get (own := RX10) (T := TX10) C X 9 rfl rfl 4 (by decide) k_3_21 rfl rfl (v := .ref (v 3)) rfl dX10_copyFrom_69 ?_
  refine lv_iconst (v := (0 : Int32)) hx hb dX10_copyFrom_72 (by decide) ?_
  refine lv_aload_n hx hb dX10_copyFrom_73 rfl (lv_at hl 0 rfl) ?_
  refine x_get (own := RX10) (T := TX10) C X 0 rfl rfl 4 (by decide) k_3_21 rfl rfl (v := .ref (w 3)) rfl dX10_copyFrom_74 ?_
  refine lv_iconst (v := (0 : Int32)) hx hb dX10_copyFrom_77 (by decide) ?_
  refine lv_aload_n hx hb dX10_copyFrom_78 rfl (lv_at hl 0 rfl) ?_
  refine x_get (own := RX10) (T := TX10) C X 0 rfl rfl 4 (by decide) k_3_21 rfl rfl (v := .ref (w 3)) rfl dX10_copyFrom_79 ?_
  refine x_alen C X 3 0 rfl rfl (v := (40 : Int32)) (by decide) dX10_copyFrom_82 ?_
  refine va_copyi (ty := .int) hx hb (by rw [C.2.2.1]; exact hl.1.symm) (own := RX10) hown (hts _ k_66_11) (hts _ k_52_21) (hts _ k_52_22) (hts _ k_52_23) C.2.2.2.2.2.1 X.1 X.2.1 X.2.2.1 12 3 0 0 rfl rfl rfl rfl rfl (by decide) (by decide) (by decide) (Nat.le_of_ble_eq_true rfl) (Nat.le_of_ble_eq_true rfl) (fun _ _ => rfl) (Nat.le_of_ble_eq_true rfl) (by decide) dX10_copyFrom_83 (fun H locs a1 a2 a3 => ?_)
  have X : Wd D A s [((w 0), .inr (10, [.int (0 : Int32), .ref (w 1), .int (0 : Int32), .ref (w 2), .ref (w 3), .int (0 : Int32), .ref (w 4), .ref (w 5), .ref (w 6), .ref (w 7), .ref (w 8), .long (1 : Int64)])), ((w 1), .inl (cI, 80, .inl (va_cpy (fun _ => (0 : Int32)) (fun _ => (0 : Int32)) 0 0 80))), ((w 2), .inl (cI, 24, .inl (va_cpy (fun _ => (0 : Int32)) (fun _ => (0 : Int32)) 0 0 24))), ((w 3), .inl (cI, 40, .inl (va_cpy (fun _ => (-1 : Int32)) (fun _ => (-1 : Int32)) 0 0 40))), ((w 4), .inl (cI, 3200, .inl (fun _ => (-1 : Int32)))), ((w 5), .inl (cI, 16000, .inl (fun _ => (0 : Int32)))), ((w 6), .inl (cI, 160, .inl (fun _ => (0 : Int32)))), ((w 7), .inl (cI, 800, .inl (fun _ => (0 : Int32)))), ((w 8), .inl (cI, 800, .inl (fun _ => (0 : Int32)))), ((v 0), .inr (10, [.int (0 : Int32), .ref (v 1), .int (0 : Int32), .ref (v 2), .ref (v 3), .int (0 : Int32), .ref (v 4), .ref (v 5), .ref (v 6), .ref (v 7), .ref (v 8), .long (1 : Int64)])), ((v 1), .inl (cI, 80, .inl (fun _ => (0 : Int32)))), ((v 2), .inl (cI, 24, .inl (fun _ => (0 : Int32)))), ((v 3), .inl (cI, 40, .inl (fun _ => (-1 : Int32)))), ((v 4), .inl (cI, 3200, .inl (fun _ => (-1 : Int32)))), ((v 5), .inl (cI, 16000, .inl (fun _ => (0 : Int32)))), ((v 6), .inl (cI, 160, .inl (fun _ => (0 : Int32)))), ((v 7), .inl (cI, 800, .inl (fun _ => (0 : Int32)))), ((v 8), .inl (cI, 800, .inl (fun _ => (0 : Int32))))] H locs := ⟨a1, a2, a3, X.2.2.2⟩
  refine lv_aload_n hx hb dX10_copyFrom_86 rfl (lv_at hl 1 rfl) ?_
  refine x_get (own := RX10) (T := TX10) C X 9 rfl rfl 6 (by decide) k_3_23 rfl rfl (v := .ref (v 4)) rfl dX10_copyFrom_87 ?_
  refine lv_iconst (v := (0 : Int32)) hx hb dX10_copyFrom_90 (by decide) ?_
  refine lv_aload_n hx hb dX10_copyFrom_91 rfl (lv_at hl 0 rfl) ?_
  refine x_get (own := RX10) (T := TX10) C X 0 rfl rfl 6 (by decide) k_3_23 rfl rfl (v := .ref (w 4)) rfl dX10_copyFrom_92 ?_
  refine lv_iconst (v := (0 : Int32)) hx hb dX10_copyFrom_95 (by decide) ?_
  refine lv_aload_n hx hb dX10_copyFrom_96 rfl (lv_at hl 0 rfl) ?_
  refine x_get (own := RX10) (T := TX10) C X 0 rfl rfl 6 (by decide) k_3_23 rfl rfl (v := .ref (w 4)) rfl dX10_copyFrom_97 ?_
  refine x_alen C X 4 0 rfl rfl (v := (3200 : Int32)) (by decide) dX10_copyFrom_100 ?_
  refine va_copyi (ty := .int) hx hb (by rw [C.2.2.1]; exact hl.1.symm) (own := RX10) hown (hts _ k_66_11) (hts _ k_52_21) (hts _ k_52_22) (hts _ k_52_23) C.2.2.2.2.2.1 X.1 X.2.1 X.2.2.1 13 4 0 0 rfl rfl rfl rfl rfl (by decide) (by decide) (by decide) (Nat.le_of_ble_eq_true rfl) (Nat.le_of_ble_eq_true rfl) (fun _ _ => rfl) (Nat.le_of_ble_eq_true rfl) (by decide) dX10_copyFrom_101 (fun H locs a1 a2 a3 => ?_)
  have X : Wd D A s [((w 0), .inr (10, [.int (0 : Int32), .ref (w 1), .int (0 : Int32), .ref (w 2), .ref (w 3), .int (0 : Int32), .ref (w 4), .ref (w 5), .ref (w 6), .ref (w 7), .ref (w 8), .long (1 : Int64)])), ((w 1), .inl (cI, 80, .inl (va_cpy (fun _ => (0 : Int32)) (fun _ => (0 : Int32)) 0 0 80))), ((w 2), .inl (cI, 24, .inl (va_cpy (fun _ => (0 : Int32)) (fun _ => (0 : Int32)) 0 0 24))), ((w 3), .inl (cI, 40, .inl (va_cpy (fun _ => (-1 : Int32)) (fun _ => (-1 : Int32)) 0 0 40))), ((w 4), .inl (cI, 3200, .inl (va_cpy (fun _ => (-1 : Int32)) (fun _ => (-1 : Int32)) 0 0 3200))), ((w 5), .inl (cI, 16000, .inl (fun _ => (0 : Int32)))), ((w 6), .inl (cI, 160, .inl (fun _ => (0 : Int32)))), ((w 7), .inl (cI, 800, .inl (fun _ => (0 : Int32)))), ((w 8), .inl (cI, 800, .inl (fun _ => (0 : Int32)))), ((v 0), .inr (10, [.int (0 : Int32), .ref (v 1), .int (0 : Int32), .ref (v 2), .ref (v 3), .int (0 : Int32), .ref (v 4), .ref (v 5), .ref (v 6), .ref (v 7), .ref (v 8), .long (1 : Int64)])), ((v 1), .inl (cI, 80, .inl (fun _ => (0 : Int32)))), ((v 2), .inl (cI, 24, .inl (fun _ => (0 : Int32)))), ((v 3), .inl (cI, 40, .inl (fun _ => (-1 : Int32)))), ((v 4), .inl (cI, 3200, .inl (fun _ => (-1 : Int32)))), ((v 5), .inl (cI, 16000, .inl (fun _ => (0 : Int32)))), ((v 6), .inl (cI, 160, .inl (fun _ => (0 : Int32)))), ((v 7), .inl (cI, 800, .inl (fun _ => (0 : Int32)))), ((v 8), .inl (cI, 800, .inl (fun _ => (0 : Int32))))] H locs := ⟨a1, a2, a3, X.2.2.2⟩
  refine lv_aload_n hx hb dX10_copyFrom_104 rfl (lv_at hl 1 rfl) ?_
  refine x_get (own := RX10) (T := TX10) C X 9 rfl rfl 7 (by decide) k_4_0 rfl rfl (v := .ref (v 5)) rfl dX10_copyFrom_105 ?_
  refine lv_iconst (v := (0 : Int32)) hx hb dX10_copyFrom_108 (by decide) ?_
  refine lv_aload_n hx hb dX10_copyFrom_109 rfl (lv_at hl 0 rfl) ?_
  refine x_get (own := RX10) (T := TX10) C X 0 rfl rfl 7 (by decide) k_4_0 rfl rfl (v := .ref (w 5)) rfl dX10_copyFrom_110 ?_
  refine lv_iconst (v := (0 : Int32)) hx hb dX10_copyFrom_113 (by decide) ?_
  refine lv_aload_n hx hb dX10_copyFrom_114 rfl (lv_at hl 0 rfl) ?_
  refine x_get (own := RX10) (T := TX10) C X 0 rfl rfl 7 (by decide) k_4_0 rfl rfl (v := .ref (w 5)) rfl dX10_copyFrom_115 ?_
  refine x_alen C X 5 0 rfl rfl (v := (16000 : Int32)) (by decide) dX10_copyFrom_118 ?_
  refine va_copyi (ty := .int) hx hb (by rw [C.2.2.1]; exact hl.1.symm) (own := RX10) hown (hts _ k_66_11) (hts _ k_52_21) (hts _ k_52_22) (hts _ k_52_23) C.2.2.2.2.2.1 X.1 X.2.1 X.2.2.1 14 5 0 0 rfl rfl rfl rfl rfl (by decide) (by decide) (by decide) (Nat.le_of_ble_eq_true rfl) (Nat.le_of_ble_eq_true rfl) (fun _ _ => rfl) (Nat.le_of_ble_eq_true rfl) (by decide) dX10_copyFrom_119 (fun H locs a1 a2 a3 => ?_)
  have X : Wd D A s [((w 0), .inr (10, [.int (0 : Int32), .ref (w 1), .int (0 : Int32), .ref (w 2), .ref (w 3), .int (0 : Int32), .ref (w 4), .ref (w 5), .ref (w 6), .ref (w 7), .ref (w 8), .long (1 : Int64)])), ((w 1), .inl (cI, 80, .inl (va_cpy (fun _ => (0 : Int32)) (fun _ => (0 : Int32)) 0 0 80))), ((w 2), .inl (cI, 24, .inl (va_cpy (fun _ => (0 : Int32)) (fun _ => (0 : Int32)) 0 0 24))), ((w 3), .inl (cI, 40, .inl (va_cpy (fun _ => (-1 : Int32)) (fun _ => (-1 : Int32)) 0 0 40))), ((w 4), .inl (cI, 3200, .inl (va_cpy (fun _ => (-1 : Int32)) (fun _ => (-1 : Int32)) 0 0 3200))), ((w 5), .inl (cI, 16000, .inl (va_cpy (fun _ => (0 : Int32)) (fun _ => (0 : Int32)) 0 0 16000))), ((w 6), .inl (cI, 160, .inl (fun _ => (0 : Int32)))), ((w 7), .inl (cI, 800, .inl (fun _ => (0 : Int32)))), ((w 8), .inl (cI, 800, .inl (fun _ => (0 : Int32)))), ((v 0), .inr (10, [.int (0 : Int32), .ref (v 1), .int (0 : Int32), .ref (v 2), .ref (v 3), .int (0 : Int32), .ref (v 4), .ref (v 5), .ref (v 6), .ref (v 7), .ref (v 8), .long (1 : Int64)])), ((v 1), .inl (cI, 80, .inl (fun _ => (0 : Int32)))), ((v 2), .inl (cI, 24, .inl (fun _ => (0 : Int32)))), ((v 3), .inl (cI, 40, .inl (fun _ => (-1 : Int32)))), ((v 4), .inl (cI, 3200, .inl (fun _ => (-1 : Int32)))), ((v 5), .inl (cI, 16000, .inl (fun _ => (0 : Int32)))), ((v 6), .inl (cI, 160, .inl (fun _ => (0 : Int32)))), ((v 7), .inl (cI, 800, .inl (fun _ => (0 : Int32)))), ((v 8), .inl (cI, 800, .inl (fun _ => (0 : Int32))))] H locs := ⟨a1, a2, a3, X.2.2.2⟩
  refine lv_aload_n hx hb dX10_copyFrom_122 rfl (lv_at hl 1 rfl) ?_
  refine x_get (own := RX10) (T := TX10) C X 9 rfl rfl 8 (by decide) k_4_1 rfl rfl (v := .ref (v 6)) rfl dX10_copyFrom_123 ?_
  refine lv_iconst (v := (0 : Int32)) hx hb dX10_copyFrom_126 (by decide) ?_
  refine lv_aload_n hx hb dX10_copyFrom_127 rfl (lv_at hl 0 rfl) ?_
  refine x_get (own := RX10) (T := TX10) C X 0 rfl rfl 8 (by decide) k_4_1 rfl rfl (v := .ref (w 6)) rfl dX10_copyFrom_128 ?_
  refine lv_iconst (v := (0 : Int32)) hx hb dX10_copyFrom_131 (by decide) ?_
  refine lv_aload_n hx hb dX10_copyFrom_132 rfl (lv_at hl 0 rfl) ?_
  refine x_get (own := RX10) (T := TX10) C X 0 rfl rfl 8 (by decide) k_4_1 rfl rfl (v := .ref (w 6)) rfl dX10_copyFrom_133 ?_
  refine x_alen C X 6 0 rfl rfl (v := (160 : Int32)) (by decide) dX10_copyFrom_136 ?_
  refine va_copyi (ty := .int) hx hb (by rw [C.2.2.1]; exact hl.1.symm) (own := RX10) hown (hts _ k_66_11) (hts _ k_52_21) (hts _ k_52_22) (hts _ k_52_23) C.2.2.2.2.2.1 X.1 X.2.1 X.2.2.1 15 6 0 0 rfl rfl rfl rfl rfl (by decide) (by decide) (by decide) (Nat.le_of_ble_eq_true rfl) (Nat.le_of_ble_eq_true rfl) (fun _ _ => rfl) (Nat.le_of_ble_eq_true rfl) (by decide) dX10_copyFrom_137 (fun H locs a1 a2 a3 => ?_)
  have X : Wd D A s [((w 0), .inr (10, [.int (0 : Int32), .ref (w 1), .int (0 : Int32), .ref (w 2), .ref (w 3), .int (0 : Int32), .ref (w 4), .ref (w 5), .ref (w 6), .ref (w 7), .ref (w 8), .long (1 : Int64)])), ((w 1), .inl (cI, 80, .inl (va_cpy (fun _ => (0 : Int32)) (fun _ => (0 : Int32)) 0 0 80))), ((w 2), .inl (cI, 24, .inl (va_cpy (fun _ => (0 : Int32)) (fun _ => (0 : Int32)) 0 0 24))), ((w 3), .inl (cI, 40, .inl (va_cpy (fun _ => (-1 : Int32)) (fun _ => (-1 : Int32)) 0 0 40))), ((w 4), .inl (cI, 3200, .inl (va_cpy (fun _ => (-1 : Int32)) (fun _ => (-1 : Int32)) 0 0 3200))), ((w 5), .inl (cI, 16000, .inl (va_cpy (fun _ => (0 : Int32)) (fun _ => (0 : Int32)) 0 0 16000))), ((w 6), .inl (cI, 160, .inl (va_cpy (fun _ => (0 : Int32)) (fun _ => (0 : Int32)) 0 0 160))), ((w 7), .inl (cI, 800, .inl (fun _ => (0 : Int32)))), ((w 8), .inl (cI, 800, .inl (fun _ => (0 : Int32)))), ((v 0), .inr (10, [.int (0 : Int32), .ref (v 1), .int (0 : Int32), .ref (v 2), .ref (v 3), .int (0 : Int32), .ref (v 4), .ref (v 5), .ref (v 6), .ref (v 7), .ref (v 8), .long (1 : Int64)])), ((v 1), .inl (cI, 80, .inl (fun _ => (0 : Int32)))), ((v 2), .inl (cI, 24, .inl (fun _ => (0 : Int32)))), ((v 3), .inl (cI, 40, .inl (fun _ => (-1 : Int32)))), ((v 4), .inl (cI, 3200, .inl (fun _ => (-1 : Int32)))), ((v 5), .inl (cI, 16000, .inl (fun _ => (0 : Int32)))), ((v 6), .inl (cI, 160, .inl (fun _ => (0 : Int32)))), ((v 7), .inl (cI, 800, .inl (fun _ => (0 : Int32)))), ((v 8), .inl (cI, 800, .inl (fun _ => (0 : Int32))))] H locs := ⟨a1, a2, a3, X.2.2.2⟩
  refine lv_aload_n hx hb dX10_copyFrom_140 rfl (lv_at hl 1 rfl) ?_
  refine x_get (own := RX10) (T := TX10) C X 9 rfl rfl 9 (by decide) k_4_2 rfl rfl (v := .ref (v 7)) rfl dX10_copyFrom_141 ?_
  refine lv_iconst (v := (0 : Int32)) hx hb dX10_copyFrom_144 (by decide) ?_
  refine lv_aload_n hx hb dX10_copyFrom_145 rfl (lv_at hl 0 rfl) ?_
  refine x_get (own := RX10) (T := TX10) C X 0 rfl rfl 9 (by decide) k_4_2 rfl rfl (v := .ref (w 7)) rfl dX10_copyFrom_146 ?_
  refine lv_iconst (v := (0 : Int32)) hx hb dX10_copyFrom_149 (by decide) ?_
  refine lv_aload_n hx hb dX10_copyFrom_150 rfl (lv_at hl 0 rfl) ?_
  refine x_get (own := RX10) (T := TX10) C X 0 rfl rfl 9 (by decide) k_4_2 rfl rfl (v := .ref (w 7)) rfl dX10_copyFrom_151 ?_
  refine x_alen C X 7 0 rfl rfl (v := (800 : Int32)) (by decide) dX10_copyFrom_154 ?_
  refine va_copyi (ty := .int) hx hb (by rw [C.2.2.1]; exact hl.1.symm) (own := RX10) hown (hts _ k_66_11) (hts _ k_52_21) (hts _ k_52_22) (hts _ k_52_23) C.2.2.2.2.2.1 X.1 X.2.1 X.2.2.1 16 7 0 0 rfl rfl rfl rfl rfl (by decide) (by decide) (by decide) (Nat.le_of_ble_eq_true rfl) (Nat.le_of_ble_eq_true rfl) (fun _ _ => rfl) (Nat.le_of_ble_eq_true rfl) (by decide) dX10_copyFrom_155 (fun H locs a1 a2 a3 => ?_)
  have X : Wd D A s [((w 0), .inr (10, [.int (0 : Int32), .ref (w 1), .int (0 : Int32), .ref (w 2), .ref (w 3), .int (0 : Int32), .ref (w 4), .ref (w 5), .ref (w 6), .ref (w 7), .ref (w 8), .long (1 : Int64)])), ((w 1), .inl (cI, 80, .inl (va_cpy (fun _ => (0 : Int32)) (fun _ => (0 : Int32)) 0 0 80))), ((w 2), .inl (cI, 24, .inl (va_cpy (fun _ => (0 : Int32)) (fun _ => (0 : Int32)) 0 0 24))), ((w 3), .inl (cI, 40, .inl (va_cpy (fun _ => (-1 : Int32)) (fun _ => (-1 : Int32)) 0 0 40))), ((w 4), .inl (cI, 3200, .inl (va_cpy (fun _ => (-1 : Int32)) (fun _ => (-1 : Int32)) 0 0 3200))), ((w 5), .inl (cI, 16000, .inl (va_cpy (fun _ => (0 : Int32)) (fun _ => (0 : Int32)) 0 0 16000))), ((w 6), .inl (cI, 160, .inl (va_cpy (fun _ => (0 : Int32)) (fun _ => (0 : Int32)) 0 0 160))), ((w 7), .inl (cI, 800, .inl (va_cpy (fun _ => (0 : Int32)) (fun _ => (0 : Int32)) 0 0 800))), ((w 8), .inl (cI, 800, .inl (fun _ => (0 : Int32)))), ((v 0), .inr (10, [.int (0 : Int32), .ref (v 1), .int (0 : Int32), .ref (v 2), .ref (v 3), .int (0 : Int32), .ref (v 4), .ref (v 5), .ref (v 6), .ref (v 7), .ref (v 8), .long (1 : Int64)])), ((v 1), .inl (cI, 80, .inl (fun _ => (0 : Int32)))), ((v 2), .inl (cI, 24, .inl (fun _ => (0 : Int32)))), ((v 3), .inl (cI, 40, .inl (fun _ => (-1 : Int32)))), ((v 4), .inl (cI, 3200, .inl (fun _ => (-1 : Int32)))), ((v 5), .inl (cI, 16000, .inl (fun _ => (0 : Int32)))), ((v 6), .inl (cI, 160, .inl (fun _ => (0 : Int32)))), ((v 7), .inl (cI, 800, .inl (fun _ => (0 : Int32)))), ((v 8), .inl (cI, 800, .inl (fun _ => (0 : Int32))))] H locs := ⟨a1, a2, a3, X.2.2.2⟩
  refine lv_aload_n hx hb dX10_copyFrom_158 rfl (lv_at hl 1 rfl) ?_
  refine x_get (own := RX10) (T := TX10) C X 9 rfl rfl 10 (by decide) k_4_3 rfl rfl (v := .ref (v 8)) rfl dX10_copyFrom_159 ?_
  refine lv_iconst (v := (0 : Int32)) hx hb dX10_copyFrom_162 (by decide) ?_
  refine lv_aload_n hx hb dX10_copyFrom_163 rfl (lv_at hl 0 rfl) ?_
  refine x_get (own := RX10) (T := TX10) C X 0 rfl rfl 10 (by decide) k_4_3 rfl rfl (v := .ref (w 8)) rfl dX10_copyFrom_164 ?_
  refine lv_iconst (v := (0 : Int32)) hx hb dX10_copyFrom_167 (by decide) ?_
  refine lv_aload_n hx hb dX10_copyFrom_168 rfl (lv_at hl 0 rfl) ?_
  refine x_get (own := RX10) (T := TX10) C X 0 rfl rfl 10 (by decide) k_4_3 rfl rfl (v := .ref (w 8)) rfl dX10_copyFrom_169 ?_
  refine x_alen C X 8 0 rfl rfl (v := (800 : Int32)) (by decide) dX10_copyFrom_172 ?_
  refine va_copyi (ty := .int) hx hb (by rw [C.2.2.1]; exact hl.1.symm) (own := RX10) hown (hts _ k_66_11) (hts _ k_52_21) (hts _ k_52_22) (hts _ k_52_23) C.2.2.2.2.2.1 X.1 X.2.1 X.2.2.1 17 8 0 0 rfl rfl rfl rfl rfl (by decide) (by decide) (by decide) (Nat.le_of_ble_eq_true rfl) (Nat.le_of_ble_eq_true rfl) (fun _ _ => rfl) (Nat.le_of_ble_eq_true rfl) (by decide) dX10_copyFrom_173 (fun H locs a1 a2 a3 => ?_)
  have X : Wd D A s [((w 0), .inr (10, [.int (0 : Int32), .ref (w 1), .int (0 : Int32), .ref (w 2), .ref (w 3), .int (0 : Int32), .ref (w 4), .ref (w 5), .ref (w 6), .ref (w 7), .ref (w 8), .long (1 : Int64)])), ((w 1), .inl (cI, 80, .inl (va_cpy (fun _ => (0 : Int32)) (fun _ => (0 : Int32)) 0 0 80))), ((w 2), .inl (cI, 24, .inl (va_cpy (fun _ => (0 : Int32)) (fun _ => (0 : Int32)) 0 0 24))), ((w 3), .inl (cI, 40, .inl (va_cpy (fun _ => (-1 : Int32)) (fun _ => (-1 : Int32)) 0 0 40))), ((w 4), .inl (cI, 3200, .inl (va_cpy (fun _ => (-1 : Int32)) (fun _ => (-1 : Int32)) 0 0 3200))), ((w 5), .inl (cI, 16000, .inl (va_cpy (fun _ => (0 : Int32)) (fun _ => (0 : Int32)) 0 0 16000))), ((w 6), .inl (cI, 160, .inl (va_cpy (fun _ => (0 : Int32)) (fun _ => (0 : Int32)) 0 0 160))), ((w 7), .inl (cI, 800, .inl (va_cpy (fun _ => (0 : Int32)) (fun _ => (0 : Int32)) 0 0 800))), ((w 8), .inl (cI, 800, .inl (va_cpy (fun _ => (0 : Int32)) (fun _ => (0 : Int32)) 0 0 800))), ((v 0), .inr (10, [.int (0 : Int32), .ref (v 1), .int (0 : Int32), .ref (v 2), .ref (v 3), .int (0 : Int32), .ref (v 4), .ref (v 5), .ref (v 6), .ref (v 7), .ref (v 8), .long (1 : Int64)])), ((v 1), .inl (cI, 80, .inl (fun _ => (0 : Int32)))), ((v 2), .inl (cI, 24, .inl (fun _ => (0 : Int32)))), ((v 3), .inl (cI, 40, .inl (fun _ => (-1 : Int32)))), ((v 4), .inl (cI, 3200, .inl (fun _ => (-1 : Int32)))), ((v 5), .inl (cI, 16000, .inl (fun _ => (0 : Int32)))), ((v 6), .inl (cI, 160, .inl (fun _ => (0 : Int32)))), ((v 7), .inl (cI, 800, .inl (fun _ => (0 : Int32)))), ((v 8), .inl (cI, 800, .inl (fun _ => (0 : Int32))))] H locs := ⟨a1, a2, a3, X.2.2.2⟩
  exact x_vret C X hr hlk (()) [0] (by decide) rfl (trivial) (Nat.le_of_ble_eq_true rfl) (Nat.le_of_ble_eq_true rfl) dX10_copyFrom_176
set_option maxHeartbeats 4000000 in
set_option maxRecDepth 100000 in
theorem cx_image (l : Launch) (D : va_G) (cI cJ cZ cB : ClassId) (cO : ClassId) (x : Nat → Nat) :
    CI l D [(cI, .int), (cJ, .long), (cZ, .boolean), (cB, .byte), (cO, .object "LuckLinks$World")] yX11_image cX11_image 2 (some .int) ({ frames := 2, cells := 9, slots := 21116, locals := 81 } : Room) [.ref (x 0)] [((x 0), .inr (11, [.ref (x 1), .ref (x 10), .int (0 : Int32), .ref (x 11), .int (0 : Int32), .ref (x 12), .ref (x 34), .ref (x 50), .int (-1 : Int32), .ref (x 66), .ref (x 67), .ref (x 68), .ref (x 76), .ref (x 81), .ref (x 84), .ref (x 89), .ref (x 97)])), ((x 1), .inr (10, [.int (0 : Int32), .ref (x 2), .int (0 : Int32), .ref (x 3), .ref (x 4), .int (0 : Int32), .ref (x 5), .ref (x 6), .ref (x 7), .ref (x 8), .ref (x 9), .long (1 : Int64)])), ((x 2), .inl (cI, 80, .inl (fun _ => (0 : Int32)))), ((x 3), .inl (cI, 24, .inl (fun _ => (0 : Int32)))), ((x 4), .inl (cI, 40, .inl (fun _ => (-1 : Int32)))), ((x 5), .inl (cI, 3200, .inl (fun _ => (-1 : Int32)))), ((x 6), .inl (cI, 16000, .inl (fun _ => (0 : Int32)))), ((x 7), .inl (cI, 160, .inl (fun _ => (0 : Int32)))), ((x 8), .inl (cI, 800, .inl (fun _ => (0 : Int32)))), ((x 9), .inl (cI, 800, .inl (fun _ => (0 : Int32)))), ((x 10), .inl (cO, 3, .inr (.inr (.inr (.inr (fun _ => none))))))] (fun (r : Int32) (u : Unit) => (r = (0 : Int32) ∧ True)) (fun (_ : Unit) => []) := by
  intro sz
  refine body_of (y := yX11_image) (cc := cX11_image) (maxL := 2) (ret := (some .int)) (rm := ({ frames := 2, cells := 9, slots := 21116, locals := 81 } : Room)) (wc := [((x 0), .inr (11, [.ref (x 1), .ref (x 10), .int (0 : Int32), .ref (x 11), .int (0 : Int32), .ref (x 12), .ref (x 34), .ref (x 50), .int (-1 : Int32), .ref (x 66), .ref (x 67), .ref (x 68), .ref (x 76), .ref (x 81), .ref (x 84), .ref (x 89), .ref (x 97)])), ((x 1), .inr (10, [.int (0 : Int32), .ref (x 2), .int (0 : Int32), .ref (x 3), .ref (x 4), .int (0 : Int32), .ref (x 5), .ref (x 6), .ref (x 7), .ref (x 8), .ref (x 9), .long (1 : Int64)])), ((x 2), .inl (cI, 80, .inl (fun _ => (0 : Int32)))), ((x 3), .inl (cI, 24, .inl (fun _ => (0 : Int32)))), ((x 4), .inl (cI, 40, .inl (fun _ => (-1 : Int32)))), ((x 5), .inl (cI, 3200, .inl (fun _ => (-1 : Int32)))), ((x 6), .inl (cI, 16000, .inl (fun _ => (0 : Int32)))), ((x 7), .inl (cI, 160, .inl (fun _ => (0 : Int32)))), ((x 8), .inl (cI, 800, .inl (fun _ => (0 : Int32)))), ((x 9), .inl (cI, 800, .inl (fun _ => (0 : Int32)))), ((x 10), .inl (cO, 3, .inr (.inr (.inr (.inr (fun _ => none))))))]) (tys := [(cI, .int), (cJ, .long), (cZ, .boolean), (cB, .byte), (cO, .object "LuckLinks$World")]) (D := D) (sz := sz) (own := RX11) (av := [.ref (x 0)]) (Qc := fun A => va_Qi (fun (r : Int32) (u : Unit) => (r = (0 : Int32) ∧ True)) (fun u t => Aft D A ((fun (_ : Unit) => []) u) t) A) (by decide) rfl (Nat.le_of_ble_eq_true rfl) (fun p e s m below meth c A ls C hr hlk hin X hl => ?_)
  have hx := C.1
  have hb := C.2.1
  have hown := C.2.2.2.1
  have hts := C.2.2.2.2.1
  have hl : lv_has ls 2 [(0, .ref (x 0))] := hl
  show W p l e _ s m _ below meth c s.heap [] 0 0 (MQ below (va_Qi (fun (r : Int32) (u : Unit) => (r = (0 : Int32) ∧ True)) (fun u t => Aft D A ((fun (_ : Unit) => []) u) t) A) ([.ref (x 0)] : List Value).toArray s 9 21116 A) (F0 m 0 ls [])
  have X : Wd D A s [((x 0), .inr (11, [.ref (x 1), .ref (x 10), .int (0 : Int32), .ref (x 11), .int (0 : Int32), .ref (x 12), .ref (x 34), .ref (x 50), .int (-1 : Int32), .ref (x 66), .ref (x 67), .ref (x 68), .ref (x 76), .ref (x 81), .ref (x 84), .ref (x 89), .ref (x 97)])), ((x 1), .inr (10, [.int (0 : Int32), .ref (x 2), .int (0 : Int32), .ref (x 3), .ref (x 4), .int (0 : Int32), .ref (x 5), .ref (x 6), .ref (x 7), .ref (x 8), .ref (x 9), .long (1 : Int64)])), ((x 2), .inl (cI, 80, .inl (fun _ => (0 : Int32)))), ((x 3), .inl (cI, 24, .inl (fun _ => (0 : Int32)))), ((x 4), .inl (cI, 40, .inl (fun _ => (-1 : Int32)))), ((x 5), .inl (cI, 3200, .inl (fun _ => (-1 : Int32)))), ((x 6), .inl (cI, 16000, .inl (fun _ => (0 : Int32)))), ((x 7), .inl (cI, 160, .inl (fun _ => (0 : Int32)))), ((x 8), .inl (cI, 800, .inl (fun _ => (0 : Int32)))), ((x 9), .inl (cI, 800, .inl (fun _ => (0 : Int32)))), ((x 10), .inl (cO, 3, .inr (.inr (.inr (.inr (fun _ => none))))))] s.heap [] := X
  obtain ⟨H, locs, eH, eL⟩ : ∃ H locs, H = s.heap ∧ locs = ([] : List Loc) := ⟨_, _, rfl, rfl⟩
  rw [← eH, ← eL] at X ⊢
  clear eH eL
  refine lv_aload_n hx hb dX11_image_0 rfl (lv_at hl 0 rfl) ?_
  refine x_get (own := RX11) (T := TX11) C X 0 rfl rfl 2 (by decide) k_1_17 rfl rfl (v := .int (0 : Int32)) rfl dX11_image_1 ?_
  refine lv_iconst (v := (3 : Int32)) hx hb dX11_image_4 (by decide) ?_
  refine lv_icmp_lt (tgt := 14) hx hb dX11_image_5 (by decide) (fun _ => ?_) (fun c0 => absurd (by decide) c0)
  refine x_new (own := RX11) (ci := 10) (fs := [.int (0 : Int32), .null, .int (0 : Int32), .null, .null, .int (0 : Int32), .null, .null, .null, .null, .null, .long (0 : Int64)]) C X rfl tyX10 tyX10_ok k_1_12 k_1_13 k_1_14 (fun j hj => by match j, hj with | 0, _ => rfl | 1, _ => rfl | 2, _ => rfl | 3, _ => rfl | 4, _ => rfl | 5, _ => rfl | 6, _ => rfl | 7, _ => rfl | 8, _ => rfl | 9, _ => rfl | 10, _ => rfl | 11, _ => rfl | j + 12, h => exact absurd h (by omega)) (Nat.le_of_ble_eq_true rfl) (Nat.le_of_ble_eq_true rfl) dX11_image_14 (fun q_1 H X => ?_)
  have X : Wd D A s [((x 0), .inr (11, [.ref (x 1), .ref (x 10), .int (0 : Int32), .ref (x 11), .int (0 : Int32), .ref (x 12), .ref (x 34), .ref (x 50), .int (-1 : Int32), .ref (x 66), .ref (x 67), .ref (x 68), .ref (x 76), .ref (x 81), .ref (x 84), .ref (x 89), .ref (x 97)])), ((x 1), .inr (10, [.int (0 : Int32), .ref (x 2), .int (0 : Int32), .ref (x 3), .ref (x 4), .int (0 : Int32), .ref (x 5), .ref (x 6), .ref (x 7), .ref (x 8), .ref (x 9), .long (1 : Int64)])), ((x 2), .inl (cI, 80, .inl (fun _ => (0 : Int32)))), ((x 3), .inl (cI, 24, .inl (fun _ => (0 : Int32)))), ((x 4), .inl (cI, 40, .inl (fun _ => (-1 : Int32)))), ((x 5), .inl (cI, 3200, .inl (fun _ => (-1 : Int32)))), ((x 6), .inl (cI, 16000, .inl (fun _ => (0 : Int32)))), ((x 7), .inl (cI, 160, .inl (fun _ => (0 : Int32)))), ((x 8), .inl (cI, 800, .inl (fun _ => (0 : Int32)))), ((x 9), .inl (cI, 800, .inl (fun _ => (0 : Int32)))), ((x 10), .inl (cO, 3, .inr (.inr (.inr (.inr (fun _ => none)))))), (q_1, .inr (10, [.int (0 : Int32), .null, .int (0 : Int32), .null, .null, .int (0 : Int32), .null, .null, .null, .null, .null, .long (0 : Int64)]))] H locs := X
  refine W.widen (k := 1) (n := 12) (Nat.le_of_ble_eq_true rfl) (Nat.le_of_ble_eq_true rfl) ?_
  refine lv_dup hx hb dX11_image_17 rfl ?_
  refine x_cI (own := RX11) (wr := [((x 0), .inr (11, [.ref (x 1), .ref (x 10), .int (0 : Int32), .ref (x 11), .int (0 : Int32), .ref (x 12), .ref (x 34), .ref (x 50), .int (-1 : Int32), .ref (x 66), .ref (x 67), .ref (x 68), .ref (x 76), .ref (x 81), .ref (x 84), .ref (x 89), .ref (x 97)])), ((x 1), .inr (10, [.int (0 : Int32), .ref (x 2), .int (0 : Int32), .ref (x 3), .ref (x 4), .int (0 : Int32), .ref (x 5), .ref (x 6), .ref (x 7), .ref (x 8), .ref (x 9), .long (1 : Int64)])), ((x 2), .inl (cI, 80, .inl (fun _ => (0 : Int32)))), ((x 3), .inl (cI, 24, .inl (fun _ => (0 : Int32)))), ((x 4), .inl (cI, 40, .inl (fun _ => (-1 : Int32)))), ((x 5), .inl (cI, 3200, .inl (fun _ => (-1 : Int32)))), ((x 6), .inl (cI, 16000, .inl (fun _ => (0 : Int32)))), ((x 7), .inl (cI, 160, .inl (fun _ => (0 : Int32)))), ((x 8), .inl (cI, 800, .inl (fun _ => (0 : Int32)))), ((x 9), .inl (cI, 800, .inl (fun _ => (0 : Int32)))), ((x 10), .inl (cO, 3, .inr (.inr (.inr (.inr (fun _ => none))))))]) (As := []) C X hl.1 (c_World_init l D cI cJ cZ cB cO q_1) [11] [0, 1, 2, 3, 4, 5, 6, 7, 8, 9, 10] ⟨rfl, rfl, by decide, by decide, by decide⟩ k_3_13 k_3_14 k_1_14 k_3_15 rfl (n := 0) (by decide +kernel) ⟨Nat.le_of_ble_eq_true rfl, Nat.le_of_ble_eq_true rfl⟩ rfl rfl (Nat.le_of_ble_eq_true rfl) dX11_image_18 ⟨Nat.le_of_ble_eq_true rfl, Nat.le_of_ble_eq_true rfl⟩ (fun u_2 H locs w_4 X => ?_)
  have X : Wd D A s [((x 0), .inr (11, [.ref (x 1), .ref (x 10), .int (0 : Int32), .ref (x 11), .int (0 : Int32), .ref (x 12), .ref (x 34), .ref (x 50), .int (-1 : Int32), .ref (x 66), .ref (x 67), .ref (x 68), .ref (x 76), .ref (x 81), .ref (x 84), .ref (x 89), .ref (x 97)])), ((x 1), .inr (10, [.int (0 : Int32), .ref (x 2), .int (0 : Int32), .ref (x 3), .ref (x 4), .int (0 : Int32), .ref (x 5), .ref (x 6), .ref (x 7), .ref (x 8), .ref (x 9), .long (1 : Int64)])), ((x 2), .inl (cI, 80, .inl (fun _ => (0 : Int32)))), ((x 3), .inl (cI, 24, .inl (fun _ => (0 : Int32)))), ((x 4), .inl (cI, 40, .inl (fun _ => (-1 : Int32)))), ((x 5), .inl (cI, 3200, .inl (fun _ => (-1 : Int32)))), ((x 6), .inl (cI, 16000, .inl (fun _ => (0 : Int32)))), ((x 7), .inl (cI, 160, .inl (fun _ => (0 : Int32)))), ((x 8), .inl (cI, 800, .inl (fun _ => (0 : Int32)))), ((x 9), .inl (cI, 800, .inl (fun _ => (0 : Int32)))), ((x 10), .inl (cO, 3, .inr (.inr (.inr (.inr (fun _ => none)))))), (q_1, .inr (10, [.int (0 : Int32), .ref (u_2 1), .int (0 : Int32), .ref (u_2 2), .ref (u_2 3), .int (0 : Int32), .ref (u_2 4), .ref (u_2 5), .ref (u_2 6), .ref (u_2 7), .ref (u_2 8), .long (1 : Int64)])), ((u_2 1), .inl (cI, 80, .inl (fun _ => (0 : Int32)))), ((u_2 2), .inl (cI, 24, .inl (fun _ => (0 : Int32)))), ((u_2 3), .inl (cI, 40, .inl (fun _ => (-1 : Int32)))), ((u_2 4), .inl (cI, 3200, .inl (fun _ => (-1 : Int32)))), ((u_2 5), .inl (cI, 16000, .inl (fun _ => (0 : Int32)))), ((u_2 6), .inl (cI, 160, .inl (fun _ => (0 : Int32)))), ((u_2 7), .inl (cI, 800, .inl (fun _ => (0 : Int32)))), ((u_2 8), .inl (cI, 800, .inl (fun _ => (0 : Int32))))] H locs := X
  refine W.widen (k := 9) (n := 21116) (Nat.le_of_ble_eq_true rfl) (Nat.le_of_ble_eq_true rfl) ?_
  refine lv_astore_n (lv' := [(1, .ref q_1), (0, .ref (x 0))]) hx hb dX11_image_21 rfl hl (by decide) rfl (fun ls hl => ?_)
  refine lv_aload_n hx hb dX11_image_22 rfl (lv_at hl 0 rfl) ?_
  refine lv_aload_n hx hb dX11_image_23 rfl (lv_at hl 1 rfl) ?_
  refine x_get (own := RX11) (T := TX11) C X 0 rfl rfl 0 (by decide) k_1_15 rfl rfl (v := .ref (x 1)) rfl dX11_image_24 ?_
  refine x_cVv (own := RX11) (wr := [((x 0), .inr (11, [.ref (x 1), .ref (x 10), .int (0 : Int32), .ref (x 11), .int (0 : Int32), .ref (x 12), .ref (x 34), .ref (x 50), .int (-1 : Int32), .ref (x 66), .ref (x 67), .ref (x 68), .ref (x 76), .ref (x 81), .ref (x 84), .ref (x 89), .ref (x 97)])), ((x 10), .inl (cO, 3, .inr (.inr (.inr (.inr (fun _ => none))))))]) (As := [.ref (x 1)]) C X hl.1 (c_copyFrom l D cI cJ cZ cB cO (fun k => match k with | 0 => q_1 | k + 1 => u_2 (k + 1)) (fun k => x (k + 1))) [11, 12, 13, 14, 15, 16, 17, 18, 19, 1, 2, 3, 4, 5, 6, 7, 8, 9] [0, 10] ⟨rfl, rfl, by decide, by decide, by decide⟩ (qb := 0) rfl rfl k_66_7 k_66_8 k_66_9 k_1_14 k_66_10 (n := 1) (by decide +kernel) ⟨Nat.le_of_ble_eq_true rfl, Nat.le_of_ble_eq_true rfl⟩ rfl rfl (Nat.le_of_ble_eq_true rfl) dX11_image_27 ⟨Nat.le_of_ble_eq_true rfl, Nat.le_of_ble_eq_true rfl⟩ (fun u_5 H locs w_7 X => ?_)
  have X : Wd D A s [((x 0), .inr (11, [.ref (x 1), .ref (x 10), .int (0 : Int32), .ref (x 11), .int (0 : Int32), .ref (x 12), .ref (x 34), .ref (x 50), .int (-1 : Int32), .ref (x 66), .ref (x 67), .ref (x 68), .ref (x 76), .ref (x 81), .ref (x 84), .ref (x 89), .ref (x 97)])), ((x 10), .inl (cO, 3, .inr (.inr (.inr (.inr (fun _ => none)))))), (q_1, .inr (10, [.int (0 : Int32), .ref (u_2 1), .int (0 : Int32), .ref (u_2 2), .ref (u_2 3), .int (0 : Int32), .ref (u_2 4), .ref (u_2 5), .ref (u_2 6), .ref (u_2 7), .ref (u_2 8), .long (1 : Int64)]))] H locs := X
  refine W.widen (k := 9) (n := 21116) (Nat.le_of_ble_eq_true rfl) (Nat.le_of_ble_eq_true rfl) ?_
  refine lv_aload_n hx hb dX11_image_30 rfl (lv_at hl 1 rfl) ?_
  refine x_get (own := RX11) (T := TX11) C X 0 rfl rfl 1 (by decide) k_1_16 rfl rfl (v := .ref (x 10)) rfl dX11_image_31 ?_
  refine lv_aload_n hx hb dX11_image_34 rfl (lv_at hl 1 rfl) ?_
  refine x_get (own := RX11) (T := TX11) C X 0 rfl rfl 2 (by decide) k_1_17 rfl rfl (v := .int (0 : Int32)) rfl dX11_image_35 ?_
  refine lv_aload_n hx hb dX11_image_38 rfl (lv_at hl 0 rfl) ?_
  refine x_astq C X 1 4 2 10 rfl rfl rfl rfl (j := 0) rfl (vp_in_nI (n := 0) (by omega) (by omega)) dX11_image_39 (fun H locs X => ?_)
  have X : Wd D A s [((x 0), .inr (11, [.ref (x 1), .ref (x 10), .int (0 : Int32), .ref (x 11), .int (0 : Int32), .ref (x 12), .ref (x 34), .ref (x 50), .int (-1 : Int32), .ref (x 66), .ref (x 67), .ref (x 68), .ref (x 76), .ref (x 81), .ref (x 84), .ref (x 89), .ref (x 97)])), ((x 10), .inl (cO, 3, .inr (.inr (.inr (.inr (va_up (fun _ => none) (0) (some q_1))))))), (q_1, .inr (10, [.int (0 : Int32), .ref (u_2 1), .int (0 : Int32), .ref (u_2 2), .ref (u_2 3), .int (0 : Int32), .ref (u_2 4), .ref (u_2 5), .ref (u_2 6), .ref (u_2 7), .ref (u_2 8), .long (1 : Int64)]))] H locs := X
  refine lv_aload_n hx hb dX11_image_40 rfl (lv_at hl 1 rfl) ?_
  refine lv_dup hx hb dX11_image_41 rfl ?_
  refine x_get (own := RX11) (T := TX11) C X 0 rfl rfl 2 (by decide) k_1_17 rfl rfl (v := .int (0 : Int32)) rfl dX11_image_42 ?_
  refine lv_iconst (v := (1 : Int32)) hx hb dX11_image_45 (by decide) ?_
  refine lv_iadd hx hb dX11_image_46 ?_
  refine x_eqi (show (0 : Int32) + (1 : Int32) = (1 : Int32) from by decide +kernel) ?_
  refine x_put (own := RX11) (T := TX11) C X 0 rfl rfl 2 (by decide) k_1_17 rfl rfl rfl (ty := .int) (v := .int (1 : Int32)) (by decide +kernel) rfl rfl (Nat.le_of_ble_eq_true rfl) dX11_image_47 (fun H locs X => ?_)
  have X : Wd D A s [((x 0), .inr (11, [.ref (x 1), .ref (x 10), .int (1 : Int32), .ref (x 11), .int (0 : Int32), .ref (x 12), .ref (x 34), .ref (x 50), .int (-1 : Int32), .ref (x 66), .ref (x 67), .ref (x 68), .ref (x 76), .ref (x 81), .ref (x 84), .ref (x 89), .ref (x 97)])), ((x 10), .inl (cO, 3, .inr (.inr (.inr (.inr (va_up (fun _ => none) (0) (some q_1))))))), (q_1, .inr (10, [.int (0 : Int32), .ref (u_2 1), .int (0 : Int32), .ref (u_2 2), .ref (u_2 3), .int (0 : Int32), .ref (u_2 4), .ref (u_2 5), .ref (u_2 6), .ref (u_2 7), .ref (u_2 8), .long (1 : Int64)]))] H locs := X
  refine lv_aload_n hx hb dX11_image_50 rfl (lv_at hl 1 rfl) ?_
  refine x_get (own := RX11) (T := TX11) C X 0 rfl rfl 2 (by decide) k_1_17 rfl rfl (v := .int (1 : Int32)) rfl dX11_image_51 ?_
  refine lv_iconst (v := (1 : Int32)) hx hb dX11_image_54 (by decide) ?_
  refine lv_isub hx hb dX11_image_55 ?_
  refine x_eqi (show (1 : Int32) - (1 : Int32) = (0 : Int32) from by decide +kernel) ?_
  exact x_iret C X hr hlk (v := (0 : Int32)) (by first | rfl | decide) (()) [] (by decide) rfl (⟨rfl, trivial⟩) (Nat.le_of_ble_eq_true rfl) (Nat.le_of_ble_eq_true rfl) dX11_image_56
