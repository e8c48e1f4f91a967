theorem k_14_23 : Cond.fieldLink RX11 145 "LuckLinks$World" "rounds" "I" ∈ wsL_law := mr_14 _ (List.mem_of_getElem? (i := 23) rfl)
theorem k_18_16 : Cond.fieldLink RX11 171 "LuckLinks$Law" "rules" "I" ∈ wsL_law := mr_18 _ (List.mem_of_getElem? (i := 16) rfl)
theorem k_30_13 : Cond.fieldLink RX11 174 "LuckLinks$Law" "drifts" "[I" ∈ wsL_law := mr_30 _ (List.mem_of_getElem? (i := 13) rfl)
theorem k_30_14 : Cond.fieldLink RX11 177 "LuckLinks$Law" "lucks" "[I" ∈ wsL_law := mr_30 _ (List.mem_of_getElem? (i := 14) rfl)
theorem k_30_16 : Cond.fieldLink RX11 183 "LuckLinks$Law" "prizes" "[I" ∈ wsL_law := mr_30 _ (List.mem_of_getElem? (i := 16) rfl)
theorem k_30_18 : Cond.methodLink RX11 189 yX3_weightOf ∈ wsL_law := mr_30 _ (List.mem_of_getElem? (i := 18) rfl)
theorem k_30_19 : Cond.instanceMethod yX3_weightOf ∈ wsL_law := mr_30 _ (List.mem_of_getElem? (i := 19) rfl)
theorem k_30_20 : Cond.selects RX3 yX3_weightOf yX3_weightOf ∈ wsL_law := mr_30 _ (List.mem_of_getElem? (i := 20) rfl)
theorem k_30_21 : Cond.code yX3_weightOf cX3_weightOf 2 (some .int) ∈ wsL_law := mr_30 _ (List.mem_of_getElem? (i := 21) rfl)
theorem dX11_count_0 : decode cX11_count 0 = .ok (.iload_n 1, 1) := by decide +kernel
theorem dX11_count_1 : decode cX11_count 1 = .ok (.bipush 10, 2) := by decide +kernel
theorem dX11_count_3 : decode cX11_count 3 = .ok (.bipush 49, 2) := by decide +kernel
theorem dX11_count_5 : decode cX11_count 5 = .ok (.invokestatic 131, 3) := by decide +kernel
theorem dX11_count_8 : decode cX11_count 8 = .ok (.ifCond .eq 15, 3) := by decide +kernel
theorem dX11_count_11 : decode cX11_count 11 = .ok (.aload_n 0, 1) := by decide +kernel
theorem dX11_count_12 : decode cX11_count 12 = .ok (.getfield 10, 3) := by decide +kernel
theorem dX11_count_15 : decode cX11_count 15 = .ok (.iload_n 1, 1) := by decide +kernel
theorem dX11_count_16 : decode cX11_count 16 = .ok (.bipush 10, 2) := by decide +kernel
theorem dX11_count_18 : decode cX11_count 18 = .ok (.isub, 1) := by decide +kernel
theorem dX11_count_19 : decode cX11_count 19 = .ok (.invokevirtual 135, 3) := by decide +kernel
theorem dX11_count_22 : decode cX11_count 22 = .ok (.ireturn, 1) := by decide +kernel
theorem dX11_count_23 : decode cX11_count 23 = .ok (.iload_n 1, 1) := by decide +kernel
theorem dX11_count_24 : decode cX11_count 24 = .ok (.iconst 5, 1) := by decide +kernel
theorem dX11_count_25 : decode cX11_count 25 = .ok (.bipush 7, 2) := by decide +kernel
theorem dX11_count_27 : decode cX11_count 27 = .ok (.invokestatic 131, 3) := by decide +kernel
theorem dX11_count_30 : decode cX11_count 30 = .ok (.ifCond .eq 12, 3) := by decide +kernel
theorem dX11_count_33 : decode cX11_count 33 = .ok (.aload_n 0, 1) := by decide +kernel
theorem dX11_count_34 : decode cX11_count 34 = .ok (.getfield 51, 3) := by decide +kernel
theorem dX11_count_37 : decode cX11_count 37 = .ok (.iload_n 1, 1) := by decide +kernel
theorem dX11_count_38 : decode cX11_count 38 = .ok (.iconst 5, 1) := by decide +kernel
theorem dX11_count_39 : decode cX11_count 39 = .ok (.isub, 1) := by decide +kernel
theorem dX11_count_40 : decode cX11_count 40 = .ok (.iaload, 1) := by decide +kernel
theorem dX11_count_41 : decode cX11_count 41 = .ok (.ireturn, 1) := by decide +kernel
theorem dX11_count_42 : decode cX11_count 42 = .ok (.iload_n 1, 1) := by decide +kernel
theorem dX11_count_43 : decode cX11_count 43 = .ok (.tableswitch 67 0 4 #[33, 41, 49, 57, 62], 33) := by decide +kernel
theorem dX11_count_76 : decode cX11_count 76 = .ok (.aload_n 0, 1) := by decide +kernel
theorem dX11_count_77 : decode cX11_count 77 = .ok (.getfield 10, 3) := by decide +kernel
theorem dX11_count_80 : decode cX11_count 80 = .ok (.getfield 114, 3) := by decide +kernel
theorem dX11_count_83 : decode cX11_count 83 = .ok (.ireturn, 1) := by decide +kernel
theorem dX11_count_84 : decode cX11_count 84 = .ok (.aload_n 0, 1) := by decide +kernel
theorem dX11_count_85 : decode cX11_count 85 = .ok (.getfield 10, 3) := by decide +kernel
theorem dX11_count_88 : decode cX11_count 88 = .ok (.getfield 121, 3) := by decide +kernel
theorem dX11_count_91 : decode cX11_count 91 = .ok (.ireturn, 1) := by decide +kernel
theorem dX11_count_92 : decode cX11_count 92 = .ok (.aload_n 0, 1) := by decide +kernel
theorem dX11_count_93 : decode cX11_count 93 = .ok (.getfield 10, 3) := by decide +kernel
theorem dX11_count_96 : decode cX11_count 96 = .ok (.getfield 145, 3) := by decide +kernel
theorem dX11_count_99 : decode cX11_count 99 = .ok (.ireturn, 1) := by decide +kernel
theorem dX11_count_100 : decode cX11_count 100 = .ok (.aload_n 0, 1) := by decide +kernel
theorem dX11_count_101 : decode cX11_count 101 = .ok (.getfield 28, 3) := by decide +kernel
theorem dX11_count_104 : decode cX11_count 104 = .ok (.ireturn, 1) := by decide +kernel
theorem dX11_count_105 : decode cX11_count 105 = .ok (.aload_n 0, 1) := by decide +kernel
theorem dX11_count_106 : decode cX11_count 106 = .ok (.getfield 20, 3) := by decide +kernel
theorem dX11_count_109 : decode cX11_count 109 = .ok (.ireturn, 1) := by decide +kernel
theorem dX11_count_110 : decode cX11_count 110 = .ok (.iconst (-1), 1) := by decide +kernel
theorem dX11_count_111 : decode cX11_count 111 = .ok (.ireturn, 1) := by decide +kernel
theorem dX11_feedNumber_0 : decode cX11_feedNumber 0 = .ok (.bipush 24, 2) := by decide +kernel
theorem dX11_feedNumber_2 : decode cX11_feedNumber 2 = .ok (.istore_n 2, 1) := by decide +kernel
theorem dX11_feedNumber_3 : decode cX11_feedNumber 3 = .ok (.iload_n 2, 1) := by decide +kernel
theorem dX11_feedNumber_4 : decode cX11_feedNumber 4 = .ok (.ifCond .lt 42, 3) := by decide +kernel
theorem dX11_feedNumber_7 : decode cX11_feedNumber 7 = .ok (.aload_n 0, 1) := by decide +kernel
theorem dX11_feedNumber_8 : decode cX11_feedNumber 8 = .ok (.getfield 28, 3) := by decide +kernel
theorem dX11_feedNumber_11 : decode cX11_feedNumber 11 = .ok (.sipush 700, 3) := by decide +kernel
theorem dX11_feedNumber_14 : decode cX11_feedNumber 14 = .ok (.if_icmp .ge 32, 3) := by decide +kernel
theorem dX11_feedNumber_17 : decode cX11_feedNumber 17 = .ok (.aload_n 0, 1) := by decide +kernel
theorem dX11_feedNumber_18 : decode cX11_feedNumber 18 = .ok (.getfield 24, 3) := by decide +kernel
theorem dX11_feedNumber_21 : decode cX11_feedNumber 21 = .ok (.aload_n 0, 1) := by decide +kernel
theorem dX11_feedNumber_22 : decode cX11_feedNumber 22 = .ok (.getfield 28, 3) := by decide +kernel
theorem dX11_feedNumber_25 : decode cX11_feedNumber 25 = .ok (.iload_n 1, 1) := by decide +kernel
theorem dX11_feedNumber_26 : decode cX11_feedNumber 26 = .ok (.iload_n 2, 1) := by decide +kernel
theorem dX11_feedNumber_27 : decode cX11_feedNumber 27 = .ok (.ishr, 1) := by decide +kernel
theorem dX11_feedNumber_28 : decode cX11_feedNumber 28 = .ok (.i2b, 1) := by decide +kernel
theorem dX11_feedNumber_29 : decode cX11_feedNumber 29 = .ok (.bastore, 1) := by decide +kernel
theorem dX11_feedNumber_30 : decode cX11_feedNumber 30 = .ok (.aload_n 0, 1) := by decide +kernel
theorem dX11_feedNumber_31 : decode cX11_feedNumber 31 = .ok (.dup, 1) := by decide +kernel
theorem dX11_feedNumber_32 : decode cX11_feedNumber 32 = .ok (.getfield 28, 3) := by decide +kernel
theorem dX11_feedNumber_35 : decode cX11_feedNumber 35 = .ok (.iconst 1, 1) := by decide +kernel
theorem dX11_feedNumber_36 : decode cX11_feedNumber 36 = .ok (.iadd, 1) := by decide +kernel
theorem dX11_feedNumber_37 : decode cX11_feedNumber 37 = .ok (.putfield 28, 3) := by decide +kernel
theorem dX11_feedNumber_40 : decode cX11_feedNumber 40 = .ok (.iinc 2 (-8), 3) := by decide +kernel
theorem dX11_feedNumber_43 : decode cX11_feedNumber 43 = .ok (.goto (-40), 3) := by decide +kernel
theorem dX11_feedNumber_46 : decode cX11_feedNumber 46 = .ok (.return_, 1) := by decide +kernel
theorem dX11_restore_0 : decode cX11_restore 0 = .ok (.iload_n 1, 1) := by decide +kernel
theorem dX11_restore_1 : decode cX11_restore 1 = .ok (.iconst 0, 1) := by decide +kernel
theorem dX11_restore_2 : decode cX11_restore 2 = .ok (.aload_n 0, 1) := by decide +kernel
theorem dX11_restore_3 : decode cX11_restore 3 = .ok (.getfield 20, 3) := by decide +kernel
theorem dX11_restore_6 : decode cX11_restore 6 = .ok (.iconst 1, 1) := by decide +kernel
theorem dX11_restore_7 : decode cX11_restore 7 = .ok (.isub, 1) := by decide +kernel
theorem dX11_restore_8 : decode cX11_restore 8 = .ok (.invokestatic 131, 3) := by decide +kernel
theorem dX11_restore_11 : decode cX11_restore 11 = .ok (.ifCond .eq 12, 3) := by decide +kernel
theorem dX11_restore_23 : decode cX11_restore 23 = .ok (.aload_n 0, 1) := by decide +kernel
theorem dX11_restore_24 : decode cX11_restore 24 = .ok (.iconst 0, 1) := by decide +kernel
theorem dX11_restore_25 : decode cX11_restore 25 = .ok (.invokevirtual 110, 3) := by decide +kernel
theorem dX11_restore_28 : decode cX11_restore 28 = .ok (.pop, 1) := by decide +kernel
theorem dX11_restore_29 : decode cX11_restore 29 = .ok (.iconst 0, 1) := by decide +kernel
theorem dX11_restore_30 : decode cX11_restore 30 = .ok (.ireturn, 1) := by decide +kernel
theorem dX11_rule_0 : decode cX11_rule 0 = .ok (.iload_n 1, 1) := by decide +kernel
theorem dX11_rule_1 : decode cX11_rule 1 = .ok (.iconst 0, 1) := by decide +kernel
theorem dX11_rule_2 : decode cX11_rule 2 = .ok (.iconst 3, 1) := by decide +kernel
theorem dX11_rule_3 : decode cX11_rule 3 = .ok (.invokestatic 131, 3) := by decide +kernel
theorem dX11_rule_6 : decode cX11_rule 6 = .ok (.ifCond .eq 13, 3) := by decide +kernel
theorem dX11_rule_9 : decode cX11_rule 9 = .ok (.aload_n 0, 1) := by decide +kernel
theorem dX11_rule_10 : decode cX11_rule 10 = .ok (.getfield 41, 3) := by decide +kernel
theorem dX11_rule_13 : decode cX11_rule 13 = .ok (.getfield 174, 3) := by decide +kernel
theorem dX11_rule_16 : decode cX11_rule 16 = .ok (.iload_n 1, 1) := by decide +kernel
theorem dX11_rule_17 : decode cX11_rule 17 = .ok (.iaload, 1) := by decide +kernel
theorem dX11_rule_18 : decode cX11_rule 18 = .ok (.ireturn, 1) := by decide +kernel
theorem dX11_rule_19 : decode cX11_rule 19 = .ok (.iload_n 1, 1) := by decide +kernel
theorem dX11_rule_20 : decode cX11_rule 20 = .ok (.bipush 10, 2) := by decide +kernel
theorem dX11_rule_22 : decode cX11_rule 22 = .ok (.bipush 13, 2) := by decide +kernel
theorem dX11_rule_24 : decode cX11_rule 24 = .ok (.invokestatic 131, 3) := by decide +kernel
theorem dX11_rule_27 : decode cX11_rule 27 = .ok (.ifCond .eq 16, 3) := by decide +kernel
theorem dX11_rule_30 : decode cX11_rule 30 = .ok (.aload_n 0, 1) := by decide +kernel
theorem dX11_rule_31 : decode cX11_rule 31 = .ok (.getfield 41, 3) := by decide +kernel
theorem dX11_rule_34 : decode cX11_rule 34 = .ok (.getfield 177, 3) := by decide +kernel
theorem dX11_rule_37 : decode cX11_rule 37 = .ok (.iload_n 1, 1) := by decide +kernel
theorem dX11_rule_38 : decode cX11_rule 38 = .ok (.bipush 10, 2) := by decide +kernel
theorem dX11_rule_40 : decode cX11_rule 40 = .ok (.isub, 1) := by decide +kernel
theorem dX11_rule_41 : decode cX11_rule 41 = .ok (.iaload, 1) := by decide +kernel
theorem dX11_rule_42 : decode cX11_rule 42 = .ok (.ireturn, 1) := by decide +kernel
theorem dX11_rule_43 : decode cX11_rule 43 = .ok (.iload_n 1, 1) := by decide +kernel
theorem dX11_rule_44 : decode cX11_rule 44 = .ok (.bipush 20, 2) := by decide +kernel
theorem dX11_rule_46 : decode cX11_rule 46 = .ok (.bipush 22, 2) := by decide +kernel
theorem dX11_rule_48 : decode cX11_rule 48 = .ok (.invokestatic 131, 3) := by decide +kernel
theorem dX11_rule_51 : decode cX11_rule 51 = .ok (.ifCond .eq 16, 3) := by decide +kernel
theorem dX11_rule_54 : decode cX11_rule 54 = .ok (.aload_n 0, 1) := by decide +kernel
theorem dX11_rule_55 : decode cX11_rule 55 = .ok (.getfield 41, 3) := by decide +kernel
theorem dX11_rule_58 : decode cX11_rule 58 = .ok (.getfield 180, 3) := by decide +kernel
theorem dX11_rule_61 : decode cX11_rule 61 = .ok (.iload_n 1, 1) := by decide +kernel
theorem dX11_rule_62 : decode cX11_rule 62 = .ok (.bipush 20, 2) := by decide +kernel
theorem dX11_rule_64 : decode cX11_rule 64 = .ok (.isub, 1) := by decide +kernel
theorem dX11_rule_65 : decode cX11_rule 65 = .ok (.iaload, 1) := by decide +kernel
theorem dX11_rule_66 : decode cX11_rule 66 = .ok (.ireturn, 1) := by decide +kernel
theorem dX11_rule_67 : decode cX11_rule 67 = .ok (.iload_n 1, 1) := by decide +kernel
theorem dX11_rule_68 : decode cX11_rule 68 = .ok (.bipush 31, 2) := by decide +kernel
theorem dX11_rule_70 : decode cX11_rule 70 = .ok (.bipush 50, 2) := by decide +kernel
theorem dX11_rule_72 : decode cX11_rule 72 = .ok (.invokestatic 131, 3) := by decide +kernel
theorem dX11_rule_75 : decode cX11_rule 75 = .ok (.ifCond .eq 16, 3) := by decide +kernel
theorem dX11_rule_78 : decode cX11_rule 78 = .ok (.aload_n 0, 1) := by decide +kernel
theorem dX11_rule_79 : decode cX11_rule 79 = .ok (.getfield 41, 3) := by decide +kernel
theorem dX11_rule_82 : decode cX11_rule 82 = .ok (.getfield 183, 3) := by decide +kernel
theorem dX11_rule_85 : decode cX11_rule 85 = .ok (.iload_n 1, 1) := by decide +kernel
theorem dX11_rule_86 : decode cX11_rule 86 = .ok (.bipush 30, 2) := by decide +kernel
theorem dX11_rule_88 : decode cX11_rule 88 = .ok (.isub, 1) := by decide +kernel
theorem dX11_rule_89 : decode cX11_rule 89 = .ok (.iaload, 1) := by decide +kernel
theorem dX11_rule_90 : decode cX11_rule 90 = .ok (.ireturn, 1) := by decide +kernel
theorem dX11_rule_91 : decode cX11_rule 91 = .ok (.iload_n 1, 1) := by decide +kernel
theorem dX11_rule_92 : decode cX11_rule 92 = .ok (.bipush 61, 2) := by decide +kernel
theorem dX11_rule_94 : decode cX11_rule 94 = .ok (.bipush 80, 2) := by decide +kernel
theorem dX11_rule_96 : decode cX11_rule 96 = .ok (.invokestatic 131, 3) := by decide +kernel
theorem dX11_rule_99 : decode cX11_rule 99 = .ok (.ifCond .eq 16, 3) := by decide +kernel
theorem dX11_rule_102 : decode cX11_rule 102 = .ok (.aload_n 0, 1) := by decide +kernel
theorem dX11_rule_103 : decode cX11_rule 103 = .ok (.getfield 41, 3) := by decide +kernel
theorem dX11_rule_106 : decode cX11_rule 106 = .ok (.getfield 186, 3) := by decide +kernel
theorem dX11_rule_109 : decode cX11_rule 109 = .ok (.iload_n 1, 1) := by decide +kernel
theorem dX11_rule_110 : decode cX11_rule 110 = .ok (.bipush 60, 2) := by decide +kernel
theorem dX11_rule_112 : decode cX11_rule 112 = .ok (.isub, 1) := by decide +kernel
theorem dX11_rule_113 : decode cX11_rule 113 = .ok (.iaload, 1) := by decide +kernel
theorem dX11_rule_114 : decode cX11_rule 114 = .ok (.ireturn, 1) := by decide +kernel
theorem dX11_rule_115 : decode cX11_rule 115 = .ok (.iload_n 1, 1) := by decide +kernel
theorem dX11_rule_116 : decode cX11_rule 116 = .ok (.bipush 100, 2) := by decide +kernel
theorem dX11_rule_118 : decode cX11_rule 118 = .ok (.sipush 139, 3) := by decide +kernel
theorem dX11_rule_121 : decode cX11_rule 121 = .ok (.invokestatic 131, 3) := by decide +kernel
theorem dX11_rule_124 : decode cX11_rule 124 = .ok (.ifCond .eq 15, 3) := by decide +kernel
theorem dX11_rule_127 : decode cX11_rule 127 = .ok (.aload_n 0, 1) := by decide +kernel
theorem dX11_rule_128 : decode cX11_rule 128 = .ok (.getfield 41, 3) := by decide +kernel
theorem dX11_rule_131 : decode cX11_rule 131 = .ok (.iload_n 1, 1) := by decide +kernel
theorem dX11_rule_132 : decode cX11_rule 132 = .ok (.bipush 100, 2) := by decide +kernel
theorem dX11_rule_134 : decode cX11_rule 134 = .ok (.isub, 1) := by decide +kernel
theorem dX11_rule_135 : decode cX11_rule 135 = .ok (.invokevirtual 189, 3) := by decide +kernel
theorem dX11_rule_138 : decode cX11_rule 138 = .ok (.ireturn, 1) := by decide +kernel
theorem dX11_rule_139 : decode cX11_rule 139 = .ok (.iload_n 1, 1) := by decide +kernel
theorem dX11_rule_140 : decode cX11_rule 140 = .ok (.sipush 200, 3) := by decide +kernel
theorem dX11_rule_143 : decode cX11_rule 143 = .ok (.if_icmp .ne 13, 3) := by decide +kernel
theorem dX11_rule_146 : decode cX11_rule 146 = .ok (.aload_n 0, 1) := by decide +kernel
theorem dX11_rule_147 : decode cX11_rule 147 = .ok (.getfield 41, 3) := by decide +kernel
theorem dX11_rule_150 : decode cX11_rule 150 = .ok (.getfield 171, 3) := by decide +kernel
theorem dX11_rule_153 : decode cX11_rule 153 = .ok (.goto 4, 3) := by decide +kernel
theorem dX11_rule_156 : decode cX11_rule 156 = .ok (.iconst (-1), 1) := by decide +kernel
theorem dX11_rule_157 : decode cX11_rule 157 = .ok (.ireturn, 1) := by decide +kernel
theorem dX3_weightOf_0 : decode cX3_weightOf 0 = .ok (.iload_n 1, 1) := by decide +kernel
theorem dX3_weightOf_1 : decode cX3_weightOf 1 = .ok (.ifCond .lt 18, 3) := by decide +kernel
theorem dX3_weightOf_4 : decode cX3_weightOf 4 = .ok (.iload_n 1, 1) := by decide +kernel
theorem dX3_weightOf_5 : decode cX3_weightOf 5 = .ok (.bipush 40, 2) := by decide +kernel
theorem dX3_weightOf_7 : decode cX3_weightOf 7 = .ok (.if_icmp .gt 12, 3) := by decide +kernel
theorem dX3_weightOf_10 : decode cX3_weightOf 10 = .ok (.aload_n 0, 1) := by decide +kernel
theorem dX3_weightOf_11 : decode cX3_weightOf 11 = .ok (.getfield 34, 3) := by decide +kernel
theorem dX3_weightOf_14 : decode cX3_weightOf 14 = .ok (.iload_n 1, 1) := by decide +kernel
theorem dX3_weightOf_15 : decode cX3_weightOf 15 = .ok (.iaload, 1) := by decide +kernel
theorem dX3_weightOf_16 : decode cX3_weightOf 16 = .ok (.goto 4, 3) := by decide +kernel
theorem dX3_weightOf_19 : decode cX3_weightOf 19 = .ok (.iconst 1, 1) := by decide +kernel
theorem dX3_weightOf_20 : decode cX3_weightOf 20 = .ok (.ireturn, 1) := by decide +kernel
set_option maxHeartbeats 4000000 in
set_option maxRecDepth 100000 in
theorem c_weightOf (l : Launch) (D : va_G) (cI cJ cZ cB : ClassId) (cO : ClassId) (g : Nat → Nat) (v : Int32) :
    CI l D [(cI, .int), (cJ, .long), (cZ, .boolean), (cB, .byte), (cO, .object "LuckLinks$World")] yX3_weightOf cX3_weightOf 2 (some .int) ({ frames := 0, cells := 0, slots := 0, locals := 0 } : Room) [.ref (g 0), .int v] [((g 0), .inr (3, [.int (0 : Int32), .ref (g 1), .ref (g 2), .ref (g 3), .ref (g 4), .ref (g 5), .ref (g 6), .ref (g 7), .int (0 : Int32), .ref (g 8), .ref (g 9), .ref (g 10), .int (0 : Int32), .ref (g 11), .ref (g 12), .ref (g 13), .ref (g 14), .int (0 : Int32), .ref (g 15)])), ((g 7), .inl (cI, 41, .inl (fun _ => (1 : Int32))))] (fun (r : Int32) (u : Unit) => (r = (1 : Int32) ∧ True)) (fun (_ : Unit) => []) := by
  intro sz
  refine body_of (y := yX3_weightOf) (cc := cX3_weightOf) (maxL := 2) (ret := (some .int)) (rm := ({ frames := 0, cells := 0, slots := 0, locals := 0 } : Room)) (wc := [((g 0), .inr (3, [.int (0 : Int32), .ref (g 1), .ref (g 2), .ref (g 3), .ref (g 4), .ref (g 5), .ref (g 6), .ref (g 7), .int (0 : Int32), .ref (g 8), .ref (g 9), .ref (g 10), .int (0 : Int32), .ref (g 11), .ref (g 12), .ref (g 13), .ref (g 14), .int (0 : Int32), .ref (g 15)])), ((g 7), .inl (cI, 41, .inl (fun _ => (1 : Int32))))]) (tys := [(cI, .int), (cJ, .long), (cZ, .boolean), (cB, .byte), (cO, .object "LuckLinks$World")]) (D := D) (sz := sz) (own := RX3) (av := [.ref (g 0), .int v]) (Qc := fun A => va_Qi (fun (r : Int32) (u : Unit) => (r = (1 : Int32) ∧ True)) (fun u t => Aft D A ((fun (_ : Unit) => []) u) t) A) (by decide) rfl (Nat.le_of_ble_eq_true rfl) (fun p e s m below meth c A ls C hr hlk hin X hl => ?_)
  have hx := C.1
  have hb := C.2.1
  have hown := C.2.2.2.1
  have hts := C.2.2.2.2.1
  have hl : lv_has ls 2 [(0, .ref (g 0)), (1, .int v)] := hl
  show W p l e _ s m _ below meth c s.heap [] 0 0 (MQ below (va_Qi (fun (r : Int32) (u : Unit) => (r = (1 : Int32) ∧ True)) (fun u t => Aft D A ((fun (_ : Unit) => []) u) t) A) ([.ref (g 0), .int v] : List Value).toArray s 0 0 A) (F0 m 0 ls [])
  have X : Wd D A s [((g 0), .inr (3, [.int (0 : Int32), .ref (g 1), .ref (g 2), .ref (g 3), .ref (g 4), .ref (g 5), .ref (g 6), .ref (g 7), .int (0 : Int32), .ref (g 8), .ref (g 9), .ref (g 10), .int (0 : Int32), .ref (g 11), .ref (g 12), .ref (g 13), .ref (g 14), .int (0 : Int32), .ref (g 15)])), ((g 7), .inl (cI, 41, .inl (fun _ => (1 : Int32))))] s.heap [] := X
  obtain ⟨H, locs, eH, eL⟩ : ∃ H locs, H = s.heap ∧ locs = ([] : List Loc) := ⟨_, _, rfl, rfl⟩
  rw [← eH, ← eL] at X ⊢
  clear eH eL
  refine lv_iload_n hx hb dX3_weightOf_0 rfl (lv_at hl 1 rfl) ?_
  refine lv_if_lt (tgt := 19) hx hb dX3_weightOf_1 (by decide) (fun c_1 => ?_) (fun c_1 => ?_)
  · have fc_1 : (v).toInt < (0 : Int) := i_lt c_1
    refine lv_iconst (v := (1 : Int32)) hx hb dX3_weightOf_19 (by decide) ?_
    exact x_iret C X hr hlk (v := (1 : Int32)) (by first | rfl | decide) (()) [] (by decide) rfl (⟨rfl, trivial⟩) (Nat.le_of_ble_eq_true rfl) (Nat.le_of_ble_eq_true rfl) dX3_weightOf_20
  · have fc_1 : (0 : Int) ≤ (v).toInt := i_nlt c_1
    refine lv_iload_n hx hb dX3_weightOf_4 rfl (lv_at hl 1 rfl) ?_
    refine lv_bipush (v := (40 : Int32)) hx hb dX3_weightOf_5 (by decide) ?_
    refine lv_icmp_gt (tgt := 19) hx hb dX3_weightOf_7 (by decide) (fun c_2 => ?_) (fun c_2 => ?_)
    · have fc_2 : (40 : Int) < (v).toInt := i_lt c_2
      refine lv_iconst (v := (1 : Int32)) hx hb dX3_weightOf_19 (by decide) ?_
      exact x_iret C X hr hlk (v := (1 : Int32)) (by first | rfl | decide) (()) [] (by decide) rfl (⟨rfl, trivial⟩) (Nat.le_of_ble_eq_true rfl) (Nat.le_of_ble_eq_true rfl) dX3_weightOf_20
    · have fc_2 : (v).toInt ≤ (40 : Int) := i_nlt c_2
      refine lv_aload_n hx hb dX3_weightOf_10 rfl (lv_at hl 0 rfl) ?_
      refine x_get (own := RX3) (T := TX3) C X 0 rfl rfl 7 (by decide) k_5_13 rfl rfl (v := .ref (g 7)) rfl dX3_weightOf_11 ?_
      refine lv_iload_n hx hb dX3_weightOf_14 rfl (lv_at hl 1 rfl) ?_
      refine x_iald C X 1 0 rfl rfl (j := (v).toInt.toNat) rfl (vp_in_iff.mpr ⟨by omega, by omega⟩) (v := (1 : Int32)) (rfl) dX3_weightOf_15 ?_
      refine lv_goto (tgt := 20) hx hb dX3_weightOf_16 (by decide) ?_
      exact x_iret C X hr hlk (v := (1 : Int32)) (by first | rfl | decide) (()) [] (by decide) rfl (⟨rfl, trivial⟩) (Nat.le_of_ble_eq_true rfl) (Nat.le_of_ble_eq_true rfl) dX3_weightOf_20
set_option maxHeartbeats 4000000 in
set_option maxRecDepth 100000 in
theorem cx_rule (l : Launch) (D : va_G) (cI cJ cZ cB : ClassId) (cO : ClassId) (x : Nat → Nat) (p1 : Int32) :
    CI l D [(cI, .int), (cJ, .long), (cZ, .boolean), (cB, .byte), (cO, .object "LuckLinks$World")] yX11_rule cX11_rule 2 (some .int) ({ frames := 1, cells := 0, slots := 0, locals := 22 } : Room) [.ref (x 0), .int p1] [((x 0), .inr (11, [.ref (x 1), .ref (x 10), .int (0 : Int32), .ref (x 11), .int (0 : Int32), .ref (x 12), .ref (x 34), .ref (x 50), .int (-1 : Int32), .ref (x 66), .ref (x 67), .ref (x 68), .ref (x 76), .ref (x 81), .ref (x 84), .ref (x 89), .ref (x 97)])), ((x 34), .inr (3, [.int (0 : Int32), .ref (x 35), .ref (x 36), .ref (x 37), .ref (x 38), .ref (x 39), .ref (x 40), .ref (x 41), .int (0 : Int32), .ref (x 42), .ref (x 43), .ref (x 44), .int (0 : Int32), .ref (x 45), .ref (x 46), .ref (x 47), .ref (x 48), .int (0 : Int32), .ref (x 49)])), ((x 35), .inl (cI, 4, .inl (fun _ => (0 : Int32)))), ((x 36), .inl (cI, 4, .inl (fun _ => (0 : Int32)))), ((x 37), .inl (cI, 3, .inl (fun _ => (0 : Int32)))), ((x 38), .inl (cI, 21, .inl (fun _ => (0 : Int32)))), ((x 39), .inl (cI, 21, .inl (fun _ => (0 : Int32)))), ((x 41), .inl (cI, 41, .inl (fun _ => (1 : Int32))))] (fun (r : Int32) (u : Unit) => (r = (0 : Int32) ∧ (0 ≤ p1.toInt ∧ p1.toInt ≤ 3 ∨ 10 ≤ p1.toInt ∧ p1.toInt ≤ 13 ∨ 20 ≤ p1.toInt ∧ p1.toInt ≤ 22 ∨ 31 ≤ p1.toInt ∧ p1.toInt ≤ 50 ∨ 61 ≤ p1.toInt ∧ p1.toInt ≤ 80 ∨ p1.toInt = 200)) ∨ (r = (1 : Int32) ∧ (100 ≤ p1.toInt ∧ p1.toInt ≤ 139)) ∨ (r = (-1 : Int32) ∧ ¬ (0 ≤ p1.toInt ∧ p1.toInt ≤ 3 ∨ 10 ≤ p1.toInt ∧ p1.toInt ≤ 13 ∨ 20 ≤ p1.toInt ∧ p1.toInt ≤ 22 ∨ 31 ≤ p1.toInt ∧ p1.toInt ≤ 50 ∨ 61 ≤ p1.toInt ∧ p1.toInt ≤ 80 ∨ p1.toInt = 200 ∨ 100 ≤ p1.toInt ∧ p1.toInt ≤ 139))) (fun (_ : Unit) => []) := by
  intro sz
  refine body_of (y := yX11_rule) (cc := cX11_rule) (maxL := 2) (ret := (some .int)) (rm := ({ frames := 1, cells := 0, slots := 0, locals := 22 } : Room)) (wc := [((x 0), .inr (11, [.ref (x 1), .ref (x 10), .int (0 : Int32), .ref (x 11), .int (0 : Int32), .ref (x 12), .ref (x 34), .ref (x 50), .int (-1 : Int32), .ref (x 66), .ref (x 67), .ref (x 68), .ref (x 76), .ref (x 81), .ref (x 84), .ref (x 89), .ref (x 97)])), ((x 34), .inr (3, [.int (0 : Int32), .ref (x 35), .ref (x 36), .ref (x 37), .ref (x 38), .ref (x 39), .ref (x 40), .ref (x 41), .int (0 : Int32), .ref (x 42), .ref (x 43), .ref (x 44), .int (0 : Int32), .ref (x 45), .ref (x 46), .ref (x 47), .ref (x 48), .int (0 : Int32), .ref (x 49)])), ((x 35), .inl (cI, 4, .inl (fun _ => (0 : Int32)))), ((x 36), .inl (cI, 4, .inl (fun _ => (0 : Int32)))), ((x 37), .inl (cI, 3, .inl (fun _ => (0 : Int32)))), ((x 38), .inl (cI, 21, .inl (fun _ => (0 : Int32)))), ((x 39), .inl (cI, 21, .inl (fun _ => (0 : Int32)))), ((x 41), .inl (cI, 41, .inl (fun _ => (1 : Int32))))]) (tys := [(cI, .int), (cJ, .long), (cZ, .boolean), (cB, .byte), (cO, .object "LuckLinks$World")]) (D := D) (sz := sz) (own := RX11) (av := [.ref (x 0), .int p1]) (Qc := fun A => va_Qi (fun (r : Int32) (u : Unit) => (r = (0 : Int32) ∧ (0 ≤ p1.toInt ∧ p1.toInt ≤ 3 ∨ 10 ≤ p1.toInt ∧ p1.toInt ≤ 13 ∨ 20 ≤ p1.toInt ∧ p1.toInt ≤ 22 ∨ 31 ≤ p1.toInt ∧ p1.toInt ≤ 50 ∨ 61 ≤ p1.toInt ∧ p1.toInt ≤ 80 ∨ p1.toInt = 200)) ∨ (r = (1 : Int32) ∧ (100 ≤ p1.toInt ∧ p1.toInt ≤ 139)) ∨ (r = (-1 : Int32) ∧ ¬ (0 ≤ p1.toInt ∧ p1.toInt ≤ 3 ∨ 10 ≤ p1.toInt ∧ p1.toInt ≤ 13 ∨ 20 ≤ p1.toInt ∧ p1.toInt ≤ 22 ∨ 31 ≤ p1.toInt ∧ p1.toInt ≤ 50 ∨ 61 ≤ p1.toInt ∧ p1.toInt ≤ 80 ∨ p1.toInt = 200 ∨ 100 ≤ p1.toInt ∧ p1.toInt ≤ 139))) (fun u t => Aft D A ((fun (_ : Unit) => []) u) t) A) (by decide) rfl (Nat.le_of_ble_eq_true rfl) (fun p e s m below meth c A ls C hr hlk hin X hl => ?_)
  have hx := C.1
  have hb := C.2.1
  have hown := C.2.2.2.1
  have hts := C.2.2.2.2.1
  have hl : lv_has ls 2 [(0, .ref (x 0)), (1, .int p1)] := hl
  show W p l e _ s m _ below meth c s.heap [] 0 0 (MQ below (va_Qi (fun (r : Int32) (u : Unit) => (r = (0 : Int32) ∧ (0 ≤ p1.toInt ∧ p1.toInt ≤ 3 ∨ 10 ≤ p1.toInt ∧ p1.toInt ≤ 13 ∨ 20 ≤ p1.toInt ∧ p1.toInt ≤ 22 ∨ 31 ≤ p1.toInt ∧ p1.toInt ≤ 50 ∨ 61 ≤ p1.toInt ∧ p1.toInt ≤ 80 ∨ p1.toInt = 200)) ∨ (r = (1 : Int32) ∧ (100 ≤ p1.toInt ∧ p1.toInt ≤ 139)) ∨ (r = (-1 : Int32) ∧ ¬ (0 ≤ p1.toInt ∧ p1.toInt ≤ 3 ∨ 10 ≤ p1.toInt ∧ p1.toInt ≤ 13 ∨ 20 ≤ p1.toInt ∧ p1.toInt ≤ 22 ∨ 31 ≤ p1.toInt ∧ p1.toInt ≤ 50 ∨ 61 ≤ p1.toInt ∧ p1.toInt ≤ 80 ∨ p1.toInt = 200 ∨ 100 ≤ p1.toInt ∧ p1.toInt ≤ 139))) (fun u t => Aft D A ((fun (_ : Unit) => []) u) t) A) ([.ref (x 0), .int p1] : List Value).toArray s 0 0 A) (F0 m 0 ls [])
  have X : Wd D A s [((x 0), .inr (11, [.ref (x 1), .ref (x 10), .int (0 : Int32), .ref (x 11), .int (0 : Int32), .ref (x 12), .ref (x 34), .ref (x 50), .int (-1 : Int32), .ref (x 66), .ref (x 67), .ref (x 68), .ref (x 76), .ref (x 81), .ref (x 84), .ref (x 89), .ref (x 97)])), ((x 34), .inr (3, [.int (0 : Int32), .ref (x 35), .ref (x 36), .ref (x 37), .ref (x 38), .ref (x 39), .ref (x 40), .ref (x 41), .int (0 : Int32), .ref (x 42), .ref (x 43), .ref (x 44), .int (0 : Int32), .ref (x 45), .ref (x 46), .ref (x 47), .ref (x 48), .int (0 : Int32), .ref (x 49)])), ((x 35), .inl (cI, 4, .inl (fun _ => (0 : Int32)))), ((x 36), .inl (cI, 4, .inl (fun _ => (0 : Int32)))), ((x 37), .inl (cI, 3, .inl (fun _ => (0 : Int32)))), ((x 38), .inl (cI, 21, .inl (fun _ => (0 : Int32)))), ((x 39), .inl (cI, 21, .inl (fun _ => (0 : Int32)))), ((x 41), .inl (cI, 41, .inl (fun _ => (1 : Int32))))] s.heap [] := X
  obtain ⟨H, locs, eH, eL⟩ : ∃ H locs, H = s.heap ∧ locs = ([] : List Loc) := ⟨_, _, rfl, rfl⟩
  rw [← eH, ← eL] at X ⊢
  clear eH eL
  refine lv_iload_n hx hb dX11_rule_0 rfl (lv_at hl 1 rfl) ?_
  refine lv_iconst (v := (0 : Int32)) hx hb dX11_rule_1 (by decide) ?_
  refine lv_iconst (v := (3 : Int32)) hx hb dX11_rule_2 (by decide) ?_
  refine x_cS (own := RX11) (wr := [((x 0), .inr (11, [.ref (x 1), .ref (x 10), .int (0 : Int32), .ref (x 11), .int (0 : Int32), .ref (x 12), .ref (x 34), .ref (x 50), .int (-1 : Int32), .ref (x 66), .ref (x 67), .ref (x 68), .ref (x 76), .ref (x 81), .ref (x 84), .ref (x 89), .ref (x 97)])), ((x 34), .inr (3, [.int (0 : Int32), .ref (x 35), .ref (x 36), .ref (x 37), .ref (x 38), .ref (x 39), .ref (x 40), .ref (x 41), .int (0 : Int32), .ref (x 42), .ref (x 43), .ref (x 44), .int (0 : Int32), .ref (x 45), .ref (x 46), .ref (x 47), .ref (x 48), .int (0 : Int32), .ref (x 49)])), ((x 35), .inl (cI, 4, .inl (fun _ => (0 : Int32)))), ((x 36), .inl (cI, 4, .inl (fun _ => (0 : Int32)))), ((x 37), .inl (cI, 3, .inl (fun _ => (0 : Int32)))), ((x 38), .inl (cI, 21, .inl (fun _ => (0 : Int32)))), ((x 39), .inl (cI, 21, .inl (fun _ => (0 : Int32)))), ((x 41), .inl (cI, 41, .inl (fun _ => (1 : Int32))))]) (As := [.int p1, .int (0 : Int32), .int (3 : Int32)]) C X hl.1 (c_isBetween l D cI cJ cZ cB cO p1 (0 : Int32) (3 : Int32)) [] [0, 1, 2, 3, 4, 5, 6, 7] ⟨rfl, rfl, by decide, by decide, by decide⟩ k_12_5 k_12_6 k_1_2 k_12_7 (n := 3) (by decide +kernel) ⟨Nat.le_of_ble_eq_true rfl, Nat.le_of_ble_eq_true rfl⟩ rfl rfl (Nat.le_of_ble_eq_true rfl) dX11_rule_3 ⟨Nat.le_of_ble_eq_true rfl, Nat.le_of_ble_eq_true rfl⟩ (fun r_2 u_1 H locs w_3 X => ?_)
  have X : Wd D A s [((x 0), .inr (11, [.ref (x 1), .ref (x 10), .int (0 : Int32), .ref (x 11), .int (0 : Int32), .ref (x 12), .ref (x 34), .ref (x 50), .int (-1 : Int32), .ref (x 66), .ref (x 67), .ref (x 68), .ref (x 76), .ref (x 81), .ref (x 84), .ref (x 89), .ref (x 97)])), ((x 34), .inr (3, [.int (0 : Int32), .ref (x 35), .ref (x 36), .ref (x 37), .ref (x 38), .ref (x 39), .ref (x 40), .ref (x 41), .int (0 : Int32), .ref (x 42), .ref (x 43), .ref (x 44), .int (0 : Int32), .ref (x 45), .ref (x 46), .ref (x 47), .ref (x 48), .int (0 : Int32), .ref (x 49)])), ((x 35), .inl (cI, 4, .inl (fun _ => (0 : Int32)))), ((x 36), .inl (cI, 4, .inl (fun _ => (0 : Int32)))), ((x 37), .inl (cI, 3, .inl (fun _ => (0 : Int32)))), ((x 38), .inl (cI, 21, .inl (fun _ => (0 : Int32)))), ((x 39), .inl (cI, 21, .inl (fun _ => (0 : Int32)))), ((x 41), .inl (cI, 41, .inl (fun _ => (1 : Int32))))] H locs := X
  refine W.widen (k := 0) (n := 0) (Nat.le_of_ble_eq_true rfl) (Nat.le_of_ble_eq_true rfl) ?_
  obtain ⟨rfl, fw_3⟩ | ⟨rfl, fw_3⟩ : (r_2 = (1 : Int32) ∧ ((0 : Int) ≤ (p1).toInt ∧ (p1).toInt ≤ (3 : Int))) ∨ (r_2 = (0 : Int32) ∧ ((p1).toInt < (0 : Int) ∨ (3 : Int) < (p1).toInt)) := w_3
  · refine lv_if_eq (tgt := 19) hx hb dX11_rule_6 (by decide) (fun c0 => absurd c0 (by decide)) (fun _ => ?_)
    refine lv_aload_n hx hb dX11_rule_9 rfl (lv_at hl 0 rfl) ?_
    refine x_get (own := RX11) (T := TX11) C X 0 rfl rfl 6 (by decide) k_2_4 rfl rfl (v := .ref (x 34)) rfl dX11_rule_10 ?_
    refine x_get (own := RX11) (T := TX3) C X 1 rfl rfl 1 (by decide) k_30_13 rfl rfl (v := .ref (x 35)) rfl dX11_rule_13 ?_
    refine lv_iload_n hx hb dX11_rule_16 rfl (lv_at hl 1 rfl) ?_
    refine x_iald C X 2 0 rfl rfl (j := (p1).toInt.toNat) rfl (vp_in_iff.mpr ⟨by omega, by omega⟩) (v := (0 : Int32)) (rfl) dX11_rule_17 ?_
    exact x_iret C X hr hlk (v := (0 : Int32)) (by first | rfl | decide) (()) [] (by decide) rfl (Or.inl (⟨rfl, by omega⟩)) (Nat.le_of_ble_eq_true rfl) (Nat.le_of_ble_eq_true rfl) dX11_rule_18
  · refine lv_if_eq (tgt := 19) hx hb dX11_rule_6 (by decide) (fun _ => ?_) (fun c0 => absurd (by decide) c0)
    refine lv_iload_n hx hb dX11_rule_19 rfl (lv_at hl 1 rfl) ?_
    refine lv_bipush (v := (10 : Int32)) hx hb dX11_rule_20 (by decide) ?_
    refine lv_bipush (v := (13 : Int32)) hx hb dX11_rule_22 (by decide) ?_
    refine x_cS (own := RX11) (wr := [((x 0), .inr (11, [.ref (x 1), .ref (x 10), .int (0 : Int32), .ref (x 11), .int (0 : Int32), .ref (x 12), .ref (x 34), .ref (x 50), .int (-1 : Int32), .ref (x 66), .ref (x 67), .ref (x 68), .ref (x 76), .ref (x 81), .ref (x 84), .ref (x 89), .ref (x 97)])), ((x 34), .inr (3, [.int (0 : Int32), .ref (x 35), .ref (x 36), .ref (x 37), .ref (x 38), .ref (x 39), .ref (x 40), .ref (x 41), .int (0 : Int32), .ref (x 42), .ref (x 43), .ref (x 44), .int (0 : Int32), .ref (x 45), .ref (x 46), .ref (x 47), .ref (x 48), .int (0 : Int32), .ref (x 49)])), ((x 35), .inl (cI, 4, .inl (fun _ => (0 : Int32)))), ((x 36), .inl (cI, 4, .inl (fun _ => (0 : Int32)))), ((x 37), .inl (cI, 3, .inl (fun _ => (0 : Int32)))), ((x 38), .inl (cI, 21, .inl (fun _ => (0 : Int32)))), ((x 39), .inl (cI, 21, .inl (fun _ => (0 : Int32)))), ((x 41), .inl (cI, 41, .inl (fun _ => (1 : Int32))))]) (As := [.int p1, .int (10 : Int32), .int (13 : Int32)]) C X hl.1 (c_isBetween l D cI cJ cZ cB cO p1 (10 : Int32) (13 : Int32)) [] [0, 1, 2, 3, 4, 5, 6, 7] ⟨rfl, rfl, by decide, by decide, by decide⟩ k_12_5 k_12_6 k_1_2 k_12_7 (n := 3) (by decide +kernel) ⟨Nat.le_of_ble_eq_true rfl, Nat.le_of_ble_eq_true rfl⟩ rfl rfl (Nat.le_of_ble_eq_true rfl) dX11_rule_24 ⟨Nat.le_of_ble_eq_true rfl, Nat.le_of_ble_eq_true rfl⟩ (fun r_5 u_4 H locs w_6 X => ?_)
    have X : Wd D A s [((x 0), .inr (11, [.ref (x 1), .ref (x 10), .int (0 : Int32), .ref (x 11), .int (0 : Int32), .ref (x 12), .ref (x 34), .ref (x 50), .int (-1 : Int32), .ref (x 66), .ref (x 67), .ref (x 68), .ref (x 76), .ref (x 81), .ref (x 84), .ref (x 89), .ref (x 97)])), ((x 34), .inr (3, [.int (0 : Int32), .ref (x 35), .ref (x 36), .ref (x 37), .ref (x 38), .ref (x 39), .ref (x 40), .ref (x 41), .int (0 : Int32), .ref (x 42), .ref (x 43), .ref (x 44), .int (0 : Int32), .ref (x 45), .ref (x 46), .ref (x 47), .ref (x 48), .int (0 : Int32), .ref (x 49)])), ((x 35), .inl (cI, 4, .inl (fun _ => (0 : Int32)))), ((x 36), .inl (cI, 4, .inl (fun _ => (0 : Int32)))), ((x 37), .inl (cI, 3, .inl (fun _ => (0 : Int32)))), ((x 38), .inl (cI, 21, .inl (fun _ => (0 : Int32)))), ((x 39), .inl (cI, 21, .inl (fun _ => (0 : Int32)))), ((x 41), .inl (cI, 41, .inl (fun _ => (1 : Int32))))] H locs := X
    refine W.widen (k := 0) (n := 0) (Nat.le_of_ble_eq_true rfl) (Nat.le_of_ble_eq_true rfl) ?_
    obtain ⟨rfl, fw_6⟩ | ⟨rfl, fw_6⟩ : (r_5 = (1 : Int32) ∧ ((10 : Int) ≤ (p1).toInt ∧ (p1).toInt ≤ (13 : Int))) ∨ (r_5 = (0 : Int32) ∧ ((p1).toInt < (10 : Int) ∨ (13 : Int) < (p1).toInt)) := w_6
    · refine lv_if_eq (tgt := 43) hx hb dX11_rule_27 (by decide) (fun c0 => absurd c0 (by decide)) (fun _ => ?_)
      refine lv_aload_n hx hb dX11_rule_30 rfl (lv_at hl 0 rfl) ?_
      refine x_get (own := RX11) (T := TX11) C X 0 rfl rfl 6 (by decide) k_2_4 rfl rfl (v := .ref (x 34)) rfl dX11_rule_31 ?_
      refine x_get (own := RX11) (T := TX3) C X 1 rfl rfl 2 (by decide) k_30_14 rfl rfl (v := .ref (x 36)) rfl dX11_rule_34 ?_
      refine lv_iload_n hx hb dX11_rule_37 rfl (lv_at hl 1 rfl) ?_
      refine lv_bipush (v := (10 : Int32)) hx hb dX11_rule_38 (by decide) ?_
      refine lv_isub hx hb dX11_rule_40 ?_
      refine x_iald C X 3 0 rfl rfl (j := (p1 - (10 : Int32)).toInt.toNat) rfl (vp_in_iff.mpr (by have e9 : (p1 - (10 : Int32)).toInt = p1.toInt - 10 := i_sub (y := (10 : Int32)) (by show -2147483648 ≤ p1.toInt - 10; omega) (by show p1.toInt - 10 < 2147483648; omega); omega)) (v := (0 : Int32)) (rfl) dX11_rule_41 ?_
      exact x_iret C X hr hlk (v := (0 : Int32)) (by first | rfl | decide) (()) [] (by decide) rfl (Or.inl (⟨rfl, by omega⟩)) (Nat.le_of_ble_eq_true rfl) (Nat.le_of_ble_eq_true rfl) dX11_rule_42
    · refine lv_if_eq (tgt := 43) hx hb dX11_rule_27 (by decide) (fun _ => ?_) (fun c0 => absurd (by decide) c0)
      refine lv_iload_n hx hb dX11_rule_43 rfl (lv_at hl 1 rfl) ?_
      refine lv_bipush (v := (20 : Int32)) hx hb dX11_rule_44 (by decide) ?_
      refine lv_bipush (v := (22 : Int32)) hx hb dX11_rule_46 (by decide) ?_
      refine x_cS (own := RX11) (wr := [((x 0), .inr (11, [.ref (x 1), .ref (x 10), .int (0 : Int32), .ref (x 11), .int (0 : Int32), .ref (x 12), .ref (x 34), .ref (x 50), .int (-1 : Int32), .ref (x 66), .ref (x 67), .ref (x 68), .ref (x 76), .ref (x 81), .ref (x 84), .ref (x 89), .ref (x 97)])), ((x 34), .inr (3, [.int (0 : Int32), .ref (x 35), .ref (x 36), .ref (x 37), .ref (x 38), .ref (x 39), .ref (x 40), .ref (x 41), .int (0 : Int32), .ref (x 42), .ref (x 43), .ref (x 44), .int (0 : Int32), .ref (x 45), .ref (x 46), .ref (x 47), .ref (x 48), .int (0 : Int32), .ref (x 49)])), ((x 35), .inl (cI, 4, .inl (fun _ => (0 : Int32)))), ((x 36), .inl (cI, 4, .inl (fun _ => (0 : Int32)))), ((x 37), .inl (cI, 3, .inl (fun _ => (0 : Int32)))), ((x 38), .inl (cI, 21, .inl (fun _ => (0 : Int32)))), ((x 39), .inl (cI, 21, .inl (fun _ => (0 : Int32)))), ((x 41), .inl (cI, 41, .inl (fun _ => (1 : Int32))))]) (As := [.int p1, .int (20 : Int32), .int (22 : Int32)]) C X hl.1 (c_isBetween l D cI cJ cZ cB cO p1 (20 : Int32) (22 : Int32)) [] [0, 1, 2, 3, 4, 5, 6, 7] ⟨rfl, rfl, by decide, by decide, by decide⟩ k_12_5 k_12_6 k_1_2 k_12_7 (n := 3) (by decide +kernel) ⟨Nat.le_of_ble_eq_true rfl, Nat.le_of_ble_eq_true rfl⟩ rfl rfl (Nat.le_of_ble_eq_true rfl) dX11_rule_48 ⟨Nat.le_of_ble_eq_true rfl, Nat.le_of_ble_eq_true rfl⟩ (fun r_8 u_7 H locs w_9 X => ?_)
      have X : Wd D A s [((x 0), .inr (11, [.ref (x 1), .ref (x 10), .int (0 : Int32), .ref (x 11), .int (0 : Int32), .ref (x 12), .ref (x 34), .ref (x 50), .int (-1 : Int32), .ref (x 66), .ref (x 67), .ref (x 68), .ref (x 76), .ref (x 81), .ref (x 84), .ref (x 89), .ref (x 97)])), ((x 34), .inr (3, [.int (0 : Int32), .ref (x 35), .ref (x 36), .ref (x 37), .ref (x 38), .ref (x 39), .ref (x 40), .ref (x 41), .int (0 : Int32), .ref (x 42), .ref (x 43), .ref (x 44), .int (0 : Int32), .ref (x 45), .ref (x 46), .ref (x 47), .ref (x 48), .int (0 : Int32), .ref (x 49)])), ((x 35), .inl (cI, 4, .inl (fun _ => (0 : Int32)))), ((x 36), .inl (cI, 4, .inl (fun _ => (0 : Int32)))), ((x 37), .inl (cI, 3, .inl (fun _ => (0 : Int32)))), ((x 38), .inl (cI, 21, .inl (fun _ => (0 : Int32)))), ((x 39), .inl (cI, 21, .inl (fun _ => (0 : Int32)))), ((x 41), .inl (cI, 41, .inl (fun _ => (1 : Int32))))] H locs := X
      refine W.widen (k := 0) (n := 0) (Nat.le_of_ble_eq_true rfl) (Nat.le_of_ble_eq_true rfl) ?_
      obtain ⟨rfl, fw_9⟩ | ⟨rfl, fw_9⟩ : (r_8 = (1 : Int32) ∧ ((20 : Int) ≤ (p1).toInt ∧ (p1).toInt ≤ (22 : Int))) ∨ (r_8 = (0 : Int32) ∧ ((p1).toInt < (20 : Int) ∨ (22 : Int) < (p1).toInt)) := w_9
      · refine lv_if_eq (tgt := 67) hx hb dX11_rule_51 (by decide) (fun c0 => absurd c0 (by decide)) (fun _ => ?_)
        refine lv_aload_n hx hb dX11_rule_54 rfl (lv_at hl 0 rfl) ?_
        refine x_get (own := RX11) (T := TX11) C X 0 rfl rfl 6 (by decide) k_2_4 rfl rfl (v := .ref (x 34)) rfl dX11_rule_55 ?_
        refine x_get (own := RX11) (T := TX3) C X 1 rfl rfl 3 (by decide) k_30_15 rfl rfl (v := .ref (x 37)) rfl dX11_rule_58 ?_
        refine lv_iload_n hx hb dX11_rule_61 rfl (lv_at hl 1 rfl) ?_
        refine lv_bipush (v := (20 : Int32)) hx hb dX11_rule_62 (by decide) ?_
        refine lv_isub hx hb dX11_rule_64 ?_
        refine x_iald C X 4 0 rfl rfl (j := (p1 - (20 : Int32)).toInt.toNat) rfl (vp_in_iff.mpr (by have e9 : (p1 - (20 : Int32)).toInt = p1.toInt - 20 := i_sub (y := (20 : Int32)) (by show -2147483648 ≤ p1.toInt - 20; omega) (by show p1.toInt - 20 < 2147483648; omega); omega)) (v := (0 : Int32)) (rfl) dX11_rule_65 ?_
        exact x_iret C X hr hlk (v := (0 : Int32)) (by first | rfl | decide) (()) [] (by decide) rfl (Or.inl (⟨rfl, by omega⟩)) (Nat.le_of_ble_eq_true rfl) (Nat.le_of_ble_eq_true rfl) dX11_rule_66
      · refine lv_if_eq (tgt := 67) hx hb dX11_rule_51 (by decide) (fun _ => ?_) (fun c0 => absurd (by decide) c0)
        refine lv_iload_n hx hb dX11_rule_67 rfl (lv_at hl 1 rfl) ?_
        refine lv_bipush (v := (31 : Int32)) hx hb dX11_rule_68 (by decide) ?_
        refine lv_bipush (v := (50 : Int32)) hx hb dX11_rule_70 (by decide) ?_
        refine x_cS (own := RX11) (wr := [((x 0), .inr (11, [.ref (x 1), .ref (x 10), .int (0 : Int32), .ref (x 11), .int (0 : Int32), .ref (x 12), .ref (x 34), .ref (x 50), .int (-1 : Int32), .ref (x 66), .ref (x 67), .ref (x 68), .ref (x 76), .ref (x 81), .ref (x 84), .ref (x 89), .ref (x 97)])), ((x 34), .inr (3, [.int (0 : Int32), .ref (x 35), .ref (x 36), .ref (x 37), .ref (x 38), .ref (x 39), .ref (x 40), .ref (x 41), .int (0 : Int32), .ref (x 42), .ref (x 43), .ref (x 44), .int (0 : Int32), .ref (x 45), .ref (x 46), .ref (x 47), .ref (x 48), .int (0 : Int32), .ref (x 49)])), ((x 35), .inl (cI, 4, .inl (fun _ => (0 : Int32)))), ((x 36), .inl (cI, 4, .inl (fun _ => (0 : Int32)))), ((x 37), .inl (cI, 3, .inl (fun _ => (0 : Int32)))), ((x 38), .inl (cI, 21, .inl (fun _ => (0 : Int32)))), ((x 39), .inl (cI, 21, .inl (fun _ => (0 : Int32)))), ((x 41), .inl (cI, 41, .inl (fun _ => (1 : Int32))))]) (As := [.int p1, .int (31 : Int32), .int (50 : Int32)]) C X hl.1 (c_isBetween l D cI cJ cZ cB cO p1 (31 : Int32) (50 : Int32)) [] [0, 1, 2, 3, 4, 5, 6, 7] ⟨rfl, rfl, by decide, by decide, by decide⟩ k_12_5 k_12_6 k_1_2 k_12_7 (n := 3) (by decide +kernel) ⟨Nat.le_of_ble_eq_true rfl, Nat.le_of_ble_eq_true rfl⟩ rfl rfl (Nat.le_of_ble_eq_true rfl) dX11_rule_72 ⟨Nat.le_of_ble_eq_true rfl, Nat.le_of_ble_eq_true rfl⟩ (fun r_11 u_10 H locs w_12 X => ?_)
        have X : Wd D A s [((x 0), .inr (11, [.ref (x 1), .ref (x 10), .int (0 : Int32), .ref (x 11), .int (0 : Int32), .ref (x 12), .ref (x 34), .ref (x 50), .int (-1 : Int32), .ref (x 66), .ref (x 67), .ref (x 68), .ref (x 76), .ref (x 81), .ref (x 84), .ref (x 89), .ref (x 97)])), ((x 34), .inr (3, [.int (0 : Int32), .ref (x 35), .ref (x 36), .ref (x 37), .ref (x 38), .ref (x 39), .ref (x 40), .ref (x 41), .int (0 : Int32), .ref (x 42), .ref (x 43), .ref (x 44), .int (0 : Int32), .ref (x 45), .ref (x 46), .ref (x 47), .ref (x 48), .int (0 : Int32), .ref (x 49)])), ((x 35), .inl (cI, 4, .inl (fun _ => (0 : Int32)))), ((x 36), .inl (cI, 4, .inl (fun _ => (0 : Int32)))), ((x 37), .inl (cI, 3, .inl (fun _ => (0 : Int32)))), ((x 38), .inl (cI, 21, .inl (fun _ => (0 : Int32)))), ((x 39), .inl (cI, 21, .inl (fun _ => (0 : Int32)))), ((x 41), .inl (cI, 41, .inl (fun _ => (1 : Int32))))] H locs := X
        refine W.widen (k := 0) (n := 0) (Nat.le_of_ble_eq_true rfl) (Nat.le_of_ble_eq_true rfl) ?_
        obtain ⟨rfl, fw_12⟩ | ⟨rfl, fw_12⟩ : (r_11 = (1 : Int32) ∧ ((31 : Int) ≤ (p1).toInt ∧ (p1).toInt ≤ (50 : Int))) ∨ (r_11 = (0 : Int32) ∧ ((p1).toInt < (31 : Int) ∨ (50 : Int) < (p1).toInt)) := w_12
        · refine lv_if_eq (tgt := 91) hx hb dX11_rule_75 (by decide) (fun c0 => absurd c0 (by decide)) (fun _ => ?_)
          refine lv_aload_n hx hb dX11_rule_78 rfl (lv_at hl 0 rfl) ?_
          refine x_get (own := RX11) (T := TX11) C X 0 rfl rfl 6 (by decide) k_2_4 rfl rfl (v := .ref (x 34)) rfl dX11_rule_79 ?_
          refine x_get (own := RX11) (T := TX3) C X 1 rfl rfl 4 (by decide) k_30_16 rfl rfl (v := .ref (x 38)) rfl dX11_rule_82 ?_
          refine lv_iload_n hx hb dX11_rule_85 rfl (lv_at hl 1 rfl) ?_
          refine lv_bipush (v := (30 : Int32)) hx hb dX11_rule_86 (by decide) ?_
          refine lv_isub hx hb dX11_rule_88 ?_
          refine x_iald C X 5 0 rfl rfl (j := (p1 - (30 : Int32)).toInt.toNat) rfl (vp_in_iff.mpr (by have e9 : (p1 - (30 : Int32)).toInt = p1.toInt - 30 := i_sub (y := (30 : Int32)) (by show -2147483648 ≤ p1.toInt - 30; omega) (by show p1.toInt - 30 < 2147483648; omega); omega)) (v := (0 : Int32)) (rfl) dX11_rule_89 ?_
          exact x_iret C X hr hlk (v := (0 : Int32)) (by first | rfl | decide) (()) [] (by decide) rfl (Or.inl (⟨rfl, by omega⟩)) (Nat.le_of_ble_eq_true rfl) (Nat.le_of_ble_eq_true rfl) dX11_rule_90
        · refine lv_if_eq (tgt := 91) hx hb dX11_rule_75 (by decide) (fun _ => ?_) (fun c0 => absurd (by decide) c0)
          refine lv_iload_n hx hb dX11_rule_91 rfl (lv_at hl 1 rfl) ?_
          refine lv_bipush (v := (61 : Int32)) hx hb dX11_rule_92 (by decide) ?_
          refine lv_bipush (v := (80 : Int32)) hx hb dX11_rule_94 (by decide) ?_
          refine x_cS (own := RX11) (wr := [((x 0), .inr (11, [.ref (x 1), .ref (x 10), .int (0 : Int32), .ref (x 11), .int (0 : Int32), .ref (x 12), .ref (x 34), .ref (x 50), .int (-1 : Int32), .ref (x 66), .ref (x 67), .ref (x 68), .ref (x 76), .ref (x 81), .ref (x 84), .ref (x 89), .ref (x 97)])), ((x 34), .inr (3, [.int (0 : Int32), .ref (x 35), .ref (x 36), .ref (x 37), .ref (x 38), .ref (x 39), .ref (x 40), .ref (x 41), .int (0 : Int32), .ref (x 42), .ref (x 43), .ref (x 44), .int (0 : Int32), .ref (x 45), .ref (x 46), .ref (x 47), .ref (x 48), .int (0 : Int32), .ref (x 49)])), ((x 35), .inl (cI, 4, .inl (fun _ => (0 : Int32)))), ((x 36), .inl (cI, 4, .inl (fun _ => (0 : Int32)))), ((x 37), .inl (cI, 3, .inl (fun _ => (0 : Int32)))), ((x 38), .inl (cI, 21, .inl (fun _ => (0 : Int32)))), ((x 39), .inl (cI, 21, .inl (fun _ => (0 : Int32)))), ((x 41), .inl (cI, 41, .inl (fun _ => (1 : Int32))))]) (As := [.int p1, .int (61 : Int32), .int (80 : Int32)]) C X hl.1 (c_isBetween l D cI cJ cZ cB cO p1 (61 : Int32) (80 : Int32)) [] [0, 1, 2, 3, 4, 5, 6, 7] ⟨rfl, rfl, by decide, by decide, by decide⟩ k_12_5 k_12_6 k_1_2 k_12_7 (n := 3) (by decide +kernel) ⟨Nat.le_of_ble_eq_true rfl, Nat.le_of_ble_eq_true rfl⟩ rfl rfl (Nat.le_of_ble_eq_true rfl) dX11_rule_96 ⟨Nat.le_of_ble_eq_true rfl, Nat.le_of_ble_eq_true rfl⟩ (fun r_14 u_13 H locs w_15 X => ?_)
          have X : Wd D A s [((x 0), .inr (11, [.ref (x 1), .ref (x 10), .int (0 : Int32), .ref (x 11), .int (0 : Int32), .ref (x 12), .ref (x 34), .ref (x 50), .int (-1 : Int32), .ref (x 66), .ref (x 67), .ref (x 68), .ref (x 76), .ref (x 81), .ref (x 84), .ref (x 89), .ref (x 97)])), ((x 34), .inr (3, [.int (0 : Int32), .ref (x 35), .ref (x 36), .ref (x 37), .ref (x 38), .ref (x 39), .ref (x 40), .ref (x 41), .int (0 : Int32), .ref (x 42), .ref (x 43), .ref (x 44), .int (0 : Int32), .ref (x 45), .ref (x 46), .ref (x 47), .ref (x 48), .int (0 : Int32), .ref (x 49)])), ((x 35), .inl (cI, 4, .inl (fun _ => (0 : Int32)))), ((x 36), .inl (cI, 4, .inl (fun _ => (0 : Int32)))), ((x 37), .inl (cI, 3, .inl (fun _ => (0 : Int32)))), ((x 38), .inl (cI, 21, .inl (fun _ => (0 : Int32)))), ((x 39), .inl (cI, 21, .inl (fun _ => (0 : Int32)))), ((x 41), .inl (cI, 41, .inl (fun _ => (1 : Int32))))] H locs := X
          refine W.widen (k := 0) (n := 0) (Nat.le_of_ble_eq_true rfl) (Nat.le_of_ble_eq_true rfl) ?_
          obtain ⟨rfl, fw_15⟩ | ⟨rfl, fw_15⟩ : (r_14 = (1 : Int32) ∧ ((61 : Int) ≤ (p1).toInt ∧ (p1).toInt ≤ (80 : Int))) ∨ (r_14 = (0 : Int32) ∧ ((p1).toInt < (61 : Int) ∨ (80 : Int) < (p1).toInt)) := w_15
          · refine lv_if_eq (tgt := 115) hx hb dX11_rule_99 (by decide) (fun c0 => absurd c0 (by decide)) (fun _ => ?_)
            refine lv_aload_n hx hb dX11_rule_102 rfl (lv_at hl 0 rfl) ?_
            refine x_get (own := RX11) (T := TX11) C X 0 rfl rfl 6 (by decide) k_2_4 rfl rfl (v := .ref (x 34)) rfl dX11_rule_103 ?_
            refine x_get (own := RX11) (T := TX3) C X 1 rfl rfl 5 (by decide) k_30_17 rfl rfl (v := .ref (x 39)) rfl dX11_rule_106 ?_
            refine lv_iload_n hx hb dX11_rule_109 rfl (lv_at hl 1 rfl) ?_
            refine lv_bipush (v := (60 : Int32)) hx hb dX11_rule_110 (by decide) ?_
            refine lv_isub hx hb dX11_rule_112 ?_
            refine x_iald C X 6 0 rfl rfl (j := (p1 - (60 : Int32)).toInt.toNat) rfl (vp_in_iff.mpr (by have e9 : (p1 - (60 : Int32)).toInt = p1.toInt - 60 := i_sub (y := (60 : Int32)) (by show -2147483648 ≤ p1.toInt - 60; omega) (by show p1.toInt - 60 < 2147483648; omega); omega)) (v := (0 : Int32)) (rfl) dX11_rule_113 ?_
            exact x_iret C X hr hlk (v := (0 : Int32)) (by first | rfl | decide) (()) [] (by decide) rfl (Or.inl (⟨rfl, by omega⟩)) (Nat.le_of_ble_eq_true rfl) (Nat.le_of_ble_eq_true rfl) dX11_rule_114
          · refine lv_if_eq (tgt := 115) hx hb dX11_rule_99 (by decide) (fun _ => ?_) (fun c0 => absurd (by decide) c0)
            refine lv_iload_n hx hb dX11_rule_115 rfl (lv_at hl 1 rfl) ?_
            refine lv_bipush (v := (100 : Int32)) hx hb dX11_rule_116 (by decide) ?_
            refine lv_sipush (v := (139 : Int32)) hx hb dX11_rule_118 (by decide) ?_
            refine x_cS (own := RX11) (wr := [((x 0), .inr (11, [.ref (x 1), .ref (x 10), .int (0 : Int32), .ref (x 11), .int (0 : Int32), .ref (x 12), .ref (x 34), .ref (x 50), .int (-1 : Int32), .ref (x 66), .ref (x 67), .ref (x 68), .ref (x 76), .ref (x 81), .ref (x 84), .ref (x 89), .ref (x 97)])), ((x 34), .inr (3, [.int (0 : Int32), .ref (x 35), .ref (x 36), .ref (x 37), .ref (x 38), .ref (x 39), .ref (x 40), .ref (x 41), .int (0 : Int32), .ref (x 42), .ref (x 43), .ref (x 44), .int (0 : Int32), .ref (x 45), .ref (x 46), .ref (x 47), .ref (x 48), .int (0 : Int32), .ref (x 49)])), ((x 35), .inl (cI, 4, .inl (fun _ => (0 : Int32)))), ((x 36), .inl (cI, 4, .inl (fun _ => (0 : Int32)))), ((x 37), .inl (cI, 3, .inl (fun _ => (0 : Int32)))), ((x 38), .inl (cI, 21, .inl (fun _ => (0 : Int32)))), ((x 39), .inl (cI, 21, .inl (fun _ => (0 : Int32)))), ((x 41), .inl (cI, 41, .inl (fun _ => (1 : Int32))))]) (As := [.int p1, .int (100 : Int32), .int (139 : Int32)]) C X hl.1 (c_isBetween l D cI cJ cZ cB cO p1 (100 : Int32) (139 : Int32)) [] [0, 1, 2, 3, 4, 5, 6, 7] ⟨rfl, rfl, by decide, by decide, by decide⟩ k_12_5 k_12_6 k_1_2 k_12_7 (n := 3) (by decide +kernel) ⟨Nat.le_of_ble_eq_true rfl, Nat.le_of_ble_eq_true rfl⟩ rfl rfl (Nat.le_of_ble_eq_true rfl) dX11_rule_121 ⟨Nat.le_of_ble_eq_true rfl, Nat.le_of_ble_eq_true rfl⟩ (fun r_17 u_16 H locs w_18 X => ?_)
            have X : Wd D A s [((x 0), .inr (11, [.ref (x 1), .ref (x 10), .int (0 : Int32), .ref (x 11), .int (0 : Int32), .ref (x 12), .ref (x 34), .ref (x 50), .int (-1 : Int32), .ref (x 66), .ref (x 67), .ref (x 68), .ref (x 76), .ref (x 81), .ref (x 84), .ref (x 89), .ref (x 97)])), ((x 34), .inr (3, [.int (0 : Int32), .ref (x 35), .ref (x 36), .ref (x 37), .ref (x 38), .ref (x 39), .ref (x 40), .ref (x 41), .int (0 : Int32), .ref (x 42), .ref (x 43), .ref (x 44), .int (0 : Int32), .ref (x 45), .ref (x 46), .ref (x 47), .ref (x 48), .int (0 : Int32), .ref (x 49)])), ((x 35), .inl (cI, 4, .inl (fun _ => (0 : Int32)))), ((x 36), .inl (cI, 4, .inl (fun _ => (0 : Int32)))), ((x 37), .inl (cI, 3, .inl (fun _ => (0 : Int32)))), ((x 38), .inl (cI, 21, .inl (fun _ => (0 : Int32)))), ((x 39), .inl (cI, 21, .inl (fun _ => (0 : Int32)))), ((x 41), .inl (cI, 41, .inl (fun _ => (1 : Int32))))] H locs := X
            refine W.widen (k := 0) (n := 0) (Nat.le_of_ble_eq_true rfl) (Nat.le_of_ble_eq_true rfl) ?_
            obtain ⟨rfl, fw_18⟩ | ⟨rfl, fw_18⟩ : (r_17 = (1 : Int32) ∧ ((100 : Int) ≤ (p1).toInt ∧ (p1).toInt ≤ (139 : Int))) ∨ (r_17 = (0 : Int32) ∧ ((p1).toInt < (100 : Int) ∨ (139 : Int) < (p1).toInt)) := w_18
            · refine lv_if_eq (tgt := 139) hx hb dX11_rule_124 (by decide) (fun c0 => absurd c0 (by decide)) (fun _ => ?_)
              refine lv_aload_n hx hb dX11_rule_127 rfl (lv_at hl 0 rfl) ?_
              refine x_get (own := RX11) (T := TX11) C X 0 rfl rfl 6 (by decide) k_2_4 rfl rfl (v := .ref (x 34)) rfl dX11_rule_128 ?_
              refine lv_iload_n hx hb dX11_rule_131 rfl (lv_at hl 1 rfl) ?_
              refine lv_bipush (v := (100 : Int32)) hx hb dX11_rule_132 (by decide) ?_
              refine lv_isub hx hb dX11_rule_134 ?_
              refine x_cV (own := RX11) (wr := [((x 0), .inr (11, [.ref (x 1), .ref (x 10), .int (0 : Int32), .ref (x 11), .int (0 : Int32), .ref (x 12), .ref (x 34), .ref (x 50), .int (-1 : Int32), .ref (x 66), .ref (x 67), .ref (x 68), .ref (x 76), .ref (x 81), .ref (x 84), .ref (x 89), .ref (x 97)])), ((x 35), .inl (cI, 4, .inl (fun _ => (0 : Int32)))), ((x 36), .inl (cI, 4, .inl (fun _ => (0 : Int32)))), ((x 37), .inl (cI, 3, .inl (fun _ => (0 : Int32)))), ((x 38), .inl (cI, 21, .inl (fun _ => (0 : Int32)))), ((x 39), .inl (cI, 21, .inl (fun _ => (0 : Int32))))]) (As := [.int (p1 - (100 : Int32))]) C X hl.1 (c_weightOf l D cI cJ cZ cB cO (fun k => x (k + 34)) (p1 - (100 : Int32))) [1, 7] [0, 2, 3, 4, 5, 6] ⟨rfl, rfl, by decide, by decide, by decide⟩ (qb := 0) rfl rfl k_30_18 k_30_19 k_30_20 k_2_3 k_30_21 (n := 1) (by decide +kernel) ⟨Nat.le_of_ble_eq_true rfl, Nat.le_of_ble_eq_true rfl⟩ rfl rfl (Nat.le_of_ble_eq_true rfl) dX11_rule_135 ⟨Nat.le_of_ble_eq_true rfl, Nat.le_of_ble_eq_true rfl⟩ (fun r_20 u_19 H locs w_21 X => ?_)
              have X : Wd D A s [((x 0), .inr (11, [.ref (x 1), .ref (x 10), .int (0 : Int32), .ref (x 11), .int (0 : Int32), .ref (x 12), .ref (x 34), .ref (x 50), .int (-1 : Int32), .ref (x 66), .ref (x 67), .ref (x 68), .ref (x 76), .ref (x 81), .ref (x 84), .ref (x 89), .ref (x 97)])), ((x 35), .inl (cI, 4, .inl (fun _ => (0 : Int32)))), ((x 36), .inl (cI, 4, .inl (fun _ => (0 : Int32)))), ((x 37), .inl (cI, 3, .inl (fun _ => (0 : Int32)))), ((x 38), .inl (cI, 21, .inl (fun _ => (0 : Int32)))), ((x 39), .inl (cI, 21, .inl (fun _ => (0 : Int32))))] H locs := X
              refine W.widen (k := 0) (n := 0) (Nat.le_of_ble_eq_true rfl) (Nat.le_of_ble_eq_true rfl) ?_
              obtain ⟨rfl, fw_21⟩ : r_20 = (1 : Int32) ∧ True := w_21
              exact x_iret C X hr hlk (v := (1 : Int32)) (by first | rfl | decide) (()) [] (by decide) rfl (Or.inr (Or.inl (⟨rfl, by omega⟩))) (Nat.le_of_ble_eq_true rfl) (Nat.le_of_ble_eq_true rfl) dX11_rule_138
            · refine lv_if_eq (tgt := 139) hx hb dX11_rule_124 (by decide) (fun _ => ?_) (fun c0 => absurd (by decide) c0)
              refine lv_iload_n hx hb dX11_rule_139 rfl (lv_at hl 1 rfl) ?_
              refine lv_sipush (v := (200 : Int32)) hx hb dX11_rule_140 (by decide) ?_
              refine lv_icmp_ne (tgt := 156) hx hb dX11_rule_143 (by decide) (fun c_22 => ?_) (fun c_22 => ?_)
              · have fc_22 : (p1).toInt ≠ (200 : Int) := i_ne c_22
                refine lv_iconst (v := (-1 : Int32)) hx hb dX11_rule_156 (by decide) ?_
                exact x_iret C X hr hlk (v := (-1 : Int32)) (by first | rfl | decide) (()) [] (by decide) rfl (Or.inr (Or.inr (⟨rfl, by omega⟩))) (Nat.le_of_ble_eq_true rfl) (Nat.le_of_ble_eq_true rfl) dX11_rule_157
              · have fc_22 : (p1).toInt = (200 : Int) := i_eq c_22
                refine lv_aload_n hx hb dX11_rule_146 rfl (lv_at hl 0 rfl) ?_
                refine x_get (own := RX11) (T := TX11) C X 0 rfl rfl 6 (by decide) k_2_4 rfl rfl (v := .ref (x 34)) rfl dX11_rule_147 ?_
                refine x_get (own := RX11) (T := TX3) C X 1 rfl rfl 0 (by decide) k_18_16 rfl rfl (v := .int (0 : Int32)) rfl dX11_rule_150 ?_
                refine lv_goto (tgt := 157) hx hb dX11_rule_153 (by decide) ?_
                exact x_iret C X hr hlk (v := (0 : Int32)) (by first | rfl | decide) (()) [] (by decide) rfl (Or.inl (⟨rfl, by omega⟩)) (Nat.le_of_ble_eq_true rfl) (Nat.le_of_ble_eq_true rfl) dX11_rule_157
set_option maxHeartbeats 4000000 in
set_option maxRecDepth 100000 in
theorem cx_count (l : Launch) (D : va_G) (cI cJ cZ cB : ClassId) (cO : ClassId) (x : Nat → Nat) (p1 : Int32) :
    CI l D [(cI, .int), (cJ, .long), (cZ, .boolean), (cB, .byte), (cO, .object "LuckLinks$World")] yX11_count cX11_count 2 (some .int) ({ frames := 3, cells := 0, slots := 0, locals := 63 } : Room) [.ref (x 0), .int p1] [((x 0), .inr (11, [.ref (x 1), .ref (x 10), .int (0 : Int32), .ref (x 11), .int (0 : Int32), .ref (x 12), .ref (x 34), .ref (x 50), .int (-1 : Int32), .ref (x 66), .ref (x 67), .ref (x 68), .ref (x 76), .ref (x 81), .ref (x 84), .ref (x 89), .ref (x 97)])), ((x 1), .inr (10, [.int (0 : Int32), .ref (x 2), .int (0 : Int32), .ref (x 3), .ref (x 4), .int (0 : Int32), .ref (x 5), .ref (x 6), .ref (x 7), .ref (x 8), .ref (x 9), .long (1 : Int64)])), ((x 4), .inl (cI, 40, .inl (fun _ => (-1 : Int32)))), ((x 66), .inl (cI, 3, .inl (fun _ => (0 : Int32))))] (fun (r : Int32) (u : Unit) => (r = (0 : Int32) ∧ (0 ≤ p1.toInt ∧ p1.toInt ≤ 7)) ∨ (r = (-1 : Int32) ∧ (p1.toInt < 0 ∨ 7 < p1.toInt))) (fun (_ : Unit) => []) := by
  intro sz
  refine body_of (y := yX11_count) (cc := cX11_count) (maxL := 2) (ret := (some .int)) (rm := ({ frames := 3, cells := 0, slots := 0, locals := 63 } : Room)) (wc := [((x 0), .inr (11, [.ref (x 1), .ref (x 10), .int (0 : Int32), .ref (x 11), .int (0 : Int32), .ref (x 12), .ref (x 34), .ref (x 50), .int (-1 : Int32), .ref (x 66), .ref (x 67), .ref (x 68), .ref (x 76), .ref (x 81), .ref (x 84), .ref (x 89), .ref (x 97)])), ((x 1), .inr (10, [.int (0 : Int32), .ref (x 2), .int (0 : Int32), .ref (x 3), .ref (x 4), .int (0 : Int32), .ref (x 5), .ref (x 6), .ref (x 7), .ref (x 8), .ref (x 9), .long (1 : Int64)])), ((x 4), .inl (cI, 40, .inl (fun _ => (-1 : Int32)))), ((x 66), .inl (cI, 3, .inl (fun _ => (0 : Int32))))]) (tys := [(cI, .int), (cJ, .long), (cZ, .boolean), (cB, .byte), (cO, .object "LuckLinks$World")]) (D := D) (sz := sz) (own := RX11) (av := [.ref (x 0), .int p1]) (Qc := fun A => va_Qi (fun (r : Int32) (u : Unit) => (r = (0 : Int32) ∧ (0 ≤ p1.toInt ∧ p1.toInt ≤ 7)) ∨ (r = (-1 : Int32) ∧ (p1.toInt < 0 ∨ 7 < p1.toInt))) (fun u t => Aft D A ((fun (_ : Unit) => []) u) t) A) (by decide) rfl (Nat.le_of_ble_eq_true rfl) (fun p e s m below meth c A ls C hr hlk hin X hl => ?_)
  have hx := C.1
  have hb := C.2.1
  have hown := C.2.2.2.1
  have hts := C.2.2.2.2.1
  have hl : lv_has ls 2 [(0, .ref (x 0)), (1, .int p1)] := hl
  show W p l e _ s m _ below meth c s.heap [] 0 0 (MQ below (va_Qi (fun (r : Int32) (u : Unit) => (r = (0 : Int32) ∧ (0 ≤ p1.toInt ∧ p1.toInt ≤ 7)) ∨ (r = (-1 : Int32) ∧ (p1.toInt < 0 ∨ 7 < p1.toInt))) (fun u t => Aft D A ((fun (_ : Unit) => []) u) t) A) ([.ref (x 0), .int p1] : List Value).toArray s 0 0 A) (F0 m 0 ls [])
  have X : Wd D A s [((x 0), .inr (11, [.ref (x 1), .ref (x 10), .int (0 : Int32), .ref (x 11), .int (0 : Int32), .ref (x 12), .ref (x 34), .ref (x 50), .int (-1 : Int32), .ref (x 66), .ref (x 67), .ref (x 68), .ref (x 76), .ref (x 81), .ref (x 84), .ref (x 89), .ref (x 97)])), ((x 1), .inr (10, [.int (0 : Int32), .ref (x 2), .int (0 : Int32), .ref (x 3), .ref (x 4), .int (0 : Int32), .ref (x 5), .ref (x 6), .ref (x 7), .ref (x 8), .ref (x 9), .long (1 : Int64)])), ((x 4), .inl (cI, 40, .inl (fun _ => (-1 : Int32)))), ((x 66), .inl (cI, 3, .inl (fun _ => (0 : Int32))))] s.heap [] := X
  obtain ⟨H, locs, eH, eL⟩ : ∃ H locs, H = s.heap ∧ locs = ([] : List Loc) := ⟨_, _, rfl, rfl⟩
  rw [← eH, ← eL] at X ⊢
  clear eH eL
  refine lv_iload_n hx hb dX11_count_0 rfl (lv_at hl 1 rfl) ?_
  refine lv_bipush (v := (10 : Int32)) hx hb dX11_count_1 (by decide) ?_
  refine lv_bipush (v := (49 : Int32)) hx hb dX11_count_3 (by decide) ?_
  refine x_cS (own := RX11) (wr := [((x 0), .inr (11, [.ref (x 1), .ref (x 10), .int (0 : Int32), .ref (x 11), .int (0 : Int32), .ref (x 12), .ref (x 34), .ref (x 50), .int (-1 : Int32), .ref (x 66), .ref (x 67), .ref (x 68), .ref (x 76), .ref (x 81), .ref (x 84), .ref (x 89), .ref (x 97)])), ((x 1), .inr (10, [.int (0 : Int32), .ref (x 2), .int (0 : Int32), .ref (x 3), .ref (x 4), .int (0 : Int32), .ref (x 5), .ref (x 6), .ref (x 7), .ref (x 8), .ref (x 9), .long (1 : Int64)])), ((x 4), .inl (cI, 40, .inl (fun _ => (-1 : Int32)))), ((x 66), .inl (cI, 3, .inl (fun _ => (0 : Int32))))]) (As := [.int p1, .int (10 : Int32), .int (49 : Int32)]) C X hl.1 (c_isBetween l D cI cJ cZ cB cO p1 (10 : Int32) (49 : Int32)) [] [0, 1, 2, 3] ⟨rfl, rfl, by decide, by decide, by decide⟩ k_12_5 k_12_6 k_1_2 k_12_7 (n := 3) (by decide +kernel) ⟨Nat.le_of_ble_eq_true rfl, Nat.le_of_ble_eq_true rfl⟩ rfl rfl (Nat.le_of_ble_eq_true rfl) dX11_count_5 ⟨Nat.le_of_ble_eq_true rfl, Nat.le_of_ble_eq_true rfl⟩ (fun r_2 u_1 H locs w_3 X => ?_)
  have X : Wd D A s [((x 0), .inr (11, [.ref (x 1), .ref (x 10), .int (0 : Int32), .ref (x 11), .int (0 : Int32), .ref (x 12), .ref (x 34), .ref (x 50), .int (-1 : Int32), .ref (x 66), .ref (x 67), .ref (x 68), .ref (x 76), .ref (x 81), .ref (x 84), .ref (x 89), .ref (x 97)])), ((x 1), .inr (10, [.int (0 : Int32), .ref (x 2), .int (0 : Int32), .ref (x 3), .ref (x 4), .int (0 : Int32), .ref (x 5), .ref (x 6), .ref (x 7), .ref (x 8), .ref (x 9), .long (1 : Int64)])), ((x 4), .inl (cI, 40, .inl (fun _ => (-1 : Int32)))), ((x 66), .inl (cI, 3, .inl (fun _ => (0 : Int32))))] H locs := X
  refine W.widen (k := 0) (n := 0) (Nat.le_of_ble_eq_true rfl) (Nat.le_of_ble_eq_true rfl) ?_
  obtain ⟨rfl, fw_3⟩ | ⟨rfl, fw_3⟩ : (r_2 = (1 : Int32) ∧ ((10 : Int) ≤ (p1).toInt ∧ (p1).toInt ≤ (49 : Int))) ∨ (r_2 = (0 : Int32) ∧ ((p1).toInt < (10 : Int) ∨ (49 : Int) < (p1).toInt)) := w_3
  · refine lv_if_eq (tgt := 23) hx hb dX11_count_8 (by decide) (fun c0 => absurd c0 (by decide)) (fun _ => ?_)
    refine lv_aload_n hx hb dX11_count_11 rfl (lv_at hl 0 rfl) ?_
    refine x_get (own := RX11) (T := TX11) C X 0 rfl rfl 0 (by decide) k_1_15 rfl rfl (v := .ref (x 1)) rfl dX11_count_12 ?_
    refine lv_iload_n hx hb dX11_count_15 rfl (lv_at hl 1 rfl) ?_
    refine lv_bipush (v := (10 : Int32)) hx hb dX11_count_16 (by decide) ?_
    refine lv_isub hx hb dX11_count_18 ?_
    refine x_cV (own := RX11) (wr := [((x 0), .inr (11, [.ref (x 1), .ref (x 10), .int (0 : Int32), .ref (x 11), .int (0 : Int32), .ref (x 12), .ref (x 34), .ref (x 50), .int (-1 : Int32), .ref (x 66), .ref (x 67), .ref (x 68), .ref (x 76), .ref (x 81), .ref (x 84), .ref (x 89), .ref (x 97)])), ((x 66), .inl (cI, 3, .inl (fun _ => (0 : Int32))))]) (As := [.int (p1 - (10 : Int32))]) C X hl.1 (c_courseOf l D cI cJ cZ cB cO (fun k => x (k + 1)) (p1 - (10 : Int32))) [1, 2] [0, 3] ⟨rfl, rfl, by decide, by decide, by decide⟩ (qb := 0) rfl rfl k_14_3 k_14_4 k_14_5 k_1_14 k_14_6 (n := 1) (by decide +kernel) ⟨Nat.le_of_ble_eq_true rfl, Nat.le_of_ble_eq_true rfl⟩ rfl rfl (Nat.le_of_ble_eq_true rfl) dX11_count_19 ⟨Nat.le_of_ble_eq_true rfl, Nat.le_of_ble_eq_true rfl⟩ (fun r_5 u_4 H locs w_6 X => ?_)
    have X : Wd D A s [((x 0), .inr (11, [.ref (x 1), .ref (x 10), .int (0 : Int32), .ref (x 11), .int (0 : Int32), .ref (x 12), .ref (x 34), .ref (x 50), .int (-1 : Int32), .ref (x 66), .ref (x 67), .ref (x 68), .ref (x 76), .ref (x 81), .ref (x 84), .ref (x 89), .ref (x 97)])), ((x 66), .inl (cI, 3, .inl (fun _ => (0 : Int32)))), ((x 1), .inr (10, [.int (0 : Int32), .ref (x 2), .int (0 : Int32), .ref (x 3), .ref (x 4), .int (0 : Int32), .ref (x 5), .ref (x 6), .ref (x 7), .ref (x 8), .ref (x 9), .long (1 : Int64)])), ((x 4), .inl (cI, 40, .inl (fun _ => (-1 : Int32))))] H locs := X
    refine W.widen (k := 0) (n := 0) (Nat.le_of_ble_eq_true rfl) (Nat.le_of_ble_eq_true rfl) ?_
    obtain ⟨rfl, fw_6⟩ : r_5 = (-1 : Int32) ∧ True := w_6
    exact x_iret C X hr hlk (v := (-1 : Int32)) (by first | rfl | decide) (()) [] (by decide) rfl (Or.inr (⟨rfl, by omega⟩)) (Nat.le_of_ble_eq_true rfl) (Nat.le_of_ble_eq_true rfl) dX11_count_22
  · refine lv_if_eq (tgt := 23) hx hb dX11_count_8 (by decide) (fun _ => ?_) (fun c0 => absurd (by decide) c0)
    refine lv_iload_n hx hb dX11_count_23 rfl (lv_at hl 1 rfl) ?_
    refine lv_iconst (v := (5 : Int32)) hx hb dX11_count_24 (by decide) ?_
    refine lv_bipush (v := (7 : Int32)) hx hb dX11_count_25 (by decide) ?_
    refine x_cS (own := RX11) (wr := [((x 0), .inr (11, [.ref (x 1), .ref (x 10), .int (0 : Int32), .ref (x 11), .int (0 : Int32), .ref (x 12), .ref (x 34), .ref (x 50), .int (-1 : Int32), .ref (x 66), .ref (x 67), .ref (x 68), .ref (x 76), .ref (x 81), .ref (x 84), .ref (x 89), .ref (x 97)])), ((x 1), .inr (10, [.int (0 : Int32), .ref (x 2), .int (0 : Int32), .ref (x 3), .ref (x 4), .int (0 : Int32), .ref (x 5), .ref (x 6), .ref (x 7), .ref (x 8), .ref (x 9), .long (1 : Int64)])), ((x 4), .inl (cI, 40, .inl (fun _ => (-1 : Int32)))), ((x 66), .inl (cI, 3, .inl (fun _ => (0 : Int32))))]) (As := [.int p1, .int (5 : Int32), .int (7 : Int32)]) C X hl.1 (c_isBetween l D cI cJ cZ cB cO p1 (5 : Int32) (7 : Int32)) [] [0, 1, 2, 3] ⟨rfl, rfl, by decide, by decide, by decide⟩ k_12_5 k_12_6 k_1_2 k_12_7 (n := 3) (by decide +kernel) ⟨Nat.le_of_ble_eq_true rfl, Nat.le_of_ble_eq_true rfl⟩ rfl rfl (Nat.le_of_ble_eq_true rfl) dX11_count_27 ⟨Nat.le_of_ble_eq_true rfl, Nat.le_of_ble_eq_true rfl⟩ (fun r_8 u_7 H locs w_9 X => ?_)
    have X : Wd D A s [((x 0), .inr (11, [.ref (x 1), .ref (x 10), .int (0 : Int32), .ref (x 11), .int (0 : Int32), .ref (x 12), .ref (x 34), .ref (x 50), .int (-1 : Int32), .ref (x 66), .ref (x 67), .ref (x 68), .ref (x 76), .ref (x 81), .ref (x 84), .ref (x 89), .ref (x 97)])), ((x 1), .inr (10, [.int (0 : Int32), .ref (x 2), .int (0 : Int32), .ref (x 3), .ref (x 4), .int (0 : Int32), .ref (x 5), .ref (x 6), .ref (x 7), .ref (x 8), .ref (x 9), .long (1 : Int64)])), ((x 4), .inl (cI, 40, .inl (fun _ => (-1 : Int32)))), ((x 66), .inl (cI, 3, .inl (fun _ => (0 : Int32))))] H locs := X
    refine W.widen (k := 0) (n := 0) (Nat.le_of_ble_eq_true rfl) (Nat.le_of_ble_eq_true rfl) ?_
    obtain ⟨rfl, fw_9⟩ | ⟨rfl, fw_9⟩ : (r_8 = (1 : Int32) ∧ ((5 : Int) ≤ (p1).toInt ∧ (p1).toInt ≤ (7 : Int))) ∨ (r_8 = (0 : Int32) ∧ ((p1).toInt < (5 : Int) ∨ (7 : Int) < (p1).toInt)) := w_9
    · refine lv_if_eq (tgt := 42) hx hb dX11_count_30 (by decide) (fun c0 => absurd c0 (by decide)) (fun _ => ?_)
      refine lv_aload_n hx hb dX11_count_33 rfl (lv_at hl 0 rfl) ?_
      refine x_get (own := RX11) (T := TX11) C X 0 rfl rfl 9 (by decide) k_2_8 rfl rfl (v := .ref (x 66)) rfl dX11_count_34 ?_
      refine lv_iload_n hx hb dX11_count_37 rfl (lv_at hl 1 rfl) ?_
      refine lv_iconst (v := (5 : Int32)) hx hb dX11_count_38 (by decide) ?_
      refine lv_isub hx hb dX11_count_39 ?_
      refine x_iald C X 3 0 rfl rfl (j := (p1 - (5 : Int32)).toInt.toNat) rfl (vp_in_iff.mpr (by have e9 : (p1 - (5 : Int32)).toInt = p1.toInt - 5 := i_sub (y := (5 : Int32)) (by show -2147483648 ≤ p1.toInt - 5; omega) (by show p1.toInt - 5 < 2147483648; omega); omega)) (v := (0 : Int32)) (rfl) dX11_count_40 ?_
      exact x_iret C X hr hlk (v := (0 : Int32)) (by first | rfl | decide) (()) [] (by decide) rfl (Or.inl (⟨rfl, by omega⟩)) (Nat.le_of_ble_eq_true rfl) (Nat.le_of_ble_eq_true rfl) dX11_count_41
    · refine lv_if_eq (tgt := 42) hx hb dX11_count_30 (by decide) (fun _ => ?_) (fun c0 => absurd (by decide) c0)
      refine lv_iload_n hx hb dX11_count_42 rfl (lv_at hl 1 rfl) ?_
      by_cases e_9 : p1 = (0 : Int32)
      · refine lv_tableIn (off := 33) (tgt := 76) hx hb dX11_count_43 (by rw [e_9]; decide) (by rw [e_9]; decide) (by rw [e_9]; rfl) (by decide) ?_
        have fe_9 : (p1).toInt = 0 := i_eq e_9
        refine lv_aload_n hx hb dX11_count_76 rfl (lv_at hl 0 rfl) ?_
        refine x_get (own := RX11) (T := TX11) C X 0 rfl rfl 0 (by decide) k_1_15 rfl rfl (v := .ref (x 1)) rfl dX11_count_77 ?_
        refine x_get (own := RX11) (T := TX10) C X 1 rfl rfl 0 (by decide) k_12_1 rfl rfl (v := .int (0 : Int32)) rfl dX11_count_80 ?_
        exact x_iret C X hr hlk (v := (0 : Int32)) (by first | rfl | decide) (()) [] (by decide) rfl (Or.inl (⟨rfl, by omega⟩)) (Nat.le_of_ble_eq_true rfl) (Nat.le_of_ble_eq_true rfl) dX11_count_83
      by_cases e_10 : p1 = (1 : Int32)
      · refine lv_tableIn (off := 41) (tgt := 84) hx hb dX11_count_43 (by rw [e_10]; decide) (by rw [e_10]; decide) (by rw [e_10]; rfl) (by decide) ?_
        have fe_10 : (p1).toInt = 1 := i_eq e_10
        refine lv_aload_n hx hb dX11_count_84 rfl (lv_at hl 0 rfl) ?_
        refine x_get (own := RX11) (T := TX11) C X 0 rfl rfl 0 (by decide) k_1_15 rfl rfl (v := .ref (x 1)) rfl dX11_count_85 ?_
        refine x_get (own := RX11) (T := TX10) C X 1 rfl rfl 2 (by decide) k_13_10 rfl rfl (v := .int (0 : Int32)) rfl dX11_count_88 ?_
        exact x_iret C X hr hlk (v := (0 : Int32)) (by first | rfl | decide) (()) [] (by decide) rfl (Or.inl (⟨rfl, by omega⟩)) (Nat.le_of_ble_eq_true rfl) (Nat.le_of_ble_eq_true rfl) dX11_count_91
      by_cases e_11 : p1 = (2 : Int32)
      · refine lv_tableIn (off := 49) (tgt := 92) hx hb dX11_count_43 (by rw [e_11]; decide) (by rw [e_11]; decide) (by rw [e_11]; rfl) (by decide) ?_
        have fe_11 : (p1).toInt = 2 := i_eq e_11
        refine lv_aload_n hx hb dX11_count_92 rfl (lv_at hl 0 rfl) ?_
        refine x_get (own := RX11) (T := TX11) C X 0 rfl rfl 0 (by decide) k_1_15 rfl rfl (v := .ref (x 1)) rfl dX11_count_93 ?_
        refine x_get (own := RX11) (T := TX10) C X 1 rfl rfl 5 (by decide) k_14_23 rfl rfl (v := .int (0 : Int32)) rfl dX11_count_96 ?_
        exact x_iret C X hr hlk (v := (0 : Int32)) (by first | rfl | decide) (()) [] (by decide) rfl (Or.inl (⟨rfl, by omega⟩)) (Nat.le_of_ble_eq_true rfl) (Nat.le_of_ble_eq_true rfl) dX11_count_99
      by_cases e_12 : p1 = (3 : Int32)
      · refine lv_tableIn (off := 57) (tgt := 100) hx hb dX11_count_43 (by rw [e_12]; decide) (by rw [e_12]; decide) (by rw [e_12]; rfl) (by decide) ?_
        have fe_12 : (p1).toInt = 3 := i_eq e_12
        refine lv_aload_n hx hb dX11_count_100 rfl (lv_at hl 0 rfl) ?_
        refine x_get (own := RX11) (T := TX11) C X 0 rfl rfl 4 (by decide) k_1_20 rfl rfl (v := .int (0 : Int32)) rfl dX11_count_101 ?_
        exact x_iret C X hr hlk (v := (0 : Int32)) (by first | rfl | decide) (()) [] (by decide) rfl (Or.inl (⟨rfl, by omega⟩)) (Nat.le_of_ble_eq_true rfl) (Nat.le_of_ble_eq_true rfl) dX11_count_104
      by_cases e_13 : p1 = (4 : Int32)
      · refine lv_tableIn (off := 62) (tgt := 105) hx hb dX11_count_43 (by rw [e_13]; decide) (by rw [e_13]; decide) (by rw [e_13]; rfl) (by decide) ?_
        have fe_13 : (p1).toInt = 4 := i_eq e_13
        refine lv_aload_n hx hb dX11_count_105 rfl (lv_at hl 0 rfl) ?_
        refine x_get (own := RX11) (T := TX11) C X 0 rfl rfl 2 (by decide) k_1_17 rfl rfl (v := .int (0 : Int32)) rfl dX11_count_106 ?_
        exact x_iret C X hr hlk (v := (0 : Int32)) (by first | rfl | decide) (()) [] (by decide) rfl (Or.inl (⟨rfl, by omega⟩)) (Nat.le_of_ble_eq_true rfl) (Nat.le_of_ble_eq_true rfl) dX11_count_109
      refine lv_tableOut (tgt := 110) hx hb dX11_count_43 (by have g0 := i_ne (x := p1) (y := (0 : Int32)) (by assumption); have g0 : (p1).toInt ≠ 0 := g0; have g1 := i_ne (x := p1) (y := (1 : Int32)) (by assumption); have g1 : (p1).toInt ≠ 1 := g1; have g2 := i_ne (x := p1) (y := (2 : Int32)) (by assumption); have g2 : (p1).toInt ≠ 2 := g2; have g3 := i_ne (x := p1) (y := (3 : Int32)) (by assumption); have g3 : (p1).toInt ≠ 3 := g3; have g4 := i_ne (x := p1) (y := (4 : Int32)) (by assumption); have g4 : (p1).toInt ≠ 4 := g4; omega) (by decide) ?_
      have ge_14_0 : (p1).toInt ≠ 0 := i_ne (x := p1) (y := (0 : Int32)) (by assumption)
      have ge_14_1 : (p1).toInt ≠ 1 := i_ne (x := p1) (y := (1 : Int32)) (by assumption)
      have ge_14_2 : (p1).toInt ≠ 2 := i_ne (x := p1) (y := (2 : Int32)) (by assumption)
      have ge_14_3 : (p1).toInt ≠ 3 := i_ne (x := p1) (y := (3 : Int32)) (by assumption)
      have ge_14_4 : (p1).toInt ≠ 4 := i_ne (x := p1) (y := (4 : Int32)) (by assumption)
      refine lv_iconst (v := (-1 : Int32)) hx hb dX11_count_110 (by decide) ?_
      exact x_iret C X hr hlk (v := (-1 : Int32)) (by first | rfl | decide) (()) [] (by decide) rfl (Or.inr (⟨rfl, by omega⟩)) (Nat.le_of_ble_eq_true rfl) (Nat.le_of_ble_eq_true rfl) dX11_count_111
set_option maxHeartbeats 4000000 in
set_option maxRecDepth 100000 in
theorem cx_restore (l : Launch) (D : va_G) (cI cJ cZ cB : ClassId) (cO : ClassId) (x : Nat → Nat) (p1 : Int32) :
    CI l D [(cI, .int), (cJ, .long), (cZ, .boolean), (cB, .byte), (cO, .object "LuckLinks$World")] yX11_restore cX11_restore 2 (some .boolean) ({ frames := 1, cells := 0, slots := 0, locals := 22 } : Room) [.ref (x 0), .int p1] [((x 0), .inr (11, [.ref (x 1), .ref (x 10), .int (0 : Int32), .ref (x 11), .int (0 : Int32), .ref (x 12), .ref (x 34), .ref (x 50), .int (-1 : Int32), .ref (x 66), .ref (x 67), .ref (x 68), .ref (x 76), .ref (x 81), .ref (x 84), .ref (x 89), .ref (x 97)])), ((x 66), .inl (cI, 3, .inl (fun _ => (0 : Int32))))] (fun (r : Int32) (u : Unit) => (r = (0 : Int32) ∧ True)) (fun (_ : Unit) => []) := by
  intro sz
  refine body_of (y := yX11_restore) (cc := cX11_restore) (maxL := 2) (ret := (some .boolean)) (rm := ({ frames := 1, cells := 0, slots := 0, locals := 22 } : Room)) (wc := [((x 0), .inr (11, [.ref (x 1), .ref (x 10), .int (0 : Int32), .ref (x 11), .int (0 : Int32), .ref (x 12), .ref (x 34), .ref (x 50), .int (-1 : Int32), .ref (x 66), .ref (x 67), .ref (x 68), .ref (x 76), .ref (x 81), .ref (x 84), .ref (x 89), .ref (x 97)])), ((x 66), .inl (cI, 3, .inl (fun _ => (0 : Int32))))]) (tys := [(cI, .int), (cJ, .long), (cZ, .boolean), (cB, .byte), (cO, .object "LuckLinks$World")]) (D := D) (sz := sz) (own := RX11) (av := [.ref (x 0), .int p1]) (Qc := fun A => va_Qi (fun (r : Int32) (u : Unit) => (r = (0 : Int32) ∧ True)) (fun u t => Aft D A ((fun (_ : Unit) => []) u) t) A) (by decide) rfl (Nat.le_of_ble_eq_true rfl) (fun p e s m below meth c A ls C hr hlk hin X hl => ?_)
  have hx := C.1
  have hb := C.2.1
  have hown := C.2.2.2.1
  have hts := C.2.2.2.2.1
  have hl : lv_has ls 2 [(0, .ref (x 0)), (1, .int p1)] := hl
  show W p l e _ s m _ below meth c s.heap [] 0 0 (MQ below (va_Qi (fun (r : Int32) (u : Unit) => (r = (0 : Int32) ∧ True)) (fun u t => Aft D A ((fun (_ : Unit) => []) u) t) A) ([.ref (x 0), .int p1] : List Value).toArray s 0 0 A) (F0 m 0 ls [])
  have X : Wd D A s [((x 0), .inr (11, [.ref (x 1), .ref (x 10), .int (0 : Int32), .ref (x 11), .int (0 : Int32), .ref (x 12), .ref (x 34), .ref (x 50), .int (-1 : Int32), .ref (x 66), .ref (x 67), .ref (x 68), .ref (x 76), .ref (x 81), .ref (x 84), .ref (x 89), .ref (x 97)])), ((x 66), .inl (cI, 3, .inl (fun _ => (0 : Int32))))] s.heap [] := X
  obtain ⟨H, locs, eH, eL⟩ : ∃ H locs, H = s.heap ∧ locs = ([] : List Loc) := ⟨_, _, rfl, rfl⟩
  rw [← eH, ← eL] at X ⊢
  clear eH eL
  refine lv_iload_n hx hb dX11_restore_0 rfl (lv_at hl 1 rfl) ?_
  refine lv_iconst (v := (0 : Int32)) hx hb dX11_restore_1 (by decide) ?_
  refine lv_aload_n hx hb dX11_restore_2 rfl (lv_at hl 0 rfl) ?_
  refine x_get (own := RX11) (T := TX11) C X 0 rfl rfl 2 (by decide) k_1_17 rfl rfl (v := .int (0 : Int32)) rfl dX11_restore_3 ?_
  refine lv_iconst (v := (1 : Int32)) hx hb dX11_restore_6 (by decide) ?_
  refine lv_isub hx hb dX11_restore_7 ?_
  refine x_eqi (show (0 : Int32) - (1 : Int32) = (-1 : Int32) from by decide +kernel) ?_
  refine x_cS (own := RX11) (wr := [((x 0), .inr (11, [.ref (x 1), .ref (x 10), .int (0 : Int32), .ref (x 11), .int (0 : Int32), .ref (x 12), .ref (x 34), .ref (x 50), .int (-1 : Int32), .ref (x 66), .ref (x 67), .ref (x 68), .ref (x 76), .ref (x 81), .ref (x 84), .ref (x 89), .ref (x 97)])), ((x 66), .inl (cI, 3, .inl (fun _ => (0 : Int32))))]) (As := [.int p1, .int (0 : Int32), .int (-1 : Int32)]) C X hl.1 (c_isBetween l D cI cJ cZ cB cO p1 (0 : Int32) (-1 : Int32)) [] [0, 1] ⟨rfl, rfl, by decide, by decide, by decide⟩ k_12_5 k_12_6 k_1_2 k_12_7 (n := 3) (by decide +kernel) ⟨Nat.le_of_ble_eq_true rfl, Nat.le_of_ble_eq_true rfl⟩ rfl rfl (Nat.le_of_ble_eq_true rfl) dX11_restore_8 ⟨Nat.le_of_ble_eq_true rfl, Nat.le_of_ble_eq_true rfl⟩ (fun r_2 u_1 H locs w_3 X => ?_)
  have X : Wd D A s [((x 0), .inr (11, [.ref (x 1), .ref (x 10), .int (0 : Int32), .ref (x 11), .int (0 : Int32), .ref (x 12), .ref (x 34), .ref (x 50), .int (-1 : Int32), .ref (x 66), .ref (x 67), .ref (x 68), .ref (x 76), .ref (x 81), .ref (x 84), .ref (x 89), .ref (x 97)])), ((x 66), .inl (cI, 3, .inl (fun _ => (0 : Int32))))] H locs := X
  refine W.widen (k := 0) (n := 0) (Nat.le_of_ble_eq_true rfl) (Nat.le_of_ble_eq_true rfl) ?_
  obtain ⟨rfl, fw_3⟩ | ⟨rfl, fw_3⟩ : (r_2 = (1 : Int32) ∧ ((0 : Int) ≤ (p1).toInt ∧ (p1).toInt ≤ (-1 : Int))) ∨ (r_2 = (0 : Int32) ∧ ((p1).toInt < (0 : Int) ∨ (-1 : Int) < (p1).toInt)) := w_3
  · exfalso; omega
  · refine lv_if_eq (tgt := 23) hx hb dX11_restore_11 (by decide) (fun _ => ?_) (fun c0 => absurd (by decide) c0)
    refine lv_aload_n hx hb dX11_restore_23 rfl (lv_at hl 0 rfl) ?_
    refine lv_iconst (v := (0 : Int32)) hx hb dX11_restore_24 (by decide) ?_
    refine x_cV (own := RX11) (wr := []) (As := [.int (0 : Int32)]) C X hl.1 (c_refuse l D cI cJ cZ cB cO x) [0, 1] [] ⟨rfl, rfl, by decide, by decide, by decide⟩ (qb := 0) rfl rfl k_12_8 k_12_9 k_12_10 k_1_2 k_12_11 (n := 1) (by decide +kernel) ⟨Nat.le_of_ble_eq_true rfl, Nat.le_of_ble_eq_true rfl⟩ rfl rfl (Nat.le_of_ble_eq_true rfl) dX11_restore_25 ⟨Nat.le_of_ble_eq_true rfl, Nat.le_of_ble_eq_true rfl⟩ (fun r_5 u_4 H locs w_6 X => ?_)
    have X : Wd D A s [] H locs := X
    refine W.widen (k := 0) (n := 0) (Nat.le_of_ble_eq_true rfl) (Nat.le_of_ble_eq_true rfl) ?_
    obtain ⟨rfl, fw_6⟩ : r_5 = (-1 : Int32) ∧ True := w_6
    refine lv_pop hx hb dX11_restore_28 rfl ?_
    refine lv_iconst (v := (0 : Int32)) hx hb dX11_restore_29 (by decide) ?_
    exact x_iret C X hr hlk (v := (0 : Int32)) (by first | rfl | decide) (()) [] (by decide) rfl (⟨rfl, trivial⟩) (Nat.le_of_ble_eq_true rfl) (Nat.le_of_ble_eq_true rfl) dX11_restore_30
set_option maxHeartbeats 4000000 in
set_option maxRecDepth 100000 in
theorem c_feedNumber (l : Launch) (D : va_G) (cI cJ cZ cB : ClassId) (cO : ClassId) (x : Nat → Nat) (v : Int32) (tp : Nat) (f : Nat → Int32) (ht : tp + 4 ≤ 700) :
    CV l D [(cI, .int), (cJ, .long), (cZ, .boolean), (cB, .byte), (cO, .object "LuckLinks$World")] yX11_feedNumber cX11_feedNumber 3 ({ frames := 0, cells := 0, slots := 0, locals := 0 } : Room) [.ref (x 0), .int v] [((x 0), .inr (11, [.ref (x 1), .ref (x 10), .int (0 : Int32), .ref (x 11), .int (nI tp), .ref (x 12), .ref (x 34), .ref (x 50), .int (-1 : Int32), .ref (x 66), .ref (x 67), .ref (x 68), .ref (x 76), .ref (x 81), .ref (x 84), .ref (x 89), .ref (x 97)])), ((x 11), .inl (cB, 700, .inl (f)))] (fun (u : (Nat → Int32)) => match u with | f2 => (True)) (fun (u : (Nat → Int32)) => match u with | f2 => [((x 0), .inr (11, [.ref (x 1), .ref (x 10), .int (0 : Int32), .ref (x 11), .int (nI (tp + 4)), .ref (x 12), .ref (x 34), .ref (x 50), .int (-1 : Int32), .ref (x 66), .ref (x 67), .ref (x 68), .ref (x 76), .ref (x 81), .ref (x 84), .ref (x 89), .ref (x 97)])), ((x 11), .inl (cB, 700, .inl (f2)))]) := by
  intro sz
  refine body_of (y := yX11_feedNumber) (cc := cX11_feedNumber) (maxL := 3) (ret := none) (rm := ({ frames := 0, cells := 0, slots := 0, locals := 0 } : Room)) (wc := [((x 0), .inr (11, [.ref (x 1), .ref (x 10), .int (0 : Int32), .ref (x 11), .int (nI tp), .ref (x 12), .ref (x 34), .ref (x 50), .int (-1 : Int32), .ref (x 66), .ref (x 67), .ref (x 68), .ref (x 76), .ref (x 81), .ref (x 84), .ref (x 89), .ref (x 97)])), ((x 11), .inl (cB, 700, .inl (f)))]) (tys := [(cI, .int), (cJ, .long), (cZ, .boolean), (cB, .byte), (cO, .object "LuckLinks$World")]) (D := D) (sz := sz) (own := RX11) (av := [.ref (x 0), .int v]) (Qc := fun A => va_Qv (fun (u : (Nat → Int32)) => match u with | f2 => (True)) (fun u t => Aft D A ((fun (u : (Nat → Int32)) => match u with | f2 => [((x 0), .inr (11, [.ref (x 1), .ref (x 10), .int (0 : Int32), .ref (x 11), .int (nI (tp + 4)), .ref (x 12), .ref (x 34), .ref (x 50), .int (-1 : Int32), .ref (x 66), .ref (x 67), .ref (x 68), .ref (x 76), .ref (x 81), .ref (x 84), .ref (x 89), .ref (x 97)])), ((x 11), .inl (cB, 700, .inl (f2)))]) u) t) A) (by decide) rfl (Nat.le_of_ble_eq_true rfl) (fun p e s m below meth c A ls C hr hlk hin X hl => ?_)
  have hx := C.1
  have hb := C.2.1
  have hown := C.2.2.2.1
  have hts := C.2.2.2.2.1
  have hl : lv_has ls 3 [(0, .ref (x 0)), (1, .int v)] := hl
  show W p l e _ s m _ below meth c s.heap [] 0 0 (MQ below (va_Qv (fun (u : (Nat → Int32)) => match u with | f2 => (True)) (fun u t => Aft D A ((fun (u : (Nat → Int32)) => match u with | f2 => [((x 0), .inr (11, [.ref (x 1), .ref (x 10), .int (0 : Int32), .ref (x 11), .int (nI (tp + 4)), .ref (x 12), .ref (x 34), .ref (x 50), .int (-1 : Int32), .ref (x 66), .ref (x 67), .ref (x 68), .ref (x 76), .ref (x 81), .ref (x 84), .ref (x 89), .ref (x 97)])), ((x 11), .inl (cB, 700, .inl (f2)))]) u) t) A) ([.ref (x 0), .int v] : List Value).toArray s 0 0 A) (F0 m 0 ls [])
  have X : Wd D A s [((x 0), .inr (11, [.ref (x 1), .ref (x 10), .int (0 : Int32), .ref (x 11), .int (nI tp), .ref (x 12), .ref (x 34), .ref (x 50), .int (-1 : Int32), .ref (x 66), .ref (x 67), .ref (x 68), .ref (x 76), .ref (x 81), .ref (x 84), .ref (x 89), .ref (x 97)])), ((x 11), .inl (cB, 700, .inl (f)))] s.heap [] := X
  obtain ⟨H, locs, eH, eL⟩ : ∃ H locs, H = s.heap ∧ locs = ([] : List Loc) := ⟨_, _, rfl, rfl⟩
  rw [← eH, ← eL] at X ⊢
  clear eH eL
  refine lv_bipush (v := (24 : Int32)) hx hb dX11_feedNumber_0 (by decide) ?_
  refine lv_istore_n (lv' := [(2, .int (24 : Int32)), (0, .ref (x 0)), (1, .int v)]) hx hb dX11_feedNumber_2 rfl hl (by decide) rfl (fun ls hl => ?_)
  refine lv_iload_n hx hb dX11_feedNumber_3 rfl (lv_at hl 0 rfl) ?_
  refine lv_if_lt (tgt := 46) hx hb dX11_feedNumber_4 (by decide) (fun c0 => absurd c0 (by decide)) (fun _ => ?_)
  refine lv_aload_n hx hb dX11_feedNumber_7 rfl (lv_at hl 1 rfl) ?_
  refine x_get (own := RX11) (T := TX11) C X 0 rfl rfl 4 (by decide) k_1_20 rfl rfl (v := .int (nI (tp))) rfl dX11_feedNumber_8 ?_
  refine lv_sipush (v := (700 : Int32)) hx hb dX11_feedNumber_11 (by decide) ?_
  refine lv_icmp_ge (tgt := 46) hx hb dX11_feedNumber_14 (by decide) (fun c_1 => by exfalso; have h8 : (700 : Int) ≤ ((tp : Nat) : Int) := (by have h9 := i_le c_1; simp only [nI_toInt (n := tp) (by omega)] at h9; exact h9); omega) (fun c_1 => ?_)
  have fc_1 : ((tp : Nat) : Int) < (700 : Int) := (by have h9 := i_nle c_1; simp only [nI_toInt (n := tp) (by omega)] at h9; exact h9)
  refine lv_aload_n hx hb dX11_feedNumber_17 rfl (lv_at hl 1 rfl) ?_
  refine x_get (own := RX11) (T := TX11) C X 0 rfl rfl 3 (by decide) k_1_19 rfl rfl (v := .ref (x 11)) rfl dX11_feedNumber_18 ?_
  refine lv_aload_n hx hb dX11_feedNumber_21 rfl (lv_at hl 1 rfl) ?_
  refine x_get (own := RX11) (T := TX11) C X 0 rfl rfl 4 (by decide) k_1_20 rfl rfl (v := .int (nI (tp))) rfl dX11_feedNumber_22 ?_
  refine lv_iload_n hx hb dX11_feedNumber_25 rfl (lv_at hl 2 rfl) ?_
  refine lv_iload_n hx hb dX11_feedNumber_26 rfl (lv_at hl 0 rfl) ?_
  refine lv_ishr hx hb dX11_feedNumber_27 ?_
  refine lv_i2b (v := ((v >>> ((24 : Int32) &&& 31))).toInt8.toInt32) hx hb dX11_feedNumber_28 rfl ?_
  refine x_bast C X 1 3 rfl rfl (j := tp) (nI_clamp (by omega)) (vp_in_nI (by omega) (by omega)) dX11_feedNumber_29 (fun H locs X => ?_)
  have X : Wd D A s [((x 0), .inr (11, [.ref (x 1), .ref (x 10), .int (0 : Int32), .ref (x 11), .int (nI tp), .ref (x 12), .ref (x 34), .ref (x 50), .int (-1 : Int32), .ref (x 66), .ref (x 67), .ref (x 68), .ref (x 76), .ref (x 81), .ref (x 84), .ref (x 89), .ref (x 97)])), ((x 11), .inl (cB, 700, .inl (upd (f) (tp) (vp_nar .byte ((v >>> ((24 : Int32) &&& 31))).toInt8.toInt32))))] H locs := X
  refine lv_aload_n hx hb dX11_feedNumber_30 rfl (lv_at hl 1 rfl) ?_
  refine lv_dup hx hb dX11_feedNumber_31 rfl ?_
  refine x_get (own := RX11) (T := TX11) C X 0 rfl rfl 4 (by decide) k_1_20 rfl rfl (v := .int (nI (tp))) rfl dX11_feedNumber_32 ?_
  refine lv_iconst (v := (1 : Int32)) hx hb dX11_feedNumber_35 (by decide) ?_
  refine lv_iadd hx hb dX11_feedNumber_36 ?_
  refine x_eqi (show (nI (tp)) + (1 : Int32) = (nI (tp + 1)) from nI_add tp 1) ?_
  refine x_put (own := RX11) (T := TX11) C X 0 rfl rfl 4 (by decide) k_1_20 rfl rfl rfl (ty := .int) (v := .int (nI (tp + 1))) (by decide +kernel) rfl rfl (Nat.le_of_ble_eq_true rfl) dX11_feedNumber_37 (fun H locs X => ?_)
  have X : Wd D A s [((x 0), .inr (11, [.ref (x 1), .ref (x 10), .int (0 : Int32), .ref (x 11), .int (nI (tp + 1)), .ref (x 12), .ref (x 34), .ref (x 50), .int (-1 : Int32), .ref (x 66), .ref (x 67), .ref (x 68), .ref (x 76), .ref (x 81), .ref (x 84), .ref (x 89), .ref (x 97)])), ((x 11), .inl (cB, 700, .inl (upd (f) (tp) (vp_nar .byte ((v >>> ((24 : Int32) &&& 31))).toInt8.toInt32))))] H locs := X
  refine lv_iinc (v := (16 : Int32)) (lv' := [(2, .int (16 : Int32)), (0, .ref (x 0)), (1, .int v)]) hx hb dX11_feedNumber_40 hl (k := 0) rfl (by decide) (by decide) rfl (fun ls hl => ?_)
  refine lv_goto (tgt := 3) hx hb dX11_feedNumber_43 (by decide) ?_
  refine lv_iload_n hx hb dX11_feedNumber_3 rfl (lv_at hl 0 rfl) ?_
  refine lv_if_lt (tgt := 46) hx hb dX11_feedNumber_4 (by decide) (fun c0 => absurd c0 (by decide)) (fun _ => ?_)
  refine lv_aload_n hx hb dX11_feedNumber_7 rfl (lv_at hl 1 rfl) ?_
  refine x_get (own := RX11) (T := TX11) C X 0 rfl rfl 4 (by decide) k_1_20 rfl rfl (v := .int (nI (tp + 1))) rfl dX11_feedNumber_8 ?_
  refine lv_sipush (v := (700 : Int32)) hx hb dX11_feedNumber_11 (by decide) ?_
  refine lv_icmp_ge (tgt := 46) hx hb dX11_feedNumber_14 (by decide) (fun c_2 => by exfalso; have h8 : (700 : Int) ≤ ((tp + 1 : Nat) : Int) := (by have h9 := i_le c_2; simp only [nI_toInt (n := tp + 1) (by omega)] at h9; exact h9); omega) (fun c_2 => ?_)
  have fc_2 : ((tp + 1 : Nat) : Int) < (700 : Int) := (by have h9 := i_nle c_2; simp only [nI_toInt (n := tp + 1) (by omega)] at h9; exact h9)
  refine lv_aload_n hx hb dX11_feedNumber_17 rfl (lv_at hl 1 rfl) ?_
  refine x_get (own := RX11) (T := TX11) C X 0 rfl rfl 3 (by decide) k_1_19 rfl rfl (v := .ref (x 11)) rfl dX11_feedNumber_18 ?_
  refine lv_aload_n hx hb dX11_feedNumber_21 rfl (lv_at hl 1 rfl) ?_
  refine x_get (own := RX11) (T := TX11) C X 0 rfl rfl 4 (by decide) k_1_20 rfl rfl (v := .int (nI (tp + 1))) rfl dX11_feedNumber_22 ?_
  refine lv_iload_n hx hb dX11_feedNumber_25 rfl (lv_at hl 2 rfl) ?_
  refine lv_iload_n hx hb dX11_feedNumber_26 rfl (lv_at hl 0 rfl) ?_
  refine lv_ishr hx hb dX11_feedNumber_27 ?_
  refine lv_i2b (v := ((v >>> ((16 : Int32) &&& 31))).toInt8.toInt32) hx hb dX11_feedNumber_28 rfl ?_
  refine x_bast C X 1 3 rfl rfl (j := tp + 1) (nI_clamp (by omega)) (vp_in_nI (by omega) (by omega)) dX11_feedNumber_29 (fun H locs X => ?_)
  have X : Wd D A s [((x 0), .inr (11, [.ref (x 1), .ref (x 10), .int (0 : Int32), .ref (x 11), .int (nI (tp + 1)), .ref (x 12), .ref (x 34), .ref (x 50), .int (-1 : Int32), .ref (x 66), .ref (x 67), .ref (x 68), .ref (x 76), .ref (x 81), .ref (x 84), .ref (x 89), .ref (x 97)])), ((x 11), .inl (cB, 700, .inl (upd (upd (f) (tp) (vp_nar .byte ((v >>> ((24 : Int32) &&& 31))).toInt8.toInt32)) (tp + 1) (vp_nar .byte ((v >>> ((16 : Int32) &&& 31))).toInt8.toInt32))))] H locs := X
  refine lv_aload_n hx hb dX11_feedNumber_30 rfl (lv_at hl 1 rfl) ?_
  refine lv_dup hx hb dX11_feedNumber_31 rfl ?_
  refine x_get (own := RX11) (T := TX11) C X 0 rfl rfl 4 (by decide) k_1_20 rfl rfl (v := .int (nI (tp + 1))) rfl dX11_feedNumber_32 ?_
  refine lv_iconst (v := (1 : Int32)) hx hb dX11_feedNumber_35 (by decide) ?_
  refine lv_iadd hx hb dX11_feedNumber_36 ?_
  refine x_eqi (show (nI (tp + 1)) + (1 : Int32) = (nI ((tp + 1) + 1)) from nI_add (tp + 1) 1) ?_
  refine x_put (own := RX11) (T := TX11) C X 0 rfl rfl 4 (by decide) k_1_20 rfl rfl rfl (ty := .int) (v := .int (nI ((tp + 1) + 1))) (by decide +kernel) rfl rfl (Nat.le_of_ble_eq_true rfl) dX11_feedNumber_37 (fun H locs X => ?_)
  have X : Wd D A s [((x 0), .inr (11, [.ref (x 1), .ref (x 10), .int (0 : Int32), .ref (x 11), .int (nI ((tp + 1) + 1)), .ref (x 12), .ref (x 34), .ref (x 50), .int (-1 : Int32), .ref (x 66), .ref (x 67), .ref (x 68), .ref (x 76), .ref (x 81), .ref (x 84), .ref (x 89), .ref (x 97)])), ((x 11), .inl (cB, 700, .inl (upd (upd (f) (tp) (vp_nar .byte ((v >>> ((24 : Int32) &&& 31))).toInt8.toInt32)) (tp + 1) (vp_nar .byte ((v >>> ((16 : Int32) &&& 31))).toInt8.toInt32))))] H locs := X
  refine lv_iinc (v := (8 : Int32)) (lv' := [(2, .int (8 : Int32)), (0, .ref (x 0)), (1, .int v)]) hx hb dX11_feedNumber_40 hl (k := 0) rfl (by decide) (by decide) rfl (fun ls hl => ?_)
  refine lv_goto (tgt := 3) hx hb dX11_feedNumber_43 (by decide) ?_
  refine lv_iload_n hx hb dX11_feedNumber_3 rfl (lv_at hl 0 rfl) ?_
  refine lv_if_lt (tgt := 46) hx hb dX11_feedNumber_4 (by decide) (fun c0 => absurd c0 (by decide)) (fun _ => ?_)
  refine lv_aload_n hx hb dX11_feedNumber_7 rfl (lv_at hl 1 rfl) ?_
  refine x_get (own := RX11) (T := TX11) C X 0 rfl rfl 4 (by decide) k_1_20 rfl rfl (v := .int (nI ((tp + 1) + 1))) rfl dX11_feedNumber_8 ?_
  refine lv_sipush (v := (700 : Int32)) hx hb dX11_feedNumber_11 (by decide) ?_
  refine lv_icmp_ge (tgt := 46) hx hb dX11_feedNumber_14 (by decide) (fun c_3 => by exfalso; have h8 : (700 : Int) ≤ (((tp + 1) + 1 : Nat) : Int) := (by have h9 := i_le c_3; simp only [nI_toInt (n := (tp + 1) + 1) (by omega)] at h9; exact h9); omega) (fun c_3 => ?_)
  have fc_3 : (((tp + 1) + 1 : Nat) : Int) < (700 : Int) := (by have h9 := i_nle c_3; simp only [nI_toInt (n := (tp + 1) + 1) (by omega)] at h9; exact h9)
  refine lv_aload_n hx hb dX11_feedNumber_17 rfl (lv_at hl 1 rfl) ?_
  refine x_get (own := RX11) (T := TX11) C X 0 rfl rfl 3 (by decide) k_1_19 rfl rfl (v := .ref (x 11)) rfl dX11_feedNumber_18 ?_
  refine lv_aload_n hx hb dX11_feedNumber_21 rfl (lv_at hl 1 rfl) ?_
  refine x_get (own := RX11) (T := TX11) C X 0 rfl rfl 4 (by decide) k_1_20 rfl rfl (v := .int (nI ((tp + 1) + 1))) rfl dX11_feedNumber_22 ?_
  refine lv_iload_n hx hb dX11_feedNumber_25 rfl (lv_at hl 2 rfl) ?_
  refine lv_iload_n hx hb dX11_feedNumber_26 rfl (lv_at hl 0 rfl) ?_
  refine lv_ishr hx hb dX11_feedNumber_27 ?_
  refine lv_i2b (v := ((v >>> ((8 : Int32) &&& 31))).toInt8.toInt32) hx hb dX11_feedNumber_28 rfl ?_
  refine x_bast C X 1 3 rfl rfl (j := (tp + 1) + 1) (nI_clamp (by omega)) (vp_in_nI (by omega) (by omega)) dX11_feedNumber_29 (fun H locs X => ?_)
  have X : Wd D A s [((x 0), .inr (11, [.ref (x 1), .ref (x 10), .int (0 : Int32), .ref (x 11), .int (nI ((tp + 1) + 1)), .ref (x 12), .ref (x 34), .ref (x 50), .int (-1 : Int32), .ref (x 66), .ref (x 67), .ref (x 68), .ref (x 76), .ref (x 81), .ref (x 84), .ref (x 89), .ref (x 97)])), ((x 11), .inl (cB, 700, .inl (upd (upd (upd (f) (tp) (vp_nar .byte ((v >>> ((24 : Int32) &&& 31))).toInt8.toInt32)) (tp + 1) (vp_nar .byte ((v >>> ((16 : Int32) &&& 31))).toInt8.toInt32)) ((tp + 1) + 1) (vp_nar .byte ((v >>> ((8 : Int32) &&& 31))).toInt8.toInt32))))] H locs := X
  refine lv_aload_n hx hb dX11_feedNumber_30 rfl (lv_at hl 1 rfl) ?_
  refine lv_dup hx hb dX11_feedNumber_31 rfl ?_
  refine x_get (own := RX11) (T := TX11) C X 0 rfl rfl 4 (by decide) k_1_20 rfl rfl (v := .int (nI ((tp + 1) + 1))) rfl dX11_feedNumber_32 ?_
  refine lv_iconst (v := (1 : Int32)) hx hb dX11_feedNumber_35 (by decide) ?_
  refine lv_iadd hx hb dX11_feedNumber_36 ?_
  refine x_eqi (show (nI ((tp + 1) + 1)) + (1 : Int32) = (nI (((tp + 1) + 1) + 1)) from nI_add ((tp + 1) + 1) 1) ?_
  refine x_put (own := RX11) (T := TX11) C X 0 rfl rfl 4 (by decide) k_1_20 rfl rfl rfl (ty := .int) (v := .int (nI (((tp + 1) + 1) + 1))) (by decide +kernel) rfl rfl (Nat.le_of_ble_eq_true rfl) dX11_feedNumber_37 (fun H locs X => ?_)
  have X : Wd D A s [((x 0), .inr (11, [.ref (x 1), .ref (x 10), .int (0 : Int32), .ref (x 11), .int (nI (((tp + 1) + 1) + 1)), .ref (x 12), .ref (x 34), .ref (x 50), .int (-1 : Int32), .ref (x 66), .ref (x 67), .ref (x 68), .ref (x 76), .ref (x 81), .ref (x 84), .ref (x 89), .ref (x 97)])), ((x 11), .inl (cB, 700, .inl (upd (upd (upd (f) (tp) (vp_nar .byte ((v >>> ((24 : Int32) &&& 31))).toInt8.toInt32)) (tp + 1) (vp_nar .byte ((v >>> ((16 : Int32) &&& 31))).toInt8.toInt32)) ((tp + 1) + 1) (vp_nar .byte ((v >>> ((8 : Int32) &&& 31))).toInt8.toInt32))))] H locs := X
  refine lv_iinc (v := (0 : Int32)) (lv' := [(2, .int (0 : Int32)), (0, .ref (x 0)), (1, .int v)]) hx hb dX11_feedNumber_40 hl (k := 0) rfl (by decide) (by decide) rfl (fun ls hl => ?_)
  refine lv_goto (tgt := 3) hx hb dX11_feedNumber_43 (by decide) ?_
  refine lv_iload_n hx hb dX11_feedNumber_3 rfl (lv_at hl 0 rfl) ?_
  refine lv_if_lt (tgt := 46) hx hb dX11_feedNumber_4 (by decide) (fun c0 => absurd c0 (by decide)) (fun _ => ?_)
  refine lv_aload_n hx hb dX11_feedNumber_7 rfl (lv_at hl 1 rfl) ?_
  refine x_get (own := RX11) (T := TX11) C X 0 rfl rfl 4 (by decide) k_1_20 rfl rfl (v := .int (nI (((tp + 1) + 1) + 1))) rfl dX11_feedNumber_8 ?_
  refine lv_sipush (v := (700 : Int32)) hx hb dX11_feedNumber_11 (by decide) ?_
  refine lv_icmp_ge (tgt := 46) hx hb dX11_feedNumber_14 (by decide) (fun c_4 => by exfalso; have h8 : (700 : Int) ≤ ((((tp + 1) + 1) + 1 : Nat) : Int) := (by have h9 := i_le c_4; simp only [nI_toInt (n := ((tp + 1) + 1) + 1) (by omega)] at h9; exact h9); omega) (fun c_4 => ?_)
  have fc_4 : ((((tp + 1) + 1) + 1 : Nat) : Int) < (700 : Int) := (by have h9 := i_nle c_4; simp only [nI_toInt (n := ((tp + 1) + 1) + 1) (by omega)] at h9; exact h9)
  refine lv_aload_n hx hb dX11_feedNumber_17 rfl (lv_at hl 1 rfl) ?_
  refine x_get (own := RX11) (T := TX11) C X 0 rfl rfl 3 (by decide) k_1_19 rfl rfl (v := .ref (x 11)) rfl dX11_feedNumber_18 ?_
  refine lv_aload_n hx hb dX11_feedNumber_21 rfl (lv_at hl 1 rfl) ?_
  refine x_get (own := RX11) (T := TX11) C X 0 rfl rfl 4 (by decide) k_1_20 rfl rfl (v := .int (nI (((tp + 1) + 1) + 1))) rfl dX11_feedNumber_22 ?_
  refine lv_iload_n hx hb dX11_feedNumber_25 rfl (lv_at hl 2 rfl) ?_
  refine lv_iload_n hx hb dX11_feedNumber_26 rfl (lv_at hl 0 rfl) ?_
  refine lv_ishr hx hb dX11_feedNumber_27 ?_
  refine lv_i2b (v := ((v >>> ((0 : Int32) &&& 31))).toInt8.toInt32) hx hb dX11_feedNumber_28 rfl ?_
  refine x_bast C X 1 3 rfl rfl (j := ((tp + 1) + 1) + 1) (nI_clamp (by omega)) (vp_in_nI (by omega) (by omega)) dX11_feedNumber_29 (fun H locs X => ?_)
  have X : Wd D A s [((x 0), .inr (11, [.ref (x 1), .ref (x 10), .int (0 : Int32), .ref (x 11), .int (nI (((tp + 1) + 1) + 1)), .ref (x 12), .ref (x 34), .ref (x 50), .int (-1 : Int32), .ref (x 66), .ref (x 67), .ref (x 68), .ref (x 76), .ref (x 81), .ref (x 84), .ref (x 89), .ref (x 97)])), ((x 11), .inl (cB, 700, .inl (upd (upd (upd (upd (f) (tp) (vp_nar .byte ((v >>> ((24 : Int32) &&& 31))).toInt8.toInt32)) (tp + 1) (vp_nar .byte ((v >>> ((16 : Int32) &&& 31))).toInt8.toInt32)) ((tp + 1) + 1) (vp_nar .byte ((v >>> ((8 : Int32) &&& 31))).toInt8.toInt32)) (((tp + 1) + 1) + 1) (vp_nar .byte ((v >>> ((0 : Int32) &&& 31))).toInt8.toInt32))))] H locs := X
  refine lv_aload_n hx hb dX11_feedNumber_30 rfl (lv_at hl 1 rfl) ?_
  refine lv_dup hx hb dX11_feedNumber_31 rfl ?_
  refine x_get (own := RX11) (T := TX11) C X 0 rfl rfl 4 (by decide) k_1_20 rfl rfl (v := .int (nI (((tp + 1) + 1) + 1))) rfl dX11_feedNumber_32 ?_
  refine lv_iconst (v := (1 : Int32)) hx hb dX11_feedNumber_35 (by decide) ?_
  refine lv_iadd hx hb dX11_feedNumber_36 ?_
  refine x_eqi (show (nI (((tp + 1) + 1) + 1)) + (1 : Int32) = (nI ((((tp + 1) + 1) + 1) + 1)) from nI_add (((tp + 1) + 1) + 1) 1) ?_
  refine x_put (own := RX11) (T := TX11) C X 0 rfl rfl 4 (by decide) k_1_20 rfl rfl rfl (ty := .int) (v := .int (nI ((((tp + 1) + 1) + 1) + 1))) (by decide +kernel) rfl rfl (Nat.le_of_ble_eq_true rfl) dX11_feedNumber_37 (fun H locs X => ?_)
  have X : Wd D A s [((x 0), .inr (11, [.ref (x 1), .ref (x 10), .int (0 : Int32), .ref (x 11), .int (nI ((((tp + 1) + 1) + 1) + 1)), .ref (x 12), .ref (x 34), .ref (x 50), .int (-1 : Int32), .ref (x 66), .ref (x 67), .ref (x 68), .ref (x 76), .ref (x 81), .ref (x 84), .ref (x 89), .ref (x 97)])), ((x 11), .inl (cB, 700, .inl (upd (upd (upd (upd (f) (tp) (vp_nar .byte ((v >>> ((24 : Int32) &&& 31))).toInt8.toInt32)) (tp + 1) (vp_nar .byte ((v >>> ((16 : Int32) &&& 31))).toInt8.toInt32)) ((tp + 1) + 1) (vp_nar .byte ((v >>> ((8 : Int32) &&& 31))).toInt8.toInt32)) (((tp + 1) + 1) + 1) (vp_nar .byte ((v >>> ((0 : Int32) &&& 31))).toInt8.toInt32))))] H locs := X
  refine lv_iinc (v := (-8 : Int32)) (lv' := [(2, .int (-8 : Int32)), (0, .ref (x 0)), (1, .int v)]) hx hb dX11_feedNumber_40 hl (k := 0) rfl (by decide) (by decide) rfl (fun ls hl => ?_)
  refine lv_goto (tgt := 3) hx hb dX11_feedNumber_43 (by decide) ?_
  refine lv_iload_n hx hb dX11_feedNumber_3 rfl (lv_at hl 0 rfl) ?_
  refine lv_if_lt (tgt := 46) hx hb dX11_feedNumber_4 (by decide) (fun _ => ?_) (fun c0 => absurd (by decide) c0)
  exact x_vret C X hr hlk (upd (upd (upd (upd (f) (tp) (vp_nar .byte ((v >>> ((24 : Int32) &&& 31))).toInt8.toInt32)) (tp + 1) (vp_nar .byte ((v >>> ((16 : Int32) &&& 31))).toInt8.toInt32)) ((tp + 1) + 1) (vp_nar .byte ((v >>> ((8 : Int32) &&& 31))).toInt8.toInt32)) (((tp + 1) + 1) + 1) (vp_nar .byte ((v >>> ((0 : Int32) &&& 31))).toInt8.toInt32)) [0, 1] (by decide) rfl (trivial) (Nat.le_of_ble_eq_true rfl) (Nat.le_of_ble_eq_true rfl) dX11_feedNumber_46
