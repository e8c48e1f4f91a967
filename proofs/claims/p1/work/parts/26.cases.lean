theorem k_50_16 : Cond.methodLink RL 106 yX12_best ∈ wsL_law := mr_50 _ (List.mem_of_getElem? (i := 16) rfl)
theorem k_50_17 : Cond.instanceMethod yX12_best ∈ wsL_law := mr_50 _ (List.mem_of_getElem? (i := 17) rfl)
theorem k_50_18 : Cond.selects RX12 yX12_best yX12_best ∈ wsL_law := mr_50 _ (List.mem_of_getElem? (i := 18) rfl)
theorem k_50_19 : Cond.code yX12_best cX12_best 2 (some .int) ∈ wsL_law := mr_50 _ (List.mem_of_getElem? (i := 19) rfl)
theorem k_50_2 : Cond.methodLink RL 103 yX11_best ∈ wsL_law := mr_50 _ (List.mem_of_getElem? (i := 2) rfl)
theorem k_50_3 : Cond.instanceMethod yX11_best ∈ wsL_law := mr_50 _ (List.mem_of_getElem? (i := 3) rfl)
theorem k_50_4 : Cond.selects RX11 yX11_best yX11_best ∈ wsL_law := mr_50 _ (List.mem_of_getElem? (i := 4) rfl)
theorem k_50_5 : Cond.code yX11_best cX11_best 2 (some .int) ∈ wsL_law := mr_50 _ (List.mem_of_getElem? (i := 5) rfl)
theorem k_51_0 : Cond.methodLink RL 107 yX11_years ∈ wsL_law := mr_51 _ (List.mem_of_getElem? (i := 0) rfl)
theorem k_51_1 : Cond.instanceMethod yX11_years ∈ wsL_law := mr_51 _ (List.mem_of_getElem? (i := 1) rfl)
theorem k_51_10 : Cond.methodLink RL 110 yX12_years ∈ wsL_law := mr_51 _ (List.mem_of_getElem? (i := 10) rfl)
theorem k_51_11 : Cond.instanceMethod yX12_years ∈ wsL_law := mr_51 _ (List.mem_of_getElem? (i := 11) rfl)
theorem k_51_12 : Cond.selects RX12 yX12_years yX12_years ∈ wsL_law := mr_51 _ (List.mem_of_getElem? (i := 12) rfl)
theorem k_51_13 : Cond.code yX12_years cX12_years 5 (some .int) ∈ wsL_law := mr_51 _ (List.mem_of_getElem? (i := 13) rfl)
theorem k_51_14 : Cond.methodLink RL 111 yX11_odds ∈ wsL_law := mr_51 _ (List.mem_of_getElem? (i := 14) rfl)
theorem k_51_15 : Cond.instanceMethod yX11_odds ∈ wsL_law := mr_51 _ (List.mem_of_getElem? (i := 15) rfl)
theorem k_51_16 : Cond.selects RX11 yX11_odds yX11_odds ∈ wsL_law := mr_51 _ (List.mem_of_getElem? (i := 16) rfl)
theorem k_51_17 : Cond.code yX11_odds cX11_odds 6 (some .int) ∈ wsL_law := mr_51 _ (List.mem_of_getElem? (i := 17) rfl)
theorem k_51_2 : Cond.selects RX11 yX11_years yX11_years ∈ wsL_law := mr_51 _ (List.mem_of_getElem? (i := 2) rfl)
theorem k_51_3 : Cond.code yX11_years cX11_years 2 (some .int) ∈ wsL_law := mr_51 _ (List.mem_of_getElem? (i := 3) rfl)
theorem k_53_18 : Cond.methodLink RL 115 yX11_need ∈ wsL_law := mr_53 _ (List.mem_of_getElem? (i := 18) rfl)
theorem k_53_19 : Cond.instanceMethod yX11_need ∈ wsL_law := mr_53 _ (List.mem_of_getElem? (i := 19) rfl)
theorem k_53_20 : Cond.selects RX11 yX11_need yX11_need ∈ wsL_law := mr_53 _ (List.mem_of_getElem? (i := 20) rfl)
theorem k_53_21 : Cond.code yX11_need cX11_need 3 (some .int) ∈ wsL_law := mr_53 _ (List.mem_of_getElem? (i := 21) rfl)
theorem k_53_5 : Cond.methodLink RL 114 yX12_odds ∈ wsL_law := mr_53 _ (List.mem_of_getElem? (i := 5) rfl)
theorem k_53_6 : Cond.instanceMethod yX12_odds ∈ wsL_law := mr_53 _ (List.mem_of_getElem? (i := 6) rfl)
theorem k_53_7 : Cond.selects RX12 yX12_odds yX12_odds ∈ wsL_law := mr_53 _ (List.mem_of_getElem? (i := 7) rfl)
theorem k_53_8 : Cond.code yX12_odds cX12_odds 13 (some .int) ∈ wsL_law := mr_53 _ (List.mem_of_getElem? (i := 8) rfl)
theorem k_54_18 : Cond.methodLink RL 118 yX12_need ∈ wsL_law := mr_54 _ (List.mem_of_getElem? (i := 18) rfl)
theorem k_54_19 : Cond.instanceMethod yX12_need ∈ wsL_law := mr_54 _ (List.mem_of_getElem? (i := 19) rfl)
theorem k_54_20 : Cond.selects RX12 yX12_need yX12_need ∈ wsL_law := mr_54 _ (List.mem_of_getElem? (i := 20) rfl)
theorem k_54_21 : Cond.code yX12_need cX12_need 8 (some .int) ∈ wsL_law := mr_54 _ (List.mem_of_getElem? (i := 21) rfl)
theorem k_55_3 : Cond.methodLink RL 119 yX11_lasts ∈ wsL_law := mr_55 _ (List.mem_of_getElem? (i := 3) rfl)
theorem k_55_4 : Cond.instanceMethod yX11_lasts ∈ wsL_law := mr_55 _ (List.mem_of_getElem? (i := 4) rfl)
theorem k_55_5 : Cond.selects RX11 yX11_lasts yX11_lasts ∈ wsL_law := mr_55 _ (List.mem_of_getElem? (i := 5) rfl)
theorem k_55_6 : Cond.code yX11_lasts cX11_lasts 6 (some .int) ∈ wsL_law := mr_55 _ (List.mem_of_getElem? (i := 6) rfl)
theorem k_56_14 : Cond.methodLink RL 122 yX12_lasts ∈ wsL_law := mr_56 _ (List.mem_of_getElem? (i := 14) rfl)
theorem k_56_15 : Cond.instanceMethod yX12_lasts ∈ wsL_law := mr_56 _ (List.mem_of_getElem? (i := 15) rfl)
theorem k_56_16 : Cond.selects RX12 yX12_lasts yX12_lasts ∈ wsL_law := mr_56 _ (List.mem_of_getElem? (i := 16) rfl)
theorem k_56_17 : Cond.code yX12_lasts cX12_lasts 6 (some .int) ∈ wsL_law := mr_56 _ (List.mem_of_getElem? (i := 17) rfl)
theorem k_57_10 : Cond.instanceMethod yX11_most ∈ wsL_law := mr_57 _ (List.mem_of_getElem? (i := 10) rfl)
theorem k_57_11 : Cond.selects RX11 yX11_most yX11_most ∈ wsL_law := mr_57 _ (List.mem_of_getElem? (i := 11) rfl)
theorem k_57_12 : Cond.code yX11_most cX11_most 4 (some .int) ∈ wsL_law := mr_57 _ (List.mem_of_getElem? (i := 12) rfl)
theorem k_57_18 : Cond.methodLink RL 126 yX12_most ∈ wsL_law := mr_57 _ (List.mem_of_getElem? (i := 18) rfl)
theorem k_57_19 : Cond.instanceMethod yX12_most ∈ wsL_law := mr_57 _ (List.mem_of_getElem? (i := 19) rfl)
theorem k_57_20 : Cond.selects RX12 yX12_most yX12_most ∈ wsL_law := mr_57 _ (List.mem_of_getElem? (i := 20) rfl)
theorem k_57_21 : Cond.code yX12_most cX12_most 6 (some .int) ∈ wsL_law := mr_57 _ (List.mem_of_getElem? (i := 21) rfl)
theorem k_57_22 : Cond.methodLink RL 127 yX11_right ∈ wsL_law := mr_57 _ (List.mem_of_getElem? (i := 22) rfl)
theorem k_57_23 : Cond.instanceMethod yX11_right ∈ wsL_law := mr_57 _ (List.mem_of_getElem? (i := 23) rfl)
theorem k_57_9 : Cond.methodLink RL 123 yX11_most ∈ wsL_law := mr_57 _ (List.mem_of_getElem? (i := 9) rfl)
theorem k_58_0 : Cond.selects RX11 yX11_right yX11_right ∈ wsL_law := mr_58 _ (List.mem_of_getElem? (i := 0) rfl)
theorem k_58_1 : Cond.code yX11_right cX11_right 4 (some .long) ∈ wsL_law := mr_58 _ (List.mem_of_getElem? (i := 1) rfl)
theorem k_58_10 : Cond.code yX12_right cX12_right 16 (some .long) ∈ wsL_law := mr_58 _ (List.mem_of_getElem? (i := 10) rfl)
theorem k_58_12 : Cond.methodLink RL 132 yX11_listed ∈ wsL_law := mr_58 _ (List.mem_of_getElem? (i := 12) rfl)
theorem k_58_13 : Cond.instanceMethod yX11_listed ∈ wsL_law := mr_58 _ (List.mem_of_getElem? (i := 13) rfl)
theorem k_58_14 : Cond.selects RX11 yX11_listed yX11_listed ∈ wsL_law := mr_58 _ (List.mem_of_getElem? (i := 14) rfl)
theorem k_58_15 : Cond.code yX11_listed cX11_listed 4 (some .int) ∈ wsL_law := mr_58 _ (List.mem_of_getElem? (i := 15) rfl)
theorem k_58_7 : Cond.methodLink RL 131 yX12_right ∈ wsL_law := mr_58 _ (List.mem_of_getElem? (i := 7) rfl)
theorem k_58_8 : Cond.instanceMethod yX12_right ∈ wsL_law := mr_58 _ (List.mem_of_getElem? (i := 8) rfl)
theorem k_58_9 : Cond.selects RX12 yX12_right yX12_right ∈ wsL_law := mr_58 _ (List.mem_of_getElem? (i := 9) rfl)
theorem k_59_0 : Cond.methodLink RL 135 yX12_listed ∈ wsL_law := mr_59 _ (List.mem_of_getElem? (i := 0) rfl)
theorem k_59_1 : Cond.instanceMethod yX12_listed ∈ wsL_law := mr_59 _ (List.mem_of_getElem? (i := 1) rfl)
theorem k_59_12 : Cond.methodLink RL 136 yX11_line ∈ wsL_law := mr_59 _ (List.mem_of_getElem? (i := 12) rfl)
theorem k_59_13 : Cond.instanceMethod yX11_line ∈ wsL_law := mr_59 _ (List.mem_of_getElem? (i := 13) rfl)
theorem k_59_14 : Cond.selects RX11 yX11_line yX11_line ∈ wsL_law := mr_59 _ (List.mem_of_getElem? (i := 14) rfl)
theorem k_59_15 : Cond.code yX11_line cX11_line 8 (some .int) ∈ wsL_law := mr_59 _ (List.mem_of_getElem? (i := 15) rfl)
theorem k_59_2 : Cond.selects RX12 yX12_listed yX12_listed ∈ wsL_law := mr_59 _ (List.mem_of_getElem? (i := 2) rfl)
theorem k_59_20 : Cond.methodLink RL 139 yX12_line ∈ wsL_law := mr_59 _ (List.mem_of_getElem? (i := 20) rfl)
theorem k_59_21 : Cond.instanceMethod yX12_line ∈ wsL_law := mr_59 _ (List.mem_of_getElem? (i := 21) rfl)
theorem k_59_22 : Cond.selects RX12 yX12_line yX12_line ∈ wsL_law := mr_59 _ (List.mem_of_getElem? (i := 22) rfl)
theorem k_59_23 : Cond.code yX12_line cX12_line 8 (some .int) ∈ wsL_law := mr_59 _ (List.mem_of_getElem? (i := 23) rfl)
theorem k_59_3 : Cond.code yX12_listed cX12_listed 5 (some .int) ∈ wsL_law := mr_59 _ (List.mem_of_getElem? (i := 3) rfl)
theorem k_60_4 : Cond.methodLink RL 140 yX11_held ∈ wsL_law := mr_60 _ (List.mem_of_getElem? (i := 4) rfl)
theorem k_60_5 : Cond.instanceMethod yX11_held ∈ wsL_law := mr_60 _ (List.mem_of_getElem? (i := 5) rfl)
theorem k_60_6 : Cond.selects RX11 yX11_held yX11_held ∈ wsL_law := mr_60 _ (List.mem_of_getElem? (i := 6) rfl)
theorem k_60_7 : Cond.code yX11_held cX11_held 3 (some .int) ∈ wsL_law := mr_60 _ (List.mem_of_getElem? (i := 7) rfl)
theorem k_61_3 : Cond.methodLink RL 143 yX12_held_ ∈ wsL_law := mr_61 _ (List.mem_of_getElem? (i := 3) rfl)
theorem k_61_4 : Cond.instanceMethod yX12_held_ ∈ wsL_law := mr_61 _ (List.mem_of_getElem? (i := 4) rfl)
theorem k_61_5 : Cond.selects RX12 yX12_held_ yX12_held_ ∈ wsL_law := mr_61 _ (List.mem_of_getElem? (i := 5) rfl)
theorem k_61_6 : Cond.code yX12_held_ cX12_held_ 7 (some .int) ∈ wsL_law := mr_61 _ (List.mem_of_getElem? (i := 6) rfl)
theorem dL_law_1052 : decode cL_law 1052 = .ok (.aload_n 1, 1) := by decide +kernel
theorem dL_law_1053 : decode cL_law 1053 = .ok (.aload_n 0, 1) := by decide +kernel
theorem dL_law_1054 : decode cL_law 1054 = .ok (.iload_n 3, 1) := by decide +kernel
theorem dL_law_1055 : decode cL_law 1055 = .ok (.iconst 1, 1) := by decide +kernel
theorem dL_law_1056 : decode cL_law 1056 = .ok (.iadd, 1) := by decide +kernel
theorem dL_law_1057 : decode cL_law 1057 = .ok (.iaload, 1) := by decide +kernel
theorem dL_law_1058 : decode cL_law 1058 = .ok (.invokevirtual 103, 3) := by decide +kernel
theorem dL_law_1061 : decode cL_law 1061 = .ok (.aload_n 2, 1) := by decide +kernel
theorem dL_law_1062 : decode cL_law 1062 = .ok (.aload_n 0, 1) := by decide +kernel
theorem dL_law_1063 : decode cL_law 1063 = .ok (.iload_n 3, 1) := by decide +kernel
theorem dL_law_1064 : decode cL_law 1064 = .ok (.iconst 1, 1) := by decide +kernel
theorem dL_law_1065 : decode cL_law 1065 = .ok (.iadd, 1) := by decide +kernel
theorem dL_law_1066 : decode cL_law 1066 = .ok (.iaload, 1) := by decide +kernel
theorem dL_law_1067 : decode cL_law 1067 = .ok (.invokevirtual 106, 3) := by decide +kernel
theorem dL_law_1070 : decode cL_law 1070 = .ok (.if_icmp .eq 651, 3) := by decide +kernel
theorem dL_law_1075 : decode cL_law 1075 = .ok (.aload_n 1, 1) := by decide +kernel
theorem dL_law_1076 : decode cL_law 1076 = .ok (.aload_n 0, 1) := by decide +kernel
theorem dL_law_1077 : decode cL_law 1077 = .ok (.iload_n 3, 1) := by decide +kernel
theorem dL_law_1078 : decode cL_law 1078 = .ok (.iconst 1, 1) := by decide +kernel
theorem dL_law_1079 : decode cL_law 1079 = .ok (.iadd, 1) := by decide +kernel
theorem dL_law_1080 : decode cL_law 1080 = .ok (.iaload, 1) := by decide +kernel
theorem dL_law_1081 : decode cL_law 1081 = .ok (.invokevirtual 107, 3) := by decide +kernel
theorem dL_law_1084 : decode cL_law 1084 = .ok (.aload_n 2, 1) := by decide +kernel
theorem dL_law_1085 : decode cL_law 1085 = .ok (.aload_n 0, 1) := by decide +kernel
theorem dL_law_1086 : decode cL_law 1086 = .ok (.iload_n 3, 1) := by decide +kernel
theorem dL_law_1087 : decode cL_law 1087 = .ok (.iconst 1, 1) := by decide +kernel
theorem dL_law_1088 : decode cL_law 1088 = .ok (.iadd, 1) := by decide +kernel
theorem dL_law_1089 : decode cL_law 1089 = .ok (.iaload, 1) := by decide +kernel
theorem dL_law_1090 : decode cL_law 1090 = .ok (.invokevirtual 110, 3) := by decide +kernel
theorem dL_law_1093 : decode cL_law 1093 = .ok (.if_icmp .eq 628, 3) := by decide +kernel
theorem dL_law_1098 : decode cL_law 1098 = .ok (.aload_n 1, 1) := by decide +kernel
theorem dL_law_1099 : decode cL_law 1099 = .ok (.aload_n 0, 1) := by decide +kernel
theorem dL_law_1100 : decode cL_law 1100 = .ok (.iload_n 3, 1) := by decide +kernel
theorem dL_law_1101 : decode cL_law 1101 = .ok (.iconst 1, 1) := by decide +kernel
theorem dL_law_1102 : decode cL_law 1102 = .ok (.iadd, 1) := by decide +kernel
theorem dL_law_1103 : decode cL_law 1103 = .ok (.iaload, 1) := by decide +kernel
theorem dL_law_1104 : decode cL_law 1104 = .ok (.aload_n 0, 1) := by decide +kernel
theorem dL_law_1105 : decode cL_law 1105 = .ok (.iload_n 3, 1) := by decide +kernel
theorem dL_law_1106 : decode cL_law 1106 = .ok (.iconst 2, 1) := by decide +kernel
theorem dL_law_1107 : decode cL_law 1107 = .ok (.iadd, 1) := by decide +kernel
theorem dL_law_1108 : decode cL_law 1108 = .ok (.iaload, 1) := by decide +kernel
theorem dL_law_1109 : decode cL_law 1109 = .ok (.aload_n 0, 1) := by decide +kernel
theorem dL_law_1110 : decode cL_law 1110 = .ok (.iload_n 3, 1) := by decide +kernel
theorem dL_law_1111 : decode cL_law 1111 = .ok (.iconst 3, 1) := by decide +kernel
theorem dL_law_1112 : decode cL_law 1112 = .ok (.iadd, 1) := by decide +kernel
theorem dL_law_1113 : decode cL_law 1113 = .ok (.iaload, 1) := by decide +kernel
theorem dL_law_1114 : decode cL_law 1114 = .ok (.invokevirtual 111, 3) := by decide +kernel
theorem dL_law_1117 : decode cL_law 1117 = .ok (.aload_n 2, 1) := by decide +kernel
theorem dL_law_1118 : decode cL_law 1118 = .ok (.aload_n 0, 1) := by decide +kernel
theorem dL_law_1119 : decode cL_law 1119 = .ok (.iload_n 3, 1) := by decide +kernel
theorem dL_law_1120 : decode cL_law 1120 = .ok (.iconst 1, 1) := by decide +kernel
theorem dL_law_1121 : decode cL_law 1121 = .ok (.iadd, 1) := by decide +kernel
theorem dL_law_1122 : decode cL_law 1122 = .ok (.iaload, 1) := by decide +kernel
theorem dL_law_1123 : decode cL_law 1123 = .ok (.aload_n 0, 1) := by decide +kernel
theorem dL_law_1124 : decode cL_law 1124 = .ok (.iload_n 3, 1) := by decide +kernel
theorem dL_law_1125 : decode cL_law 1125 = .ok (.iconst 2, 1) := by decide +kernel
theorem dL_law_1126 : decode cL_law 1126 = .ok (.iadd, 1) := by decide +kernel
theorem dL_law_1127 : decode cL_law 1127 = .ok (.iaload, 1) := by decide +kernel
theorem dL_law_1128 : decode cL_law 1128 = .ok (.aload_n 0, 1) := by decide +kernel
theorem dL_law_1129 : decode cL_law 1129 = .ok (.iload_n 3, 1) := by decide +kernel
theorem dL_law_1130 : decode cL_law 1130 = .ok (.iconst 3, 1) := by decide +kernel
theorem dL_law_1131 : decode cL_law 1131 = .ok (.iadd, 1) := by decide +kernel
theorem dL_law_1132 : decode cL_law 1132 = .ok (.iaload, 1) := by decide +kernel
theorem dL_law_1133 : decode cL_law 1133 = .ok (.invokevirtual 114, 3) := by decide +kernel
theorem dL_law_1136 : decode cL_law 1136 = .ok (.if_icmp .eq 585, 3) := by decide +kernel
theorem dL_law_1141 : decode cL_law 1141 = .ok (.aload_n 1, 1) := by decide +kernel
theorem dL_law_1142 : decode cL_law 1142 = .ok (.aload_n 0, 1) := by decide +kernel
theorem dL_law_1143 : decode cL_law 1143 = .ok (.iload_n 3, 1) := by decide +kernel
theorem dL_law_1144 : decode cL_law 1144 = .ok (.iconst 1, 1) := by decide +kernel
theorem dL_law_1145 : decode cL_law 1145 = .ok (.iadd, 1) := by decide +kernel
theorem dL_law_1146 : decode cL_law 1146 = .ok (.iaload, 1) := by decide +kernel
theorem dL_law_1147 : decode cL_law 1147 = .ok (.aload_n 0, 1) := by decide +kernel
theorem dL_law_1148 : decode cL_law 1148 = .ok (.iload_n 3, 1) := by decide +kernel
theorem dL_law_1149 : decode cL_law 1149 = .ok (.iconst 2, 1) := by decide +kernel
theorem dL_law_1150 : decode cL_law 1150 = .ok (.iadd, 1) := by decide +kernel
theorem dL_law_1151 : decode cL_law 1151 = .ok (.iaload, 1) := by decide +kernel
theorem dL_law_1152 : decode cL_law 1152 = .ok (.invokevirtual 115, 3) := by decide +kernel
theorem dL_law_1155 : decode cL_law 1155 = .ok (.aload_n 2, 1) := by decide +kernel
theorem dL_law_1156 : decode cL_law 1156 = .ok (.aload_n 0, 1) := by decide +kernel
theorem dL_law_1157 : decode cL_law 1157 = .ok (.iload_n 3, 1) := by decide +kernel
theorem dL_law_1158 : decode cL_law 1158 = .ok (.iconst 1, 1) := by decide +kernel
theorem dL_law_1159 : decode cL_law 1159 = .ok (.iadd, 1) := by decide +kernel
theorem dL_law_1160 : decode cL_law 1160 = .ok (.iaload, 1) := by decide +kernel
theorem dL_law_1161 : decode cL_law 1161 = .ok (.aload_n 0, 1) := by decide +kernel
theorem dL_law_1162 : decode cL_law 1162 = .ok (.iload_n 3, 1) := by decide +kernel
theorem dL_law_1163 : decode cL_law 1163 = .ok (.iconst 2, 1) := by decide +kernel
theorem dL_law_1164 : decode cL_law 1164 = .ok (.iadd, 1) := by decide +kernel
theorem dL_law_1165 : decode cL_law 1165 = .ok (.iaload, 1) := by decide +kernel
theorem dL_law_1166 : decode cL_law 1166 = .ok (.invokevirtual 118, 3) := by decide +kernel
theorem dL_law_1169 : decode cL_law 1169 = .ok (.if_icmp .eq 552, 3) := by decide +kernel
theorem dL_law_1174 : decode cL_law 1174 = .ok (.aload_n 1, 1) := by decide +kernel
theorem dL_law_1175 : decode cL_law 1175 = .ok (.aload_n 0, 1) := by decide +kernel
theorem dL_law_1176 : decode cL_law 1176 = .ok (.iload_n 3, 1) := by decide +kernel
theorem dL_law_1177 : decode cL_law 1177 = .ok (.iconst 1, 1) := by decide +kernel
theorem dL_law_1178 : decode cL_law 1178 = .ok (.iadd, 1) := by decide +kernel
theorem dL_law_1179 : decode cL_law 1179 = .ok (.iaload, 1) := by decide +kernel
theorem dL_law_1180 : decode cL_law 1180 = .ok (.aload_n 0, 1) := by decide +kernel
theorem dL_law_1181 : decode cL_law 1181 = .ok (.iload_n 3, 1) := by decide +kernel
theorem dL_law_1182 : decode cL_law 1182 = .ok (.iconst 2, 1) := by decide +kernel
theorem dL_law_1183 : decode cL_law 1183 = .ok (.iadd, 1) := by decide +kernel
theorem dL_law_1184 : decode cL_law 1184 = .ok (.iaload, 1) := by decide +kernel
theorem dL_law_1185 : decode cL_law 1185 = .ok (.aload_n 0, 1) := by decide +kernel
theorem dL_law_1186 : decode cL_law 1186 = .ok (.iload_n 3, 1) := by decide +kernel
theorem dL_law_1187 : decode cL_law 1187 = .ok (.iconst 3, 1) := by decide +kernel
theorem dL_law_1188 : decode cL_law 1188 = .ok (.iadd, 1) := by decide +kernel
theorem dL_law_1189 : decode cL_law 1189 = .ok (.iaload, 1) := by decide +kernel
theorem dL_law_1190 : decode cL_law 1190 = .ok (.aload_n 0, 1) := by decide +kernel
theorem dL_law_1191 : decode cL_law 1191 = .ok (.iload_n 3, 1) := by decide +kernel
theorem dL_law_1192 : decode cL_law 1192 = .ok (.iconst 4, 1) := by decide +kernel
theorem dL_law_1193 : decode cL_law 1193 = .ok (.iadd, 1) := by decide +kernel
theorem dL_law_1194 : decode cL_law 1194 = .ok (.iaload, 1) := by decide +kernel
theorem dL_law_1195 : decode cL_law 1195 = .ok (.aload_n 0, 1) := by decide +kernel
theorem dL_law_1196 : decode cL_law 1196 = .ok (.iload_n 3, 1) := by decide +kernel
theorem dL_law_1197 : decode cL_law 1197 = .ok (.iconst 5, 1) := by decide +kernel
theorem dL_law_1198 : decode cL_law 1198 = .ok (.iadd, 1) := by decide +kernel
theorem dL_law_1199 : decode cL_law 1199 = .ok (.iaload, 1) := by decide +kernel
theorem dL_law_1200 : decode cL_law 1200 = .ok (.invokevirtual 119, 3) := by decide +kernel
theorem dL_law_1203 : decode cL_law 1203 = .ok (.aload_n 2, 1) := by decide +kernel
theorem dL_law_1204 : decode cL_law 1204 = .ok (.aload_n 0, 1) := by decide +kernel
theorem dL_law_1205 : decode cL_law 1205 = .ok (.iload_n 3, 1) := by decide +kernel
theorem dL_law_1206 : decode cL_law 1206 = .ok (.iconst 1, 1) := by decide +kernel
theorem dL_law_1207 : decode cL_law 1207 = .ok (.iadd, 1) := by decide +kernel
theorem dL_law_1208 : decode cL_law 1208 = .ok (.iaload, 1) := by decide +kernel
theorem dL_law_1209 : decode cL_law 1209 = .ok (.aload_n 0, 1) := by decide +kernel
theorem dL_law_1210 : decode cL_law 1210 = .ok (.iload_n 3, 1) := by decide +kernel
theorem dL_law_1211 : decode cL_law 1211 = .ok (.iconst 2, 1) := by decide +kernel
theorem dL_law_1212 : decode cL_law 1212 = .ok (.iadd, 1) := by decide +kernel
theorem dL_law_1213 : decode cL_law 1213 = .ok (.iaload, 1) := by decide +kernel
theorem dL_law_1214 : decode cL_law 1214 = .ok (.aload_n 0, 1) := by decide +kernel
theorem dL_law_1215 : decode cL_law 1215 = .ok (.iload_n 3, 1) := by decide +kernel
theorem dL_law_1216 : decode cL_law 1216 = .ok (.iconst 3, 1) := by decide +kernel
theorem dL_law_1217 : decode cL_law 1217 = .ok (.iadd, 1) := by decide +kernel
theorem dL_law_1218 : decode cL_law 1218 = .ok (.iaload, 1) := by decide +kernel
theorem dL_law_1219 : decode cL_law 1219 = .ok (.aload_n 0, 1) := by decide +kernel
theorem dL_law_1220 : decode cL_law 1220 = .ok (.iload_n 3, 1) := by decide +kernel
theorem dL_law_1221 : decode cL_law 1221 = .ok (.iconst 4, 1) := by decide +kernel
theorem dL_law_1222 : decode cL_law 1222 = .ok (.iadd, 1) := by decide +kernel
theorem dL_law_1223 : decode cL_law 1223 = .ok (.iaload, 1) := by decide +kernel
theorem dL_law_1224 : decode cL_law 1224 = .ok (.aload_n 0, 1) := by decide +kernel
theorem dL_law_1225 : decode cL_law 1225 = .ok (.iload_n 3, 1) := by decide +kernel
theorem dL_law_1226 : decode cL_law 1226 = .ok (.iconst 5, 1) := by decide +kernel
theorem dL_law_1227 : decode cL_law 1227 = .ok (.iadd, 1) := by decide +kernel
theorem dL_law_1228 : decode cL_law 1228 = .ok (.iaload, 1) := by decide +kernel
theorem dL_law_1229 : decode cL_law 1229 = .ok (.invokevirtual 122, 3) := by decide +kernel
theorem dL_law_1232 : decode cL_law 1232 = .ok (.if_icmp .eq 489, 3) := by decide +kernel
theorem dL_law_1237 : decode cL_law 1237 = .ok (.aload_n 1, 1) := by decide +kernel
theorem dL_law_1238 : decode cL_law 1238 = .ok (.aload_n 0, 1) := by decide +kernel
theorem dL_law_1239 : decode cL_law 1239 = .ok (.iload_n 3, 1) := by decide +kernel
theorem dL_law_1240 : decode cL_law 1240 = .ok (.iconst 1, 1) := by decide +kernel
theorem dL_law_1241 : decode cL_law 1241 = .ok (.iadd, 1) := by decide +kernel
theorem dL_law_1242 : decode cL_law 1242 = .ok (.iaload, 1) := by decide +kernel
theorem dL_law_1243 : decode cL_law 1243 = .ok (.aload_n 0, 1) := by decide +kernel
theorem dL_law_1244 : decode cL_law 1244 = .ok (.iload_n 3, 1) := by decide +kernel
theorem dL_law_1245 : decode cL_law 1245 = .ok (.iconst 2, 1) := by decide +kernel
theorem dL_law_1246 : decode cL_law 1246 = .ok (.iadd, 1) := by decide +kernel
theorem dL_law_1247 : decode cL_law 1247 = .ok (.iaload, 1) := by decide +kernel
theorem dL_law_1248 : decode cL_law 1248 = .ok (.aload_n 0, 1) := by decide +kernel
theorem dL_law_1249 : decode cL_law 1249 = .ok (.iload_n 3, 1) := by decide +kernel
theorem dL_law_1250 : decode cL_law 1250 = .ok (.iconst 3, 1) := by decide +kernel
theorem dL_law_1251 : decode cL_law 1251 = .ok (.iadd, 1) := by decide +kernel
theorem dL_law_1252 : decode cL_law 1252 = .ok (.iaload, 1) := by decide +kernel
theorem dL_law_1253 : decode cL_law 1253 = .ok (.invokevirtual 123, 3) := by decide +kernel
theorem dL_law_1256 : decode cL_law 1256 = .ok (.aload_n 2, 1) := by decide +kernel
theorem dL_law_1257 : decode cL_law 1257 = .ok (.aload_n 0, 1) := by decide +kernel
theorem dL_law_1258 : decode cL_law 1258 = .ok (.iload_n 3, 1) := by decide +kernel
theorem dL_law_1259 : decode cL_law 1259 = .ok (.iconst 1, 1) := by decide +kernel
theorem dL_law_1260 : decode cL_law 1260 = .ok (.iadd, 1) := by decide +kernel
theorem dL_law_1261 : decode cL_law 1261 = .ok (.iaload, 1) := by decide +kernel
theorem dL_law_1262 : decode cL_law 1262 = .ok (.aload_n 0, 1) := by decide +kernel
theorem dL_law_1263 : decode cL_law 1263 = .ok (.iload_n 3, 1) := by decide +kernel
theorem dL_law_1264 : decode cL_law 1264 = .ok (.iconst 2, 1) := by decide +kernel
theorem dL_law_1265 : decode cL_law 1265 = .ok (.iadd, 1) := by decide +kernel
theorem dL_law_1266 : decode cL_law 1266 = .ok (.iaload, 1) := by decide +kernel
theorem dL_law_1267 : decode cL_law 1267 = .ok (.aload_n 0, 1) := by decide +kernel
theorem dL_law_1268 : decode cL_law 1268 = .ok (.iload_n 3, 1) := by decide +kernel
theorem dL_law_1269 : decode cL_law 1269 = .ok (.iconst 3, 1) := by decide +kernel
theorem dL_law_1270 : decode cL_law 1270 = .ok (.iadd, 1) := by decide +kernel
theorem dL_law_1271 : decode cL_law 1271 = .ok (.iaload, 1) := by decide +kernel
theorem dL_law_1272 : decode cL_law 1272 = .ok (.invokevirtual 126, 3) := by decide +kernel
theorem dL_law_1275 : decode cL_law 1275 = .ok (.if_icmp .eq 446, 3) := by decide +kernel
theorem dL_law_1280 : decode cL_law 1280 = .ok (.aload_n 1, 1) := by decide +kernel
theorem dL_law_1281 : decode cL_law 1281 = .ok (.aload_n 0, 1) := by decide +kernel
theorem dL_law_1282 : decode cL_law 1282 = .ok (.iload_n 3, 1) := by decide +kernel
theorem dL_law_1283 : decode cL_law 1283 = .ok (.iconst 1, 1) := by decide +kernel
theorem dL_law_1284 : decode cL_law 1284 = .ok (.iadd, 1) := by decide +kernel
theorem dL_law_1285 : decode cL_law 1285 = .ok (.iaload, 1) := by decide +kernel
theorem dL_law_1286 : decode cL_law 1286 = .ok (.aload_n 0, 1) := by decide +kernel
theorem dL_law_1287 : decode cL_law 1287 = .ok (.iload_n 3, 1) := by decide +kernel
theorem dL_law_1288 : decode cL_law 1288 = .ok (.iconst 2, 1) := by decide +kernel
theorem dL_law_1289 : decode cL_law 1289 = .ok (.iadd, 1) := by decide +kernel
theorem dL_law_1290 : decode cL_law 1290 = .ok (.iaload, 1) := by decide +kernel
theorem dL_law_1291 : decode cL_law 1291 = .ok (.aload_n 0, 1) := by decide +kernel
theorem dL_law_1292 : decode cL_law 1292 = .ok (.iload_n 3, 1) := by decide +kernel
theorem dL_law_1293 : decode cL_law 1293 = .ok (.iconst 3, 1) := by decide +kernel
theorem dL_law_1294 : decode cL_law 1294 = .ok (.iadd, 1) := by decide +kernel
theorem dL_law_1295 : decode cL_law 1295 = .ok (.iaload, 1) := by decide +kernel
theorem dL_law_1296 : decode cL_law 1296 = .ok (.invokevirtual 127, 3) := by decide +kernel
theorem dL_law_1299 : decode cL_law 1299 = .ok (.aload_n 2, 1) := by decide +kernel
theorem dL_law_1300 : decode cL_law 1300 = .ok (.aload_n 0, 1) := by decide +kernel
theorem dL_law_1301 : decode cL_law 1301 = .ok (.iload_n 3, 1) := by decide +kernel
theorem dL_law_1302 : decode cL_law 1302 = .ok (.iconst 1, 1) := by decide +kernel
theorem dL_law_1303 : decode cL_law 1303 = .ok (.iadd, 1) := by decide +kernel
theorem dL_law_1304 : decode cL_law 1304 = .ok (.iaload, 1) := by decide +kernel
theorem dL_law_1305 : decode cL_law 1305 = .ok (.aload_n 0, 1) := by decide +kernel
theorem dL_law_1306 : decode cL_law 1306 = .ok (.iload_n 3, 1) := by decide +kernel
theorem dL_law_1307 : decode cL_law 1307 = .ok (.iconst 2, 1) := by decide +kernel
theorem dL_law_1308 : decode cL_law 1308 = .ok (.iadd, 1) := by decide +kernel
theorem dL_law_1309 : decode cL_law 1309 = .ok (.iaload, 1) := by decide +kernel
theorem dL_law_1310 : decode cL_law 1310 = .ok (.aload_n 0, 1) := by decide +kernel
theorem dL_law_1311 : decode cL_law 1311 = .ok (.iload_n 3, 1) := by decide +kernel
theorem dL_law_1312 : decode cL_law 1312 = .ok (.iconst 3, 1) := by decide +kernel
theorem dL_law_1313 : decode cL_law 1313 = .ok (.iadd, 1) := by decide +kernel
theorem dL_law_1314 : decode cL_law 1314 = .ok (.iaload, 1) := by decide +kernel
theorem dL_law_1315 : decode cL_law 1315 = .ok (.invokevirtual 131, 3) := by decide +kernel
theorem dL_law_1318 : decode cL_law 1318 = .ok (.lcmp, 1) := by decide +kernel
theorem dL_law_1319 : decode cL_law 1319 = .ok (.ifCond .eq 402, 3) := by decide +kernel
theorem dL_law_1324 : decode cL_law 1324 = .ok (.aload_n 1, 1) := by decide +kernel
theorem dL_law_1325 : decode cL_law 1325 = .ok (.aload_n 0, 1) := by decide +kernel
theorem dL_law_1326 : decode cL_law 1326 = .ok (.iload_n 3, 1) := by decide +kernel
theorem dL_law_1327 : decode cL_law 1327 = .ok (.iconst 1, 1) := by decide +kernel
theorem dL_law_1328 : decode cL_law 1328 = .ok (.iadd, 1) := by decide +kernel
theorem dL_law_1329 : decode cL_law 1329 = .ok (.iaload, 1) := by decide +kernel
theorem dL_law_1330 : decode cL_law 1330 = .ok (.aload_n 0, 1) := by decide +kernel
theorem dL_law_1331 : decode cL_law 1331 = .ok (.iload_n 3, 1) := by decide +kernel
theorem dL_law_1332 : decode cL_law 1332 = .ok (.iconst 2, 1) := by decide +kernel
theorem dL_law_1333 : decode cL_law 1333 = .ok (.iadd, 1) := by decide +kernel
theorem dL_law_1334 : decode cL_law 1334 = .ok (.iaload, 1) := by decide +kernel
theorem dL_law_1335 : decode cL_law 1335 = .ok (.aload_n 0, 1) := by decide +kernel
theorem dL_law_1336 : decode cL_law 1336 = .ok (.iload_n 3, 1) := by decide +kernel
theorem dL_law_1337 : decode cL_law 1337 = .ok (.iconst 3, 1) := by decide +kernel
theorem dL_law_1338 : decode cL_law 1338 = .ok (.iadd, 1) := by decide +kernel
theorem dL_law_1339 : decode cL_law 1339 = .ok (.iaload, 1) := by decide +kernel
theorem dL_law_1340 : decode cL_law 1340 = .ok (.invokevirtual 132, 3) := by decide +kernel
theorem dL_law_1343 : decode cL_law 1343 = .ok (.aload_n 2, 1) := by decide +kernel
theorem dL_law_1344 : decode cL_law 1344 = .ok (.aload_n 0, 1) := by decide +kernel
theorem dL_law_1345 : decode cL_law 1345 = .ok (.iload_n 3, 1) := by decide +kernel
theorem dL_law_1346 : decode cL_law 1346 = .ok (.iconst 1, 1) := by decide +kernel
theorem dL_law_1347 : decode cL_law 1347 = .ok (.iadd, 1) := by decide +kernel
theorem dL_law_1348 : decode cL_law 1348 = .ok (.iaload, 1) := by decide +kernel
theorem dL_law_1349 : decode cL_law 1349 = .ok (.aload_n 0, 1) := by decide +kernel
theorem dL_law_1350 : decode cL_law 1350 = .ok (.iload_n 3, 1) := by decide +kernel
theorem dL_law_1351 : decode cL_law 1351 = .ok (.iconst 2, 1) := by decide +kernel
theorem dL_law_1352 : decode cL_law 1352 = .ok (.iadd, 1) := by decide +kernel
theorem dL_law_1353 : decode cL_law 1353 = .ok (.iaload, 1) := by decide +kernel
theorem dL_law_1354 : decode cL_law 1354 = .ok (.aload_n 0, 1) := by decide +kernel
theorem dL_law_1355 : decode cL_law 1355 = .ok (.iload_n 3, 1) := by decide +kernel
theorem dL_law_1356 : decode cL_law 1356 = .ok (.iconst 3, 1) := by decide +kernel
theorem dL_law_1357 : decode cL_law 1357 = .ok (.iadd, 1) := by decide +kernel
theorem dL_law_1358 : decode cL_law 1358 = .ok (.iaload, 1) := by decide +kernel
theorem dL_law_1359 : decode cL_law 1359 = .ok (.invokevirtual 135, 3) := by decide +kernel
theorem dL_law_1362 : decode cL_law 1362 = .ok (.if_icmp .eq 359, 3) := by decide +kernel
theorem dL_law_1367 : decode cL_law 1367 = .ok (.aload_n 1, 1) := by decide +kernel
theorem dL_law_1368 : decode cL_law 1368 = .ok (.aload_n 0, 1) := by decide +kernel
theorem dL_law_1369 : decode cL_law 1369 = .ok (.iload_n 3, 1) := by decide +kernel
theorem dL_law_1370 : decode cL_law 1370 = .ok (.iconst 1, 1) := by decide +kernel
theorem dL_law_1371 : decode cL_law 1371 = .ok (.iadd, 1) := by decide +kernel
theorem dL_law_1372 : decode cL_law 1372 = .ok (.iaload, 1) := by decide +kernel
theorem dL_law_1373 : decode cL_law 1373 = .ok (.aload_n 0, 1) := by decide +kernel
theorem dL_law_1374 : decode cL_law 1374 = .ok (.iload_n 3, 1) := by decide +kernel
theorem dL_law_1375 : decode cL_law 1375 = .ok (.iconst 2, 1) := by decide +kernel
theorem dL_law_1376 : decode cL_law 1376 = .ok (.iadd, 1) := by decide +kernel
theorem dL_law_1377 : decode cL_law 1377 = .ok (.iaload, 1) := by decide +kernel
theorem dL_law_1378 : decode cL_law 1378 = .ok (.aload_n 0, 1) := by decide +kernel
theorem dL_law_1379 : decode cL_law 1379 = .ok (.iload_n 3, 1) := by decide +kernel
theorem dL_law_1380 : decode cL_law 1380 = .ok (.iconst 3, 1) := by decide +kernel
theorem dL_law_1381 : decode cL_law 1381 = .ok (.iadd, 1) := by decide +kernel
theorem dL_law_1382 : decode cL_law 1382 = .ok (.iaload, 1) := by decide +kernel
theorem dL_law_1383 : decode cL_law 1383 = .ok (.aload_n 0, 1) := by decide +kernel
theorem dL_law_1384 : decode cL_law 1384 = .ok (.iload_n 3, 1) := by decide +kernel
theorem dL_law_1385 : decode cL_law 1385 = .ok (.iconst 4, 1) := by decide +kernel
theorem dL_law_1386 : decode cL_law 1386 = .ok (.iadd, 1) := by decide +kernel
theorem dL_law_1387 : decode cL_law 1387 = .ok (.iaload, 1) := by decide +kernel
theorem dL_law_1388 : decode cL_law 1388 = .ok (.invokevirtual 136, 3) := by decide +kernel
theorem dL_law_1391 : decode cL_law 1391 = .ok (.aload_n 2, 1) := by decide +kernel
theorem dL_law_1392 : decode cL_law 1392 = .ok (.aload_n 0, 1) := by decide +kernel
theorem dL_law_1393 : decode cL_law 1393 = .ok (.iload_n 3, 1) := by decide +kernel
theorem dL_law_1394 : decode cL_law 1394 = .ok (.iconst 1, 1) := by decide +kernel
theorem dL_law_1395 : decode cL_law 1395 = .ok (.iadd, 1) := by decide +kernel
theorem dL_law_1396 : decode cL_law 1396 = .ok (.iaload, 1) := by decide +kernel
theorem dL_law_1397 : decode cL_law 1397 = .ok (.aload_n 0, 1) := by decide +kernel
theorem dL_law_1398 : decode cL_law 1398 = .ok (.iload_n 3, 1) := by decide +kernel
theorem dL_law_1399 : decode cL_law 1399 = .ok (.iconst 2, 1) := by decide +kernel
theorem dL_law_1400 : decode cL_law 1400 = .ok (.iadd, 1) := by decide +kernel
theorem dL_law_1401 : decode cL_law 1401 = .ok (.iaload, 1) := by decide +kernel
theorem dL_law_1402 : decode cL_law 1402 = .ok (.aload_n 0, 1) := by decide +kernel
theorem dL_law_1403 : decode cL_law 1403 = .ok (.iload_n 3, 1) := by decide +kernel
theorem dL_law_1404 : decode cL_law 1404 = .ok (.iconst 3, 1) := by decide +kernel
theorem dL_law_1405 : decode cL_law 1405 = .ok (.iadd, 1) := by decide +kernel
theorem dL_law_1406 : decode cL_law 1406 = .ok (.iaload, 1) := by decide +kernel
theorem dL_law_1407 : decode cL_law 1407 = .ok (.aload_n 0, 1) := by decide +kernel
theorem dL_law_1408 : decode cL_law 1408 = .ok (.iload_n 3, 1) := by decide +kernel
theorem dL_law_1409 : decode cL_law 1409 = .ok (.iconst 4, 1) := by decide +kernel
theorem dL_law_1410 : decode cL_law 1410 = .ok (.iadd, 1) := by decide +kernel
theorem dL_law_1411 : decode cL_law 1411 = .ok (.iaload, 1) := by decide +kernel
theorem dL_law_1412 : decode cL_law 1412 = .ok (.invokevirtual 139, 3) := by decide +kernel
theorem dL_law_1415 : decode cL_law 1415 = .ok (.if_icmp .eq 306, 3) := by decide +kernel
theorem dL_law_1420 : decode cL_law 1420 = .ok (.aload_n 1, 1) := by decide +kernel
theorem dL_law_1421 : decode cL_law 1421 = .ok (.aload_n 0, 1) := by decide +kernel
theorem dL_law_1422 : decode cL_law 1422 = .ok (.iload_n 3, 1) := by decide +kernel
theorem dL_law_1423 : decode cL_law 1423 = .ok (.iconst 1, 1) := by decide +kernel
theorem dL_law_1424 : decode cL_law 1424 = .ok (.iadd, 1) := by decide +kernel
theorem dL_law_1425 : decode cL_law 1425 = .ok (.iaload, 1) := by decide +kernel
theorem dL_law_1426 : decode cL_law 1426 = .ok (.aload_n 0, 1) := by decide +kernel
theorem dL_law_1427 : decode cL_law 1427 = .ok (.iload_n 3, 1) := by decide +kernel
theorem dL_law_1428 : decode cL_law 1428 = .ok (.iconst 2, 1) := by decide +kernel
theorem dL_law_1429 : decode cL_law 1429 = .ok (.iadd, 1) := by decide +kernel
theorem dL_law_1430 : decode cL_law 1430 = .ok (.iaload, 1) := by decide +kernel
theorem dL_law_1431 : decode cL_law 1431 = .ok (.invokevirtual 140, 3) := by decide +kernel
theorem dL_law_1434 : decode cL_law 1434 = .ok (.aload_n 2, 1) := by decide +kernel
theorem dL_law_1435 : decode cL_law 1435 = .ok (.aload_n 0, 1) := by decide +kernel
theorem dL_law_1436 : decode cL_law 1436 = .ok (.iload_n 3, 1) := by decide +kernel
theorem dL_law_1437 : decode cL_law 1437 = .ok (.iconst 1, 1) := by decide +kernel
theorem dL_law_1438 : decode cL_law 1438 = .ok (.iadd, 1) := by decide +kernel
theorem dL_law_1439 : decode cL_law 1439 = .ok (.iaload, 1) := by decide +kernel
theorem dL_law_1440 : decode cL_law 1440 = .ok (.aload_n 0, 1) := by decide +kernel
theorem dL_law_1441 : decode cL_law 1441 = .ok (.iload_n 3, 1) := by decide +kernel
theorem dL_law_1442 : decode cL_law 1442 = .ok (.iconst 2, 1) := by decide +kernel
theorem dL_law_1443 : decode cL_law 1443 = .ok (.iadd, 1) := by decide +kernel
theorem dL_law_1444 : decode cL_law 1444 = .ok (.iaload, 1) := by decide +kernel
theorem dL_law_1445 : decode cL_law 1445 = .ok (.invokevirtual 143, 3) := by decide +kernel
theorem dL_law_1448 : decode cL_law 1448 = .ok (.if_icmp .eq 273, 3) := by decide +kernel
set_option maxHeartbeats 4000000 in
set_option maxRecDepth 100000 in
theorem law_c20 {p : Program} {e : Env} {s : State} {m : MethodId} {below : List Frame} {meth : Method} {c : Code} {l : Launch} {b : Nat} {xs : Nat → Int32} {D : va_G} {cI cJ cZ cB cO : ClassId} (K0 : LwC p s m meth c b xs D [(cI, .int), (cJ, .long), (cZ, .boolean), (cB, .byte), (cO, .object "LuckLinks$World")]) {u v : Nat → Nat} {H : Heap} {locs : List Loc} {ls : Array Slot} (X : Wd D (fun q : Nat => s.heap.size ≤ q) s (xW cI cJ cZ cB cO u ++ mW cI cJ cZ cB cO v) H locs) (hl : lv_has ls 4 [(3, .int (0 : Int32)), (2, .ref (v 0)), (1, .ref (u 0)), (0, .ref b)]) :
    W p l e room_1 s m #[Value.ref b] below meth c H locs 150 141288 (lw_Z below #[Value.ref b] s) (F0 m 1052 ls []) := by
  have C := K0.1
  have hx := C.1
  have hb := C.2.1
  have hX := K0.2.2.2.1
  have hbl := K0.2.2.2.2
  have hbA : ¬ (fun q : Nat => s.heap.size ≤ q) b := Nat.not_le.mpr hbl
  refine lv_aload_n hx hb dL_law_1052 rfl (lv_at hl 2 rfl) ?_
  refine lv_aload_n hx hb dL_law_1053 rfl (lv_at hl 3 rfl) ?_
  refine lv_iload_n hx hb dL_law_1054 rfl (lv_at hl 0 rfl) ?_
  refine lv_iconst (v := (1 : Int32)) hx hb dL_law_1055 (by decide) ?_
  refine lv_iadd hx hb dL_law_1056 ?_
  refine x_eqi (show (0 : Int32) + (1 : Int32) = (1 : Int32) from by decide +kernel) ?_
  refine va_sld hx hb hX hbl hbA X.2.2.1 (i := (1 : Int32)) (vp_in_nI (n := 1) (by omega) (by omega)) dL_law_1057 ?_
  refine x_eqi (show xs ((1 : Int32).toNatClampNeg) = xs 1 from rfl) ?_
  refine x_cV (own := RL) (wr := [((v 0), .inr (12, (mF v))), ((v 1), .inl (cI, 4, .inl (fun _ => (0 : Int32))))]) (As := [.int (xs 1)]) C X hl.1 (cx_best l D cI cJ cZ cB cO u (xs 1)) [0, 81, 1] [98, 99] ⟨rfl, rfl, by decide, by decide, by decide⟩ (qb := 0) rfl rfl k_50_2 k_50_3 k_50_4 k_1_2 k_50_5 (n := 1) (by decide +kernel) ⟨Nat.le_of_ble_eq_true rfl, Nat.le_of_ble_eq_true rfl⟩ rfl rfl (Nat.le_of_ble_eq_true rfl) dL_law_1058 ⟨Nat.le_of_ble_eq_true rfl, Nat.le_of_ble_eq_true rfl⟩ (fun r_2 u_1 H locs w_3 X => ?_)
  have X : Wd D (fun q : Nat => s.heap.size ≤ q) s [((v 0), .inr (12, (mF v))), ((v 1), .inl (cI, 4, .inl (fun _ => (0 : Int32))))] H locs := X
  refine W.widen (k := 150) (n := 141288) (Nat.le_of_ble_eq_true rfl) (Nat.le_of_ble_eq_true rfl) ?_
  obtain ⟨rfl, fw_3⟩ : r_2 = (-1 : Int32) ∧ True := w_3
  refine lv_aload_n hx hb dL_law_1061 rfl (lv_at hl 1 rfl) ?_
  refine lv_aload_n hx hb dL_law_1062 rfl (lv_at hl 3 rfl) ?_
  refine lv_iload_n hx hb dL_law_1063 rfl (lv_at hl 0 rfl) ?_
  refine lv_iconst (v := (1 : Int32)) hx hb dL_law_1064 (by decide) ?_
  refine lv_iadd hx hb dL_law_1065 ?_
  refine x_eqi (show (0 : Int32) + (1 : Int32) = (1 : Int32) from by decide +kernel) ?_
  refine va_sld hx hb hX hbl hbA X.2.2.1 (i := (1 : Int32)) (vp_in_nI (n := 1) (by omega) (by omega)) dL_law_1066 ?_
  refine x_eqi (show xs ((1 : Int32).toNatClampNeg) = xs 1 from rfl) ?_
  refine x_cV (own := RL) (wr := []) (As := [.int (xs 1)]) C X hl.1 (cm_best l D cI cJ cZ cB cO v (xs 1)) [0, 1] [] ⟨rfl, rfl, by decide, by decide, by decide⟩ (qb := 0) rfl rfl k_50_16 k_50_17 k_50_18 k_1_5 k_50_19 (n := 1) (by decide +kernel) ⟨Nat.le_of_ble_eq_true rfl, Nat.le_of_ble_eq_true rfl⟩ rfl rfl (Nat.le_of_ble_eq_true rfl) dL_law_1067 ⟨Nat.le_of_ble_eq_true rfl, Nat.le_of_ble_eq_true rfl⟩ (fun r_5 u_4 H locs w_6 X => ?_)
  have X : Wd D (fun q : Nat => s.heap.size ≤ q) s [] H locs := X
  refine W.widen (k := 150) (n := 141288) (Nat.le_of_ble_eq_true rfl) (Nat.le_of_ble_eq_true rfl) ?_
  obtain ⟨rfl, fw_6⟩ : r_5 = (-1 : Int32) ∧ True := w_6
  refine lv_icmp_eq (tgt := 1721) hx hb dL_law_1070 (by decide) (fun _ => ?_) (fun c0 => absurd (by decide) c0)
  exact law_tail K0 X hl (Nat.le_of_ble_eq_true rfl) (Nat.le_of_ble_eq_true rfl)
set_option maxHeartbeats 4000000 in
set_option maxRecDepth 100000 in
theorem law_c21 {p : Program} {e : Env} {s : State} {m : MethodId} {below : List Frame} {meth : Method} {c : Code} {l : Launch} {b : Nat} {xs : Nat → Int32} {D : va_G} {cI cJ cZ cB cO : ClassId} (K0 : LwC p s m meth c b xs D [(cI, .int), (cJ, .long), (cZ, .boolean), (cB, .byte), (cO, .object "LuckLinks$World")]) {u v : Nat → Nat} {H : Heap} {locs : List Loc} {ls : Array Slot} (X : Wd D (fun q : Nat => s.heap.size ≤ q) s (xW cI cJ cZ cB cO u ++ mW cI cJ cZ cB cO v) H locs) (hl : lv_has ls 4 [(3, .int (0 : Int32)), (2, .ref (v 0)), (1, .ref (u 0)), (0, .ref b)]) :
    W p l e room_1 s m #[Value.ref b] below meth c H locs 150 141288 (lw_Z below #[Value.ref b] s) (F0 m 1075 ls []) := by
  have C := K0.1
  have hx := C.1
  have hb := C.2.1
  have hX := K0.2.2.2.1
  have hbl := K0.2.2.2.2
  have hbA : ¬ (fun q : Nat => s.heap.size ≤ q) b := Nat.not_le.mpr hbl
  refine lv_aload_n hx hb dL_law_1075 rfl (lv_at hl 2 rfl) ?_
  refine lv_aload_n hx hb dL_law_1076 rfl (lv_at hl 3 rfl) ?_
  refine lv_iload_n hx hb dL_law_1077 rfl (lv_at hl 0 rfl) ?_
  refine lv_iconst (v := (1 : Int32)) hx hb dL_law_1078 (by decide) ?_
  refine lv_iadd hx hb dL_law_1079 ?_
  refine x_eqi (show (0 : Int32) + (1 : Int32) = (1 : Int32) from by decide +kernel) ?_
  refine va_sld hx hb hX hbl hbA X.2.2.1 (i := (1 : Int32)) (vp_in_nI (n := 1) (by omega) (by omega)) dL_law_1080 ?_
  refine x_eqi (show xs ((1 : Int32).toNatClampNeg) = xs 1 from rfl) ?_
  refine x_cV (own := RL) (wr := [((v 0), .inr (12, (mF v))), ((v 1), .inl (cI, 4, .inl (fun _ => (0 : Int32))))]) (As := [.int (xs 1)]) C X hl.1 (cx_years l D cI cJ cZ cB cO u (xs 1)) [0, 1] [98, 99] ⟨rfl, rfl, by decide, by decide, by decide⟩ (qb := 0) rfl rfl k_51_0 k_51_1 k_51_2 k_1_2 k_51_3 (n := 1) (by decide +kernel) ⟨Nat.le_of_ble_eq_true rfl, Nat.le_of_ble_eq_true rfl⟩ rfl rfl (Nat.le_of_ble_eq_true rfl) dL_law_1081 ⟨Nat.le_of_ble_eq_true rfl, Nat.le_of_ble_eq_true rfl⟩ (fun r_2 u_1 H locs w_3 X => ?_)
  have X : Wd D (fun q : Nat => s.heap.size ≤ q) s [((v 0), .inr (12, (mF v))), ((v 1), .inl (cI, 4, .inl (fun _ => (0 : Int32))))] H locs := X
  refine W.widen (k := 150) (n := 141288) (Nat.le_of_ble_eq_true rfl) (Nat.le_of_ble_eq_true rfl) ?_
  obtain ⟨rfl, fw_3⟩ : r_2 = (-1 : Int32) ∧ True := w_3
  refine lv_aload_n hx hb dL_law_1084 rfl (lv_at hl 1 rfl) ?_
  refine lv_aload_n hx hb dL_law_1085 rfl (lv_at hl 3 rfl) ?_
  refine lv_iload_n hx hb dL_law_1086 rfl (lv_at hl 0 rfl) ?_
  refine lv_iconst (v := (1 : Int32)) hx hb dL_law_1087 (by decide) ?_
  refine lv_iadd hx hb dL_law_1088 ?_
  refine x_eqi (show (0 : Int32) + (1 : Int32) = (1 : Int32) from by decide +kernel) ?_
  refine va_sld hx hb hX hbl hbA X.2.2.1 (i := (1 : Int32)) (vp_in_nI (n := 1) (by omega) (by omega)) dL_law_1089 ?_
  refine x_eqi (show xs ((1 : Int32).toNatClampNeg) = xs 1 from rfl) ?_
  refine x_cV (own := RL) (wr := []) (As := [.int (xs 1)]) C X hl.1 (cm_years l D cI cJ cZ cB cO v (xs 1)) [0, 1] [] ⟨rfl, rfl, by decide, by decide, by decide⟩ (qb := 0) rfl rfl k_51_10 k_51_11 k_51_12 k_1_5 k_51_13 (n := 1) (by decide +kernel) ⟨Nat.le_of_ble_eq_true rfl, Nat.le_of_ble_eq_true rfl⟩ rfl rfl (Nat.le_of_ble_eq_true rfl) dL_law_1090 ⟨Nat.le_of_ble_eq_true rfl, Nat.le_of_ble_eq_true rfl⟩ (fun r_5 u_4 H locs w_6 X => ?_)
  have X : Wd D (fun q : Nat => s.heap.size ≤ q) s [] H locs := X
  refine W.widen (k := 150) (n := 141288) (Nat.le_of_ble_eq_true rfl) (Nat.le_of_ble_eq_true rfl) ?_
  obtain ⟨rfl, fw_6⟩ : r_5 = (-1 : Int32) ∧ True := w_6
  refine lv_icmp_eq (tgt := 1721) hx hb dL_law_1093 (by decide) (fun _ => ?_) (fun c0 => absurd (by decide) c0)
  exact law_tail K0 X hl (Nat.le_of_ble_eq_true rfl) (Nat.le_of_ble_eq_true rfl)
set_option maxHeartbeats 4000000 in
set_option maxRecDepth 100000 in
theorem law_c22 {p : Program} {e : Env} {s : State} {m : MethodId} {below : List Frame} {meth : Method} {c : Code} {l : Launch} {b : Nat} {xs : Nat → Int32} {D : va_G} {cI cJ cZ cB cO : ClassId} (K0 : LwC p s m meth c b xs D [(cI, .int), (cJ, .long), (cZ, .boolean), (cB, .byte), (cO, .object "LuckLinks$World")]) {u v : Nat → Nat} {H : Heap} {locs : List Loc} {ls : Array Slot} (X : Wd D (fun q : Nat => s.heap.size ≤ q) s (xW cI cJ cZ cB cO u ++ mW cI cJ cZ cB cO v) H locs) (hl : lv_has ls 4 [(3, .int (0 : Int32)), (2, .ref (v 0)), (1, .ref (u 0)), (0, .ref b)]) :
    W p l e room_1 s m #[Value.ref b] below meth c H locs 150 141288 (lw_Z below #[Value.ref b] s) (F0 m 1098 ls []) := by
  have C := K0.1
  have hx := C.1
  have hb := C.2.1
  have hX := K0.2.2.2.1
  have hbl := K0.2.2.2.2
  have hbA : ¬ (fun q : Nat => s.heap.size ≤ q) b := Nat.not_le.mpr hbl
  refine lv_aload_n hx hb dL_law_1098 rfl (lv_at hl 2 rfl) ?_
  refine lv_aload_n hx hb dL_law_1099 rfl (lv_at hl 3 rfl) ?_
  refine lv_iload_n hx hb dL_law_1100 rfl (lv_at hl 0 rfl) ?_
  refine lv_iconst (v := (1 : Int32)) hx hb dL_law_1101 (by decide) ?_
  refine lv_iadd hx hb dL_law_1102 ?_
  refine x_eqi (show (0 : Int32) + (1 : Int32) = (1 : Int32) from by decide +kernel) ?_
  refine va_sld hx hb hX hbl hbA X.2.2.1 (i := (1 : Int32)) (vp_in_nI (n := 1) (by omega) (by omega)) dL_law_1103 ?_
  refine x_eqi (show xs ((1 : Int32).toNatClampNeg) = xs 1 from rfl) ?_
  refine lv_aload_n hx hb dL_law_1104 rfl (lv_at hl 3 rfl) ?_
  refine lv_iload_n hx hb dL_law_1105 rfl (lv_at hl 0 rfl) ?_
  refine lv_iconst (v := (2 : Int32)) hx hb dL_law_1106 (by decide) ?_
  refine lv_iadd hx hb dL_law_1107 ?_
  refine x_eqi (show (0 : Int32) + (2 : Int32) = (2 : Int32) from by decide +kernel) ?_
  refine va_sld hx hb hX hbl hbA X.2.2.1 (i := (2 : Int32)) (vp_in_nI (n := 2) (by omega) (by omega)) dL_law_1108 ?_
  refine x_eqi (show xs ((2 : Int32).toNatClampNeg) = xs 2 from rfl) ?_
  refine lv_aload_n hx hb dL_law_1109 rfl (lv_at hl 3 rfl) ?_
  refine lv_iload_n hx hb dL_law_1110 rfl (lv_at hl 0 rfl) ?_
  refine lv_iconst (v := (3 : Int32)) hx hb dL_law_1111 (by decide) ?_
  refine lv_iadd hx hb dL_law_1112 ?_
  refine x_eqi (show (0 : Int32) + (3 : Int32) = (3 : Int32) from by decide +kernel) ?_
  refine va_sld hx hb hX hbl hbA X.2.2.1 (i := (3 : Int32)) (vp_in_nI (n := 3) (by omega) (by omega)) dL_law_1113 ?_
  refine x_eqi (show xs ((3 : Int32).toNatClampNeg) = xs 3 from rfl) ?_
  refine x_cV (own := RL) (wr := [((v 0), .inr (12, (mF v))), ((v 1), .inl (cI, 4, .inl (fun _ => (0 : Int32))))]) (As := [.int (xs 1), .int (xs 2), .int (xs 3)]) C X hl.1 (cx_odds l D cI cJ cZ cB cO u (xs 1) (xs 2) (xs 3)) [0, 1] [98, 99] ⟨rfl, rfl, by decide, by decide, by decide⟩ (qb := 0) rfl rfl k_51_14 k_51_15 k_51_16 k_1_2 k_51_17 (n := 3) (by decide +kernel) ⟨Nat.le_of_ble_eq_true rfl, Nat.le_of_ble_eq_true rfl⟩ rfl rfl (Nat.le_of_ble_eq_true rfl) dL_law_1114 ⟨Nat.le_of_ble_eq_true rfl, Nat.le_of_ble_eq_true rfl⟩ (fun r_2 u_1 H locs w_3 X => ?_)
  have X : Wd D (fun q : Nat => s.heap.size ≤ q) s [((v 0), .inr (12, (mF v))), ((v 1), .inl (cI, 4, .inl (fun _ => (0 : Int32))))] H locs := X
  refine W.widen (k := 150) (n := 141288) (Nat.le_of_ble_eq_true rfl) (Nat.le_of_ble_eq_true rfl) ?_
  obtain ⟨rfl, fw_3⟩ : r_2 = (-1 : Int32) ∧ True := w_3
  refine lv_aload_n hx hb dL_law_1117 rfl (lv_at hl 1 rfl) ?_
  refine lv_aload_n hx hb dL_law_1118 rfl (lv_at hl 3 rfl) ?_
  refine lv_iload_n hx hb dL_law_1119 rfl (lv_at hl 0 rfl) ?_
  refine lv_iconst (v := (1 : Int32)) hx hb dL_law_1120 (by decide) ?_
  refine lv_iadd hx hb dL_law_1121 ?_
  refine x_eqi (show (0 : Int32) + (1 : Int32) = (1 : Int32) from by decide +kernel) ?_
  refine va_sld hx hb hX hbl hbA X.2.2.1 (i := (1 : Int32)) (vp_in_nI (n := 1) (by omega) (by omega)) dL_law_1122 ?_
  refine x_eqi (show xs ((1 : Int32).toNatClampNeg) = xs 1 from rfl) ?_
  refine lv_aload_n hx hb dL_law_1123 rfl (lv_at hl 3 rfl) ?_
  refine lv_iload_n hx hb dL_law_1124 rfl (lv_at hl 0 rfl) ?_
  refine lv_iconst (v := (2 : Int32)) hx hb dL_law_1125 (by decide) ?_
  refine lv_iadd hx hb dL_law_1126 ?_
  refine x_eqi (show (0 : Int32) + (2 : Int32) = (2 : Int32) from by decide +kernel) ?_
  refine va_sld hx hb hX hbl hbA X.2.2.1 (i := (2 : Int32)) (vp_in_nI (n := 2) (by omega) (by omega)) dL_law_1127 ?_
  refine x_eqi (show xs ((2 : Int32).toNatClampNeg) = xs 2 from rfl) ?_
  refine lv_aload_n hx hb dL_law_1128 rfl (lv_at hl 3 rfl) ?_
  refine lv_iload_n hx hb dL_law_1129 rfl (lv_at hl 0 rfl) ?_
  refine lv_iconst (v := (3 : Int32)) hx hb dL_law_1130 (by decide) ?_
  refine lv_iadd hx hb dL_law_1131 ?_
  refine x_eqi (show (0 : Int32) + (3 : Int32) = (3 : Int32) from by decide +kernel) ?_
  refine va_sld hx hb hX hbl hbA X.2.2.1 (i := (3 : Int32)) (vp_in_nI (n := 3) (by omega) (by omega)) dL_law_1132 ?_
  refine x_eqi (show xs ((3 : Int32).toNatClampNeg) = xs 3 from rfl) ?_
  refine x_cV (own := RL) (wr := []) (As := [.int (xs 1), .int (xs 2), .int (xs 3)]) C X hl.1 (cm_odds l D cI cJ cZ cB cO v (xs 1) (xs 2) (xs 3)) [0, 1] [] ⟨rfl, rfl, by decide, by decide, by decide⟩ (qb := 0) rfl rfl k_53_5 k_53_6 k_53_7 k_1_5 k_53_8 (n := 3) (by decide +kernel) ⟨Nat.le_of_ble_eq_true rfl, Nat.le_of_ble_eq_true rfl⟩ rfl rfl (Nat.le_of_ble_eq_true rfl) dL_law_1133 ⟨Nat.le_of_ble_eq_true rfl, Nat.le_of_ble_eq_true rfl⟩ (fun r_5 u_4 H locs w_6 X => ?_)
  have X : Wd D (fun q : Nat => s.heap.size ≤ q) s [] H locs := X
  refine W.widen (k := 150) (n := 141288) (Nat.le_of_ble_eq_true rfl) (Nat.le_of_ble_eq_true rfl) ?_
  obtain ⟨rfl, fw_6⟩ : r_5 = (-1 : Int32) ∧ True := w_6
  refine lv_icmp_eq (tgt := 1721) hx hb dL_law_1136 (by decide) (fun _ => ?_) (fun c0 => absurd (by decide) c0)
  exact law_tail K0 X hl (Nat.le_of_ble_eq_true rfl) (Nat.le_of_ble_eq_true rfl)
set_option maxHeartbeats 4000000 in
set_option maxRecDepth 100000 in
theorem law_c23 {p : Program} {e : Env} {s : State} {m : MethodId} {below : List Frame} {meth : Method} {c : Code} {l : Launch} {b : Nat} {xs : Nat → Int32} {D : va_G} {cI cJ cZ cB cO : ClassId} (K0 : LwC p s m meth c b xs D [(cI, .int), (cJ, .long), (cZ, .boolean), (cB, .byte), (cO, .object "LuckLinks$World")]) {u v : Nat → Nat} {H : Heap} {locs : List Loc} {ls : Array Slot} (X : Wd D (fun q : Nat => s.heap.size ≤ q) s (xW cI cJ cZ cB cO u ++ mW cI cJ cZ cB cO v) H locs) (hl : lv_has ls 4 [(3, .int (0 : Int32)), (2, .ref (v 0)), (1, .ref (u 0)), (0, .ref b)]) :
    W p l e room_1 s m #[Value.ref b] below meth c H locs 150 141288 (lw_Z below #[Value.ref b] s) (F0 m 1141 ls []) := by
  have C := K0.1
  have hx := C.1
  have hb := C.2.1
  have hX := K0.2.2.2.1
  have hbl := K0.2.2.2.2
  have hbA : ¬ (fun q : Nat => s.heap.size ≤ q) b := Nat.not_le.mpr hbl
  refine lv_aload_n hx hb dL_law_1141 rfl (lv_at hl 2 rfl) ?_
  refine lv_aload_n hx hb dL_law_1142 rfl (lv_at hl 3 rfl) ?_
  refine lv_iload_n hx hb dL_law_1143 rfl (lv_at hl 0 rfl) ?_
  refine lv_iconst (v := (1 : Int32)) hx hb dL_law_1144 (by decide) ?_
  refine lv_iadd hx hb dL_law_1145 ?_
  refine x_eqi (show (0 : Int32) + (1 : Int32) = (1 : Int32) from by decide +kernel) ?_
  refine va_sld hx hb hX hbl hbA X.2.2.1 (i := (1 : Int32)) (vp_in_nI (n := 1) (by omega) (by omega)) dL_law_1146 ?_
  refine x_eqi (show xs ((1 : Int32).toNatClampNeg) = xs 1 from rfl) ?_
  refine lv_aload_n hx hb dL_law_1147 rfl (lv_at hl 3 rfl) ?_
  refine lv_iload_n hx hb dL_law_1148 rfl (lv_at hl 0 rfl) ?_
  refine lv_iconst (v := (2 : Int32)) hx hb dL_law_1149 (by decide) ?_
  refine lv_iadd hx hb dL_law_1150 ?_
  refine x_eqi (show (0 : Int32) + (2 : Int32) = (2 : Int32) from by decide +kernel) ?_
  refine va_sld hx hb hX hbl hbA X.2.2.1 (i := (2 : Int32)) (vp_in_nI (n := 2) (by omega) (by omega)) dL_law_1151 ?_
  refine x_eqi (show xs ((2 : Int32).toNatClampNeg) = xs 2 from rfl) ?_
  refine x_cV (own := RL) (wr := [((v 0), .inr (12, (mF v))), ((v 42), .inl (cJ, 73, .inr (.inl (fun _ => (0 : Int64))))), ((v 43), .inl (cJ, 73, .inr (.inl (fun _ => (0 : Int64))))), ((v 44), .inl (cJ, 73, .inr (.inl (fun _ => (0 : Int64))))), ((v 18), .inl (cI, 8, .inl (fun _ => (0 : Int32)))), ((v 48), .inl (cJ, 145, .inr (.inl (fun _ => (0 : Int64))))), ((v 46), .inl (cJ, 4321, .inr (.inl (fun _ => (0 : Int64)))))]) (As := [.int (xs 1), .int (xs 2)]) C X hl.1 (cx_need l D cI cJ cZ cB cO u (xs 1) (xs 2)) [0, 89, 90, 91, 92, 93, 94, 34, 36] [98, 140, 141, 142, 116, 146, 144] ⟨rfl, rfl, by decide, by decide, by decide⟩ (qb := 0) rfl rfl k_53_18 k_53_19 k_53_20 k_1_2 k_53_21 (n := 2) (by decide +kernel) ⟨Nat.le_of_ble_eq_true rfl, Nat.le_of_ble_eq_true rfl⟩ rfl rfl (Nat.le_of_ble_eq_true rfl) dL_law_1152 ⟨Nat.le_of_ble_eq_true rfl, Nat.le_of_ble_eq_true rfl⟩ (fun r_2 u_1 H locs w_3 X => ?_)
  have X : Wd D (fun q : Nat => s.heap.size ≤ q) s [((v 0), .inr (12, (mF v))), ((v 42), .inl (cJ, 73, .inr (.inl (fun _ => (0 : Int64))))), ((v 43), .inl (cJ, 73, .inr (.inl (fun _ => (0 : Int64))))), ((v 44), .inl (cJ, 73, .inr (.inl (fun _ => (0 : Int64))))), ((v 18), .inl (cI, 8, .inl (fun _ => (0 : Int32)))), ((v 48), .inl (cJ, 145, .inr (.inl (fun _ => (0 : Int64))))), ((v 46), .inl (cJ, 4321, .inr (.inl (fun _ => (0 : Int64)))))] H locs := X
  refine W.widen (k := 150) (n := 141288) (Nat.le_of_ble_eq_true rfl) (Nat.le_of_ble_eq_true rfl) ?_
  obtain ⟨rfl, fw_3⟩ | ⟨rfl, fw_3⟩ : (r_2 = (1 : Int32) ∧ (1 ≤ (xs 1).toInt ∧ (xs 1).toInt ≤ 40 ∧ 1 ≤ (xs 2).toInt ∧ (xs 2).toInt ≤ 100)) ∨ (r_2 = (-1 : Int32) ∧ ((xs 1).toInt < 1 ∨ 40 < (xs 1).toInt ∨ (xs 2).toInt < 1 ∨ 100 < (xs 2).toInt)) := w_3
  · refine lv_aload_n hx hb dL_law_1155 rfl (lv_at hl 1 rfl) ?_
    refine lv_aload_n hx hb dL_law_1156 rfl (lv_at hl 3 rfl) ?_
    refine lv_iload_n hx hb dL_law_1157 rfl (lv_at hl 0 rfl) ?_
    refine lv_iconst (v := (1 : Int32)) hx hb dL_law_1158 (by decide) ?_
    refine lv_iadd hx hb dL_law_1159 ?_
    refine x_eqi (show (0 : Int32) + (1 : Int32) = (1 : Int32) from by decide +kernel) ?_
    refine va_sld hx hb hX hbl hbA X.2.2.1 (i := (1 : Int32)) (vp_in_nI (n := 1) (by omega) (by omega)) dL_law_1160 ?_
    refine x_eqi (show xs ((1 : Int32).toNatClampNeg) = xs 1 from rfl) ?_
    refine lv_aload_n hx hb dL_law_1161 rfl (lv_at hl 3 rfl) ?_
    refine lv_iload_n hx hb dL_law_1162 rfl (lv_at hl 0 rfl) ?_
    refine lv_iconst (v := (2 : Int32)) hx hb dL_law_1163 (by decide) ?_
    refine lv_iadd hx hb dL_law_1164 ?_
    refine x_eqi (show (0 : Int32) + (2 : Int32) = (2 : Int32) from by decide +kernel) ?_
    refine va_sld hx hb hX hbl hbA X.2.2.1 (i := (2 : Int32)) (vp_in_nI (n := 2) (by omega) (by omega)) dL_law_1165 ?_
    refine x_eqi (show xs ((2 : Int32).toNatClampNeg) = xs 2 from rfl) ?_
    refine x_cV (own := RL) (wr := []) (As := [.int (xs 1), .int (xs 2)]) C X hl.1 (cm_need0 l D cI cJ cZ cB cO v (xs 1) (xs 2)) [0, 1, 2, 3, 4, 5, 6] [] ⟨rfl, rfl, by decide, by decide, by decide⟩ (qb := 0) rfl rfl k_54_18 k_54_19 k_54_20 k_1_5 k_54_21 (n := 2) (by decide +kernel) ⟨Nat.le_of_ble_eq_true rfl, Nat.le_of_ble_eq_true rfl⟩ rfl rfl (Nat.le_of_ble_eq_true rfl) dL_law_1166 ⟨Nat.le_of_ble_eq_true rfl, Nat.le_of_ble_eq_true rfl⟩ (fun r_5 u_4 H locs w_6 X => ?_)
    have X : Wd D (fun q : Nat => s.heap.size ≤ q) s [] H locs := X
    refine W.widen (k := 150) (n := 141288) (Nat.le_of_ble_eq_true rfl) (Nat.le_of_ble_eq_true rfl) ?_
    obtain ⟨rfl, fw_6⟩ | ⟨rfl, fw_6⟩ : (r_5 = (1 : Int32) ∧ (1 ≤ (xs 1).toInt ∧ (xs 1).toInt ≤ 40 ∧ 1 ≤ (xs 2).toInt ∧ (xs 2).toInt ≤ 100)) ∨ (r_5 = (-1 : Int32) ∧ ((xs 1).toInt < 1 ∨ 40 < (xs 1).toInt ∨ (xs 2).toInt < 1 ∨ 100 < (xs 2).toInt)) := w_6
    · refine lv_icmp_eq (tgt := 1721) hx hb dL_law_1169 (by decide) (fun _ => ?_) (fun c0 => absurd (by decide) c0)
      exact law_tail K0 X hl (Nat.le_of_ble_eq_true rfl) (Nat.le_of_ble_eq_true rfl)
    · exfalso; omega
  · refine lv_aload_n hx hb dL_law_1155 rfl (lv_at hl 1 rfl) ?_
    refine lv_aload_n hx hb dL_law_1156 rfl (lv_at hl 3 rfl) ?_
    refine lv_iload_n hx hb dL_law_1157 rfl (lv_at hl 0 rfl) ?_
    refine lv_iconst (v := (1 : Int32)) hx hb dL_law_1158 (by decide) ?_
    refine lv_iadd hx hb dL_law_1159 ?_
    refine x_eqi (show (0 : Int32) + (1 : Int32) = (1 : Int32) from by decide +kernel) ?_
    refine va_sld hx hb hX hbl hbA X.2.2.1 (i := (1 : Int32)) (vp_in_nI (n := 1) (by omega) (by omega)) dL_law_1160 ?_
    refine x_eqi (show xs ((1 : Int32).toNatClampNeg) = xs 1 from rfl) ?_
    refine lv_aload_n hx hb dL_law_1161 rfl (lv_at hl 3 rfl) ?_
    refine lv_iload_n hx hb dL_law_1162 rfl (lv_at hl 0 rfl) ?_
    refine lv_iconst (v := (2 : Int32)) hx hb dL_law_1163 (by decide) ?_
    refine lv_iadd hx hb dL_law_1164 ?_
    refine x_eqi (show (0 : Int32) + (2 : Int32) = (2 : Int32) from by decide +kernel) ?_
    refine va_sld hx hb hX hbl hbA X.2.2.1 (i := (2 : Int32)) (vp_in_nI (n := 2) (by omega) (by omega)) dL_law_1165 ?_
    refine x_eqi (show xs ((2 : Int32).toNatClampNeg) = xs 2 from rfl) ?_
    refine x_cV (own := RL) (wr := []) (As := [.int (xs 1), .int (xs 2)]) C X hl.1 (cm_need0 l D cI cJ cZ cB cO v (xs 1) (xs 2)) [0, 1, 2, 3, 4, 5, 6] [] ⟨rfl, rfl, by decide, by decide, by decide⟩ (qb := 0) rfl rfl k_54_18 k_54_19 k_54_20 k_1_5 k_54_21 (n := 2) (by decide +kernel) ⟨Nat.le_of_ble_eq_true rfl, Nat.le_of_ble_eq_true rfl⟩ rfl rfl (Nat.le_of_ble_eq_true rfl) dL_law_1166 ⟨Nat.le_of_ble_eq_true rfl, Nat.le_of_ble_eq_true rfl⟩ (fun r_8 u_7 H locs w_9 X => ?_)
    have X : Wd D (fun q : Nat => s.heap.size ≤ q) s [] H locs := X
    refine W.widen (k := 150) (n := 141288) (Nat.le_of_ble_eq_true rfl) (Nat.le_of_ble_eq_true rfl) ?_
    obtain ⟨rfl, fw_9⟩ | ⟨rfl, fw_9⟩ : (r_8 = (1 : Int32) ∧ (1 ≤ (xs 1).toInt ∧ (xs 1).toInt ≤ 40 ∧ 1 ≤ (xs 2).toInt ∧ (xs 2).toInt ≤ 100)) ∨ (r_8 = (-1 : Int32) ∧ ((xs 1).toInt < 1 ∨ 40 < (xs 1).toInt ∨ (xs 2).toInt < 1 ∨ 100 < (xs 2).toInt)) := w_9
    · exfalso; omega
    · refine lv_icmp_eq (tgt := 1721) hx hb dL_law_1169 (by decide) (fun _ => ?_) (fun c0 => absurd (by decide) c0)
      exact law_tail K0 X hl (Nat.le_of_ble_eq_true rfl) (Nat.le_of_ble_eq_true rfl)
set_option maxHeartbeats 4000000 in
set_option maxRecDepth 100000 in
theorem law_c24 {p : Program} {e : Env} {s : State} {m : MethodId} {below : List Frame} {meth : Method} {c : Code} {l : Launch} {b : Nat} {xs : Nat → Int32} {D : va_G} {cI cJ cZ cB cO : ClassId} (K0 : LwC p s m meth c b xs D [(cI, .int), (cJ, .long), (cZ, .boolean), (cB, .byte), (cO, .object "LuckLinks$World")]) {u v : Nat → Nat} {H : Heap} {locs : List Loc} {ls : Array Slot} (X : Wd D (fun q : Nat => s.heap.size ≤ q) s (xW cI cJ cZ cB cO u ++ mW cI cJ cZ cB cO v) H locs) (hl : lv_has ls 4 [(3, .int (0 : Int32)), (2, .ref (v 0)), (1, .ref (u 0)), (0, .ref b)]) :
    W p l e room_1 s m #[Value.ref b] below meth c H locs 150 141288 (lw_Z below #[Value.ref b] s) (F0 m 1174 ls []) := by
  have C := K0.1
  have hx := C.1
  have hb := C.2.1
  have hX := K0.2.2.2.1
  have hbl := K0.2.2.2.2
  have hbA : ¬ (fun q : Nat => s.heap.size ≤ q) b := Nat.not_le.mpr hbl
  refine lv_aload_n hx hb dL_law_1174 rfl (lv_at hl 2 rfl) ?_
  refine lv_aload_n hx hb dL_law_1175 rfl (lv_at hl 3 rfl) ?_
  refine lv_iload_n hx hb dL_law_1176 rfl (lv_at hl 0 rfl) ?_
  refine lv_iconst (v := (1 : Int32)) hx hb dL_law_1177 (by decide) ?_
  refine lv_iadd hx hb dL_law_1178 ?_
  refine x_eqi (show (0 : Int32) + (1 : Int32) = (1 : Int32) from by decide +kernel) ?_
  refine va_sld hx hb hX hbl hbA X.2.2.1 (i := (1 : Int32)) (vp_in_nI (n := 1) (by omega) (by omega)) dL_law_1179 ?_
  refine x_eqi (show xs ((1 : Int32).toNatClampNeg) = xs 1 from rfl) ?_
  refine lv_aload_n hx hb dL_law_1180 rfl (lv_at hl 3 rfl) ?_
  refine lv_iload_n hx hb dL_law_1181 rfl (lv_at hl 0 rfl) ?_
  refine lv_iconst (v := (2 : Int32)) hx hb dL_law_1182 (by decide) ?_
  refine lv_iadd hx hb dL_law_1183 ?_
  refine x_eqi (show (0 : Int32) + (2 : Int32) = (2 : Int32) from by decide +kernel) ?_
  refine va_sld hx hb hX hbl hbA X.2.2.1 (i := (2 : Int32)) (vp_in_nI (n := 2) (by omega) (by omega)) dL_law_1184 ?_
  refine x_eqi (show xs ((2 : Int32).toNatClampNeg) = xs 2 from rfl) ?_
  refine lv_aload_n hx hb dL_law_1185 rfl (lv_at hl 3 rfl) ?_
  refine lv_iload_n hx hb dL_law_1186 rfl (lv_at hl 0 rfl) ?_
  refine lv_iconst (v := (3 : Int32)) hx hb dL_law_1187 (by decide) ?_
  refine lv_iadd hx hb dL_law_1188 ?_
  refine x_eqi (show (0 : Int32) + (3 : Int32) = (3 : Int32) from by decide +kernel) ?_
  refine va_sld hx hb hX hbl hbA X.2.2.1 (i := (3 : Int32)) (vp_in_nI (n := 3) (by omega) (by omega)) dL_law_1189 ?_
  refine x_eqi (show xs ((3 : Int32).toNatClampNeg) = xs 3 from rfl) ?_
  refine lv_aload_n hx hb dL_law_1190 rfl (lv_at hl 3 rfl) ?_
  refine lv_iload_n hx hb dL_law_1191 rfl (lv_at hl 0 rfl) ?_
  refine lv_iconst (v := (4 : Int32)) hx hb dL_law_1192 (by decide) ?_
  refine lv_iadd hx hb dL_law_1193 ?_
  refine x_eqi (show (0 : Int32) + (4 : Int32) = (4 : Int32) from by decide +kernel) ?_
  refine va_sld hx hb hX hbl hbA X.2.2.1 (i := (4 : Int32)) (vp_in_nI (n := 4) (by omega) (by omega)) dL_law_1194 ?_
  refine x_eqi (show xs ((4 : Int32).toNatClampNeg) = xs 4 from rfl) ?_
  refine lv_aload_n hx hb dL_law_1195 rfl (lv_at hl 3 rfl) ?_
  refine lv_iload_n hx hb dL_law_1196 rfl (lv_at hl 0 rfl) ?_
  refine lv_iconst (v := (5 : Int32)) hx hb dL_law_1197 (by decide) ?_
  refine lv_iadd hx hb dL_law_1198 ?_
  refine x_eqi (show (0 : Int32) + (5 : Int32) = (5 : Int32) from by decide +kernel) ?_
  refine va_sld hx hb hX hbl hbA X.2.2.1 (i := (5 : Int32)) (vp_in_nI (n := 5) (by omega) (by omega)) dL_law_1199 ?_
  refine x_eqi (show xs ((5 : Int32).toNatClampNeg) = xs 5 from rfl) ?_
  refine x_cV (own := RL) (wr := [((v 0), .inr (12, (mF v))), ((v 1), .inl (cI, 4, .inl (fun _ => (0 : Int32)))), ((v 49), .inl (cJ, 40, .inr (.inl (fun _ => (0 : Int64))))), ((v 50), .inl (cI, 40, .inl (fun _ => (0 : Int32))))]) (As := [.int (xs 1), .int (xs 2), .int (xs 3), .int (xs 4), .int (xs 5)]) C X hl.1 (cx_lasts l D cI cJ cZ cB cO u (xs 1) (xs 2) (xs 3) (xs 4) (xs 5)) [0, 84, 85, 86, 87, 88, 1, 5] [98, 99, 147, 148] ⟨rfl, rfl, by decide, by decide, by decide⟩ (qb := 0) rfl rfl k_55_3 k_55_4 k_55_5 k_1_2 k_55_6 (n := 5) (by decide +kernel) ⟨Nat.le_of_ble_eq_true rfl, Nat.le_of_ble_eq_true rfl⟩ rfl rfl (Nat.le_of_ble_eq_true rfl) dL_law_1200 ⟨Nat.le_of_ble_eq_true rfl, Nat.le_of_ble_eq_true rfl⟩ (fun r_2 u_1 H locs w_3 X => ?_)
  have X : Wd D (fun q : Nat => s.heap.size ≤ q) s [((v 0), .inr (12, (mF v))), ((v 1), .inl (cI, 4, .inl (fun _ => (0 : Int32)))), ((v 49), .inl (cJ, 40, .inr (.inl (fun _ => (0 : Int64))))), ((v 50), .inl (cI, 40, .inl (fun _ => (0 : Int32))))] H locs := X
  refine W.widen (k := 150) (n := 141288) (Nat.le_of_ble_eq_true rfl) (Nat.le_of_ble_eq_true rfl) ?_
  obtain ⟨rfl, fw_3⟩ | ⟨rfl, fw_3⟩ : (r_2 = (0 : Int32) ∧ (-1 ≤ (xs 1).toInt ∧ (xs 1).toInt ≤ 3 ∧ 0 ≤ (xs 2).toInt ∧ (xs 2).toInt < (xs 3).toInt ∧ (xs 3).toInt ≤ (xs 4).toInt ∧ (xs 4).toInt ≤ 39 ∧ 0 ≤ (xs 5).toInt ∧ (xs 5).toInt ≤ 2)) ∨ (r_2 = (-1 : Int32) ∧ ((xs 1).toInt < -1 ∨ 3 < (xs 1).toInt ∨ (xs 2).toInt < 0 ∨ (xs 3).toInt ≤ (xs 2).toInt ∨ (xs 4).toInt < (xs 3).toInt ∨ 39 < (xs 4).toInt ∨ (xs 5).toInt < 0 ∨ 2 < (xs 5).toInt)) := w_3
  · refine lv_aload_n hx hb dL_law_1203 rfl (lv_at hl 1 rfl) ?_
    refine lv_aload_n hx hb dL_law_1204 rfl (lv_at hl 3 rfl) ?_
    refine lv_iload_n hx hb dL_law_1205 rfl (lv_at hl 0 rfl) ?_
    refine lv_iconst (v := (1 : Int32)) hx hb dL_law_1206 (by decide) ?_
    refine lv_iadd hx hb dL_law_1207 ?_
    refine x_eqi (show (0 : Int32) + (1 : Int32) = (1 : Int32) from by decide +kernel) ?_
    refine va_sld hx hb hX hbl hbA X.2.2.1 (i := (1 : Int32)) (vp_in_nI (n := 1) (by omega) (by omega)) dL_law_1208 ?_
    refine x_eqi (show xs ((1 : Int32).toNatClampNeg) = xs 1 from rfl) ?_
    refine lv_aload_n hx hb dL_law_1209 rfl (lv_at hl 3 rfl) ?_
    refine lv_iload_n hx hb dL_law_1210 rfl (lv_at hl 0 rfl) ?_
    refine lv_iconst (v := (2 : Int32)) hx hb dL_law_1211 (by decide) ?_
    refine lv_iadd hx hb dL_law_1212 ?_
    refine x_eqi (show (0 : Int32) + (2 : Int32) = (2 : Int32) from by decide +kernel) ?_
    refine va_sld hx hb hX hbl hbA X.2.2.1 (i := (2 : Int32)) (vp_in_nI (n := 2) (by omega) (by omega)) dL_law_1213 ?_
    refine x_eqi (show xs ((2 : Int32).toNatClampNeg) = xs 2 from rfl) ?_
    refine lv_aload_n hx hb dL_law_1214 rfl (lv_at hl 3 rfl) ?_
    refine lv_iload_n hx hb dL_law_1215 rfl (lv_at hl 0 rfl) ?_
    refine lv_iconst (v := (3 : Int32)) hx hb dL_law_1216 (by decide) ?_
    refine lv_iadd hx hb dL_law_1217 ?_
    refine x_eqi (show (0 : Int32) + (3 : Int32) = (3 : Int32) from by decide +kernel) ?_
    refine va_sld hx hb hX hbl hbA X.2.2.1 (i := (3 : Int32)) (vp_in_nI (n := 3) (by omega) (by omega)) dL_law_1218 ?_
    refine x_eqi (show xs ((3 : Int32).toNatClampNeg) = xs 3 from rfl) ?_
    refine lv_aload_n hx hb dL_law_1219 rfl (lv_at hl 3 rfl) ?_
    refine lv_iload_n hx hb dL_law_1220 rfl (lv_at hl 0 rfl) ?_
    refine lv_iconst (v := (4 : Int32)) hx hb dL_law_1221 (by decide) ?_
    refine lv_iadd hx hb dL_law_1222 ?_
    refine x_eqi (show (0 : Int32) + (4 : Int32) = (4 : Int32) from by decide +kernel) ?_
    refine va_sld hx hb hX hbl hbA X.2.2.1 (i := (4 : Int32)) (vp_in_nI (n := 4) (by omega) (by omega)) dL_law_1223 ?_
    refine x_eqi (show xs ((4 : Int32).toNatClampNeg) = xs 4 from rfl) ?_
    refine lv_aload_n hx hb dL_law_1224 rfl (lv_at hl 3 rfl) ?_
    refine lv_iload_n hx hb dL_law_1225 rfl (lv_at hl 0 rfl) ?_
    refine lv_iconst (v := (5 : Int32)) hx hb dL_law_1226 (by decide) ?_
    refine lv_iadd hx hb dL_law_1227 ?_
    refine x_eqi (show (0 : Int32) + (5 : Int32) = (5 : Int32) from by decide +kernel) ?_
    refine va_sld hx hb hX hbl hbA X.2.2.1 (i := (5 : Int32)) (vp_in_nI (n := 5) (by omega) (by omega)) dL_law_1228 ?_
    refine x_eqi (show xs ((5 : Int32).toNatClampNeg) = xs 5 from rfl) ?_
    refine x_cV (own := RL) (wr := []) (As := [.int (xs 1), .int (xs 2), .int (xs 3), .int (xs 4), .int (xs 5)]) C X hl.1 (cm_lasts l D cI cJ cZ cB cO v (xs 1) (xs 2) (xs 3) (xs 4) (xs 5)) [0, 1, 2, 3] [] ⟨rfl, rfl, by decide, by decide, by decide⟩ (qb := 0) rfl rfl k_56_14 k_56_15 k_56_16 k_1_5 k_56_17 (n := 5) (by decide +kernel) ⟨Nat.le_of_ble_eq_true rfl, Nat.le_of_ble_eq_true rfl⟩ rfl rfl (Nat.le_of_ble_eq_true rfl) dL_law_1229 ⟨Nat.le_of_ble_eq_true rfl, Nat.le_of_ble_eq_true rfl⟩ (fun r_5 u_4 H locs w_6 X => ?_)
    have X : Wd D (fun q : Nat => s.heap.size ≤ q) s [] H locs := X
    refine W.widen (k := 150) (n := 141288) (Nat.le_of_ble_eq_true rfl) (Nat.le_of_ble_eq_true rfl) ?_
    obtain ⟨rfl, fw_6⟩ | ⟨rfl, fw_6⟩ : (r_5 = (0 : Int32) ∧ (-1 ≤ (xs 1).toInt ∧ (xs 1).toInt ≤ 3 ∧ 0 ≤ (xs 2).toInt ∧ (xs 2).toInt < (xs 3).toInt ∧ (xs 3).toInt ≤ (xs 4).toInt ∧ (xs 4).toInt ≤ 39 ∧ 0 ≤ (xs 5).toInt ∧ (xs 5).toInt ≤ 2)) ∨ (r_5 = (-1 : Int32) ∧ ((xs 1).toInt < -1 ∨ 3 < (xs 1).toInt ∨ (xs 2).toInt < 0 ∨ (xs 3).toInt ≤ (xs 2).toInt ∨ (xs 4).toInt < (xs 3).toInt ∨ 39 < (xs 4).toInt ∨ (xs 5).toInt < 0 ∨ 2 < (xs 5).toInt)) := w_6
    · refine lv_icmp_eq (tgt := 1721) hx hb dL_law_1232 (by decide) (fun _ => ?_) (fun c0 => absurd (by decide) c0)
      exact law_tail K0 X hl (Nat.le_of_ble_eq_true rfl) (Nat.le_of_ble_eq_true rfl)
    · exfalso; omega
  · refine lv_aload_n hx hb dL_law_1203 rfl (lv_at hl 1 rfl) ?_
    refine lv_aload_n hx hb dL_law_1204 rfl (lv_at hl 3 rfl) ?_
    refine lv_iload_n hx hb dL_law_1205 rfl (lv_at hl 0 rfl) ?_
    refine lv_iconst (v := (1 : Int32)) hx hb dL_law_1206 (by decide) ?_
    refine lv_iadd hx hb dL_law_1207 ?_
    refine x_eqi (show (0 : Int32) + (1 : Int32) = (1 : Int32) from by decide +kernel) ?_
    refine va_sld hx hb hX hbl hbA X.2.2.1 (i := (1 : Int32)) (vp_in_nI (n := 1) (by omega) (by omega)) dL_law_1208 ?_
    refine x_eqi (show xs ((1 : Int32).toNatClampNeg) = xs 1 from rfl) ?_
    refine lv_aload_n hx hb dL_law_1209 rfl (lv_at hl 3 rfl) ?_
    refine lv_iload_n hx hb dL_law_1210 rfl (lv_at hl 0 rfl) ?_
    refine lv_iconst (v := (2 : Int32)) hx hb dL_law_1211 (by decide) ?_
    refine lv_iadd hx hb dL_law_1212 ?_
    refine x_eqi (show (0 : Int32) + (2 : Int32) = (2 : Int32) from by decide +kernel) ?_
    refine va_sld hx hb hX hbl hbA X.2.2.1 (i := (2 : Int32)) (vp_in_nI (n := 2) (by omega) (by omega)) dL_law_1213 ?_
    refine x_eqi (show xs ((2 : Int32).toNatClampNeg) = xs 2 from rfl) ?_
    refine lv_aload_n hx hb dL_law_1214 rfl (lv_at hl 3 rfl) ?_
    refine lv_iload_n hx hb dL_law_1215 rfl (lv_at hl 0 rfl) ?_
    refine lv_iconst (v := (3 : Int32)) hx hb dL_law_1216 (by decide) ?_
    refine lv_iadd hx hb dL_law_1217 ?_
    refine x_eqi (show (0 : Int32) + (3 : Int32) = (3 : Int32) from by decide +kernel) ?_
    refine va_sld hx hb hX hbl hbA X.2.2.1 (i := (3 : Int32)) (vp_in_nI (n := 3) (by omega) (by omega)) dL_law_1218 ?_
    refine x_eqi (show xs ((3 : Int32).toNatClampNeg) = xs 3 from rfl) ?_
    refine lv_aload_n hx hb dL_law_1219 rfl (lv_at hl 3 rfl) ?_
    refine lv_iload_n hx hb dL_law_1220 rfl (lv_at hl 0 rfl) ?_
    refine lv_iconst (v := (4 : Int32)) hx hb dL_law_1221 (by decide) ?_
    refine lv_iadd hx hb dL_law_1222 ?_
    refine x_eqi (show (0 : Int32) + (4 : Int32) = (4 : Int32) from by decide +kernel) ?_
    refine va_sld hx hb hX hbl hbA X.2.2.1 (i := (4 : Int32)) (vp_in_nI (n := 4) (by omega) (by omega)) dL_law_1223 ?_
    refine x_eqi (show xs ((4 : Int32).toNatClampNeg) = xs 4 from rfl) ?_
    refine lv_aload_n hx hb dL_law_1224 rfl (lv_at hl 3 rfl) ?_
    refine lv_iload_n hx hb dL_law_1225 rfl (lv_at hl 0 rfl) ?_
    refine lv_iconst (v := (5 : Int32)) hx hb dL_law_1226 (by decide) ?_
    refine lv_iadd hx hb dL_law_1227 ?_
    refine x_eqi (show (0 : Int32) + (5 : Int32) = (5 : Int32) from by decide +kernel) ?_
    refine va_sld hx hb hX hbl hbA X.2.2.1 (i := (5 : Int32)) (vp_in_nI (n := 5) (by omega) (by omega)) dL_law_1228 ?_
    refine x_eqi (show xs ((5 : Int32).toNatClampNeg) = xs 5 from rfl) ?_
    refine x_cV (own := RL) (wr := []) (As := [.int (xs 1), .int (xs 2), .int (xs 3), .int (xs 4), .int (xs 5)]) C X hl.1 (cm_lasts l D cI cJ cZ cB cO v (xs 1) (xs 2) (xs 3) (xs 4) (xs 5)) [0, 1, 2, 3] [] ⟨rfl, rfl, by decide, by decide, by decide⟩ (qb := 0) rfl rfl k_56_14 k_56_15 k_56_16 k_1_5 k_56_17 (n := 5) (by decide +kernel) ⟨Nat.le_of_ble_eq_true rfl, Nat.le_of_ble_eq_true rfl⟩ rfl rfl (Nat.le_of_ble_eq_true rfl) dL_law_1229 ⟨Nat.le_of_ble_eq_true rfl, Nat.le_of_ble_eq_true rfl⟩ (fun r_8 u_7 H locs w_9 X => ?_)
    have X : Wd D (fun q : Nat => s.heap.size ≤ q) s [] H locs := X
    refine W.widen (k := 150) (n := 141288) (Nat.le_of_ble_eq_true rfl) (Nat.le_of_ble_eq_true rfl) ?_
    obtain ⟨rfl, fw_9⟩ | ⟨rfl, fw_9⟩ : (r_8 = (0 : Int32) ∧ (-1 ≤ (xs 1).toInt ∧ (xs 1).toInt ≤ 3 ∧ 0 ≤ (xs 2).toInt ∧ (xs 2).toInt < (xs 3).toInt ∧ (xs 3).toInt ≤ (xs 4).toInt ∧ (xs 4).toInt ≤ 39 ∧ 0 ≤ (xs 5).toInt ∧ (xs 5).toInt ≤ 2)) ∨ (r_8 = (-1 : Int32) ∧ ((xs 1).toInt < -1 ∨ 3 < (xs 1).toInt ∨ (xs 2).toInt < 0 ∨ (xs 3).toInt ≤ (xs 2).toInt ∨ (xs 4).toInt < (xs 3).toInt ∨ 39 < (xs 4).toInt ∨ (xs 5).toInt < 0 ∨ 2 < (xs 5).toInt)) := w_9
    · exfalso; omega
    · refine lv_icmp_eq (tgt := 1721) hx hb dL_law_1232 (by decide) (fun _ => ?_) (fun c0 => absurd (by decide) c0)
      exact law_tail K0 X hl (Nat.le_of_ble_eq_true rfl) (Nat.le_of_ble_eq_true rfl)
set_option maxHeartbeats 4000000 in
set_option maxRecDepth 100000 in
theorem law_c25 {p : Program} {e : Env} {s : State} {m : MethodId} {below : List Frame} {meth : Method} {c : Code} {l : Launch} {b : Nat} {xs : Nat → Int32} {D : va_G} {cI cJ cZ cB cO : ClassId} (K0 : LwC p s m meth c b xs D [(cI, .int), (cJ, .long), (cZ, .boolean), (cB, .byte), (cO, .object "LuckLinks$World")]) {u v : Nat → Nat} {H : Heap} {locs : List Loc} {ls : Array Slot} (X : Wd D (fun q : Nat => s.heap.size ≤ q) s (xW cI cJ cZ cB cO u ++ mW cI cJ cZ cB cO v) H locs) (hl : lv_has ls 4 [(3, .int (0 : Int32)), (2, .ref (v 0)), (1, .ref (u 0)), (0, .ref b)]) :
    W p l e room_1 s m #[Value.ref b] below meth c H locs 150 141288 (lw_Z below #[Value.ref b] s) (F0 m 1237 ls []) := by
  have C := K0.1
  have hx := C.1
  have hb := C.2.1
  have hX := K0.2.2.2.1
  have hbl := K0.2.2.2.2
  have hbA : ¬ (fun q : Nat => s.heap.size ≤ q) b := Nat.not_le.mpr hbl
  refine lv_aload_n hx hb dL_law_1237 rfl (lv_at hl 2 rfl) ?_
  refine lv_aload_n hx hb dL_law_1238 rfl (lv_at hl 3 rfl) ?_
  refine lv_iload_n hx hb dL_law_1239 rfl (lv_at hl 0 rfl) ?_
  refine lv_iconst (v := (1 : Int32)) hx hb dL_law_1240 (by decide) ?_
  refine lv_iadd hx hb dL_law_1241 ?_
  refine x_eqi (show (0 : Int32) + (1 : Int32) = (1 : Int32) from by decide +kernel) ?_
  refine va_sld hx hb hX hbl hbA X.2.2.1 (i := (1 : Int32)) (vp_in_nI (n := 1) (by omega) (by omega)) dL_law_1242 ?_
  refine x_eqi (show xs ((1 : Int32).toNatClampNeg) = xs 1 from rfl) ?_
  refine lv_aload_n hx hb dL_law_1243 rfl (lv_at hl 3 rfl) ?_
  refine lv_iload_n hx hb dL_law_1244 rfl (lv_at hl 0 rfl) ?_
  refine lv_iconst (v := (2 : Int32)) hx hb dL_law_1245 (by decide) ?_
  refine lv_iadd hx hb dL_law_1246 ?_
  refine x_eqi (show (0 : Int32) + (2 : Int32) = (2 : Int32) from by decide +kernel) ?_
  refine va_sld hx hb hX hbl hbA X.2.2.1 (i := (2 : Int32)) (vp_in_nI (n := 2) (by omega) (by omega)) dL_law_1247 ?_
  refine x_eqi (show xs ((2 : Int32).toNatClampNeg) = xs 2 from rfl) ?_
  refine lv_aload_n hx hb dL_law_1248 rfl (lv_at hl 3 rfl) ?_
  refine lv_iload_n hx hb dL_law_1249 rfl (lv_at hl 0 rfl) ?_
  refine lv_iconst (v := (3 : Int32)) hx hb dL_law_1250 (by decide) ?_
  refine lv_iadd hx hb dL_law_1251 ?_
  refine x_eqi (show (0 : Int32) + (3 : Int32) = (3 : Int32) from by decide +kernel) ?_
  refine va_sld hx hb hX hbl hbA X.2.2.1 (i := (3 : Int32)) (vp_in_nI (n := 3) (by omega) (by omega)) dL_law_1252 ?_
  refine x_eqi (show xs ((3 : Int32).toNatClampNeg) = xs 3 from rfl) ?_
  refine x_cV (own := RL) (wr := [((v 0), .inr (12, (mF v))), ((v 1), .inl (cI, 4, .inl (fun _ => (0 : Int32)))), ((v 49), .inl (cJ, 40, .inr (.inl (fun _ => (0 : Int64))))), ((v 50), .inl (cI, 40, .inl (fun _ => (0 : Int32))))]) (As := [.int (xs 1), .int (xs 2), .int (xs 3)]) C X hl.1 (cx_most l D cI cJ cZ cB cO u (xs 1) (xs 2) (xs 3)) [0, 84, 85, 86, 87, 88, 1, 5] [98, 99, 147, 148] ⟨rfl, rfl, by decide, by decide, by decide⟩ (qb := 0) rfl rfl k_57_9 k_57_10 k_57_11 k_1_2 k_57_12 (n := 3) (by decide +kernel) ⟨Nat.le_of_ble_eq_true rfl, Nat.le_of_ble_eq_true rfl⟩ rfl rfl (Nat.le_of_ble_eq_true rfl) dL_law_1253 ⟨Nat.le_of_ble_eq_true rfl, Nat.le_of_ble_eq_true rfl⟩ (fun r_2 u_1 H locs w_3 X => ?_)
  have X : Wd D (fun q : Nat => s.heap.size ≤ q) s [((v 0), .inr (12, (mF v))), ((v 1), .inl (cI, 4, .inl (fun _ => (0 : Int32)))), ((v 49), .inl (cJ, 40, .inr (.inl (fun _ => (0 : Int64))))), ((v 50), .inl (cI, 40, .inl (fun _ => (0 : Int32))))] H locs := X
  refine W.widen (k := 150) (n := 141288) (Nat.le_of_ble_eq_true rfl) (Nat.le_of_ble_eq_true rfl) ?_
  obtain ⟨rfl, fw_3⟩ | ⟨rfl, fw_3⟩ : (r_2 = (0 : Int32) ∧ (0 ≤ (xs 1).toInt ∧ (xs 1).toInt < (xs 2).toInt ∧ (xs 2).toInt ≤ (xs 3).toInt ∧ (xs 3).toInt ≤ 39)) ∨ (r_2 = (-1 : Int32) ∧ ((xs 1).toInt < 0 ∨ (xs 2).toInt ≤ (xs 1).toInt ∨ (xs 3).toInt < (xs 2).toInt ∨ 39 < (xs 3).toInt)) := w_3
  · refine lv_aload_n hx hb dL_law_1256 rfl (lv_at hl 1 rfl) ?_
    refine lv_aload_n hx hb dL_law_1257 rfl (lv_at hl 3 rfl) ?_
    refine lv_iload_n hx hb dL_law_1258 rfl (lv_at hl 0 rfl) ?_
    refine lv_iconst (v := (1 : Int32)) hx hb dL_law_1259 (by decide) ?_
    refine lv_iadd hx hb dL_law_1260 ?_
    refine x_eqi (show (0 : Int32) + (1 : Int32) = (1 : Int32) from by decide +kernel) ?_
    refine va_sld hx hb hX hbl hbA X.2.2.1 (i := (1 : Int32)) (vp_in_nI (n := 1) (by omega) (by omega)) dL_law_1261 ?_
    refine x_eqi (show xs ((1 : Int32).toNatClampNeg) = xs 1 from rfl) ?_
    refine lv_aload_n hx hb dL_law_1262 rfl (lv_at hl 3 rfl) ?_
    refine lv_iload_n hx hb dL_law_1263 rfl (lv_at hl 0 rfl) ?_
    refine lv_iconst (v := (2 : Int32)) hx hb dL_law_1264 (by decide) ?_
    refine lv_iadd hx hb dL_law_1265 ?_
    refine x_eqi (show (0 : Int32) + (2 : Int32) = (2 : Int32) from by decide +kernel) ?_
    refine va_sld hx hb hX hbl hbA X.2.2.1 (i := (2 : Int32)) (vp_in_nI (n := 2) (by omega) (by omega)) dL_law_1266 ?_
    refine x_eqi (show xs ((2 : Int32).toNatClampNeg) = xs 2 from rfl) ?_
    refine lv_aload_n hx hb dL_law_1267 rfl (lv_at hl 3 rfl) ?_
    refine lv_iload_n hx hb dL_law_1268 rfl (lv_at hl 0 rfl) ?_
    refine lv_iconst (v := (3 : Int32)) hx hb dL_law_1269 (by decide) ?_
    refine lv_iadd hx hb dL_law_1270 ?_
    refine x_eqi (show (0 : Int32) + (3 : Int32) = (3 : Int32) from by decide +kernel) ?_
    refine va_sld hx hb hX hbl hbA X.2.2.1 (i := (3 : Int32)) (vp_in_nI (n := 3) (by omega) (by omega)) dL_law_1271 ?_
    refine x_eqi (show xs ((3 : Int32).toNatClampNeg) = xs 3 from rfl) ?_
    refine x_cV (own := RL) (wr := []) (As := [.int (xs 1), .int (xs 2), .int (xs 3)]) C X hl.1 (cm_most l D cI cJ cZ cB cO v (xs 1) (xs 2) (xs 3)) [0, 1, 2, 3] [] ⟨rfl, rfl, by decide, by decide, by decide⟩ (qb := 0) rfl rfl k_57_18 k_57_19 k_57_20 k_1_5 k_57_21 (n := 3) (by decide +kernel) ⟨Nat.le_of_ble_eq_true rfl, Nat.le_of_ble_eq_true rfl⟩ rfl rfl (Nat.le_of_ble_eq_true rfl) dL_law_1272 ⟨Nat.le_of_ble_eq_true rfl, Nat.le_of_ble_eq_true rfl⟩ (fun r_5 u_4 H locs w_6 X => ?_)
    have X : Wd D (fun q : Nat => s.heap.size ≤ q) s [] H locs := X
    refine W.widen (k := 150) (n := 141288) (Nat.le_of_ble_eq_true rfl) (Nat.le_of_ble_eq_true rfl) ?_
    obtain ⟨rfl, fw_6⟩ | ⟨rfl, fw_6⟩ : (r_5 = (0 : Int32) ∧ (0 ≤ (xs 1).toInt ∧ (xs 1).toInt < (xs 2).toInt ∧ (xs 2).toInt ≤ (xs 3).toInt ∧ (xs 3).toInt ≤ 39)) ∨ (r_5 = (-1 : Int32) ∧ ((xs 1).toInt < 0 ∨ (xs 2).toInt ≤ (xs 1).toInt ∨ (xs 3).toInt < (xs 2).toInt ∨ 39 < (xs 3).toInt)) := w_6
    · refine lv_icmp_eq (tgt := 1721) hx hb dL_law_1275 (by decide) (fun _ => ?_) (fun c0 => absurd (by decide) c0)
      exact law_tail K0 X hl (Nat.le_of_ble_eq_true rfl) (Nat.le_of_ble_eq_true rfl)
    · exfalso; omega
  · refine lv_aload_n hx hb dL_law_1256 rfl (lv_at hl 1 rfl) ?_
    refine lv_aload_n hx hb dL_law_1257 rfl (lv_at hl 3 rfl) ?_
    refine lv_iload_n hx hb dL_law_1258 rfl (lv_at hl 0 rfl) ?_
    refine lv_iconst (v := (1 : Int32)) hx hb dL_law_1259 (by decide) ?_
    refine lv_iadd hx hb dL_law_1260 ?_
    refine x_eqi (show (0 : Int32) + (1 : Int32) = (1 : Int32) from by decide +kernel) ?_
    refine va_sld hx hb hX hbl hbA X.2.2.1 (i := (1 : Int32)) (vp_in_nI (n := 1) (by omega) (by omega)) dL_law_1261 ?_
    refine x_eqi (show xs ((1 : Int32).toNatClampNeg) = xs 1 from rfl) ?_
    refine lv_aload_n hx hb dL_law_1262 rfl (lv_at hl 3 rfl) ?_
    refine lv_iload_n hx hb dL_law_1263 rfl (lv_at hl 0 rfl) ?_
    refine lv_iconst (v := (2 : Int32)) hx hb dL_law_1264 (by decide) ?_
    refine lv_iadd hx hb dL_law_1265 ?_
    refine x_eqi (show (0 : Int32) + (2 : Int32) = (2 : Int32) from by decide +kernel) ?_
    refine va_sld hx hb hX hbl hbA X.2.2.1 (i := (2 : Int32)) (vp_in_nI (n := 2) (by omega) (by omega)) dL_law_1266 ?_
    refine x_eqi (show xs ((2 : Int32).toNatClampNeg) = xs 2 from rfl) ?_
    refine lv_aload_n hx hb dL_law_1267 rfl (lv_at hl 3 rfl) ?_
    refine lv_iload_n hx hb dL_law_1268 rfl (lv_at hl 0 rfl) ?_
    refine lv_iconst (v := (3 : Int32)) hx hb dL_law_1269 (by decide) ?_
    refine lv_iadd hx hb dL_law_1270 ?_
    refine x_eqi (show (0 : Int32) + (3 : Int32) = (3 : Int32) from by decide +kernel) ?_
    refine va_sld hx hb hX hbl hbA X.2.2.1 (i := (3 : Int32)) (vp_in_nI (n := 3) (by omega) (by omega)) dL_law_1271 ?_
    refine x_eqi (show xs ((3 : Int32).toNatClampNeg) = xs 3 from rfl) ?_
    refine x_cV (own := RL) (wr := []) (As := [.int (xs 1), .int (xs 2), .int (xs 3)]) C X hl.1 (cm_most l D cI cJ cZ cB cO v (xs 1) (xs 2) (xs 3)) [0, 1, 2, 3] [] ⟨rfl, rfl, by decide, by decide, by decide⟩ (qb := 0) rfl rfl k_57_18 k_57_19 k_57_20 k_1_5 k_57_21 (n := 3) (by decide +kernel) ⟨Nat.le_of_ble_eq_true rfl, Nat.le_of_ble_eq_true rfl⟩ rfl rfl (Nat.le_of_ble_eq_true rfl) dL_law_1272 ⟨Nat.le_of_ble_eq_true rfl, Nat.le_of_ble_eq_true rfl⟩ (fun r_8 u_7 H locs w_9 X => ?_)
    have X : Wd D (fun q : Nat => s.heap.size ≤ q) s [] H locs := X
    refine W.widen (k := 150) (n := 141288) (Nat.le_of_ble_eq_true rfl) (Nat.le_of_ble_eq_true rfl) ?_
    obtain ⟨rfl, fw_9⟩ | ⟨rfl, fw_9⟩ : (r_8 = (0 : Int32) ∧ (0 ≤ (xs 1).toInt ∧ (xs 1).toInt < (xs 2).toInt ∧ (xs 2).toInt ≤ (xs 3).toInt ∧ (xs 3).toInt ≤ 39)) ∨ (r_8 = (-1 : Int32) ∧ ((xs 1).toInt < 0 ∨ (xs 2).toInt ≤ (xs 1).toInt ∨ (xs 3).toInt < (xs 2).toInt ∨ 39 < (xs 3).toInt)) := w_9
    · exfalso; omega
    · refine lv_icmp_eq (tgt := 1721) hx hb dL_law_1275 (by decide) (fun _ => ?_) (fun c0 => absurd (by decide) c0)
      exact law_tail K0 X hl (Nat.le_of_ble_eq_true rfl) (Nat.le_of_ble_eq_true rfl)
set_option maxHeartbeats 4000000 in
set_option maxRecDepth 100000 in
theorem law_c26 {p : Program} {e : Env} {s : State} {m : MethodId} {below : List Frame} {meth : Method} {c : Code} {l : Launch} {b : Nat} {xs : Nat → Int32} {D : va_G} {cI cJ cZ cB cO : ClassId} (K0 : LwC p s m meth c b xs D [(cI, .int), (cJ, .long), (cZ, .boolean), (cB, .byte), (cO, .object "LuckLinks$World")]) {u v : Nat → Nat} {H : Heap} {locs : List Loc} {ls : Array Slot} (X : Wd D (fun q : Nat => s.heap.size ≤ q) s (xW cI cJ cZ cB cO u ++ mW cI cJ cZ cB cO v) H locs) (hl : lv_has ls 4 [(3, .int (0 : Int32)), (2, .ref (v 0)), (1, .ref (u 0)), (0, .ref b)]) :
    W p l e room_1 s m #[Value.ref b] below meth c H locs 150 141288 (lw_Z below #[Value.ref b] s) (F0 m 1280 ls []) := by
  have C := K0.1
  have hx := C.1
  have hb := C.2.1
  have hX := K0.2.2.2.1
  have hbl := K0.2.2.2.2
  have hbA : ¬ (fun q : Nat => s.heap.size ≤ q) b := Nat.not_le.mpr hbl
  refine lv_aload_n hx hb dL_law_1280 rfl (lv_at hl 2 rfl) ?_
  refine lv_aload_n hx hb dL_law_1281 rfl (lv_at hl 3 rfl) ?_
  refine lv_iload_n hx hb dL_law_1282 rfl (lv_at hl 0 rfl) ?_
  refine lv_iconst (v := (1 : Int32)) hx hb dL_law_1283 (by decide) ?_
  refine lv_iadd hx hb dL_law_1284 ?_
  refine x_eqi (show (0 : Int32) + (1 : Int32) = (1 : Int32) from by decide +kernel) ?_
  refine va_sld hx hb hX hbl hbA X.2.2.1 (i := (1 : Int32)) (vp_in_nI (n := 1) (by omega) (by omega)) dL_law_1285 ?_
  refine x_eqi (show xs ((1 : Int32).toNatClampNeg) = xs 1 from rfl) ?_
  refine lv_aload_n hx hb dL_law_1286 rfl (lv_at hl 3 rfl) ?_
  refine lv_iload_n hx hb dL_law_1287 rfl (lv_at hl 0 rfl) ?_
  refine lv_iconst (v := (2 : Int32)) hx hb dL_law_1288 (by decide) ?_
  refine lv_iadd hx hb dL_law_1289 ?_
  refine x_eqi (show (0 : Int32) + (2 : Int32) = (2 : Int32) from by decide +kernel) ?_
  refine va_sld hx hb hX hbl hbA X.2.2.1 (i := (2 : Int32)) (vp_in_nI (n := 2) (by omega) (by omega)) dL_law_1290 ?_
  refine x_eqi (show xs ((2 : Int32).toNatClampNeg) = xs 2 from rfl) ?_
  refine lv_aload_n hx hb dL_law_1291 rfl (lv_at hl 3 rfl) ?_
  refine lv_iload_n hx hb dL_law_1292 rfl (lv_at hl 0 rfl) ?_
  refine lv_iconst (v := (3 : Int32)) hx hb dL_law_1293 (by decide) ?_
  refine lv_iadd hx hb dL_law_1294 ?_
  refine x_eqi (show (0 : Int32) + (3 : Int32) = (3 : Int32) from by decide +kernel) ?_
  refine va_sld hx hb hX hbl hbA X.2.2.1 (i := (3 : Int32)) (vp_in_nI (n := 3) (by omega) (by omega)) dL_law_1295 ?_
  refine x_eqi (show xs ((3 : Int32).toNatClampNeg) = xs 3 from rfl) ?_
  refine x_cVl (own := RL) (wr := [((v 0), .inr (12, (mF v))), ((v 1), .inl (cI, 4, .inl (fun _ => (0 : Int32))))]) (As := [.int (xs 1), .int (xs 2), .int (xs 3)]) C X hl.1 (cx_right l D cI cJ cZ cB cO u (xs 1) (xs 2) (xs 3)) [0, 97, 1, 67] [98, 99] ⟨rfl, rfl, by decide, by decide, by decide⟩ (qb := 0) rfl rfl k_57_22 k_57_23 k_58_0 k_1_2 k_58_1 (n := 3) (by decide +kernel) ⟨Nat.le_of_ble_eq_true rfl, Nat.le_of_ble_eq_true rfl⟩ rfl rfl (Nat.le_of_ble_eq_true rfl) dL_law_1296 ⟨Nat.le_of_ble_eq_true rfl, Nat.le_of_ble_eq_true rfl⟩ (fun r_2 u_1 H locs w_3 X => ?_)
  have X : Wd D (fun q : Nat => s.heap.size ≤ q) s [((v 0), .inr (12, (mF v))), ((v 1), .inl (cI, 4, .inl (fun _ => (0 : Int32))))] H locs := X
  refine W.widen (k := 150) (n := 141288) (Nat.le_of_ble_eq_true rfl) (Nat.le_of_ble_eq_true rfl) ?_
  obtain ⟨rfl, fw_3⟩ : r_2 = (-1 : Int64) ∧ True := w_3
  refine lv_aload_n hx hb dL_law_1299 rfl (lv_at hl 1 rfl) ?_
  refine lv_aload_n hx hb dL_law_1300 rfl (lv_at hl 3 rfl) ?_
  refine lv_iload_n hx hb dL_law_1301 rfl (lv_at hl 0 rfl) ?_
  refine lv_iconst (v := (1 : Int32)) hx hb dL_law_1302 (by decide) ?_
  refine lv_iadd hx hb dL_law_1303 ?_
  refine x_eqi (show (0 : Int32) + (1 : Int32) = (1 : Int32) from by decide +kernel) ?_
  refine va_sld hx hb hX hbl hbA X.2.2.1 (i := (1 : Int32)) (vp_in_nI (n := 1) (by omega) (by omega)) dL_law_1304 ?_
  refine x_eqi (show xs ((1 : Int32).toNatClampNeg) = xs 1 from rfl) ?_
  refine lv_aload_n hx hb dL_law_1305 rfl (lv_at hl 3 rfl) ?_
  refine lv_iload_n hx hb dL_law_1306 rfl (lv_at hl 0 rfl) ?_
  refine lv_iconst (v := (2 : Int32)) hx hb dL_law_1307 (by decide) ?_
  refine lv_iadd hx hb dL_law_1308 ?_
  refine x_eqi (show (0 : Int32) + (2 : Int32) = (2 : Int32) from by decide +kernel) ?_
  refine va_sld hx hb hX hbl hbA X.2.2.1 (i := (2 : Int32)) (vp_in_nI (n := 2) (by omega) (by omega)) dL_law_1309 ?_
  refine x_eqi (show xs ((2 : Int32).toNatClampNeg) = xs 2 from rfl) ?_
  refine lv_aload_n hx hb dL_law_1310 rfl (lv_at hl 3 rfl) ?_
  refine lv_iload_n hx hb dL_law_1311 rfl (lv_at hl 0 rfl) ?_
  refine lv_iconst (v := (3 : Int32)) hx hb dL_law_1312 (by decide) ?_
  refine lv_iadd hx hb dL_law_1313 ?_
  refine x_eqi (show (0 : Int32) + (3 : Int32) = (3 : Int32) from by decide +kernel) ?_
  refine va_sld hx hb hX hbl hbA X.2.2.1 (i := (3 : Int32)) (vp_in_nI (n := 3) (by omega) (by omega)) dL_law_1314 ?_
  refine x_eqi (show xs ((3 : Int32).toNatClampNeg) = xs 3 from rfl) ?_
  refine x_cVl (own := RL) (wr := []) (As := [.int (xs 1), .int (xs 2), .int (xs 3)]) C X hl.1 (cm_right l D cI cJ cZ cB cO v (xs 1) (xs 2) (xs 3)) [0, 1] [] ⟨rfl, rfl, by decide, by decide, by decide⟩ (qb := 0) rfl rfl k_58_7 k_58_8 k_58_9 k_1_5 k_58_10 (n := 3) (by decide +kernel) ⟨Nat.le_of_ble_eq_true rfl, Nat.le_of_ble_eq_true rfl⟩ rfl rfl (Nat.le_of_ble_eq_true rfl) dL_law_1315 ⟨Nat.le_of_ble_eq_true rfl, Nat.le_of_ble_eq_true rfl⟩ (fun r_5 u_4 H locs w_6 X => ?_)
  have X : Wd D (fun q : Nat => s.heap.size ≤ q) s [] H locs := X
  refine W.widen (k := 150) (n := 141288) (Nat.le_of_ble_eq_true rfl) (Nat.le_of_ble_eq_true rfl) ?_
  obtain ⟨rfl, fw_6⟩ : r_5 = (-1 : Int64) ∧ True := w_6
  refine W.lcmp hx hb dL_law_1318 ?_
  refine x_eqi (show lg_cmp (-1 : Int64) (-1 : Int64) = (0 : Int32) from by decide) ?_
  refine lv_if_eq (tgt := 1721) hx hb dL_law_1319 (by decide) (fun _ => ?_) (fun c0 => absurd (by decide) c0)
  exact law_tail K0 X hl (Nat.le_of_ble_eq_true rfl) (Nat.le_of_ble_eq_true rfl)
set_option maxHeartbeats 4000000 in
set_option maxRecDepth 100000 in
theorem law_c27 {p : Program} {e : Env} {s : State} {m : MethodId} {below : List Frame} {meth : Method} {c : Code} {l : Launch} {b : Nat} {xs : Nat → Int32} {D : va_G} {cI cJ cZ cB cO : ClassId} (K0 : LwC p s m meth c b xs D [(cI, .int), (cJ, .long), (cZ, .boolean), (cB, .byte), (cO, .object "LuckLinks$World")]) {u v : Nat → Nat} {H : Heap} {locs : List Loc} {ls : Array Slot} (X : Wd D (fun q : Nat => s.heap.size ≤ q) s (xW cI cJ cZ cB cO u ++ mW cI cJ cZ cB cO v) H locs) (hl : lv_has ls 4 [(3, .int (0 : Int32)), (2, .ref (v 0)), (1, .ref (u 0)), (0, .ref b)]) :
    W p l e room_1 s m #[Value.ref b] below meth c H locs 150 141288 (lw_Z below #[Value.ref b] s) (F0 m 1324 ls []) := by
  have C := K0.1
  have hx := C.1
  have hb := C.2.1
  have hX := K0.2.2.2.1
  have hbl := K0.2.2.2.2
  have hbA : ¬ (fun q : Nat => s.heap.size ≤ q) b := Nat.not_le.mpr hbl
  refine lv_aload_n hx hb dL_law_1324 rfl (lv_at hl 2 rfl) ?_
  refine lv_aload_n hx hb dL_law_1325 rfl (lv_at hl 3 rfl) ?_
  refine lv_iload_n hx hb dL_law_1326 rfl (lv_at hl 0 rfl) ?_
  refine lv_iconst (v := (1 : Int32)) hx hb dL_law_1327 (by decide) ?_
  refine lv_iadd hx hb dL_law_1328 ?_
  refine x_eqi (show (0 : Int32) + (1 : Int32) = (1 : Int32) from by decide +kernel) ?_
  refine va_sld hx hb hX hbl hbA X.2.2.1 (i := (1 : Int32)) (vp_in_nI (n := 1) (by omega) (by omega)) dL_law_1329 ?_
  refine x_eqi (show xs ((1 : Int32).toNatClampNeg) = xs 1 from rfl) ?_
  refine lv_aload_n hx hb dL_law_1330 rfl (lv_at hl 3 rfl) ?_
  refine lv_iload_n hx hb dL_law_1331 rfl (lv_at hl 0 rfl) ?_
  refine lv_iconst (v := (2 : Int32)) hx hb dL_law_1332 (by decide) ?_
  refine lv_iadd hx hb dL_law_1333 ?_
  refine x_eqi (show (0 : Int32) + (2 : Int32) = (2 : Int32) from by decide +kernel) ?_
  refine va_sld hx hb hX hbl hbA X.2.2.1 (i := (2 : Int32)) (vp_in_nI (n := 2) (by omega) (by omega)) dL_law_1334 ?_
  refine x_eqi (show xs ((2 : Int32).toNatClampNeg) = xs 2 from rfl) ?_
  refine lv_aload_n hx hb dL_law_1335 rfl (lv_at hl 3 rfl) ?_
  refine lv_iload_n hx hb dL_law_1336 rfl (lv_at hl 0 rfl) ?_
  refine lv_iconst (v := (3 : Int32)) hx hb dL_law_1337 (by decide) ?_
  refine lv_iadd hx hb dL_law_1338 ?_
  refine x_eqi (show (0 : Int32) + (3 : Int32) = (3 : Int32) from by decide +kernel) ?_
  refine va_sld hx hb hX hbl hbA X.2.2.1 (i := (3 : Int32)) (vp_in_nI (n := 3) (by omega) (by omega)) dL_law_1339 ?_
  refine x_eqi (show xs ((3 : Int32).toNatClampNeg) = xs 3 from rfl) ?_
  refine x_cV (own := RL) (wr := [((v 0), .inr (12, (mF v))), ((v 1), .inl (cI, 4, .inl (fun _ => (0 : Int32))))]) (As := [.int (xs 1), .int (xs 2), .int (xs 3)]) C X hl.1 (cx_listed l D cI cJ cZ cB cO u (xs 1) (xs 2) (xs 3)) [0, 1] [98, 99] ⟨rfl, rfl, by decide, by decide, by decide⟩ (qb := 0) rfl rfl k_58_12 k_58_13 k_58_14 k_1_2 k_58_15 (n := 3) (by decide +kernel) ⟨Nat.le_of_ble_eq_true rfl, Nat.le_of_ble_eq_true rfl⟩ rfl rfl (Nat.le_of_ble_eq_true rfl) dL_law_1340 ⟨Nat.le_of_ble_eq_true rfl, Nat.le_of_ble_eq_true rfl⟩ (fun r_2 u_1 H locs w_3 X => ?_)
  have X : Wd D (fun q : Nat => s.heap.size ≤ q) s [((v 0), .inr (12, (mF v))), ((v 1), .inl (cI, 4, .inl (fun _ => (0 : Int32))))] H locs := X
  refine W.widen (k := 150) (n := 141288) (Nat.le_of_ble_eq_true rfl) (Nat.le_of_ble_eq_true rfl) ?_
  obtain ⟨rfl, fw_3⟩ : r_2 = (-1 : Int32) ∧ True := w_3
  refine lv_aload_n hx hb dL_law_1343 rfl (lv_at hl 1 rfl) ?_
  refine lv_aload_n hx hb dL_law_1344 rfl (lv_at hl 3 rfl) ?_
  refine lv_iload_n hx hb dL_law_1345 rfl (lv_at hl 0 rfl) ?_
  refine lv_iconst (v := (1 : Int32)) hx hb dL_law_1346 (by decide) ?_
  refine lv_iadd hx hb dL_law_1347 ?_
  refine x_eqi (show (0 : Int32) + (1 : Int32) = (1 : Int32) from by decide +kernel) ?_
  refine va_sld hx hb hX hbl hbA X.2.2.1 (i := (1 : Int32)) (vp_in_nI (n := 1) (by omega) (by omega)) dL_law_1348 ?_
  refine x_eqi (show xs ((1 : Int32).toNatClampNeg) = xs 1 from rfl) ?_
  refine lv_aload_n hx hb dL_law_1349 rfl (lv_at hl 3 rfl) ?_
  refine lv_iload_n hx hb dL_law_1350 rfl (lv_at hl 0 rfl) ?_
  refine lv_iconst (v := (2 : Int32)) hx hb dL_law_1351 (by decide) ?_
  refine lv_iadd hx hb dL_law_1352 ?_
  refine x_eqi (show (0 : Int32) + (2 : Int32) = (2 : Int32) from by decide +kernel) ?_
  refine va_sld hx hb hX hbl hbA X.2.2.1 (i := (2 : Int32)) (vp_in_nI (n := 2) (by omega) (by omega)) dL_law_1353 ?_
  refine x_eqi (show xs ((2 : Int32).toNatClampNeg) = xs 2 from rfl) ?_
  refine lv_aload_n hx hb dL_law_1354 rfl (lv_at hl 3 rfl) ?_
  refine lv_iload_n hx hb dL_law_1355 rfl (lv_at hl 0 rfl) ?_
  refine lv_iconst (v := (3 : Int32)) hx hb dL_law_1356 (by decide) ?_
  refine lv_iadd hx hb dL_law_1357 ?_
  refine x_eqi (show (0 : Int32) + (3 : Int32) = (3 : Int32) from by decide +kernel) ?_
  refine va_sld hx hb hX hbl hbA X.2.2.1 (i := (3 : Int32)) (vp_in_nI (n := 3) (by omega) (by omega)) dL_law_1358 ?_
  refine x_eqi (show xs ((3 : Int32).toNatClampNeg) = xs 3 from rfl) ?_
  refine x_cV (own := RL) (wr := []) (As := [.int (xs 1), .int (xs 2), .int (xs 3)]) C X hl.1 (cm_listed l D cI cJ cZ cB cO v (xs 1) (xs 2) (xs 3)) [0, 1] [] ⟨rfl, rfl, by decide, by decide, by decide⟩ (qb := 0) rfl rfl k_59_0 k_59_1 k_59_2 k_1_5 k_59_3 (n := 3) (by decide +kernel) ⟨Nat.le_of_ble_eq_true rfl, Nat.le_of_ble_eq_true rfl⟩ rfl rfl (Nat.le_of_ble_eq_true rfl) dL_law_1359 ⟨Nat.le_of_ble_eq_true rfl, Nat.le_of_ble_eq_true rfl⟩ (fun r_5 u_4 H locs w_6 X => ?_)
  have X : Wd D (fun q : Nat => s.heap.size ≤ q) s [] H locs := X
  refine W.widen (k := 150) (n := 141288) (Nat.le_of_ble_eq_true rfl) (Nat.le_of_ble_eq_true rfl) ?_
  obtain ⟨rfl, fw_6⟩ : r_5 = (-1 : Int32) ∧ True := w_6
  refine lv_icmp_eq (tgt := 1721) hx hb dL_law_1362 (by decide) (fun _ => ?_) (fun c0 => absurd (by decide) c0)
  exact law_tail K0 X hl (Nat.le_of_ble_eq_true rfl) (Nat.le_of_ble_eq_true rfl)
set_option maxHeartbeats 4000000 in
set_option maxRecDepth 100000 in
theorem law_c28 {p : Program} {e : Env} {s : State} {m : MethodId} {below : List Frame} {meth : Method} {c : Code} {l : Launch} {b : Nat} {xs : Nat → Int32} {D : va_G} {cI cJ cZ cB cO : ClassId} (K0 : LwC p s m meth c b xs D [(cI, .int), (cJ, .long), (cZ, .boolean), (cB, .byte), (cO, .object "LuckLinks$World")]) {u v : Nat → Nat} {H : Heap} {locs : List Loc} {ls : Array Slot} (X : Wd D (fun q : Nat => s.heap.size ≤ q) s (xW cI cJ cZ cB cO u ++ mW cI cJ cZ cB cO v) H locs) (hl : lv_has ls 4 [(3, .int (0 : Int32)), (2, .ref (v 0)), (1, .ref (u 0)), (0, .ref b)]) :
    W p l e room_1 s m #[Value.ref b] below meth c H locs 150 141288 (lw_Z below #[Value.ref b] s) (F0 m 1367 ls []) := by
  have C := K0.1
  have hx := C.1
  have hb := C.2.1
  have hX := K0.2.2.2.1
  have hbl := K0.2.2.2.2
  have hbA : ¬ (fun q : Nat => s.heap.size ≤ q) b := Nat.not_le.mpr hbl
  refine lv_aload_n hx hb dL_law_1367 rfl (lv_at hl 2 rfl) ?_
  refine lv_aload_n hx hb dL_law_1368 rfl (lv_at hl 3 rfl) ?_
  refine lv_iload_n hx hb dL_law_1369 rfl (lv_at hl 0 rfl) ?_
  refine lv_iconst (v := (1 : Int32)) hx hb dL_law_1370 (by decide) ?_
  refine lv_iadd hx hb dL_law_1371 ?_
  refine x_eqi (show (0 : Int32) + (1 : Int32) = (1 : Int32) from by decide +kernel) ?_
  refine va_sld hx hb hX hbl hbA X.2.2.1 (i := (1 : Int32)) (vp_in_nI (n := 1) (by omega) (by omega)) dL_law_1372 ?_
  refine x_eqi (show xs ((1 : Int32).toNatClampNeg) = xs 1 from rfl) ?_
  refine lv_aload_n hx hb dL_law_1373 rfl (lv_at hl 3 rfl) ?_
  refine lv_iload_n hx hb dL_law_1374 rfl (lv_at hl 0 rfl) ?_
  refine lv_iconst (v := (2 : Int32)) hx hb dL_law_1375 (by decide) ?_
  refine lv_iadd hx hb dL_law_1376 ?_
  refine x_eqi (show (0 : Int32) + (2 : Int32) = (2 : Int32) from by decide +kernel) ?_
  refine va_sld hx hb hX hbl hbA X.2.2.1 (i := (2 : Int32)) (vp_in_nI (n := 2) (by omega) (by omega)) dL_law_1377 ?_
  refine x_eqi (show xs ((2 : Int32).toNatClampNeg) = xs 2 from rfl) ?_
  refine lv_aload_n hx hb dL_law_1378 rfl (lv_at hl 3 rfl) ?_
  refine lv_iload_n hx hb dL_law_1379 rfl (lv_at hl 0 rfl) ?_
  refine lv_iconst (v := (3 : Int32)) hx hb dL_law_1380 (by decide) ?_
  refine lv_iadd hx hb dL_law_1381 ?_
  refine x_eqi (show (0 : Int32) + (3 : Int32) = (3 : Int32) from by decide +kernel) ?_
  refine va_sld hx hb hX hbl hbA X.2.2.1 (i := (3 : Int32)) (vp_in_nI (n := 3) (by omega) (by omega)) dL_law_1382 ?_
  refine x_eqi (show xs ((3 : Int32).toNatClampNeg) = xs 3 from rfl) ?_
  refine lv_aload_n hx hb dL_law_1383 rfl (lv_at hl 3 rfl) ?_
  refine lv_iload_n hx hb dL_law_1384 rfl (lv_at hl 0 rfl) ?_
  refine lv_iconst (v := (4 : Int32)) hx hb dL_law_1385 (by decide) ?_
  refine lv_iadd hx hb dL_law_1386 ?_
  refine x_eqi (show (0 : Int32) + (4 : Int32) = (4 : Int32) from by decide +kernel) ?_
  refine va_sld hx hb hX hbl hbA X.2.2.1 (i := (4 : Int32)) (vp_in_nI (n := 4) (by omega) (by omega)) dL_law_1387 ?_
  refine x_eqi (show xs ((4 : Int32).toNatClampNeg) = xs 4 from rfl) ?_
  refine x_cV (own := RL) (wr := [((v 0), .inr (12, (mF v))), ((v 1), .inl (cI, 4, .inl (fun _ => (0 : Int32))))]) (As := [.int (xs 1), .int (xs 2), .int (xs 3), .int (xs 4)]) C X hl.1 (cx_line l D cI cJ cZ cB cO u (xs 1) (xs 2) (xs 3) (xs 4)) [0, 76, 77, 80, 1, 7, 34] [98, 99] ⟨rfl, rfl, by decide, by decide, by decide⟩ (qb := 0) rfl rfl k_59_12 k_59_13 k_59_14 k_1_2 k_59_15 (n := 4) (by decide +kernel) ⟨Nat.le_of_ble_eq_true rfl, Nat.le_of_ble_eq_true rfl⟩ rfl rfl (Nat.le_of_ble_eq_true rfl) dL_law_1388 ⟨Nat.le_of_ble_eq_true rfl, Nat.le_of_ble_eq_true rfl⟩ (fun r_2 u_1 H locs w_3 X => ?_)
  have X : Wd D (fun q : Nat => s.heap.size ≤ q) s [((v 0), .inr (12, (mF v))), ((v 1), .inl (cI, 4, .inl (fun _ => (0 : Int32))))] H locs := X
  refine W.widen (k := 150) (n := 141288) (Nat.le_of_ble_eq_true rfl) (Nat.le_of_ble_eq_true rfl) ?_
  obtain ⟨rfl, fw_3⟩ | ⟨rfl, fw_3⟩ : (r_2 = (0 : Int32) ∧ (1 ≤ (xs 1).toInt ∧ (xs 1).toInt ≤ 20 ∧ 0 ≤ (xs 2).toInt ∧ (xs 2).toInt ≤ (xs 3).toInt ∧ (xs 3).toInt ≤ 39 ∧ 0 ≤ (xs 4).toInt ∧ (xs 4).toInt ≤ 2)) ∨ (r_2 = (-1 : Int32) ∧ ((xs 1).toInt < 1 ∨ 20 < (xs 1).toInt ∨ (xs 2).toInt < 0 ∨ (xs 3).toInt < (xs 2).toInt ∨ 39 < (xs 3).toInt ∨ (xs 4).toInt < 0 ∨ 2 < (xs 4).toInt)) := w_3
  · refine lv_aload_n hx hb dL_law_1391 rfl (lv_at hl 1 rfl) ?_
    refine lv_aload_n hx hb dL_law_1392 rfl (lv_at hl 3 rfl) ?_
    refine lv_iload_n hx hb dL_law_1393 rfl (lv_at hl 0 rfl) ?_
    refine lv_iconst (v := (1 : Int32)) hx hb dL_law_1394 (by decide) ?_
    refine lv_iadd hx hb dL_law_1395 ?_
    refine x_eqi (show (0 : Int32) + (1 : Int32) = (1 : Int32) from by decide +kernel) ?_
    refine va_sld hx hb hX hbl hbA X.2.2.1 (i := (1 : Int32)) (vp_in_nI (n := 1) (by omega) (by omega)) dL_law_1396 ?_
    refine x_eqi (show xs ((1 : Int32).toNatClampNeg) = xs 1 from rfl) ?_
    refine lv_aload_n hx hb dL_law_1397 rfl (lv_at hl 3 rfl) ?_
    refine lv_iload_n hx hb dL_law_1398 rfl (lv_at hl 0 rfl) ?_
    refine lv_iconst (v := (2 : Int32)) hx hb dL_law_1399 (by decide) ?_
    refine lv_iadd hx hb dL_law_1400 ?_
    refine x_eqi (show (0 : Int32) + (2 : Int32) = (2 : Int32) from by decide +kernel) ?_
    refine va_sld hx hb hX hbl hbA X.2.2.1 (i := (2 : Int32)) (vp_in_nI (n := 2) (by omega) (by omega)) dL_law_1401 ?_
    refine x_eqi (show xs ((2 : Int32).toNatClampNeg) = xs 2 from rfl) ?_
    refine lv_aload_n hx hb dL_law_1402 rfl (lv_at hl 3 rfl) ?_
    refine lv_iload_n hx hb dL_law_1403 rfl (lv_at hl 0 rfl) ?_
    refine lv_iconst (v := (3 : Int32)) hx hb dL_law_1404 (by decide) ?_
    refine lv_iadd hx hb dL_law_1405 ?_
    refine x_eqi (show (0 : Int32) + (3 : Int32) = (3 : Int32) from by decide +kernel) ?_
    refine va_sld hx hb hX hbl hbA X.2.2.1 (i := (3 : Int32)) (vp_in_nI (n := 3) (by omega) (by omega)) dL_law_1406 ?_
    refine x_eqi (show xs ((3 : Int32).toNatClampNeg) = xs 3 from rfl) ?_
    refine lv_aload_n hx hb dL_law_1407 rfl (lv_at hl 3 rfl) ?_
    refine lv_iload_n hx hb dL_law_1408 rfl (lv_at hl 0 rfl) ?_
    refine lv_iconst (v := (4 : Int32)) hx hb dL_law_1409 (by decide) ?_
    refine lv_iadd hx hb dL_law_1410 ?_
    refine x_eqi (show (0 : Int32) + (4 : Int32) = (4 : Int32) from by decide +kernel) ?_
    refine va_sld hx hb hX hbl hbA X.2.2.1 (i := (4 : Int32)) (vp_in_nI (n := 4) (by omega) (by omega)) dL_law_1411 ?_
    refine x_eqi (show xs ((4 : Int32).toNatClampNeg) = xs 4 from rfl) ?_
    refine x_cV (own := RL) (wr := []) (As := [.int (xs 1), .int (xs 2), .int (xs 3), .int (xs 4)]) C X hl.1 (cm_line l D cI cJ cZ cB cO v (xs 1) (xs 2) (xs 3) (xs 4)) [0, 1] [] ⟨rfl, rfl, by decide, by decide, by decide⟩ (qb := 0) rfl rfl k_59_20 k_59_21 k_59_22 k_1_5 k_59_23 (n := 4) (by decide +kernel) ⟨Nat.le_of_ble_eq_true rfl, Nat.le_of_ble_eq_true rfl⟩ rfl rfl (Nat.le_of_ble_eq_true rfl) dL_law_1412 ⟨Nat.le_of_ble_eq_true rfl, Nat.le_of_ble_eq_true rfl⟩ (fun r_5 u_4 H locs w_6 X => ?_)
    have X : Wd D (fun q : Nat => s.heap.size ≤ q) s [] H locs := X
    refine W.widen (k := 150) (n := 141288) (Nat.le_of_ble_eq_true rfl) (Nat.le_of_ble_eq_true rfl) ?_
    obtain ⟨rfl, fw_6⟩ | ⟨rfl, fw_6⟩ : (r_5 = (0 : Int32) ∧ (1 ≤ (xs 1).toInt ∧ (xs 1).toInt ≤ 20 ∧ 0 ≤ (xs 2).toInt ∧ (xs 2).toInt ≤ (xs 3).toInt ∧ (xs 3).toInt ≤ 39 ∧ 0 ≤ (xs 4).toInt ∧ (xs 4).toInt ≤ 2)) ∨ (r_5 = (-1 : Int32) ∧ ((xs 1).toInt < 1 ∨ 20 < (xs 1).toInt ∨ (xs 2).toInt < 0 ∨ (xs 3).toInt < (xs 2).toInt ∨ 39 < (xs 3).toInt ∨ (xs 4).toInt < 0 ∨ 2 < (xs 4).toInt)) := w_6
    · refine lv_icmp_eq (tgt := 1721) hx hb dL_law_1415 (by decide) (fun _ => ?_) (fun c0 => absurd (by decide) c0)
      exact law_tail K0 X hl (Nat.le_of_ble_eq_true rfl) (Nat.le_of_ble_eq_true rfl)
    · exfalso; omega
  · refine lv_aload_n hx hb dL_law_1391 rfl (lv_at hl 1 rfl) ?_
    refine lv_aload_n hx hb dL_law_1392 rfl (lv_at hl 3 rfl) ?_
    refine lv_iload_n hx hb dL_law_1393 rfl (lv_at hl 0 rfl) ?_
    refine lv_iconst (v := (1 : Int32)) hx hb dL_law_1394 (by decide) ?_
    refine lv_iadd hx hb dL_law_1395 ?_
    refine x_eqi (show (0 : Int32) + (1 : Int32) = (1 : Int32) from by decide +kernel) ?_
    refine va_sld hx hb hX hbl hbA X.2.2.1 (i := (1 : Int32)) (vp_in_nI (n := 1) (by omega) (by omega)) dL_law_1396 ?_
    refine x_eqi (show xs ((1 : Int32).toNatClampNeg) = xs 1 from rfl) ?_
    refine lv_aload_n hx hb dL_law_1397 rfl (lv_at hl 3 rfl) ?_
    refine lv_iload_n hx hb dL_law_1398 rfl (lv_at hl 0 rfl) ?_
    refine lv_iconst (v := (2 : Int32)) hx hb dL_law_1399 (by decide) ?_
    refine lv_iadd hx hb dL_law_1400 ?_
    refine x_eqi (show (0 : Int32) + (2 : Int32) = (2 : Int32) from by decide +kernel) ?_
    refine va_sld hx hb hX hbl hbA X.2.2.1 (i := (2 : Int32)) (vp_in_nI (n := 2) (by omega) (by omega)) dL_law_1401 ?_
    refine x_eqi (show xs ((2 : Int32).toNatClampNeg) = xs 2 from rfl) ?_
    refine lv_aload_n hx hb dL_law_1402 rfl (lv_at hl 3 rfl) ?_
    refine lv_iload_n hx hb dL_law_1403 rfl (lv_at hl 0 rfl) ?_
    refine lv_iconst (v := (3 : Int32)) hx hb dL_law_1404 (by decide) ?_
    refine lv_iadd hx hb dL_law_1405 ?_
    refine x_eqi (show (0 : Int32) + (3 : Int32) = (3 : Int32) from by decide +kernel) ?_
    refine va_sld hx hb hX hbl hbA X.2.2.1 (i := (3 : Int32)) (vp_in_nI (n := 3) (by omega) (by omega)) dL_law_1406 ?_
    refine x_eqi (show xs ((3 : Int32).toNatClampNeg) = xs 3 from rfl) ?_
    refine lv_aload_n hx hb dL_law_1407 rfl (lv_at hl 3 rfl) ?_
    refine lv_iload_n hx hb dL_law_1408 rfl (lv_at hl 0 rfl) ?_
    refine lv_iconst (v := (4 : Int32)) hx hb dL_law_1409 (by decide) ?_
    refine lv_iadd hx hb dL_law_1410 ?_
    refine x_eqi (show (0 : Int32) + (4 : Int32) = (4 : Int32) from by decide +kernel) ?_
    refine va_sld hx hb hX hbl hbA X.2.2.1 (i := (4 : Int32)) (vp_in_nI (n := 4) (by omega) (by omega)) dL_law_1411 ?_
    refine x_eqi (show xs ((4 : Int32).toNatClampNeg) = xs 4 from rfl) ?_
    refine x_cV (own := RL) (wr := []) (As := [.int (xs 1), .int (xs 2), .int (xs 3), .int (xs 4)]) C X hl.1 (cm_line l D cI cJ cZ cB cO v (xs 1) (xs 2) (xs 3) (xs 4)) [0, 1] [] ⟨rfl, rfl, by decide, by decide, by decide⟩ (qb := 0) rfl rfl k_59_20 k_59_21 k_59_22 k_1_5 k_59_23 (n := 4) (by decide +kernel) ⟨Nat.le_of_ble_eq_true rfl, Nat.le_of_ble_eq_true rfl⟩ rfl rfl (Nat.le_of_ble_eq_true rfl) dL_law_1412 ⟨Nat.le_of_ble_eq_true rfl, Nat.le_of_ble_eq_true rfl⟩ (fun r_8 u_7 H locs w_9 X => ?_)
    have X : Wd D (fun q : Nat => s.heap.size ≤ q) s [] H locs := X
    refine W.widen (k := 150) (n := 141288) (Nat.le_of_ble_eq_true rfl) (Nat.le_of_ble_eq_true rfl) ?_
    obtain ⟨rfl, fw_9⟩ | ⟨rfl, fw_9⟩ : (r_8 = (0 : Int32) ∧ (1 ≤ (xs 1).toInt ∧ (xs 1).toInt ≤ 20 ∧ 0 ≤ (xs 2).toInt ∧ (xs 2).toInt ≤ (xs 3).toInt ∧ (xs 3).toInt ≤ 39 ∧ 0 ≤ (xs 4).toInt ∧ (xs 4).toInt ≤ 2)) ∨ (r_8 = (-1 : Int32) ∧ ((xs 1).toInt < 1 ∨ 20 < (xs 1).toInt ∨ (xs 2).toInt < 0 ∨ (xs 3).toInt < (xs 2).toInt ∨ 39 < (xs 3).toInt ∨ (xs 4).toInt < 0 ∨ 2 < (xs 4).toInt)) := w_9
    · exfalso; omega
    · refine lv_icmp_eq (tgt := 1721) hx hb dL_law_1415 (by decide) (fun _ => ?_) (fun c0 => absurd (by decide) c0)
      exact law_tail K0 X hl (Nat.le_of_ble_eq_true rfl) (Nat.le_of_ble_eq_true rfl)
set_option maxHeartbeats 4000000 in
set_option maxRecDepth 100000 in
theorem law_c29 {p : Program} {e : Env} {s : State} {m : MethodId} {below : List Frame} {meth : Method} {c : Code} {l : Launch} {b : Nat} {xs : Nat → Int32} {D : va_G} {cI cJ cZ cB cO : ClassId} (K0 : LwC p s m meth c b xs D [(cI, .int), (cJ, .long), (cZ, .boolean), (cB, .byte), (cO, .object "LuckLinks$World")]) {u v : Nat → Nat} {H : Heap} {locs : List Loc} {ls : Array Slot} (X : Wd D (fun q : Nat => s.heap.size ≤ q) s (xW cI cJ cZ cB cO u ++ mW cI cJ cZ cB cO v) H locs) (hl : lv_has ls 4 [(3, .int (0 : Int32)), (2, .ref (v 0)), (1, .ref (u 0)), (0, .ref b)]) :
    W p l e room_1 s m #[Value.ref b] below meth c H locs 150 141288 (lw_Z below #[Value.ref b] s) (F0 m 1420 ls []) := by
  have C := K0.1
  have hx := C.1
  have hb := C.2.1
  have hX := K0.2.2.2.1
  have hbl := K0.2.2.2.2
  have hbA : ¬ (fun q : Nat => s.heap.size ≤ q) b := Nat.not_le.mpr hbl
  refine lv_aload_n hx hb dL_law_1420 rfl (lv_at hl 2 rfl) ?_
  refine lv_aload_n hx hb dL_law_1421 rfl (lv_at hl 3 rfl) ?_
  refine lv_iload_n hx hb dL_law_1422 rfl (lv_at hl 0 rfl) ?_
  refine lv_iconst (v := (1 : Int32)) hx hb dL_law_1423 (by decide) ?_
  refine lv_iadd hx hb dL_law_1424 ?_
  refine x_eqi (show (0 : Int32) + (1 : Int32) = (1 : Int32) from by decide +kernel) ?_
  refine va_sld hx hb hX hbl hbA X.2.2.1 (i := (1 : Int32)) (vp_in_nI (n := 1) (by omega) (by omega)) dL_law_1425 ?_
  refine x_eqi (show xs ((1 : Int32).toNatClampNeg) = xs 1 from rfl) ?_
  refine lv_aload_n hx hb dL_law_1426 rfl (lv_at hl 3 rfl) ?_
  refine lv_iload_n hx hb dL_law_1427 rfl (lv_at hl 0 rfl) ?_
  refine lv_iconst (v := (2 : Int32)) hx hb dL_law_1428 (by decide) ?_
  refine lv_iadd hx hb dL_law_1429 ?_
  refine x_eqi (show (0 : Int32) + (2 : Int32) = (2 : Int32) from by decide +kernel) ?_
  refine va_sld hx hb hX hbl hbA X.2.2.1 (i := (2 : Int32)) (vp_in_nI (n := 2) (by omega) (by omega)) dL_law_1430 ?_
  refine x_eqi (show xs ((2 : Int32).toNatClampNeg) = xs 2 from rfl) ?_
  refine x_cV (own := RL) (wr := [((v 0), .inr (12, (mF v))), ((v 1), .inl (cI, 4, .inl (fun _ => (0 : Int32))))]) (As := [.int (xs 1), .int (xs 2)]) C X hl.1 (cx_held l D cI cJ cZ cB cO u (xs 1) (xs 2)) [0, 81, 1] [98, 99] ⟨rfl, rfl, by decide, by decide, by decide⟩ (qb := 0) rfl rfl k_60_4 k_60_5 k_60_6 k_1_2 k_60_7 (n := 2) (by decide +kernel) ⟨Nat.le_of_ble_eq_true rfl, Nat.le_of_ble_eq_true rfl⟩ rfl rfl (Nat.le_of_ble_eq_true rfl) dL_law_1431 ⟨Nat.le_of_ble_eq_true rfl, Nat.le_of_ble_eq_true rfl⟩ (fun r_2 u_1 H locs w_3 X => ?_)
  have X : Wd D (fun q : Nat => s.heap.size ≤ q) s [((v 0), .inr (12, (mF v))), ((v 1), .inl (cI, 4, .inl (fun _ => (0 : Int32))))] H locs := X
  refine W.widen (k := 150) (n := 141288) (Nat.le_of_ble_eq_true rfl) (Nat.le_of_ble_eq_true rfl) ?_
  obtain ⟨rfl, fw_3⟩ | ⟨rfl, fw_3⟩ : (r_2 = (0 : Int32) ∧ (0 ≤ (xs 1).toInt ∧ (xs 1).toInt ≤ 39 ∧ 0 ≤ (xs 2).toInt ∧ (xs 2).toInt ≤ 4)) ∨ (r_2 = (-1 : Int32) ∧ ((xs 1).toInt < 0 ∨ 39 < (xs 1).toInt ∨ (xs 2).toInt < 0 ∨ 4 < (xs 2).toInt)) := w_3
  · refine lv_aload_n hx hb dL_law_1434 rfl (lv_at hl 1 rfl) ?_
    refine lv_aload_n hx hb dL_law_1435 rfl (lv_at hl 3 rfl) ?_
    refine lv_iload_n hx hb dL_law_1436 rfl (lv_at hl 0 rfl) ?_
    refine lv_iconst (v := (1 : Int32)) hx hb dL_law_1437 (by decide) ?_
    refine lv_iadd hx hb dL_law_1438 ?_
    refine x_eqi (show (0 : Int32) + (1 : Int32) = (1 : Int32) from by decide +kernel) ?_
    refine va_sld hx hb hX hbl hbA X.2.2.1 (i := (1 : Int32)) (vp_in_nI (n := 1) (by omega) (by omega)) dL_law_1439 ?_
    refine x_eqi (show xs ((1 : Int32).toNatClampNeg) = xs 1 from rfl) ?_
    refine lv_aload_n hx hb dL_law_1440 rfl (lv_at hl 3 rfl) ?_
    refine lv_iload_n hx hb dL_law_1441 rfl (lv_at hl 0 rfl) ?_
    refine lv_iconst (v := (2 : Int32)) hx hb dL_law_1442 (by decide) ?_
    refine lv_iadd hx hb dL_law_1443 ?_
    refine x_eqi (show (0 : Int32) + (2 : Int32) = (2 : Int32) from by decide +kernel) ?_
    refine va_sld hx hb hX hbl hbA X.2.2.1 (i := (2 : Int32)) (vp_in_nI (n := 2) (by omega) (by omega)) dL_law_1444 ?_
    refine x_eqi (show xs ((2 : Int32).toNatClampNeg) = xs 2 from rfl) ?_
    refine x_cV (own := RL) (wr := []) (As := [.int (xs 1), .int (xs 2)]) C X hl.1 (cm_held l D cI cJ cZ cB cO v (xs 1) (xs 2)) [0, 1] [] ⟨rfl, rfl, by decide, by decide, by decide⟩ (qb := 0) rfl rfl k_61_3 k_61_4 k_61_5 k_1_5 k_61_6 (n := 2) (by decide +kernel) ⟨Nat.le_of_ble_eq_true rfl, Nat.le_of_ble_eq_true rfl⟩ rfl rfl (Nat.le_of_ble_eq_true rfl) dL_law_1445 ⟨Nat.le_of_ble_eq_true rfl, Nat.le_of_ble_eq_true rfl⟩ (fun r_5 u_4 H locs w_6 X => ?_)
    have X : Wd D (fun q : Nat => s.heap.size ≤ q) s [] H locs := X
    refine W.widen (k := 150) (n := 141288) (Nat.le_of_ble_eq_true rfl) (Nat.le_of_ble_eq_true rfl) ?_
    obtain ⟨rfl, fw_6⟩ | ⟨rfl, fw_6⟩ : (r_5 = (0 : Int32) ∧ (0 ≤ (xs 1).toInt ∧ (xs 1).toInt ≤ 39 ∧ 0 ≤ (xs 2).toInt ∧ (xs 2).toInt ≤ 4)) ∨ (r_5 = (-1 : Int32) ∧ ((xs 1).toInt < 0 ∨ 39 < (xs 1).toInt ∨ (xs 2).toInt < 0 ∨ 4 < (xs 2).toInt)) := w_6
    · refine lv_icmp_eq (tgt := 1721) hx hb dL_law_1448 (by decide) (fun _ => ?_) (fun c0 => absurd (by decide) c0)
      exact law_tail K0 X hl (Nat.le_of_ble_eq_true rfl) (Nat.le_of_ble_eq_true rfl)
    · exfalso; omega
  · refine lv_aload_n hx hb dL_law_1434 rfl (lv_at hl 1 rfl) ?_
    refine lv_aload_n hx hb dL_law_1435 rfl (lv_at hl 3 rfl) ?_
    refine lv_iload_n hx hb dL_law_1436 rfl (lv_at hl 0 rfl) ?_
    refine lv_iconst (v := (1 : Int32)) hx hb dL_law_1437 (by decide) ?_
    refine lv_iadd hx hb dL_law_1438 ?_
    refine x_eqi (show (0 : Int32) + (1 : Int32) = (1 : Int32) from by decide +kernel) ?_
    refine va_sld hx hb hX hbl hbA X.2.2.1 (i := (1 : Int32)) (vp_in_nI (n := 1) (by omega) (by omega)) dL_law_1439 ?_
    refine x_eqi (show xs ((1 : Int32).toNatClampNeg) = xs 1 from rfl) ?_
    refine lv_aload_n hx hb dL_law_1440 rfl (lv_at hl 3 rfl) ?_
    refine lv_iload_n hx hb dL_law_1441 rfl (lv_at hl 0 rfl) ?_
    refine lv_iconst (v := (2 : Int32)) hx hb dL_law_1442 (by decide) ?_
    refine lv_iadd hx hb dL_law_1443 ?_
    refine x_eqi (show (0 : Int32) + (2 : Int32) = (2 : Int32) from by decide +kernel) ?_
    refine va_sld hx hb hX hbl hbA X.2.2.1 (i := (2 : Int32)) (vp_in_nI (n := 2) (by omega) (by omega)) dL_law_1444 ?_
    refine x_eqi (show xs ((2 : Int32).toNatClampNeg) = xs 2 from rfl) ?_
    refine x_cV (own := RL) (wr := []) (As := [.int (xs 1), .int (xs 2)]) C X hl.1 (cm_held l D cI cJ cZ cB cO v (xs 1) (xs 2)) [0, 1] [] ⟨rfl, rfl, by decide, by decide, by decide⟩ (qb := 0) rfl rfl k_61_3 k_61_4 k_61_5 k_1_5 k_61_6 (n := 2) (by decide +kernel) ⟨Nat.le_of_ble_eq_true rfl, Nat.le_of_ble_eq_true rfl⟩ rfl rfl (Nat.le_of_ble_eq_true rfl) dL_law_1445 ⟨Nat.le_of_ble_eq_true rfl, Nat.le_of_ble_eq_true rfl⟩ (fun r_8 u_7 H locs w_9 X => ?_)
    have X : Wd D (fun q : Nat => s.heap.size ≤ q) s [] H locs := X
    refine W.widen (k := 150) (n := 141288) (Nat.le_of_ble_eq_true rfl) (Nat.le_of_ble_eq_true rfl) ?_
    obtain ⟨rfl, fw_9⟩ | ⟨rfl, fw_9⟩ : (r_8 = (0 : Int32) ∧ (0 ≤ (xs 1).toInt ∧ (xs 1).toInt ≤ 39 ∧ 0 ≤ (xs 2).toInt ∧ (xs 2).toInt ≤ 4)) ∨ (r_8 = (-1 : Int32) ∧ ((xs 1).toInt < 0 ∨ 39 < (xs 1).toInt ∨ (xs 2).toInt < 0 ∨ 4 < (xs 2).toInt)) := w_9
    · exfalso; omega
    · refine lv_icmp_eq (tgt := 1721) hx hb dL_law_1448 (by decide) (fun _ => ?_) (fun c0 => absurd (by decide) c0)
      exact law_tail K0 X hl (Nat.le_of_ble_eq_true rfl) (Nat.le_of_ble_eq_true rfl)
