theorem k_1_10 : Cond.instanceMethod objectInit ∈ wsL_law := mr_1 _ (List.mem_of_getElem? (i := 10) rfl)
theorem k_1_11 : Cond.code objectInit ⟨#[0xb1]⟩ 1 none ∈ wsL_law := mr_1 _ (List.mem_of_getElem? (i := 11) rfl)
theorem k_1_18 : Cond.arrayClass .byte ∈ wsL_law := mr_1 _ (List.mem_of_getElem? (i := 18) rfl)
theorem k_2_2 : Cond.instantiable RX3 19 ∈ wsL_law := mr_2 _ (List.mem_of_getElem? (i := 2) rfl)
theorem k_2_3 : Cond.initialized RX3 ∈ wsL_law := mr_2 _ (List.mem_of_getElem? (i := 3) rfl)
theorem k_2_7 : Cond.arrayClass .int ∈ wsL_law := mr_2 _ (List.mem_of_getElem? (i := 7) rfl)
theorem k_3_16 : Cond.methodLink RX10 3 objectInit ∈ wsL_law := mr_3 _ (List.mem_of_getElem? (i := 16) rfl)
theorem k_3_22 : Cond.fieldLink RX10 28 "LuckLinks$World" "rounds" "I" ∈ wsL_law := mr_3 _ (List.mem_of_getElem? (i := 22) rfl)
theorem k_4_0 : Cond.fieldLink RX10 34 "LuckLinks$World" "values" "[I" ∈ wsL_law := mr_4 _ (List.mem_of_getElem? (i := 0) rfl)
theorem k_4_12 : Cond.methodLink RX4 3 objectInit ∈ wsL_law := mr_4 _ (List.mem_of_getElem? (i := 12) rfl)
theorem k_4_13 : Cond.fieldLink RX4 9 "LuckLinks$LawReader" "text" "[B" ∈ wsL_law := mr_4 _ (List.mem_of_getElem? (i := 13) rfl)
theorem k_4_14 : Cond.classLink RX4 15 RX3 ∈ wsL_law := mr_4 _ (List.mem_of_getElem? (i := 14) rfl)
theorem k_4_15 : Cond.fieldLink RX4 18 "LuckLinks$LawReader" "law" "LLuckLinks$Law;" ∈ wsL_law := mr_4 _ (List.mem_of_getElem? (i := 15) rfl)
theorem k_4_16 : Cond.fieldLink RX4 22 "LuckLinks$LawReader" "kinds" "[I" ∈ wsL_law := mr_4 _ (List.mem_of_getElem? (i := 16) rfl)
theorem k_4_17 : Cond.fieldLink RX4 26 "LuckLinks$LawReader" "starts" "[I" ∈ wsL_law := mr_4 _ (List.mem_of_getElem? (i := 17) rfl)
theorem k_4_18 : Cond.fieldLink RX4 29 "LuckLinks$LawReader" "ends" "[I" ∈ wsL_law := mr_4 _ (List.mem_of_getElem? (i := 18) rfl)
theorem k_4_19 : Cond.fieldLink RX4 32 "LuckLinks$LawReader" "at" "I" ∈ wsL_law := mr_4 _ (List.mem_of_getElem? (i := 19) rfl)
theorem k_4_2 : Cond.fieldLink RX10 40 "LuckLinks$World" "dayValues" "[I" ∈ wsL_law := mr_4 _ (List.mem_of_getElem? (i := 2) rfl)
theorem k_4_20 : Cond.fieldLink RX4 36 "LuckLinks$LawReader" "number" "I" ∈ wsL_law := mr_4 _ (List.mem_of_getElem? (i := 20) rfl)
theorem k_4_21 : Cond.fieldLink RX4 39 "LuckLinks$LawReader" "part" "I" ∈ wsL_law := mr_4 _ (List.mem_of_getElem? (i := 21) rfl)
theorem k_4_22 : Cond.fieldLink RX4 42 "LuckLinks$LawReader" "waiting" "[I" ∈ wsL_law := mr_4 _ (List.mem_of_getElem? (i := 22) rfl)
theorem k_4_23 : Cond.fieldLink RX4 45 "LuckLinks$LawReader" "waits" "I" ∈ wsL_law := mr_4 _ (List.mem_of_getElem? (i := 23) rfl)
theorem k_4_3 : Cond.fieldLink RX10 43 "LuckLinks$World" "bets" "[I" ∈ wsL_law := mr_4 _ (List.mem_of_getElem? (i := 3) rfl)
theorem k_4_4 : Cond.fieldLink RX10 46 "LuckLinks$World" "z" "J" ∈ wsL_law := mr_4 _ (List.mem_of_getElem? (i := 4) rfl)
theorem k_4_5 : Cond.methodLink RX10 50 yJ7_fill_53178 ∈ wsL_law := mr_4 _ (List.mem_of_getElem? (i := 5) rfl)
theorem k_4_6 : Cond.static yJ7_fill_53178 ∈ wsL_law := mr_4 _ (List.mem_of_getElem? (i := 6) rfl)
theorem k_4_7 : Cond.initialized RJ7 ∈ wsL_law := mr_4 _ (List.mem_of_getElem? (i := 7) rfl)
theorem k_4_8 : Cond.code yJ7_fill_53178 cJ7_fill_53178 4 none ∈ wsL_law := mr_4 _ (List.mem_of_getElem? (i := 8) rfl)
theorem k_5_0 : Cond.fieldLink RX4 48 "LuckLinks$LawReader" "open" "I" ∈ wsL_law := mr_5 _ (List.mem_of_getElem? (i := 0) rfl)
theorem k_5_1 : Cond.fieldLink RX4 51 "LuckLinks$LawReader" "brackets" "I" ∈ wsL_law := mr_5 _ (List.mem_of_getElem? (i := 1) rfl)
theorem k_5_10 : Cond.fieldLink RX3 25 "LuckLinks$Law" "prizes" "[I" ∈ wsL_law := mr_5 _ (List.mem_of_getElem? (i := 10) rfl)
theorem k_5_11 : Cond.fieldLink RX3 28 "LuckLinks$Law" "points" "[I" ∈ wsL_law := mr_5 _ (List.mem_of_getElem? (i := 11) rfl)
theorem k_5_12 : Cond.fieldLink RX3 31 "LuckLinks$Law" "weights" "[I" ∈ wsL_law := mr_5 _ (List.mem_of_getElem? (i := 12) rfl)
theorem k_5_13 : Cond.fieldLink RX3 34 "LuckLinks$Law" "weightsByAge" "[I" ∈ wsL_law := mr_5 _ (List.mem_of_getElem? (i := 13) rfl)
theorem k_5_14 : Cond.fieldLink RX3 37 "LuckLinks$Law" "hourRules" "I" ∈ wsL_law := mr_5 _ (List.mem_of_getElem? (i := 14) rfl)
theorem k_5_15 : Cond.fieldLink RX3 40 "LuckLinks$Law" "hourParts" "[I" ∈ wsL_law := mr_5 _ (List.mem_of_getElem? (i := 15) rfl)
theorem k_5_16 : Cond.fieldLink RX3 43 "LuckLinks$Law" "hourStrokes" "[I" ∈ wsL_law := mr_5 _ (List.mem_of_getElem? (i := 16) rfl)
theorem k_5_17 : Cond.fieldLink RX3 46 "LuckLinks$Law" "hourFroms" "[I" ∈ wsL_law := mr_5 _ (List.mem_of_getElem? (i := 17) rfl)
theorem k_5_18 : Cond.fieldLink RX3 49 "LuckLinks$Law" "pressRules" "I" ∈ wsL_law := mr_5 _ (List.mem_of_getElem? (i := 18) rfl)
theorem k_5_19 : Cond.fieldLink RX3 52 "LuckLinks$Law" "pressParts" "[I" ∈ wsL_law := mr_5 _ (List.mem_of_getElem? (i := 19) rfl)
theorem k_5_2 : Cond.methodLink RX4 17 yX3_init ∈ wsL_law := mr_5 _ (List.mem_of_getElem? (i := 2) rfl)
theorem k_5_20 : Cond.fieldLink RX3 55 "LuckLinks$Law" "pressStrokes" "[I" ∈ wsL_law := mr_5 _ (List.mem_of_getElem? (i := 20) rfl)
theorem k_5_21 : Cond.fieldLink RX3 58 "LuckLinks$Law" "pressEnds" "[I" ∈ wsL_law := mr_5 _ (List.mem_of_getElem? (i := 21) rfl)
theorem k_5_22 : Cond.fieldLink RX3 61 "LuckLinks$Law" "code" "[I" ∈ wsL_law := mr_5 _ (List.mem_of_getElem? (i := 22) rfl)
theorem k_5_23 : Cond.fieldLink RX3 64 "LuckLinks$Law" "codeLength" "I" ∈ wsL_law := mr_5 _ (List.mem_of_getElem? (i := 23) rfl)
theorem k_5_3 : Cond.instanceMethod yX3_init ∈ wsL_law := mr_5 _ (List.mem_of_getElem? (i := 3) rfl)
theorem k_5_4 : Cond.code yX3_init cX3_init 1 none ∈ wsL_law := mr_5 _ (List.mem_of_getElem? (i := 4) rfl)
theorem k_5_5 : Cond.methodLink RX3 3 objectInit ∈ wsL_law := mr_5 _ (List.mem_of_getElem? (i := 5) rfl)
theorem k_5_6 : Cond.fieldLink RX3 9 "LuckLinks$Law" "rules" "I" ∈ wsL_law := mr_5 _ (List.mem_of_getElem? (i := 6) rfl)
theorem k_5_7 : Cond.fieldLink RX3 15 "LuckLinks$Law" "drifts" "[I" ∈ wsL_law := mr_5 _ (List.mem_of_getElem? (i := 7) rfl)
theorem k_5_8 : Cond.fieldLink RX3 19 "LuckLinks$Law" "lucks" "[I" ∈ wsL_law := mr_5 _ (List.mem_of_getElem? (i := 8) rfl)
theorem k_5_9 : Cond.fieldLink RX3 22 "LuckLinks$Law" "keeps" "[I" ∈ wsL_law := mr_5 _ (List.mem_of_getElem? (i := 9) rfl)
theorem k_6_0 : Cond.arrayClass .boolean ∈ wsL_law := mr_6 _ (List.mem_of_getElem? (i := 0) rfl)
theorem k_6_1 : Cond.fieldLink RX3 67 "LuckLinks$Law" "stack" "[Z" ∈ wsL_law := mr_6 _ (List.mem_of_getElem? (i := 1) rfl)
theorem k_6_13 : Cond.methodLink RX9 3 objectInit ∈ wsL_law := mr_6 _ (List.mem_of_getElem? (i := 13) rfl)
theorem k_6_14 : Cond.classLink RX9 9 RX5 ∈ wsL_law := mr_6 _ (List.mem_of_getElem? (i := 14) rfl)
theorem k_6_15 : Cond.instantiable RX5 3 ∈ wsL_law := mr_6 _ (List.mem_of_getElem? (i := 15) rfl)
theorem k_6_16 : Cond.initialized RX5 ∈ wsL_law := mr_6 _ (List.mem_of_getElem? (i := 16) rfl)
theorem k_6_17 : Cond.fieldLink RX9 12 "LuckLinks$WeekDrawing" "order" "LLuckLinks$Ranking;" ∈ wsL_law := mr_6 _ (List.mem_of_getElem? (i := 17) rfl)
theorem k_6_18 : Cond.fieldLink RX9 18 "LuckLinks$WeekDrawing" "sums" "LLuckLinks$Ranking;" ∈ wsL_law := mr_6 _ (List.mem_of_getElem? (i := 18) rfl)
theorem k_6_19 : Cond.fieldLink RX9 21 "LuckLinks$WeekDrawing" "asked" "[I" ∈ wsL_law := mr_6 _ (List.mem_of_getElem? (i := 19) rfl)
theorem k_6_2 : Cond.methodLink RX3 71 yJ7_fill_53178 ∈ wsL_law := mr_6 _ (List.mem_of_getElem? (i := 2) rfl)
theorem k_6_20 : Cond.fieldLink RX9 25 "LuckLinks$WeekDrawing" "world" "LLuckLinks$World;" ∈ wsL_law := mr_6 _ (List.mem_of_getElem? (i := 20) rfl)
theorem k_6_21 : Cond.methodLink RX9 11 yX5_init ∈ wsL_law := mr_6 _ (List.mem_of_getElem? (i := 21) rfl)
theorem k_6_22 : Cond.instanceMethod yX5_init ∈ wsL_law := mr_6 _ (List.mem_of_getElem? (i := 22) rfl)
theorem k_6_23 : Cond.code yX5_init cX5_init 1 none ∈ wsL_law := mr_6 _ (List.mem_of_getElem? (i := 23) rfl)
theorem k_6_7 : Cond.methodLink RX6 1 objectInit ∈ wsL_law := mr_6 _ (List.mem_of_getElem? (i := 7) rfl)
theorem k_6_8 : Cond.fieldLink RX6 7 "LuckLinks$Ratio" "upper" "J" ∈ wsL_law := mr_6 _ (List.mem_of_getElem? (i := 8) rfl)
theorem k_6_9 : Cond.fieldLink RX6 13 "LuckLinks$Ratio" "lower" "J" ∈ wsL_law := mr_6 _ (List.mem_of_getElem? (i := 9) rfl)
theorem k_7_0 : Cond.methodLink RX5 3 objectInit ∈ wsL_law := mr_7 _ (List.mem_of_getElem? (i := 0) rfl)
theorem k_7_1 : Cond.fieldLink RX5 9 "LuckLinks$Ranking" "who" "[I" ∈ wsL_law := mr_7 _ (List.mem_of_getElem? (i := 1) rfl)
theorem k_7_10 : Cond.fieldLink RX7 18 "LuckLinks$Standings" "gains" "[I" ∈ wsL_law := mr_7 _ (List.mem_of_getElem? (i := 10) rfl)
theorem k_7_11 : Cond.fieldLink RX7 22 "LuckLinks$Standings" "world" "LLuckLinks$World;" ∈ wsL_law := mr_7 _ (List.mem_of_getElem? (i := 11) rfl)
theorem k_7_12 : Cond.methodLink RX7 11 yX5_init ∈ wsL_law := mr_7 _ (List.mem_of_getElem? (i := 12) rfl)
theorem k_7_16 : Cond.methodLink RX1 3 objectInit ∈ wsL_law := mr_7 _ (List.mem_of_getElem? (i := 16) rfl)
theorem k_7_17 : Cond.arrayClass .long ∈ wsL_law := mr_7 _ (List.mem_of_getElem? (i := 17) rfl)
theorem k_7_18 : Cond.fieldLink RX1 9 "LuckLinks$Form" "offs" "[J" ∈ wsL_law := mr_7 _ (List.mem_of_getElem? (i := 18) rfl)
theorem k_7_19 : Cond.fieldLink RX1 15 "LuckLinks$Form" "many" "[I" ∈ wsL_law := mr_7 _ (List.mem_of_getElem? (i := 19) rfl)
theorem k_7_2 : Cond.fieldLink RX5 15 "LuckLinks$Ranking" "keys" "[I" ∈ wsL_law := mr_7 _ (List.mem_of_getElem? (i := 2) rfl)
theorem k_7_20 : Cond.fieldLink RX1 19 "LuckLinks$Form" "upper" "J" ∈ wsL_law := mr_7 _ (List.mem_of_getElem? (i := 20) rfl)
theorem k_7_21 : Cond.fieldLink RX1 23 "LuckLinks$Form" "lower" "J" ∈ wsL_law := mr_7 _ (List.mem_of_getElem? (i := 21) rfl)
theorem k_7_22 : Cond.fieldLink RX1 26 "LuckLinks$Form" "world" "LLuckLinks$World;" ∈ wsL_law := mr_7 _ (List.mem_of_getElem? (i := 22) rfl)
theorem k_7_3 : Cond.fieldLink RX5 18 "LuckLinks$Ranking" "size" "I" ∈ wsL_law := mr_7 _ (List.mem_of_getElem? (i := 3) rfl)
theorem k_7_7 : Cond.methodLink RX7 3 objectInit ∈ wsL_law := mr_7 _ (List.mem_of_getElem? (i := 7) rfl)
theorem k_7_8 : Cond.classLink RX7 9 RX5 ∈ wsL_law := mr_7 _ (List.mem_of_getElem? (i := 8) rfl)
theorem k_7_9 : Cond.fieldLink RX7 12 "LuckLinks$Standings" "ranking" "LLuckLinks$Ranking;" ∈ wsL_law := mr_7 _ (List.mem_of_getElem? (i := 9) rfl)
theorem k_8_10 : Cond.fieldLink RX2 34 "LuckLinks$Halves" "world" "LLuckLinks$World;" ∈ wsL_law := mr_8 _ (List.mem_of_getElem? (i := 10) rfl)
theorem k_8_14 : Cond.methodLink RX0 5 objectInit ∈ wsL_law := mr_8 _ (List.mem_of_getElem? (i := 14) rfl)
theorem k_8_15 : Cond.fieldLink RX0 11 "LuckLinks$Chances" "lot" "[J" ∈ wsL_law := mr_8 _ (List.mem_of_getElem? (i := 15) rfl)
theorem k_8_16 : Cond.fieldLink RX0 15 "LuckLinks$Chances" "waysSoFar" "[J" ∈ wsL_law := mr_8 _ (List.mem_of_getElem? (i := 16) rfl)
theorem k_8_17 : Cond.fieldLink RX0 18 "LuckLinks$Chances" "lotFrom" "[J" ∈ wsL_law := mr_8 _ (List.mem_of_getElem? (i := 17) rfl)
theorem k_8_18 : Cond.fieldLink RX0 21 "LuckLinks$Chances" "step" "[J" ∈ wsL_law := mr_8 _ (List.mem_of_getElem? (i := 18) rfl)
theorem k_8_19 : Cond.fieldLink RX0 24 "LuckLinks$Chances" "gap" "[J" ∈ wsL_law := mr_8 _ (List.mem_of_getElem? (i := 19) rfl)
theorem k_8_2 : Cond.methodLink RX2 3 objectInit ∈ wsL_law := mr_8 _ (List.mem_of_getElem? (i := 2) rfl)
theorem k_8_20 : Cond.fieldLink RX0 27 "LuckLinks$Chances" "nextGap" "[J" ∈ wsL_law := mr_8 _ (List.mem_of_getElem? (i := 20) rfl)
theorem k_8_21 : Cond.fieldLink RX0 30 "LuckLinks$Chances" "greatestStep" "J" ∈ wsL_law := mr_8 _ (List.mem_of_getElem? (i := 21) rfl)
theorem k_8_22 : Cond.fieldLink RX0 34 "LuckLinks$Chances" "reach" "I" ∈ wsL_law := mr_8 _ (List.mem_of_getElem? (i := 22) rfl)
theorem k_8_23 : Cond.fieldLink RX0 38 "LuckLinks$Chances" "strokes" "[I" ∈ wsL_law := mr_8 _ (List.mem_of_getElem? (i := 23) rfl)
theorem k_8_3 : Cond.fieldLink RX2 9 "LuckLinks$Halves" "firstOffs" "[J" ∈ wsL_law := mr_8 _ (List.mem_of_getElem? (i := 3) rfl)
theorem k_8_4 : Cond.fieldLink RX2 15 "LuckLinks$Halves" "firstRounds" "[J" ∈ wsL_law := mr_8 _ (List.mem_of_getElem? (i := 4) rfl)
theorem k_8_5 : Cond.fieldLink RX2 18 "LuckLinks$Halves" "laterOffs" "[J" ∈ wsL_law := mr_8 _ (List.mem_of_getElem? (i := 5) rfl)
theorem k_8_6 : Cond.fieldLink RX2 21 "LuckLinks$Halves" "laterRounds" "[J" ∈ wsL_law := mr_8 _ (List.mem_of_getElem? (i := 6) rfl)
theorem k_8_7 : Cond.fieldLink RX2 24 "LuckLinks$Halves" "alike" "I" ∈ wsL_law := mr_8 _ (List.mem_of_getElem? (i := 7) rfl)
theorem k_8_8 : Cond.fieldLink RX2 28 "LuckLinks$Halves" "unlike" "I" ∈ wsL_law := mr_8 _ (List.mem_of_getElem? (i := 8) rfl)
theorem k_8_9 : Cond.fieldLink RX2 31 "LuckLinks$Halves" "inBoth" "I" ∈ wsL_law := mr_8 _ (List.mem_of_getElem? (i := 9) rfl)
theorem k_9_10 : Cond.fieldLink RX8 31 "LuckLinks$Tallies" "couples" "J" ∈ wsL_law := mr_9 _ (List.mem_of_getElem? (i := 10) rfl)
theorem k_9_11 : Cond.fieldLink RX8 34 "LuckLinks$Tallies" "world" "LLuckLinks$World;" ∈ wsL_law := mr_9 _ (List.mem_of_getElem? (i := 11) rfl)
theorem k_9_3 : Cond.methodLink RX8 3 objectInit ∈ wsL_law := mr_9 _ (List.mem_of_getElem? (i := 3) rfl)
theorem k_9_4 : Cond.fieldLink RX8 9 "LuckLinks$Tallies" "pressWeeks" "I" ∈ wsL_law := mr_9 _ (List.mem_of_getElem? (i := 4) rfl)
theorem k_9_5 : Cond.fieldLink RX8 15 "LuckLinks$Tallies" "pressYes" "I" ∈ wsL_law := mr_9 _ (List.mem_of_getElem? (i := 5) rfl)
theorem k_9_6 : Cond.fieldLink RX8 18 "LuckLinks$Tallies" "otherOne" "I" ∈ wsL_law := mr_9 _ (List.mem_of_getElem? (i := 6) rfl)
theorem k_9_7 : Cond.fieldLink RX8 21 "LuckLinks$Tallies" "looked" "I" ∈ wsL_law := mr_9 _ (List.mem_of_getElem? (i := 7) rfl)
theorem k_9_8 : Cond.fieldLink RX8 24 "LuckLinks$Tallies" "otherRows" "J" ∈ wsL_law := mr_9 _ (List.mem_of_getElem? (i := 8) rfl)
theorem k_9_9 : Cond.fieldLink RX8 28 "LuckLinks$Tallies" "squares" "J" ∈ wsL_law := mr_9 _ (List.mem_of_getElem? (i := 9) rfl)
theorem dX0_init_0 : decode cX0_init 0 = .ok (.aload_n 0, 1) := by decide +kernel
theorem dX0_init_1 : decode cX0_init 1 = .ok (.invokespecial 5, 3) := by decide +kernel
theorem dX0_init_4 : decode cX0_init 4 = .ok (.aload_n 0, 1) := by decide +kernel
theorem dX0_init_5 : decode cX0_init 5 = .ok (.bipush 73, 2) := by decide +kernel
theorem dX0_init_7 : decode cX0_init 7 = .ok (.newarray .long, 2) := by decide +kernel
theorem dX0_init_9 : decode cX0_init 9 = .ok (.putfield 11, 3) := by decide +kernel
theorem dX0_init_12 : decode cX0_init 12 = .ok (.aload_n 0, 1) := by decide +kernel
theorem dX0_init_13 : decode cX0_init 13 = .ok (.bipush 73, 2) := by decide +kernel
theorem dX0_init_15 : decode cX0_init 15 = .ok (.newarray .long, 2) := by decide +kernel
theorem dX0_init_17 : decode cX0_init 17 = .ok (.putfield 15, 3) := by decide +kernel
theorem dX0_init_20 : decode cX0_init 20 = .ok (.aload_n 0, 1) := by decide +kernel
theorem dX0_init_21 : decode cX0_init 21 = .ok (.bipush 74, 2) := by decide +kernel
theorem dX0_init_23 : decode cX0_init 23 = .ok (.newarray .long, 2) := by decide +kernel
theorem dX0_init_25 : decode cX0_init 25 = .ok (.putfield 18, 3) := by decide +kernel
theorem dX0_init_28 : decode cX0_init 28 = .ok (.aload_n 0, 1) := by decide +kernel
theorem dX0_init_29 : decode cX0_init 29 = .ok (.sipush 145, 3) := by decide +kernel
theorem dX0_init_32 : decode cX0_init 32 = .ok (.newarray .long, 2) := by decide +kernel
theorem dX0_init_34 : decode cX0_init 34 = .ok (.putfield 21, 3) := by decide +kernel
theorem dX0_init_37 : decode cX0_init 37 = .ok (.aload_n 0, 1) := by decide +kernel
theorem dX0_init_38 : decode cX0_init 38 = .ok (.sipush 4321, 3) := by decide +kernel
theorem dX0_init_41 : decode cX0_init 41 = .ok (.newarray .long, 2) := by decide +kernel
theorem dX0_init_43 : decode cX0_init 43 = .ok (.putfield 24, 3) := by decide +kernel
theorem dX0_init_46 : decode cX0_init 46 = .ok (.aload_n 0, 1) := by decide +kernel
theorem dX0_init_47 : decode cX0_init 47 = .ok (.sipush 4321, 3) := by decide +kernel
theorem dX0_init_50 : decode cX0_init 50 = .ok (.newarray .long, 2) := by decide +kernel
theorem dX0_init_52 : decode cX0_init 52 = .ok (.putfield 27, 3) := by decide +kernel
theorem dX0_init_55 : decode cX0_init 55 = .ok (.aload_n 0, 1) := by decide +kernel
theorem dX0_init_56 : decode cX0_init 56 = .ok (.lconst 0, 1) := by decide +kernel
theorem dX0_init_57 : decode cX0_init 57 = .ok (.putfield 30, 3) := by decide +kernel
theorem dX0_init_60 : decode cX0_init 60 = .ok (.aload_n 0, 1) := by decide +kernel
theorem dX0_init_61 : decode cX0_init 61 = .ok (.iconst 0, 1) := by decide +kernel
theorem dX0_init_62 : decode cX0_init 62 = .ok (.putfield 34, 3) := by decide +kernel
theorem dX0_init_65 : decode cX0_init 65 = .ok (.aload_n 0, 1) := by decide +kernel
theorem dX0_init_66 : decode cX0_init 66 = .ok (.bipush 20, 2) := by decide +kernel
theorem dX0_init_68 : decode cX0_init 68 = .ok (.newarray .int, 2) := by decide +kernel
theorem dX0_init_70 : decode cX0_init 70 = .ok (.putfield 38, 3) := by decide +kernel
theorem dX0_init_73 : decode cX0_init 73 = .ok (.return_, 1) := by decide +kernel
theorem dX10_init_0 : decode cX10_init 0 = .ok (.aload_n 0, 1) := by decide +kernel
theorem dX10_init_1 : decode cX10_init 1 = .ok (.invokespecial 3, 3) := by decide +kernel
theorem dX10_init_4 : decode cX10_init 4 = .ok (.aload_n 0, 1) := by decide +kernel
theorem dX10_init_5 : decode cX10_init 5 = .ok (.iconst 0, 1) := by decide +kernel
theorem dX10_init_6 : decode cX10_init 6 = .ok (.putfield 9, 3) := by decide +kernel
theorem dX10_init_9 : decode cX10_init 9 = .ok (.aload_n 0, 1) := by decide +kernel
theorem dX10_init_10 : decode cX10_init 10 = .ok (.bipush 80, 2) := by decide +kernel
theorem dX10_init_12 : decode cX10_init 12 = .ok (.newarray .int, 2) := by decide +kernel
theorem dX10_init_14 : decode cX10_init 14 = .ok (.putfield 15, 3) := by decide +kernel
theorem dX10_init_17 : decode cX10_init 17 = .ok (.aload_n 0, 1) := by decide +kernel
theorem dX10_init_18 : decode cX10_init 18 = .ok (.iconst 0, 1) := by decide +kernel
theorem dX10_init_19 : decode cX10_init 19 = .ok (.putfield 19, 3) := by decide +kernel
theorem dX10_init_22 : decode cX10_init 22 = .ok (.aload_n 0, 1) := by decide +kernel
theorem dX10_init_23 : decode cX10_init 23 = .ok (.bipush 24, 2) := by decide +kernel
theorem dX10_init_25 : decode cX10_init 25 = .ok (.newarray .int, 2) := by decide +kernel
theorem dX10_init_27 : decode cX10_init 27 = .ok (.putfield 22, 3) := by decide +kernel
theorem dX10_init_30 : decode cX10_init 30 = .ok (.aload_n 0, 1) := by decide +kernel
theorem dX10_init_31 : decode cX10_init 31 = .ok (.bipush 40, 2) := by decide +kernel
theorem dX10_init_33 : decode cX10_init 33 = .ok (.newarray .int, 2) := by decide +kernel
theorem dX10_init_35 : decode cX10_init 35 = .ok (.putfield 25, 3) := by decide +kernel
theorem dX10_init_38 : decode cX10_init 38 = .ok (.aload_n 0, 1) := by decide +kernel
theorem dX10_init_39 : decode cX10_init 39 = .ok (.iconst 0, 1) := by decide +kernel
theorem dX10_init_40 : decode cX10_init 40 = .ok (.putfield 28, 3) := by decide +kernel
theorem dX10_init_43 : decode cX10_init 43 = .ok (.aload_n 0, 1) := by decide +kernel
theorem dX10_init_44 : decode cX10_init 44 = .ok (.sipush 3200, 3) := by decide +kernel
theorem dX10_init_47 : decode cX10_init 47 = .ok (.newarray .int, 2) := by decide +kernel
theorem dX10_init_49 : decode cX10_init 49 = .ok (.putfield 31, 3) := by decide +kernel
theorem dX10_init_52 : decode cX10_init 52 = .ok (.aload_n 0, 1) := by decide +kernel
theorem dX10_init_53 : decode cX10_init 53 = .ok (.sipush 16000, 3) := by decide +kernel
theorem dX10_init_56 : decode cX10_init 56 = .ok (.newarray .int, 2) := by decide +kernel
theorem dX10_init_58 : decode cX10_init 58 = .ok (.putfield 34, 3) := by decide +kernel
theorem dX10_init_61 : decode cX10_init 61 = .ok (.aload_n 0, 1) := by decide +kernel
theorem dX10_init_62 : decode cX10_init 62 = .ok (.sipush 160, 3) := by decide +kernel
theorem dX10_init_65 : decode cX10_init 65 = .ok (.newarray .int, 2) := by decide +kernel
theorem dX10_init_67 : decode cX10_init 67 = .ok (.putfield 37, 3) := by decide +kernel
theorem dX10_init_70 : decode cX10_init 70 = .ok (.aload_n 0, 1) := by decide +kernel
theorem dX10_init_71 : decode cX10_init 71 = .ok (.sipush 800, 3) := by decide +kernel
theorem dX10_init_74 : decode cX10_init 74 = .ok (.newarray .int, 2) := by decide +kernel
theorem dX10_init_76 : decode cX10_init 76 = .ok (.putfield 40, 3) := by decide +kernel
theorem dX10_init_79 : decode cX10_init 79 = .ok (.aload_n 0, 1) := by decide +kernel
theorem dX10_init_80 : decode cX10_init 80 = .ok (.sipush 800, 3) := by decide +kernel
theorem dX10_init_83 : decode cX10_init 83 = .ok (.newarray .int, 2) := by decide +kernel
theorem dX10_init_85 : decode cX10_init 85 = .ok (.putfield 43, 3) := by decide +kernel
theorem dX10_init_88 : decode cX10_init 88 = .ok (.aload_n 0, 1) := by decide +kernel
theorem dX10_init_89 : decode cX10_init 89 = .ok (.lconst 1, 1) := by decide +kernel
theorem dX10_init_90 : decode cX10_init 90 = .ok (.putfield 46, 3) := by decide +kernel
theorem dX10_init_93 : decode cX10_init 93 = .ok (.aload_n 0, 1) := by decide +kernel
theorem dX10_init_94 : decode cX10_init 94 = .ok (.getfield 25, 3) := by decide +kernel
theorem dX10_init_97 : decode cX10_init 97 = .ok (.iconst (-1), 1) := by decide +kernel
theorem dX10_init_98 : decode cX10_init 98 = .ok (.invokestatic 50, 3) := by decide +kernel
theorem dX10_init_101 : decode cX10_init 101 = .ok (.aload_n 0, 1) := by decide +kernel
theorem dX10_init_102 : decode cX10_init 102 = .ok (.getfield 31, 3) := by decide +kernel
theorem dX10_init_105 : decode cX10_init 105 = .ok (.iconst (-1), 1) := by decide +kernel
theorem dX10_init_106 : decode cX10_init 106 = .ok (.invokestatic 50, 3) := by decide +kernel
theorem dX10_init_109 : decode cX10_init 109 = .ok (.return_, 1) := by decide +kernel
theorem dX1_init_0 : decode cX1_init 0 = .ok (.aload_n 0, 1) := by decide +kernel
theorem dX1_init_1 : decode cX1_init 1 = .ok (.invokespecial 3, 3) := by decide +kernel
theorem dX1_init_4 : decode cX1_init 4 = .ok (.aload_n 0, 1) := by decide +kernel
theorem dX1_init_5 : decode cX1_init 5 = .ok (.sipush 800, 3) := by decide +kernel
theorem dX1_init_8 : decode cX1_init 8 = .ok (.newarray .long, 2) := by decide +kernel
theorem dX1_init_10 : decode cX1_init 10 = .ok (.putfield 9, 3) := by decide +kernel
theorem dX1_init_13 : decode cX1_init 13 = .ok (.aload_n 0, 1) := by decide +kernel
theorem dX1_init_14 : decode cX1_init 14 = .ok (.sipush 800, 3) := by decide +kernel
theorem dX1_init_17 : decode cX1_init 17 = .ok (.newarray .int, 2) := by decide +kernel
theorem dX1_init_19 : decode cX1_init 19 = .ok (.putfield 15, 3) := by decide +kernel
theorem dX1_init_22 : decode cX1_init 22 = .ok (.aload_n 0, 1) := by decide +kernel
theorem dX1_init_23 : decode cX1_init 23 = .ok (.lconst 0, 1) := by decide +kernel
theorem dX1_init_24 : decode cX1_init 24 = .ok (.putfield 19, 3) := by decide +kernel
theorem dX1_init_27 : decode cX1_init 27 = .ok (.aload_n 0, 1) := by decide +kernel
theorem dX1_init_28 : decode cX1_init 28 = .ok (.lconst 0, 1) := by decide +kernel
theorem dX1_init_29 : decode cX1_init 29 = .ok (.putfield 23, 3) := by decide +kernel
theorem dX1_init_32 : decode cX1_init 32 = .ok (.aload_n 0, 1) := by decide +kernel
theorem dX1_init_33 : decode cX1_init 33 = .ok (.aload_n 1, 1) := by decide +kernel
theorem dX1_init_34 : decode cX1_init 34 = .ok (.putfield 26, 3) := by decide +kernel
theorem dX1_init_37 : decode cX1_init 37 = .ok (.return_, 1) := by decide +kernel
theorem dX2_init_0 : decode cX2_init 0 = .ok (.aload_n 0, 1) := by decide +kernel
theorem dX2_init_1 : decode cX2_init 1 = .ok (.invokespecial 3, 3) := by decide +kernel
theorem dX2_init_4 : decode cX2_init 4 = .ok (.aload_n 0, 1) := by decide +kernel
theorem dX2_init_5 : decode cX2_init 5 = .ok (.bipush 20, 2) := by decide +kernel
theorem dX2_init_7 : decode cX2_init 7 = .ok (.newarray .long, 2) := by decide +kernel
theorem dX2_init_9 : decode cX2_init 9 = .ok (.putfield 9, 3) := by decide +kernel
theorem dX2_init_12 : decode cX2_init 12 = .ok (.aload_n 0, 1) := by decide +kernel
theorem dX2_init_13 : decode cX2_init 13 = .ok (.bipush 20, 2) := by decide +kernel
theorem dX2_init_15 : decode cX2_init 15 = .ok (.newarray .long, 2) := by decide +kernel
theorem dX2_init_17 : decode cX2_init 17 = .ok (.putfield 15, 3) := by decide +kernel
theorem dX2_init_20 : decode cX2_init 20 = .ok (.aload_n 0, 1) := by decide +kernel
theorem dX2_init_21 : decode cX2_init 21 = .ok (.bipush 20, 2) := by decide +kernel
theorem dX2_init_23 : decode cX2_init 23 = .ok (.newarray .long, 2) := by decide +kernel
theorem dX2_init_25 : decode cX2_init 25 = .ok (.putfield 18, 3) := by decide +kernel
theorem dX2_init_28 : decode cX2_init 28 = .ok (.aload_n 0, 1) := by decide +kernel
theorem dX2_init_29 : decode cX2_init 29 = .ok (.bipush 20, 2) := by decide +kernel
theorem dX2_init_31 : decode cX2_init 31 = .ok (.newarray .long, 2) := by decide +kernel
theorem dX2_init_33 : decode cX2_init 33 = .ok (.putfield 21, 3) := by decide +kernel
theorem dX2_init_36 : decode cX2_init 36 = .ok (.aload_n 0, 1) := by decide +kernel
theorem dX2_init_37 : decode cX2_init 37 = .ok (.iconst 0, 1) := by decide +kernel
theorem dX2_init_38 : decode cX2_init 38 = .ok (.putfield 24, 3) := by decide +kernel
theorem dX2_init_41 : decode cX2_init 41 = .ok (.aload_n 0, 1) := by decide +kernel
theorem dX2_init_42 : decode cX2_init 42 = .ok (.iconst 0, 1) := by decide +kernel
theorem dX2_init_43 : decode cX2_init 43 = .ok (.putfield 28, 3) := by decide +kernel
theorem dX2_init_46 : decode cX2_init 46 = .ok (.aload_n 0, 1) := by decide +kernel
theorem dX2_init_47 : decode cX2_init 47 = .ok (.iconst 0, 1) := by decide +kernel
theorem dX2_init_48 : decode cX2_init 48 = .ok (.putfield 31, 3) := by decide +kernel
theorem dX2_init_51 : decode cX2_init 51 = .ok (.aload_n 0, 1) := by decide +kernel
theorem dX2_init_52 : decode cX2_init 52 = .ok (.aload_n 1, 1) := by decide +kernel
theorem dX2_init_53 : decode cX2_init 53 = .ok (.putfield 34, 3) := by decide +kernel
theorem dX2_init_56 : decode cX2_init 56 = .ok (.return_, 1) := by decide +kernel
theorem dX3_init_0 : decode cX3_init 0 = .ok (.aload_n 0, 1) := by decide +kernel
theorem dX3_init_1 : decode cX3_init 1 = .ok (.invokespecial 3, 3) := by decide +kernel
theorem dX3_init_4 : decode cX3_init 4 = .ok (.aload_n 0, 1) := by decide +kernel
theorem dX3_init_5 : decode cX3_init 5 = .ok (.iconst 0, 1) := by decide +kernel
theorem dX3_init_6 : decode cX3_init 6 = .ok (.putfield 9, 3) := by decide +kernel
theorem dX3_init_9 : decode cX3_init 9 = .ok (.aload_n 0, 1) := by decide +kernel
theorem dX3_init_10 : decode cX3_init 10 = .ok (.iconst 4, 1) := by decide +kernel
theorem dX3_init_11 : decode cX3_init 11 = .ok (.newarray .int, 2) := by decide +kernel
theorem dX3_init_13 : decode cX3_init 13 = .ok (.putfield 15, 3) := by decide +kernel
theorem dX3_init_16 : decode cX3_init 16 = .ok (.aload_n 0, 1) := by decide +kernel
theorem dX3_init_17 : decode cX3_init 17 = .ok (.iconst 4, 1) := by decide +kernel
theorem dX3_init_18 : decode cX3_init 18 = .ok (.newarray .int, 2) := by decide +kernel
theorem dX3_init_20 : decode cX3_init 20 = .ok (.putfield 19, 3) := by decide +kernel
theorem dX3_init_23 : decode cX3_init 23 = .ok (.aload_n 0, 1) := by decide +kernel
theorem dX3_init_24 : decode cX3_init 24 = .ok (.iconst 3, 1) := by decide +kernel
theorem dX3_init_25 : decode cX3_init 25 = .ok (.newarray .int, 2) := by decide +kernel
theorem dX3_init_27 : decode cX3_init 27 = .ok (.putfield 22, 3) := by decide +kernel
theorem dX3_init_30 : decode cX3_init 30 = .ok (.aload_n 0, 1) := by decide +kernel
theorem dX3_init_31 : decode cX3_init 31 = .ok (.bipush 21, 2) := by decide +kernel
theorem dX3_init_33 : decode cX3_init 33 = .ok (.newarray .int, 2) := by decide +kernel
theorem dX3_init_35 : decode cX3_init 35 = .ok (.putfield 25, 3) := by decide +kernel
theorem dX3_init_38 : decode cX3_init 38 = .ok (.aload_n 0, 1) := by decide +kernel
theorem dX3_init_39 : decode cX3_init 39 = .ok (.bipush 21, 2) := by decide +kernel
theorem dX3_init_41 : decode cX3_init 41 = .ok (.newarray .int, 2) := by decide +kernel
theorem dX3_init_43 : decode cX3_init 43 = .ok (.putfield 28, 3) := by decide +kernel
theorem dX3_init_46 : decode cX3_init 46 = .ok (.aload_n 0, 1) := by decide +kernel
theorem dX3_init_47 : decode cX3_init 47 = .ok (.bipush 40, 2) := by decide +kernel
theorem dX3_init_49 : decode cX3_init 49 = .ok (.newarray .int, 2) := by decide +kernel
theorem dX3_init_51 : decode cX3_init 51 = .ok (.putfield 31, 3) := by decide +kernel
theorem dX3_init_54 : decode cX3_init 54 = .ok (.aload_n 0, 1) := by decide +kernel
theorem dX3_init_55 : decode cX3_init 55 = .ok (.bipush 41, 2) := by decide +kernel
theorem dX3_init_57 : decode cX3_init 57 = .ok (.newarray .int, 2) := by decide +kernel
theorem dX3_init_59 : decode cX3_init 59 = .ok (.putfield 34, 3) := by decide +kernel
theorem dX3_init_62 : decode cX3_init 62 = .ok (.aload_n 0, 1) := by decide +kernel
theorem dX3_init_63 : decode cX3_init 63 = .ok (.iconst 0, 1) := by decide +kernel
theorem dX3_init_64 : decode cX3_init 64 = .ok (.putfield 37, 3) := by decide +kernel
theorem dX3_init_67 : decode cX3_init 67 = .ok (.aload_n 0, 1) := by decide +kernel
theorem dX3_init_68 : decode cX3_init 68 = .ok (.bipush 40, 2) := by decide +kernel
theorem dX3_init_70 : decode cX3_init 70 = .ok (.newarray .int, 2) := by decide +kernel
theorem dX3_init_72 : decode cX3_init 72 = .ok (.putfield 40, 3) := by decide +kernel
theorem dX3_init_75 : decode cX3_init 75 = .ok (.aload_n 0, 1) := by decide +kernel
theorem dX3_init_76 : decode cX3_init 76 = .ok (.bipush 40, 2) := by decide +kernel
theorem dX3_init_78 : decode cX3_init 78 = .ok (.newarray .int, 2) := by decide +kernel
theorem dX3_init_80 : decode cX3_init 80 = .ok (.putfield 43, 3) := by decide +kernel
theorem dX3_init_83 : decode cX3_init 83 = .ok (.aload_n 0, 1) := by decide +kernel
theorem dX3_init_84 : decode cX3_init 84 = .ok (.bipush 40, 2) := by decide +kernel
theorem dX3_init_86 : decode cX3_init 86 = .ok (.newarray .int, 2) := by decide +kernel
theorem dX3_init_88 : decode cX3_init 88 = .ok (.putfield 46, 3) := by decide +kernel
theorem dX3_init_91 : decode cX3_init 91 = .ok (.aload_n 0, 1) := by decide +kernel
theorem dX3_init_92 : decode cX3_init 92 = .ok (.iconst 0, 1) := by decide +kernel
theorem dX3_init_93 : decode cX3_init 93 = .ok (.putfield 49, 3) := by decide +kernel
theorem dX3_init_96 : decode cX3_init 96 = .ok (.aload_n 0, 1) := by decide +kernel
theorem dX3_init_97 : decode cX3_init 97 = .ok (.bipush 40, 2) := by decide +kernel
theorem dX3_init_99 : decode cX3_init 99 = .ok (.newarray .int, 2) := by decide +kernel
theorem dX3_init_101 : decode cX3_init 101 = .ok (.putfield 52, 3) := by decide +kernel
theorem dX3_init_104 : decode cX3_init 104 = .ok (.aload_n 0, 1) := by decide +kernel
theorem dX3_init_105 : decode cX3_init 105 = .ok (.bipush 40, 2) := by decide +kernel
theorem dX3_init_107 : decode cX3_init 107 = .ok (.newarray .int, 2) := by decide +kernel
theorem dX3_init_109 : decode cX3_init 109 = .ok (.putfield 55, 3) := by decide +kernel
theorem dX3_init_112 : decode cX3_init 112 = .ok (.aload_n 0, 1) := by decide +kernel
theorem dX3_init_113 : decode cX3_init 113 = .ok (.bipush 40, 2) := by decide +kernel
theorem dX3_init_115 : decode cX3_init 115 = .ok (.newarray .int, 2) := by decide +kernel
theorem dX3_init_117 : decode cX3_init 117 = .ok (.putfield 58, 3) := by decide +kernel
theorem dX3_init_120 : decode cX3_init 120 = .ok (.aload_n 0, 1) := by decide +kernel
theorem dX3_init_121 : decode cX3_init 121 = .ok (.sipush 700, 3) := by decide +kernel
theorem dX3_init_124 : decode cX3_init 124 = .ok (.newarray .int, 2) := by decide +kernel
theorem dX3_init_126 : decode cX3_init 126 = .ok (.putfield 61, 3) := by decide +kernel
theorem dX3_init_129 : decode cX3_init 129 = .ok (.aload_n 0, 1) := by decide +kernel
theorem dX3_init_130 : decode cX3_init 130 = .ok (.iconst 0, 1) := by decide +kernel
theorem dX3_init_131 : decode cX3_init 131 = .ok (.putfield 64, 3) := by decide +kernel
theorem dX3_init_134 : decode cX3_init 134 = .ok (.aload_n 0, 1) := by decide +kernel
theorem dX3_init_135 : decode cX3_init 135 = .ok (.bipush 64, 2) := by decide +kernel
theorem dX3_init_137 : decode cX3_init 137 = .ok (.newarray .boolean, 2) := by decide +kernel
theorem dX3_init_139 : decode cX3_init 139 = .ok (.putfield 67, 3) := by decide +kernel
theorem dX3_init_142 : decode cX3_init 142 = .ok (.aload_n 0, 1) := by decide +kernel
theorem dX3_init_143 : decode cX3_init 143 = .ok (.getfield 31, 3) := by decide +kernel
theorem dX3_init_146 : decode cX3_init 146 = .ok (.iconst (-1), 1) := by decide +kernel
theorem dX3_init_147 : decode cX3_init 147 = .ok (.invokestatic 71, 3) := by decide +kernel
theorem dX3_init_150 : decode cX3_init 150 = .ok (.aload_n 0, 1) := by decide +kernel
theorem dX3_init_151 : decode cX3_init 151 = .ok (.getfield 34, 3) := by decide +kernel
theorem dX3_init_154 : decode cX3_init 154 = .ok (.iconst 1, 1) := by decide +kernel
theorem dX3_init_155 : decode cX3_init 155 = .ok (.invokestatic 71, 3) := by decide +kernel
theorem dX3_init_158 : decode cX3_init 158 = .ok (.return_, 1) := by decide +kernel
theorem dX4_init_0 : decode cX4_init 0 = .ok (.aload_n 0, 1) := by decide +kernel
theorem dX4_init_1 : decode cX4_init 1 = .ok (.invokespecial 3, 3) := by decide +kernel
theorem dX4_init_4 : decode cX4_init 4 = .ok (.aload_n 0, 1) := by decide +kernel
theorem dX4_init_5 : decode cX4_init 5 = .ok (.iconst 0, 1) := by decide +kernel
theorem dX4_init_6 : decode cX4_init 6 = .ok (.newarray .byte, 2) := by decide +kernel
theorem dX4_init_8 : decode cX4_init 8 = .ok (.putfield 9, 3) := by decide +kernel
theorem dX4_init_11 : decode cX4_init 11 = .ok (.aload_n 0, 1) := by decide +kernel
theorem dX4_init_12 : decode cX4_init 12 = .ok (.new 15, 3) := by decide +kernel
theorem dX4_init_15 : decode cX4_init 15 = .ok (.dup, 1) := by decide +kernel
theorem dX4_init_16 : decode cX4_init 16 = .ok (.invokespecial 17, 3) := by decide +kernel
theorem dX4_init_19 : decode cX4_init 19 = .ok (.putfield 18, 3) := by decide +kernel
theorem dX4_init_22 : decode cX4_init 22 = .ok (.aload_n 0, 1) := by decide +kernel
theorem dX4_init_23 : decode cX4_init 23 = .ok (.sipush 701, 3) := by decide +kernel
theorem dX4_init_26 : decode cX4_init 26 = .ok (.newarray .int, 2) := by decide +kernel
theorem dX4_init_28 : decode cX4_init 28 = .ok (.putfield 22, 3) := by decide +kernel
theorem dX4_init_31 : decode cX4_init 31 = .ok (.aload_n 0, 1) := by decide +kernel
theorem dX4_init_32 : decode cX4_init 32 = .ok (.sipush 701, 3) := by decide +kernel
theorem dX4_init_35 : decode cX4_init 35 = .ok (.newarray .int, 2) := by decide +kernel
theorem dX4_init_37 : decode cX4_init 37 = .ok (.putfield 26, 3) := by decide +kernel
theorem dX4_init_40 : decode cX4_init 40 = .ok (.aload_n 0, 1) := by decide +kernel
theorem dX4_init_41 : decode cX4_init 41 = .ok (.sipush 701, 3) := by decide +kernel
theorem dX4_init_44 : decode cX4_init 44 = .ok (.newarray .int, 2) := by decide +kernel
theorem dX4_init_46 : decode cX4_init 46 = .ok (.putfield 29, 3) := by decide +kernel
theorem dX4_init_49 : decode cX4_init 49 = .ok (.aload_n 0, 1) := by decide +kernel
theorem dX4_init_50 : decode cX4_init 50 = .ok (.iconst 0, 1) := by decide +kernel
theorem dX4_init_51 : decode cX4_init 51 = .ok (.putfield 32, 3) := by decide +kernel
theorem dX4_init_54 : decode cX4_init 54 = .ok (.aload_n 0, 1) := by decide +kernel
theorem dX4_init_55 : decode cX4_init 55 = .ok (.iconst 0, 1) := by decide +kernel
theorem dX4_init_56 : decode cX4_init 56 = .ok (.putfield 36, 3) := by decide +kernel
theorem dX4_init_59 : decode cX4_init 59 = .ok (.aload_n 0, 1) := by decide +kernel
theorem dX4_init_60 : decode cX4_init 60 = .ok (.iconst 0, 1) := by decide +kernel
theorem dX4_init_61 : decode cX4_init 61 = .ok (.putfield 39, 3) := by decide +kernel
theorem dX4_init_64 : decode cX4_init 64 = .ok (.aload_n 0, 1) := by decide +kernel
theorem dX4_init_65 : decode cX4_init 65 = .ok (.bipush 64, 2) := by decide +kernel
theorem dX4_init_67 : decode cX4_init 67 = .ok (.newarray .int, 2) := by decide +kernel
theorem dX4_init_69 : decode cX4_init 69 = .ok (.putfield 42, 3) := by decide +kernel
theorem dX4_init_72 : decode cX4_init 72 = .ok (.aload_n 0, 1) := by decide +kernel
theorem dX4_init_73 : decode cX4_init 73 = .ok (.iconst 0, 1) := by decide +kernel
theorem dX4_init_74 : decode cX4_init 74 = .ok (.putfield 45, 3) := by decide +kernel
theorem dX4_init_77 : decode cX4_init 77 = .ok (.aload_n 0, 1) := by decide +kernel
theorem dX4_init_78 : decode cX4_init 78 = .ok (.iconst 0, 1) := by decide +kernel
theorem dX4_init_79 : decode cX4_init 79 = .ok (.putfield 48, 3) := by decide +kernel
theorem dX4_init_82 : decode cX4_init 82 = .ok (.aload_n 0, 1) := by decide +kernel
theorem dX4_init_83 : decode cX4_init 83 = .ok (.iconst 0, 1) := by decide +kernel
theorem dX4_init_84 : decode cX4_init 84 = .ok (.putfield 51, 3) := by decide +kernel
theorem dX4_init_87 : decode cX4_init 87 = .ok (.return_, 1) := by decide +kernel
theorem dX5_init_0 : decode cX5_init 0 = .ok (.aload_n 0, 1) := by decide +kernel
theorem dX5_init_1 : decode cX5_init 1 = .ok (.invokespecial 3, 3) := by decide +kernel
theorem dX5_init_4 : decode cX5_init 4 = .ok (.aload_n 0, 1) := by decide +kernel
theorem dX5_init_5 : decode cX5_init 5 = .ok (.bipush 20, 2) := by decide +kernel
theorem dX5_init_7 : decode cX5_init 7 = .ok (.newarray .int, 2) := by decide +kernel
theorem dX5_init_9 : decode cX5_init 9 = .ok (.putfield 9, 3) := by decide +kernel
theorem dX5_init_12 : decode cX5_init 12 = .ok (.aload_n 0, 1) := by decide +kernel
theorem dX5_init_13 : decode cX5_init 13 = .ok (.bipush 20, 2) := by decide +kernel
theorem dX5_init_15 : decode cX5_init 15 = .ok (.newarray .int, 2) := by decide +kernel
theorem dX5_init_17 : decode cX5_init 17 = .ok (.putfield 15, 3) := by decide +kernel
theorem dX5_init_20 : decode cX5_init 20 = .ok (.aload_n 0, 1) := by decide +kernel
theorem dX5_init_21 : decode cX5_init 21 = .ok (.iconst 0, 1) := by decide +kernel
theorem dX5_init_22 : decode cX5_init 22 = .ok (.putfield 18, 3) := by decide +kernel
theorem dX5_init_25 : decode cX5_init 25 = .ok (.return_, 1) := by decide +kernel
theorem dX6_init_0 : decode cX6_init 0 = .ok (.aload_n 0, 1) := by decide +kernel
theorem dX6_init_1 : decode cX6_init 1 = .ok (.invokespecial 1, 3) := by decide +kernel
theorem dX6_init_4 : decode cX6_init 4 = .ok (.aload_n 0, 1) := by decide +kernel
theorem dX6_init_5 : decode cX6_init 5 = .ok (.lconst 0, 1) := by decide +kernel
theorem dX6_init_6 : decode cX6_init 6 = .ok (.putfield 7, 3) := by decide +kernel
theorem dX6_init_9 : decode cX6_init 9 = .ok (.aload_n 0, 1) := by decide +kernel
theorem dX6_init_10 : decode cX6_init 10 = .ok (.lconst 0, 1) := by decide +kernel
theorem dX6_init_11 : decode cX6_init 11 = .ok (.putfield 13, 3) := by decide +kernel
theorem dX6_init_14 : decode cX6_init 14 = .ok (.return_, 1) := by decide +kernel
theorem dX7_init_0 : decode cX7_init 0 = .ok (.aload_n 0, 1) := by decide +kernel
theorem dX7_init_1 : decode cX7_init 1 = .ok (.invokespecial 3, 3) := by decide +kernel
theorem dX7_init_4 : decode cX7_init 4 = .ok (.aload_n 0, 1) := by decide +kernel
theorem dX7_init_5 : decode cX7_init 5 = .ok (.new 9, 3) := by decide +kernel
theorem dX7_init_8 : decode cX7_init 8 = .ok (.dup, 1) := by decide +kernel
theorem dX7_init_9 : decode cX7_init 9 = .ok (.invokespecial 11, 3) := by decide +kernel
theorem dX7_init_12 : decode cX7_init 12 = .ok (.putfield 12, 3) := by decide +kernel
theorem dX7_init_15 : decode cX7_init 15 = .ok (.aload_n 0, 1) := by decide +kernel
theorem dX7_init_16 : decode cX7_init 16 = .ok (.bipush 20, 2) := by decide +kernel
theorem dX7_init_18 : decode cX7_init 18 = .ok (.newarray .int, 2) := by decide +kernel
theorem dX7_init_20 : decode cX7_init 20 = .ok (.putfield 18, 3) := by decide +kernel
theorem dX7_init_23 : decode cX7_init 23 = .ok (.aload_n 0, 1) := by decide +kernel
theorem dX7_init_24 : decode cX7_init 24 = .ok (.aload_n 1, 1) := by decide +kernel
theorem dX7_init_25 : decode cX7_init 25 = .ok (.putfield 22, 3) := by decide +kernel
theorem dX7_init_28 : decode cX7_init 28 = .ok (.return_, 1) := by decide +kernel
theorem dX8_init_0 : decode cX8_init 0 = .ok (.aload_n 0, 1) := by decide +kernel
theorem dX8_init_1 : decode cX8_init 1 = .ok (.invokespecial 3, 3) := by decide +kernel
theorem dX8_init_4 : decode cX8_init 4 = .ok (.aload_n 0, 1) := by decide +kernel
theorem dX8_init_5 : decode cX8_init 5 = .ok (.iconst 0, 1) := by decide +kernel
theorem dX8_init_6 : decode cX8_init 6 = .ok (.putfield 9, 3) := by decide +kernel
theorem dX8_init_9 : decode cX8_init 9 = .ok (.aload_n 0, 1) := by decide +kernel
theorem dX8_init_10 : decode cX8_init 10 = .ok (.iconst 0, 1) := by decide +kernel
theorem dX8_init_11 : decode cX8_init 11 = .ok (.putfield 15, 3) := by decide +kernel
theorem dX8_init_14 : decode cX8_init 14 = .ok (.aload_n 0, 1) := by decide +kernel
theorem dX8_init_15 : decode cX8_init 15 = .ok (.iconst (-1), 1) := by decide +kernel
theorem dX8_init_16 : decode cX8_init 16 = .ok (.putfield 18, 3) := by decide +kernel
theorem dX8_init_19 : decode cX8_init 19 = .ok (.aload_n 0, 1) := by decide +kernel
theorem dX8_init_20 : decode cX8_init 20 = .ok (.iconst 0, 1) := by decide +kernel
theorem dX8_init_21 : decode cX8_init 21 = .ok (.putfield 21, 3) := by decide +kernel
theorem dX8_init_24 : decode cX8_init 24 = .ok (.aload_n 0, 1) := by decide +kernel
theorem dX8_init_25 : decode cX8_init 25 = .ok (.lconst 0, 1) := by decide +kernel
theorem dX8_init_26 : decode cX8_init 26 = .ok (.putfield 24, 3) := by decide +kernel
theorem dX8_init_29 : decode cX8_init 29 = .ok (.aload_n 0, 1) := by decide +kernel
theorem dX8_init_30 : decode cX8_init 30 = .ok (.lconst 0, 1) := by decide +kernel
theorem dX8_init_31 : decode cX8_init 31 = .ok (.putfield 28, 3) := by decide +kernel
theorem dX8_init_34 : decode cX8_init 34 = .ok (.aload_n 0, 1) := by decide +kernel
theorem dX8_init_35 : decode cX8_init 35 = .ok (.lconst 0, 1) := by decide +kernel
theorem dX8_init_36 : decode cX8_init 36 = .ok (.putfield 31, 3) := by decide +kernel
theorem dX8_init_39 : decode cX8_init 39 = .ok (.aload_n 0, 1) := by decide +kernel
theorem dX8_init_40 : decode cX8_init 40 = .ok (.aload_n 1, 1) := by decide +kernel
theorem dX8_init_41 : decode cX8_init 41 = .ok (.putfield 34, 3) := by decide +kernel
theorem dX8_init_44 : decode cX8_init 44 = .ok (.return_, 1) := by decide +kernel
theorem dX9_init_0 : decode cX9_init 0 = .ok (.aload_n 0, 1) := by decide +kernel
theorem dX9_init_1 : decode cX9_init 1 = .ok (.invokespecial 3, 3) := by decide +kernel
theorem dX9_init_4 : decode cX9_init 4 = .ok (.aload_n 0, 1) := by decide +kernel
theorem dX9_init_5 : decode cX9_init 5 = .ok (.new 9, 3) := by decide +kernel
theorem dX9_init_8 : decode cX9_init 8 = .ok (.dup, 1) := by decide +kernel
theorem dX9_init_9 : decode cX9_init 9 = .ok (.invokespecial 11, 3) := by decide +kernel
theorem dX9_init_12 : decode cX9_init 12 = .ok (.putfield 12, 3) := by decide +kernel
theorem dX9_init_15 : decode cX9_init 15 = .ok (.aload_n 0, 1) := by decide +kernel
theorem dX9_init_16 : decode cX9_init 16 = .ok (.new 9, 3) := by decide +kernel
theorem dX9_init_19 : decode cX9_init 19 = .ok (.dup, 1) := by decide +kernel
theorem dX9_init_20 : decode cX9_init 20 = .ok (.invokespecial 11, 3) := by decide +kernel
theorem dX9_init_23 : decode cX9_init 23 = .ok (.putfield 18, 3) := by decide +kernel
theorem dX9_init_26 : decode cX9_init 26 = .ok (.aload_n 0, 1) := by decide +kernel
theorem dX9_init_27 : decode cX9_init 27 = .ok (.bipush 6, 2) := by decide +kernel
theorem dX9_init_29 : decode cX9_init 29 = .ok (.newarray .int, 2) := by decide +kernel
theorem dX9_init_31 : decode cX9_init 31 = .ok (.putfield 21, 3) := by decide +kernel
theorem dX9_init_34 : decode cX9_init 34 = .ok (.aload_n 0, 1) := by decide +kernel
theorem dX9_init_35 : decode cX9_init 35 = .ok (.aload_n 1, 1) := by decide +kernel
theorem dX9_init_36 : decode cX9_init 36 = .ok (.putfield 25, 3) := by decide +kernel
theorem dX9_init_39 : decode cX9_init 39 = .ok (.return_, 1) := by decide +kernel
set_option maxHeartbeats 4000000 in
set_option maxRecDepth 100000 in
theorem c_World_init (l : Launch) (D : va_G) (cI cJ cZ cB : ClassId) (cO : ClassId) (h0 : Nat) :
    CV l D [(cI, .int), (cJ, .long), (cZ, .boolean), (cB, .byte), (cO, .object "LuckLinks$World")] yX10_init cX10_init 1 ({ frames := 1, cells := 8, slots := 21104, locals := 23 } : Room) [.ref h0] [(h0, .inr (10, [.int (0 : Int32), .null, .int (0 : Int32), .null, .null, .int (0 : Int32), .null, .null, .null, .null, .null, .long (0 : Int64)]))] (fun (u : (Nat → Nat)) => match u with | u => (True)) (fun (u : (Nat → Nat)) => match u with | u => [(h0, .inr (10, [.int (0 : Int32), .ref (u 1), .int (0 : Int32), .ref (u 2), .ref (u 3), .int (0 : Int32), .ref (u 4), .ref (u 5), .ref (u 6), .ref (u 7), .ref (u 8), .long (1 : Int64)])), ((u 1), .inl (cI, 80, .inl (fun _ => (0 : Int32)))), ((u 2), .inl (cI, 24, .inl (fun _ => (0 : Int32)))), ((u 3), .inl (cI, 40, .inl (fun _ => (-1 : Int32)))), ((u 4), .inl (cI, 3200, .inl (fun _ => (-1 : Int32)))), ((u 5), .inl (cI, 16000, .inl (fun _ => (0 : Int32)))), ((u 6), .inl (cI, 160, .inl (fun _ => (0 : Int32)))), ((u 7), .inl (cI, 800, .inl (fun _ => (0 : Int32)))), ((u 8), .inl (cI, 800, .inl (fun _ => (0 : Int32))))]) := by
  intro sz
  refine body_of (y := yX10_init) (cc := cX10_init) (maxL := 1) (ret := none) (rm := ({ frames := 1, cells := 8, slots := 21104, locals := 23 } : Room)) (wc := [(h0, .inr (10, [.int (0 : Int32), .null, .int (0 : Int32), .null, .null, .int (0 : Int32), .null, .null, .null, .null, .null, .long (0 : Int64)]))]) (tys := [(cI, .int), (cJ, .long), (cZ, .boolean), (cB, .byte), (cO, .object "LuckLinks$World")]) (D := D) (sz := sz) (own := RX10) (av := [.ref h0]) (Qc := fun A => va_Qv (fun (u : (Nat → Nat)) => match u with | u => (True)) (fun u t => Aft D A ((fun (u : (Nat → Nat)) => match u with | u => [(h0, .inr (10, [.int (0 : Int32), .ref (u 1), .int (0 : Int32), .ref (u 2), .ref (u 3), .int (0 : Int32), .ref (u 4), .ref (u 5), .ref (u 6), .ref (u 7), .ref (u 8), .long (1 : Int64)])), ((u 1), .inl (cI, 80, .inl (fun _ => (0 : Int32)))), ((u 2), .inl (cI, 24, .inl (fun _ => (0 : Int32)))), ((u 3), .inl (cI, 40, .inl (fun _ => (-1 : Int32)))), ((u 4), .inl (cI, 3200, .inl (fun _ => (-1 : Int32)))), ((u 5), .inl (cI, 16000, .inl (fun _ => (0 : Int32)))), ((u 6), .inl (cI, 160, .inl (fun _ => (0 : Int32)))), ((u 7), .inl (cI, 800, .inl (fun _ => (0 : Int32)))), ((u 8), .inl (cI, 800, .inl (fun _ => (0 : Int32))))]) u) t) A) (by decide) rfl (Nat.le_of_ble_eq_true rfl) (fun p e s m below meth c A ls C hr hlk hin X hl => ?_)
  have hx := C.1
  have hb := C.2.1
  have hown := C.2.2.2.1
  have hts := C.2.2.2.2.1
  have hl : lv_has ls 1 [(0, .ref h0)] := hl
  show W p l e _ s m _ below meth c s.heap [] 0 0 (MQ below (va_Qv (fun (u : (Nat → Nat)) => match u with | u => (True)) (fun u t => Aft D A ((fun (u : (Nat → Nat)) => match u with | u => [(h0, .inr (10, [.int (0 : Int32), .ref (u 1), .int (0 : Int32), .ref (u 2), .ref (u 3), .int (0 : Int32), .ref (u 4), .ref (u 5), .ref (u 6), .ref (u 7), .ref (u 8), .long (1 : Int64)])), ((u 1), .inl (cI, 80, .inl (fun _ => (0 : Int32)))), ((u 2), .inl (cI, 24, .inl (fun _ => (0 : Int32)))), ((u 3), .inl (cI, 40, .inl (fun _ => (-1 : Int32)))), ((u 4), .inl (cI, 3200, .inl (fun _ => (-1 : Int32)))), ((u 5), .inl (cI, 16000, .inl (fun _ => (0 : Int32)))), ((u 6), .inl (cI, 160, .inl (fun _ => (0 : Int32)))), ((u 7), .inl (cI, 800, .inl (fun _ => (0 : Int32)))), ((u 8), .inl (cI, 800, .inl (fun _ => (0 : Int32))))]) u) t) A) ([.ref h0] : List Value).toArray s 8 21104 A) (F0 m 0 ls [])
  have X : Wd D A s [(h0, .inr (10, [.int (0 : Int32), .null, .int (0 : Int32), .null, .null, .int (0 : Int32), .null, .null, .null, .null, .null, .long (0 : Int64)]))] s.heap [] := X
  obtain ⟨H, locs, eH, eL⟩ : ∃ H locs, H = s.heap ∧ locs = ([] : List Loc) := ⟨_, _, rfl, rfl⟩
  rw [← eH, ← eL] at X ⊢
  clear eH eL
  refine lv_aload_n hx hb dX10_init_0 rfl (lv_at hl 0 rfl) ?_
  refine x_objInit (own := RX10) C hl.1 k_3_16 k_1_10 k_1_11 dX10_init_1 (Nat.le_of_ble_eq_true rfl) (Nat.le_of_ble_eq_true rfl) ?_
  refine lv_aload_n hx hb dX10_init_4 rfl (lv_at hl 0 rfl) ?_
  refine lv_iconst (v := (0 : Int32)) hx hb dX10_init_5 (by decide) ?_
  refine x_put (own := RX10) (T := TX10) C X 0 rfl rfl 0 (by decide) k_3_17 rfl rfl rfl (ty := .int) (v := .int (0 : Int32)) (by decide +kernel) rfl rfl (Nat.le_of_ble_eq_true rfl) dX10_init_6 (fun H locs X => ?_)
  have X : Wd D A s [(h0, .inr (10, [.int (0 : Int32), .null, .int (0 : Int32), .null, .null, .int (0 : Int32), .null, .null, .null, .null, .null, .long (0 : Int64)]))] H locs := X
  refine lv_aload_n hx hb dX10_init_9 rfl (lv_at hl 0 rfl) ?_
  refine lv_bipush (v := (80 : Int32)) hx hb dX10_init_10 (by decide) ?_
  refine x_newa (own := RX10) (atype := .int) (ty := .int) (N' := 80) (a0 := (80, .inl (fun _ => (0 : Int32)))) C X rfl k_2_7 0 rfl rfl (fun _ => rfl) (by decide) (by decide) (Nat.le_of_ble_eq_true rfl) (Nat.le_of_ble_eq_true rfl) (Nat.le_of_ble_eq_true rfl) dX10_init_12 (fun q_1 H X => ?_)
  have X : Wd D A s [(h0, .inr (10, [.int (0 : Int32), .null, .int (0 : Int32), .null, .null, .int (0 : Int32), .null, .null, .null, .null, .null, .long (0 : Int64)])), (q_1, .inl (cI, 80, .inl (fun _ => (0 : Int32))))] H locs := X
  refine W.widen (k := 1) (n := 80) (Nat.le_of_ble_eq_true rfl) (Nat.le_of_ble_eq_true rfl) ?_
  refine x_putF (own := RX10) (T := TX10) C X 0 rfl rfl 1 (by decide) k_3_18 rfl rfl rfl hin rfl (ty := (tyX10 1)) (v := .ref q_1) (by decide +kernel) rfl rfl (Nat.le_of_ble_eq_true rfl) dX10_init_14 (fun H locs X => ?_)
  have X : Wd D A s [(h0, .inr (10, [.int (0 : Int32), .ref q_1, .int (0 : Int32), .null, .null, .int (0 : Int32), .null, .null, .null, .null, .null, .long (0 : Int64)])), (q_1, .inl (cI, 80, .inl (fun _ => (0 : Int32))))] H locs := X
  refine lv_aload_n hx hb dX10_init_17 rfl (lv_at hl 0 rfl) ?_
  refine lv_iconst (v := (0 : Int32)) hx hb dX10_init_18 (by decide) ?_
  refine x_put (own := RX10) (T := TX10) C X 0 rfl rfl 2 (by decide) k_3_19 rfl rfl rfl (ty := .int) (v := .int (0 : Int32)) (by decide +kernel) rfl rfl (Nat.le_of_ble_eq_true rfl) dX10_init_19 (fun H locs X => ?_)
  have X : Wd D A s [(h0, .inr (10, [.int (0 : Int32), .ref q_1, .int (0 : Int32), .null, .null, .int (0 : Int32), .null, .null, .null, .null, .null, .long (0 : Int64)])), (q_1, .inl (cI, 80, .inl (fun _ => (0 : Int32))))] H locs := X
  refine lv_aload_n hx hb dX10_init_22 rfl (lv_at hl 0 rfl) ?_
  refine lv_bipush (v := (24 : Int32)) hx hb dX10_init_23 (by decide) ?_
  refine x_newa (own := RX10) (atype := .int) (ty := .int) (N' := 24) (a0 := (24, .inl (fun _ => (0 : Int32)))) C X rfl k_2_7 0 rfl rfl (fun _ => rfl) (by decide) (by decide) (Nat.le_of_ble_eq_true rfl) (Nat.le_of_ble_eq_true rfl) (Nat.le_of_ble_eq_true rfl) dX10_init_25 (fun q_2 H X => ?_)
  have X : Wd D A s [(h0, .inr (10, [.int (0 : Int32), .ref q_1, .int (0 : Int32), .null, .null, .int (0 : Int32), .null, .null, .null, .null, .null, .long (0 : Int64)])), (q_1, .inl (cI, 80, .inl (fun _ => (0 : Int32)))), (q_2, .inl (cI, 24, .inl (fun _ => (0 : Int32))))] H locs := X
  refine W.widen (k := 2) (n := 104) (Nat.le_of_ble_eq_true rfl) (Nat.le_of_ble_eq_true rfl) ?_
  refine x_putF (own := RX10) (T := TX10) C X 0 rfl rfl 3 (by decide) k_3_20 rfl rfl rfl hin rfl (ty := (tyX10 3)) (v := .ref q_2) (by decide +kernel) rfl rfl (Nat.le_of_ble_eq_true rfl) dX10_init_27 (fun H locs X => ?_)
  have X : Wd D A s [(h0, .inr (10, [.int (0 : Int32), .ref q_1, .int (0 : Int32), .ref q_2, .null, .int (0 : Int32), .null, .null, .null, .null, .null, .long (0 : Int64)])), (q_1, .inl (cI, 80, .inl (fun _ => (0 : Int32)))), (q_2, .inl (cI, 24, .inl (fun _ => (0 : Int32))))] H locs := X
  refine lv_aload_n hx hb dX10_init_30 rfl (lv_at hl 0 rfl) ?_
  refine lv_bipush (v := (40 : Int32)) hx hb dX10_init_31 (by decide) ?_
  refine x_newa (own := RX10) (atype := .int) (ty := .int) (N' := 40) (a0 := (40, .inl (fun _ => (0 : Int32)))) C X rfl k_2_7 0 rfl rfl (fun _ => rfl) (by decide) (by decide) (Nat.le_of_ble_eq_true rfl) (Nat.le_of_ble_eq_true rfl) (Nat.le_of_ble_eq_true rfl) dX10_init_33 (fun q_3 H X => ?_)
  have X : Wd D A s [(h0, .inr (10, [.int (0 : Int32), .ref q_1, .int (0 : Int32), .ref q_2, .null, .int (0 : Int32), .null, .null, .null, .null, .null, .long (0 : Int64)])), (q_1, .inl (cI, 80, .inl (fun _ => (0 : Int32)))), (q_2, .inl (cI, 24, .inl (fun _ => (0 : Int32)))), (q_3, .inl (cI, 40, .inl (fun _ => (0 : Int32))))] H locs := X
  refine W.widen (k := 3) (n := 144) (Nat.le_of_ble_eq_true rfl) (Nat.le_of_ble_eq_true rfl) ?_
  refine x_putF (own := RX10) (T := TX10) C X 0 rfl rfl 4 (by decide) k_3_21 rfl rfl rfl hin rfl (ty := (tyX10 4)) (v := .ref q_3) (by decide +kernel) rfl rfl (Nat.le_of_ble_eq_true rfl) dX10_init_35 (fun H locs X => ?_)
  have X : Wd D A s [(h0, .inr (10, [.int (0 : Int32), .ref q_1, .int (0 : Int32), .ref q_2, .ref q_3, .int (0 : Int32), .null, .null, .null, .null, .null, .long (0 : Int64)])), (q_1, .inl (cI, 80, .inl (fun _ => (0 : Int32)))), (q_2, .inl (cI, 24, .inl (fun _ => (0 : Int32)))), (q_3, .inl (cI, 40, .inl (fun _ => (0 : Int32))))] H locs := X
  refine lv_aload_n hx hb dX10_init_38 rfl (lv_at hl 0 rfl) ?_
  refine lv_iconst (v := (0 : Int32)) hx hb dX10_init_39 (by decide) ?_
  refine x_put (own := RX10) (T := TX10) C X 0 rfl rfl 5 (by decide) k_3_22 rfl rfl rfl (ty := .int) (v := .int (0 : Int32)) (by decide +kernel) rfl rfl (Nat.le_of_ble_eq_true rfl) dX10_init_40 (fun H locs X => ?_)
  have X : Wd D A s [(h0, .inr (10, [.int (0 : Int32), .ref q_1, .int (0 : Int32), .ref q_2, .ref q_3, .int (0 : Int32), .null, .null, .null, .null, .null, .long (0 : Int64)])), (q_1, .inl (cI, 80, .inl (fun _ => (0 : Int32)))), (q_2, .inl (cI, 24, .inl (fun _ => (0 : Int32)))), (q_3, .inl (cI, 40, .inl (fun _ => (0 : Int32))))] H locs := X
  refine lv_aload_n hx hb dX10_init_43 rfl (lv_at hl 0 rfl) ?_
  refine lv_sipush (v := (3200 : Int32)) hx hb dX10_init_44 (by decide) ?_
  refine x_newa (own := RX10) (atype := .int) (ty := .int) (N' := 3200) (a0 := (3200, .inl (fun _ => (0 : Int32)))) C X rfl k_2_7 0 rfl rfl (fun _ => rfl) (by decide) (by decide) (Nat.le_of_ble_eq_true rfl) (Nat.le_of_ble_eq_true rfl) (Nat.le_of_ble_eq_true rfl) dX10_init_47 (fun q_4 H X => ?_)
  have X : Wd D A s [(h0, .inr (10, [.int (0 : Int32), .ref q_1, .int (0 : Int32), .ref q_2, .ref q_3, .int (0 : Int32), .null, .null, .null, .null, .null, .long (0 : Int64)])), (q_1, .inl (cI, 80, .inl (fun _ => (0 : Int32)))), (q_2, .inl (cI, 24, .inl (fun _ => (0 : Int32)))), (q_3, .inl (cI, 40, .inl (fun _ => (0 : Int32)))), (q_4, .inl (cI, 3200, .inl (fun _ => (0 : Int32))))] H locs := X
  refine W.widen (k := 4) (n := 3344) (Nat.le_of_ble_eq_true rfl) (Nat.le_of_ble_eq_true rfl) ?_
  refine x_putF (own := RX10) (T := TX10) C X 0 rfl rfl 6 (by decide) k_3_23 rfl rfl rfl hin rfl (ty := (tyX10 6)) (v := .ref q_4) (by decide +kernel) rfl rfl (Nat.le_of_ble_eq_true rfl) dX10_init_49 (fun H locs X => ?_)
  have X : Wd D A s [(h0, .inr (10, [.int (0 : Int32), .ref q_1, .int (0 : Int32), .ref q_2, .ref q_3, .int (0 : Int32), .ref q_4, .null, .null, .null, .null, .long (0 : Int64)])), (q_1, .inl (cI, 80, .inl (fun _ => (0 : Int32)))), (q_2, .inl (cI, 24, .inl (fun _ => (0 : Int32)))), (q_3, .inl (cI, 40, .inl (fun _ => (0 : Int32)))), (q_4, .inl (cI, 3200, .inl (fun _ => (0 : Int32))))] H locs := X
  refine lv_aload_n hx hb dX10_init_52 rfl (lv_at hl 0 rfl) ?_
  refine lv_sipush (v := (16000 : Int32)) hx hb dX10_init_53 (by decide) ?_
  refine x_newa (own := RX10) (atype := .int) (ty := .int) (N' := 16000) (a0 := (16000, .inl (fun _ => (0 : Int32)))) C X rfl k_2_7 0 rfl rfl (fun _ => rfl) (by decide) (by decide) (Nat.le_of_ble_eq_true rfl) (Nat.le_of_ble_eq_true rfl) (Nat.le_of_ble_eq_true rfl) dX10_init_56 (fun q_5 H X => ?_)
  have X : Wd D A s [(h0, .inr (10, [.int (0 : Int32), .ref q_1, .int (0 : Int32), .ref q_2, .ref q_3, .int (0 : Int32), .ref q_4, .null, .null, .null, .null, .long (0 : Int64)])), (q_1, .inl (cI, 80, .inl (fun _ => (0 : Int32)))), (q_2, .inl (cI, 24, .inl (fun _ => (0 : Int32)))), (q_3, .inl (cI, 40, .inl (fun _ => (0 : Int32)))), (q_4, .inl (cI, 3200, .inl (fun _ => (0 : Int32)))), (q_5, .inl (cI, 16000, .inl (fun _ => (0 : Int32))))] H locs := X
  refine W.widen (k := 5) (n := 19344) (Nat.le_of_ble_eq_true rfl) (Nat.le_of_ble_eq_true rfl) ?_
  refine x_putF (own := RX10) (T := TX10) C X 0 rfl rfl 7 (by decide) k_4_0 rfl rfl rfl hin rfl (ty := (tyX10 7)) (v := .ref q_5) (by decide +kernel) rfl rfl (Nat.le_of_ble_eq_true rfl) dX10_init_58 (fun H locs X => ?_)
  have X : Wd D A s [(h0, .inr (10, [.int (0 : Int32), .ref q_1, .int (0 : Int32), .ref q_2, .ref q_3, .int (0 : Int32), .ref q_4, .ref q_5, .null, .null, .null, .long (0 : Int64)])), (q_1, .inl (cI, 80, .inl (fun _ => (0 : Int32)))), (q_2, .inl (cI, 24, .inl (fun _ => (0 : Int32)))), (q_3, .inl (cI, 40, .inl (fun _ => (0 : Int32)))), (q_4, .inl (cI, 3200, .inl (fun _ => (0 : Int32)))), (q_5, .inl (cI, 16000, .inl (fun _ => (0 : Int32))))] H locs := X
  refine lv_aload_n hx hb dX10_init_61 rfl (lv_at hl 0 rfl) ?_
  refine lv_sipush (v := (160 : Int32)) hx hb dX10_init_62 (by decide) ?_
  refine x_newa (own := RX10) (atype := .int) (ty := .int) (N' := 160) (a0 := (160, .inl (fun _ => (0 : Int32)))) C X rfl k_2_7 0 rfl rfl (fun _ => rfl) (by decide) (by decide) (Nat.le_of_ble_eq_true rfl) (Nat.le_of_ble_eq_true rfl) (Nat.le_of_ble_eq_true rfl) dX10_init_65 (fun q_6 H X => ?_)
  have X : Wd D A s [(h0, .inr (10, [.int (0 : Int32), .ref q_1, .int (0 : Int32), .ref q_2, .ref q_3, .int (0 : Int32), .ref q_4, .ref q_5, .null, .null, .null, .long (0 : Int64)])), (q_1, .inl (cI, 80, .inl (fun _ => (0 : Int32)))), (q_2, .inl (cI, 24, .inl (fun _ => (0 : Int32)))), (q_3, .inl (cI, 40, .inl (fun _ => (0 : Int32)))), (q_4, .inl (cI, 3200, .inl (fun _ => (0 : Int32)))), (q_5, .inl (cI, 16000, .inl (fun _ => (0 : Int32)))), (q_6, .inl (cI, 160, .inl (fun _ => (0 : Int32))))] H locs := X
  refine W.widen (k := 6) (n := 19504) (Nat.le_of_ble_eq_true rfl) (Nat.le_of_ble_eq_true rfl) ?_
  refine x_putF (own := RX10) (T := TX10) C X 0 rfl rfl 8 (by decide) k_4_1 rfl rfl rfl hin rfl (ty := (tyX10 8)) (v := .ref q_6) (by decide +kernel) rfl rfl (Nat.le_of_ble_eq_true rfl) dX10_init_67 (fun H locs X => ?_)
  have X : Wd D A s [(h0, .inr (10, [.int (0 : Int32), .ref q_1, .int (0 : Int32), .ref q_2, .ref q_3, .int (0 : Int32), .ref q_4, .ref q_5, .ref q_6, .null, .null, .long (0 : Int64)])), (q_1, .inl (cI, 80, .inl (fun _ => (0 : Int32)))), (q_2, .inl (cI, 24, .inl (fun _ => (0 : Int32)))), (q_3, .inl (cI, 40, .inl (fun _ => (0 : Int32)))), (q_4, .inl (cI, 3200, .inl (fun _ => (0 : Int32)))), (q_5, .inl (cI, 16000, .inl (fun _ => (0 : Int32)))), (q_6, .inl (cI, 160, .inl (fun _ => (0 : Int32))))] H locs := X
  refine lv_aload_n hx hb dX10_init_70 rfl (lv_at hl 0 rfl) ?_
  refine lv_sipush (v := (800 : Int32)) hx hb dX10_init_71 (by decide) ?_
  refine x_newa (own := RX10) (atype := .int) (ty := .int) (N' := 800) (a0 := (800, .inl (fun _ => (0 : Int32)))) C X rfl k_2_7 0 rfl rfl (fun _ => rfl) (by decide) (by decide) (Nat.le_of_ble_eq_true rfl) (Nat.le_of_ble_eq_true rfl) (Nat.le_of_ble_eq_true rfl) dX10_init_74 (fun q_7 H X => ?_)
  have X : Wd D A s [(h0, .inr (10, [.int (0 : Int32), .ref q_1, .int (0 : Int32), .ref q_2, .ref q_3, .int (0 : Int32), .ref q_4, .ref q_5, .ref q_6, .null, .null, .long (0 : Int64)])), (q_1, .inl (cI, 80, .inl (fun _ => (0 : Int32)))), (q_2, .inl (cI, 24, .inl (fun _ => (0 : Int32)))), (q_3, .inl (cI, 40, .inl (fun _ => (0 : Int32)))), (q_4, .inl (cI, 3200, .inl (fun _ => (0 : Int32)))), (q_5, .inl (cI, 16000, .inl (fun _ => (0 : Int32)))), (q_6, .inl (cI, 160, .inl (fun _ => (0 : Int32)))), (q_7, .inl (cI, 800, .inl (fun _ => (0 : Int32))))] H locs := X
  refine W.widen (k := 7) (n := 20304) (Nat.le_of_ble_eq_true rfl) (Nat.le_of_ble_eq_true rfl) ?_
  refine x_putF (own := RX10) (T := TX10) C X 0 rfl rfl 9 (by decide) k_4_2 rfl rfl rfl hin rfl (ty := (tyX10 9)) (v := .ref q_7) (by decide +kernel) rfl rfl (Nat.le_of_ble_eq_true rfl) dX10_init_76 (fun H locs X => ?_)
  have X : Wd D A s [(h0, .inr (10, [.int (0 : Int32), .ref q_1, .int (0 : Int32), .ref q_2, .ref q_3, .int (0 : Int32), .ref q_4, .ref q_5, .ref q_6, .ref q_7, .null, .long (0 : Int64)])), (q_1, .inl (cI, 80, .inl (fun _ => (0 : Int32)))), (q_2, .inl (cI, 24, .inl (fun _ => (0 : Int32)))), (q_3, .inl (cI, 40, .inl (fun _ => (0 : Int32)))), (q_4, .inl (cI, 3200, .inl (fun _ => (0 : Int32)))), (q_5, .inl (cI, 16000, .inl (fun _ => (0 : Int32)))), (q_6, .inl (cI, 160, .inl (fun _ => (0 : Int32)))), (q_7, .inl (cI, 800, .inl (fun _ => (0 : Int32))))] H locs := X
  refine lv_aload_n hx hb dX10_init_79 rfl (lv_at hl 0 rfl) ?_
  refine lv_sipush (v := (800 : Int32)) hx hb dX10_init_80 (by decide) ?_
  refine x_newa (own := RX10) (atype := .int) (ty := .int) (N' := 800) (a0 := (800, .inl (fun _ => (0 : Int32)))) C X rfl k_2_7 0 rfl rfl (fun _ => rfl) (by decide) (by decide) (Nat.le_of_ble_eq_true rfl) (Nat.le_of_ble_eq_true rfl) (Nat.le_of_ble_eq_true rfl) dX10_init_83 (fun q_8 H X => ?_)
  have X : Wd D A s [(h0, .inr (10, [.int (0 : Int32), .ref q_1, .int (0 : Int32), .ref q_2, .ref q_3, .int (0 : Int32), .ref q_4, .ref q_5, .ref q_6, .ref q_7, .null, .long (0 : Int64)])), (q_1, .inl (cI, 80, .inl (fun _ => (0 : Int32)))), (q_2, .inl (cI, 24, .inl (fun _ => (0 : Int32)))), (q_3, .inl (cI, 40, .inl (fun _ => (0 : Int32)))), (q_4, .inl (cI, 3200, .inl (fun _ => (0 : Int32)))), (q_5, .inl (cI, 16000, .inl (fun _ => (0 : Int32)))), (q_6, .inl (cI, 160, .inl (fun _ => (0 : Int32)))), (q_7, .inl (cI, 800, .inl (fun _ => (0 : Int32)))), (q_8, .inl (cI, 800, .inl (fun _ => (0 : Int32))))] H locs := X
  refine W.widen (k := 8) (n := 21104) (Nat.le_of_ble_eq_true rfl) (Nat.le_of_ble_eq_true rfl) ?_
  refine x_putF (own := RX10) (T := TX10) C X 0 rfl rfl 10 (by decide) k_4_3 rfl rfl rfl hin rfl (ty := (tyX10 10)) (v := .ref q_8) (by decide +kernel) rfl rfl (Nat.le_of_ble_eq_true rfl) dX10_init_85 (fun H locs X => ?_)
  have X : Wd D A s [(h0, .inr (10, [.int (0 : Int32), .ref q_1, .int (0 : Int32), .ref q_2, .ref q_3, .int (0 : Int32), .ref q_4, .ref q_5, .ref q_6, .ref q_7, .ref q_8, .long (0 : Int64)])), (q_1, .inl (cI, 80, .inl (fun _ => (0 : Int32)))), (q_2, .inl (cI, 24, .inl (fun _ => (0 : Int32)))), (q_3, .inl (cI, 40, .inl (fun _ => (0 : Int32)))), (q_4, .inl (cI, 3200, .inl (fun _ => (0 : Int32)))), (q_5, .inl (cI, 16000, .inl (fun _ => (0 : Int32)))), (q_6, .inl (cI, 160, .inl (fun _ => (0 : Int32)))), (q_7, .inl (cI, 800, .inl (fun _ => (0 : Int32)))), (q_8, .inl (cI, 800, .inl (fun _ => (0 : Int32))))] H locs := X
  refine lv_aload_n hx hb dX10_init_88 rfl (lv_at hl 0 rfl) ?_
  refine lv_lconst (v := (1 : Int64)) hx hb dX10_init_89 (by decide) ?_
  refine x_put (own := RX10) (T := TX10) C X 0 rfl rfl 11 (by decide) k_4_4 rfl rfl rfl (ty := .long) (v := .long (1 : Int64)) (by decide +kernel) rfl rfl (Nat.le_of_ble_eq_true rfl) dX10_init_90 (fun H locs X => ?_)
  have X : Wd D A s [(h0, .inr (10, [.int (0 : Int32), .ref q_1, .int (0 : Int32), .ref q_2, .ref q_3, .int (0 : Int32), .ref q_4, .ref q_5, .ref q_6, .ref q_7, .ref q_8, .long (1 : Int64)])), (q_1, .inl (cI, 80, .inl (fun _ => (0 : Int32)))), (q_2, .inl (cI, 24, .inl (fun _ => (0 : Int32)))), (q_3, .inl (cI, 40, .inl (fun _ => (0 : Int32)))), (q_4, .inl (cI, 3200, .inl (fun _ => (0 : Int32)))), (q_5, .inl (cI, 16000, .inl (fun _ => (0 : Int32)))), (q_6, .inl (cI, 160, .inl (fun _ => (0 : Int32)))), (q_7, .inl (cI, 800, .inl (fun _ => (0 : Int32)))), (q_8, .inl (cI, 800, .inl (fun _ => (0 : Int32))))] H locs := X
  refine lv_aload_n hx hb dX10_init_93 rfl (lv_at hl 0 rfl) ?_
  refine x_get (own := RX10) (T := TX10) C X 0 rfl rfl 4 (by decide) k_3_21 rfl rfl (v := .ref q_3) rfl dX10_init_94 ?_
  refine lv_iconst (v := (-1 : Int32)) hx hb dX10_init_97 (by decide) ?_
  refine x_cSv (own := RX10) (wr := [(h0, .inr (10, [.int (0 : Int32), .ref q_1, .int (0 : Int32), .ref q_2, .ref q_3, .int (0 : Int32), .ref q_4, .ref q_5, .ref q_6, .ref q_7, .ref q_8, .long (1 : Int64)])), (q_1, .inl (cI, 80, .inl (fun _ => (0 : Int32)))), (q_2, .inl (cI, 24, .inl (fun _ => (0 : Int32)))), (q_4, .inl (cI, 3200, .inl (fun _ => (0 : Int32)))), (q_5, .inl (cI, 16000, .inl (fun _ => (0 : Int32)))), (q_6, .inl (cI, 160, .inl (fun _ => (0 : Int32)))), (q_7, .inl (cI, 800, .inl (fun _ => (0 : Int32)))), (q_8, .inl (cI, 800, .inl (fun _ => (0 : Int32))))]) (As := [.ref q_3, .int (-1 : Int32)]) C X hl.1 (c_fillI l D cI cJ cZ cB cO q_3 40 (fun _ => (0 : Int32)) (-1 : Int32) (by omega)) [3] [0, 1, 2, 4, 5, 6, 7, 8] ⟨rfl, rfl, by decide, by decide, by decide⟩ k_4_5 k_4_6 k_4_7 k_4_8 (n := 2) (by decide +kernel) ⟨Nat.le_of_ble_eq_true rfl, Nat.le_of_ble_eq_true rfl⟩ rfl rfl (Nat.le_of_ble_eq_true rfl) dX10_init_98 ⟨Nat.le_of_ble_eq_true rfl, Nat.le_of_ble_eq_true rfl⟩ (fun u_9 H locs w_11 X => ?_)
  have X : Wd D A s [(h0, .inr (10, [.int (0 : Int32), .ref q_1, .int (0 : Int32), .ref q_2, .ref q_3, .int (0 : Int32), .ref q_4, .ref q_5, .ref q_6, .ref q_7, .ref q_8, .long (1 : Int64)])), (q_1, .inl (cI, 80, .inl (fun _ => (0 : Int32)))), (q_2, .inl (cI, 24, .inl (fun _ => (0 : Int32)))), (q_4, .inl (cI, 3200, .inl (fun _ => (0 : Int32)))), (q_5, .inl (cI, 16000, .inl (fun _ => (0 : Int32)))), (q_6, .inl (cI, 160, .inl (fun _ => (0 : Int32)))), (q_7, .inl (cI, 800, .inl (fun _ => (0 : Int32)))), (q_8, .inl (cI, 800, .inl (fun _ => (0 : Int32)))), (q_3, .inl (cI, 40, .inl (fun _ => (-1 : Int32))))] H locs := X
  refine W.widen (k := 8) (n := 21104) (Nat.le_of_ble_eq_true rfl) (Nat.le_of_ble_eq_true rfl) ?_
  refine lv_aload_n hx hb dX10_init_101 rfl (lv_at hl 0 rfl) ?_
  refine x_get (own := RX10) (T := TX10) C X 0 rfl rfl 6 (by decide) k_3_23 rfl rfl (v := .ref q_4) rfl dX10_init_102 ?_
  refine lv_iconst (v := (-1 : Int32)) hx hb dX10_init_105 (by decide) ?_
  refine x_cSv (own := RX10) (wr := [(h0, .inr (10, [.int (0 : Int32), .ref q_1, .int (0 : Int32), .ref q_2, .ref q_3, .int (0 : Int32), .ref q_4, .ref q_5, .ref q_6, .ref q_7, .ref q_8, .long (1 : Int64)])), (q_1, .inl (cI, 80, .inl (fun _ => (0 : Int32)))), (q_2, .inl (cI, 24, .inl (fun _ => (0 : Int32)))), (q_5, .inl (cI, 16000, .inl (fun _ => (0 : Int32)))), (q_6, .inl (cI, 160, .inl (fun _ => (0 : Int32)))), (q_7, .inl (cI, 800, .inl (fun _ => (0 : Int32)))), (q_8, .inl (cI, 800, .inl (fun _ => (0 : Int32)))), (q_3, .inl (cI, 40, .inl (fun _ => (-1 : Int32))))]) (As := [.ref q_4, .int (-1 : Int32)]) C X hl.1 (c_fillI l D cI cJ cZ cB cO q_4 3200 (fun _ => (0 : Int32)) (-1 : Int32) (by omega)) [3] [0, 1, 2, 4, 5, 6, 7, 8] ⟨rfl, rfl, by decide, by decide, by decide⟩ k_4_5 k_4_6 k_4_7 k_4_8 (n := 2) (by decide +kernel) ⟨Nat.le_of_ble_eq_true rfl, Nat.le_of_ble_eq_true rfl⟩ rfl rfl (Nat.le_of_ble_eq_true rfl) dX10_init_106 ⟨Nat.le_of_ble_eq_true rfl, Nat.le_of_ble_eq_true rfl⟩ (fun u_12 H locs w_14 X => ?_)
  have X : Wd D A s [(h0, .inr (10, [.int (0 : Int32), .ref q_1, .int (0 : Int32), .ref q_2, .ref q_3, .int (0 : Int32), .ref q_4, .ref q_5, .ref q_6, .ref q_7, .ref q_8, .long (1 : Int64)])), (q_1, .inl (cI, 80, .inl (fun _ => (0 : Int32)))), (q_2, .inl (cI, 24, .inl (fun _ => (0 : Int32)))), (q_5, .inl (cI, 16000, .inl (fun _ => (0 : Int32)))), (q_6, .inl (cI, 160, .inl (fun _ => (0 : Int32)))), (q_7, .inl (cI, 800, .inl (fun _ => (0 : Int32)))), (q_8, .inl (cI, 800, .inl (fun _ => (0 : Int32)))), (q_3, .inl (cI, 40, .inl (fun _ => (-1 : Int32)))), (q_4, .inl (cI, 3200, .inl (fun _ => (-1 : Int32))))] H locs := X
  refine W.widen (k := 8) (n := 21104) (Nat.le_of_ble_eq_true rfl) (Nat.le_of_ble_eq_true rfl) ?_
  exact x_vret C X hr hlk (fun k => ([h0, q_1, q_2, q_3, q_4, q_5, q_6, q_7, q_8] : List Nat).getD k 0) [0, 1, 2, 7, 8, 3, 4, 5, 6] (by decide) rfl (trivial) (Nat.le_of_ble_eq_true rfl) (Nat.le_of_ble_eq_true rfl) dX10_init_109
set_option maxHeartbeats 4000000 in
set_option maxRecDepth 100000 in
theorem c_Law_init (l : Launch) (D : va_G) (cI cJ cZ cB : ClassId) (cO : ClassId) (h0 : Nat) :
    CV l D [(cI, .int), (cJ, .long), (cZ, .boolean), (cB, .byte), (cO, .object "LuckLinks$World")] yX3_init cX3_init 1 ({ frames := 1, cells := 15, slots := 1138, locals := 23 } : Room) [.ref h0] [(h0, .inr (3, [.int (0 : Int32), .null, .null, .null, .null, .null, .null, .null, .int (0 : Int32), .null, .null, .null, .int (0 : Int32), .null, .null, .null, .null, .int (0 : Int32), .null]))] (fun (u : (Nat → Nat)) => match u with | u => (True)) (fun (u : (Nat → Nat)) => match u with | u => [(h0, .inr (3, [.int (0 : Int32), .ref (u 1), .ref (u 2), .ref (u 3), .ref (u 4), .ref (u 5), .ref (u 6), .ref (u 7), .int (0 : Int32), .ref (u 8), .ref (u 9), .ref (u 10), .int (0 : Int32), .ref (u 11), .ref (u 12), .ref (u 13), .ref (u 14), .int (0 : Int32), .ref (u 15)])), ((u 1), .inl (cI, 4, .inl (fun _ => (0 : Int32)))), ((u 2), .inl (cI, 4, .inl (fun _ => (0 : Int32)))), ((u 3), .inl (cI, 3, .inl (fun _ => (0 : Int32)))), ((u 4), .inl (cI, 21, .inl (fun _ => (0 : Int32)))), ((u 5), .inl (cI, 21, .inl (fun _ => (0 : Int32)))), ((u 6), .inl (cI, 40, .inl (fun _ => (-1 : Int32)))), ((u 7), .inl (cI, 41, .inl (fun _ => (1 : Int32)))), ((u 8), .inl (cI, 40, .inl (fun _ => (0 : Int32)))), ((u 9), .inl (cI, 40, .inl (fun _ => (0 : Int32)))), ((u 10), .inl (cI, 40, .inl (fun _ => (0 : Int32)))), ((u 11), .inl (cI, 40, .inl (fun _ => (0 : Int32)))), ((u 12), .inl (cI, 40, .inl (fun _ => (0 : Int32)))), ((u 13), .inl (cI, 40, .inl (fun _ => (0 : Int32)))), ((u 14), .inl (cI, 700, .inl (fun _ => (0 : Int32)))), ((u 15), .inl (cZ, 64, .inl (fun _ => (0 : Int32))))]) := by
  intro sz
  refine body_of (y := yX3_init) (cc := cX3_init) (maxL := 1) (ret := none) (rm := ({ frames := 1, cells := 15, slots := 1138, locals := 23 } : Room)) (wc := [(h0, .inr (3, [.int (0 : Int32), .null, .null, .null, .null, .null, .null, .null, .int (0 : Int32), .null, .null, .null, .int (0 : Int32), .null, .null, .null, .null, .int (0 : Int32), .null]))]) (tys := [(cI, .int), (cJ, .long), (cZ, .boolean), (cB, .byte), (cO, .object "LuckLinks$World")]) (D := D) (sz := sz) (own := RX3) (av := [.ref h0]) (Qc := fun A => va_Qv (fun (u : (Nat → Nat)) => match u with | u => (True)) (fun u t => Aft D A ((fun (u : (Nat → Nat)) => match u with | u => [(h0, .inr (3, [.int (0 : Int32), .ref (u 1), .ref (u 2), .ref (u 3), .ref (u 4), .ref (u 5), .ref (u 6), .ref (u 7), .int (0 : Int32), .ref (u 8), .ref (u 9), .ref (u 10), .int (0 : Int32), .ref (u 11), .ref (u 12), .ref (u 13), .ref (u 14), .int (0 : Int32), .ref (u 15)])), ((u 1), .inl (cI, 4, .inl (fun _ => (0 : Int32)))), ((u 2), .inl (cI, 4, .inl (fun _ => (0 : Int32)))), ((u 3), .inl (cI, 3, .inl (fun _ => (0 : Int32)))), ((u 4), .inl (cI, 21, .inl (fun _ => (0 : Int32)))), ((u 5), .inl (cI, 21, .inl (fun _ => (0 : Int32)))), ((u 6), .inl (cI, 40, .inl (fun _ => (-1 : Int32)))), ((u 7), .inl (cI, 41, .inl (fun _ => (1 : Int32)))), ((u 8), .inl (cI, 40, .inl (fun _ => (0 : Int32)))), ((u 9), .inl (cI, 40, .inl (fun _ => (0 : Int32)))), ((u 10), .inl (cI, 40, .inl (fun _ => (0 : Int32)))), ((u 11), .inl (cI, 40, .inl (fun _ => (0 : Int32)))), ((u 12), .inl (cI, 40, .inl (fun _ => (0 : Int32)))), ((u 13), .inl (cI, 40, .inl (fun _ => (0 : Int32)))), ((u 14), .inl (cI, 700, .inl (fun _ => (0 : Int32)))), ((u 15), .inl (cZ, 64, .inl (fun _ => (0 : Int32))))]) u) t) A) (by decide) rfl (Nat.le_of_ble_eq_true rfl) (fun p e s m below meth c A ls C hr hlk hin X hl => ?_)
  have hx := C.1
  have hb := C.2.1
  have hown := C.2.2.2.1
  have hts := C.2.2.2.2.1
  have hl : lv_has ls 1 [(0, .ref h0)] := hl
  show W p l e _ s m _ below meth c s.heap [] 0 0 (MQ below (va_Qv (fun (u : (Nat → Nat)) => match u with | u => (True)) (fun u t => Aft D A ((fun (u : (Nat → Nat)) => match u with | u => [(h0, .inr (3, [.int (0 : Int32), .ref (u 1), .ref (u 2), .ref (u 3), .ref (u 4), .ref (u 5), .ref (u 6), .ref (u 7), .int (0 : Int32), .ref (u 8), .ref (u 9), .ref (u 10), .int (0 : Int32), .ref (u 11), .ref (u 12), .ref (u 13), .ref (u 14), .int (0 : Int32), .ref (u 15)])), ((u 1), .inl (cI, 4, .inl (fun _ => (0 : Int32)))), ((u 2), .inl (cI, 4, .inl (fun _ => (0 : Int32)))), ((u 3), .inl (cI, 3, .inl (fun _ => (0 : Int32)))), ((u 4), .inl (cI, 21, .inl (fun _ => (0 : Int32)))), ((u 5), .inl (cI, 21, .inl (fun _ => (0 : Int32)))), ((u 6), .inl (cI, 40, .inl (fun _ => (-1 : Int32)))), ((u 7), .inl (cI, 41, .inl (fun _ => (1 : Int32)))), ((u 8), .inl (cI, 40, .inl (fun _ => (0 : Int32)))), ((u 9), .inl (cI, 40, .inl (fun _ => (0 : Int32)))), ((u 10), .inl (cI, 40, .inl (fun _ => (0 : Int32)))), ((u 11), .inl (cI, 40, .inl (fun _ => (0 : Int32)))), ((u 12), .inl (cI, 40, .inl (fun _ => (0 : Int32)))), ((u 13), .inl (cI, 40, .inl (fun _ => (0 : Int32)))), ((u 14), .inl (cI, 700, .inl (fun _ => (0 : Int32)))), ((u 15), .inl (cZ, 64, .inl (fun _ => (0 : Int32))))]) u) t) A) ([.ref h0] : List Value).toArray s 15 1138 A) (F0 m 0 ls [])
  have X : Wd D A s [(h0, .inr (3, [.int (0 : Int32), .null, .null, .null, .null, .null, .null, .null, .int (0 : Int32), .null, .null, .null, .int (0 : Int32), .null, .null, .null, .null, .int (0 : Int32), .null]))] s.heap [] := X
  obtain ⟨H, locs, eH, eL⟩ : ∃ H locs, H = s.heap ∧ locs = ([] : List Loc) := ⟨_, _, rfl, rfl⟩
  rw [← eH, ← eL] at X ⊢
  clear eH eL
  refine lv_aload_n hx hb dX3_init_0 rfl (lv_at hl 0 rfl) ?_
  refine x_objInit (own := RX3) C hl.1 k_5_5 k_1_10 k_1_11 dX3_init_1 (Nat.le_of_ble_eq_true rfl) (Nat.le_of_ble_eq_true rfl) ?_
  refine lv_aload_n hx hb dX3_init_4 rfl (lv_at hl 0 rfl) ?_
  refine lv_iconst (v := (0 : Int32)) hx hb dX3_init_5 (by decide) ?_
  refine x_put (own := RX3) (T := TX3) C X 0 rfl rfl 0 (by decide) k_5_6 rfl rfl rfl (ty := .int) (v := .int (0 : Int32)) (by decide +kernel) rfl rfl (Nat.le_of_ble_eq_true rfl) dX3_init_6 (fun H locs X => ?_)
  have X : Wd D A s [(h0, .inr (3, [.int (0 : Int32), .null, .null, .null, .null, .null, .null, .null, .int (0 : Int32), .null, .null, .null, .int (0 : Int32), .null, .null, .null, .null, .int (0 : Int32), .null]))] H locs := X
  refine lv_aload_n hx hb dX3_init_9 rfl (lv_at hl 0 rfl) ?_
  refine lv_iconst (v := (4 : Int32)) hx hb dX3_init_10 (by decide) ?_
  refine x_newa (own := RX3) (atype := .int) (ty := .int) (N' := 4) (a0 := (4, .inl (fun _ => (0 : Int32)))) C X rfl k_2_7 0 rfl rfl (fun _ => rfl) (by decide) (by decide) (Nat.le_of_ble_eq_true rfl) (Nat.le_of_ble_eq_true rfl) (Nat.le_of_ble_eq_true rfl) dX3_init_11 (fun q_1 H X => ?_)
  have X : Wd D A s [(h0, .inr (3, [.int (0 : Int32), .null, .null, .null, .null, .null, .null, .null, .int (0 : Int32), .null, .null, .null, .int (0 : Int32), .null, .null, .null, .null, .int (0 : Int32), .null])), (q_1, .inl (cI, 4, .inl (fun _ => (0 : Int32))))] H locs := X
  refine W.widen (k := 1) (n := 4) (Nat.le_of_ble_eq_true rfl) (Nat.le_of_ble_eq_true rfl) ?_
  refine x_putF (own := RX3) (T := TX3) C X 0 rfl rfl 1 (by decide) k_5_7 rfl rfl rfl hin rfl (ty := (tyX3 1)) (v := .ref q_1) (by decide +kernel) rfl rfl (Nat.le_of_ble_eq_true rfl) dX3_init_13 (fun H locs X => ?_)
  have X : Wd D A s [(h0, .inr (3, [.int (0 : Int32), .ref q_1, .null, .null, .null, .null, .null, .null, .int (0 : Int32), .null, .null, .null, .int (0 : Int32), .null, .null, .null, .null, .int (0 : Int32), .null])), (q_1, .inl (cI, 4, .inl (fun _ => (0 : Int32))))] H locs := X
  refine lv_aload_n hx hb dX3_init_16 rfl (lv_at hl 0 rfl) ?_
  refine lv_iconst (v := (4 : Int32)) hx hb dX3_init_17 (by decide) ?_
  refine x_newa (own := RX3) (atype := .int) (ty := .int) (N' := 4) (a0 := (4, .inl (fun _ => (0 : Int32)))) C X rfl k_2_7 0 rfl rfl (fun _ => rfl) (by decide) (by decide) (Nat.le_of_ble_eq_true rfl) (Nat.le_of_ble_eq_true rfl) (Nat.le_of_ble_eq_true rfl) dX3_init_18 (fun q_2 H X => ?_)
  have X : Wd D A s [(h0, .inr (3, [.int (0 : Int32), .ref q_1, .null, .null, .null, .null, .null, .null, .int (0 : Int32), .null, .null, .null, .int (0 : Int32), .null, .null, .null, .null, .int (0 : Int32), .null])), (q_1, .inl (cI, 4, .inl (fun _ => (0 : Int32)))), (q_2, .inl (cI, 4, .inl (fun _ => (0 : Int32))))] H locs := X
  refine W.widen (k := 2) (n := 8) (Nat.le_of_ble_eq_true rfl) (Nat.le_of_ble_eq_true rfl) ?_
  refine x_putF (own := RX3) (T := TX3) C X 0 rfl rfl 2 (by decide) k_5_8 rfl rfl rfl hin rfl (ty := (tyX3 2)) (v := .ref q_2) (by decide +kernel) rfl rfl (Nat.le_of_ble_eq_true rfl) dX3_init_20 (fun H locs X => ?_)
  have X : Wd D A s [(h0, .inr (3, [.int (0 : Int32), .ref q_1, .ref q_2, .null, .null, .null, .null, .null, .int (0 : Int32), .null, .null, .null, .int (0 : Int32), .null, .null, .null, .null, .int (0 : Int32), .null])), (q_1, .inl (cI, 4, .inl (fun _ => (0 : Int32)))), (q_2, .inl (cI, 4, .inl (fun _ => (0 : Int32))))] H locs := X
  refine lv_aload_n hx hb dX3_init_23 rfl (lv_at hl 0 rfl) ?_
  refine lv_iconst (v := (3 : Int32)) hx hb dX3_init_24 (by decide) ?_
  refine x_newa (own := RX3) (atype := .int) (ty := .int) (N' := 3) (a0 := (3, .inl (fun _ => (0 : Int32)))) C X rfl k_2_7 0 rfl rfl (fun _ => rfl) (by decide) (by decide) (Nat.le_of_ble_eq_true rfl) (Nat.le_of_ble_eq_true rfl) (Nat.le_of_ble_eq_true rfl) dX3_init_25 (fun q_3 H X => ?_)
  have X : Wd D A s [(h0, .inr (3, [.int (0 : Int32), .ref q_1, .ref q_2, .null, .null, .null, .null, .null, .int (0 : Int32), .null, .null, .null, .int (0 : Int32), .null, .null, .null, .null, .int (0 : Int32), .null])), (q_1, .inl (cI, 4, .inl (fun _ => (0 : Int32)))), (q_2, .inl (cI, 4, .inl (fun _ => (0 : Int32)))), (q_3, .inl (cI, 3, .inl (fun _ => (0 : Int32))))] H locs := X
  refine W.widen (k := 3) (n := 11) (Nat.le_of_ble_eq_true rfl) (Nat.le_of_ble_eq_true rfl) ?_
  refine x_putF (own := RX3) (T := TX3) C X 0 rfl rfl 3 (by decide) k_5_9 rfl rfl rfl hin rfl (ty := (tyX3 3)) (v := .ref q_3) (by decide +kernel) rfl rfl (Nat.le_of_ble_eq_true rfl) dX3_init_27 (fun H locs X => ?_)
  have X : Wd D A s [(h0, .inr (3, [.int (0 : Int32), .ref q_1, .ref q_2, .ref q_3, .null, .null, .null, .null, .int (0 : Int32), .null, .null, .null, .int (0 : Int32), .null, .null, .null, .null, .int (0 : Int32), .null])), (q_1, .inl (cI, 4, .inl (fun _ => (0 : Int32)))), (q_2, .inl (cI, 4, .inl (fun _ => (0 : Int32)))), (q_3, .inl (cI, 3, .inl (fun _ => (0 : Int32))))] H locs := X
  refine lv_aload_n hx hb dX3_init_30 rfl (lv_at hl 0 rfl) ?_
  refine lv_bipush (v := (21 : Int32)) hx hb dX3_init_31 (by decide) ?_
  refine x_newa (own := RX3) (atype := .int) (ty := .int) (N' := 21) (a0 := (21, .inl (fun _ => (0 : Int32)))) C X rfl k_2_7 0 rfl rfl (fun _ => rfl) (by decide) (by decide) (Nat.le_of_ble_eq_true rfl) (Nat.le_of_ble_eq_true rfl) (Nat.le_of_ble_eq_true rfl) dX3_init_33 (fun q_4 H X => ?_)
  have X : Wd D A s [(h0, .inr (3, [.int (0 : Int32), .ref q_1, .ref q_2, .ref q_3, .null, .null, .null, .null, .int (0 : Int32), .null, .null, .null, .int (0 : Int32), .null, .null, .null, .null, .int (0 : Int32), .null])), (q_1, .inl (cI, 4, .inl (fun _ => (0 : Int32)))), (q_2, .inl (cI, 4, .inl (fun _ => (0 : Int32)))), (q_3, .inl (cI, 3, .inl (fun _ => (0 : Int32)))), (q_4, .inl (cI, 21, .inl (fun _ => (0 : Int32))))] H locs := X
  refine W.widen (k := 4) (n := 32) (Nat.le_of_ble_eq_true rfl) (Nat.le_of_ble_eq_true rfl) ?_
  refine x_putF (own := RX3) (T := TX3) C X 0 rfl rfl 4 (by decide) k_5_10 rfl rfl rfl hin rfl (ty := (tyX3 4)) (v := .ref q_4) (by decide +kernel) rfl rfl (Nat.le_of_ble_eq_true rfl) dX3_init_35 (fun H locs X => ?_)
  have X : Wd D A s [(h0, .inr (3, [.int (0 : Int32), .ref q_1, .ref q_2, .ref q_3, .ref q_4, .null, .null, .null, .int (0 : Int32), .null, .null, .null, .int (0 : Int32), .null, .null, .null, .null, .int (0 : Int32), .null])), (q_1, .inl (cI, 4, .inl (fun _ => (0 : Int32)))), (q_2, .inl (cI, 4, .inl (fun _ => (0 : Int32)))), (q_3, .inl (cI, 3, .inl (fun _ => (0 : Int32)))), (q_4, .inl (cI, 21, .inl (fun _ => (0 : Int32))))] H locs := X
  refine lv_aload_n hx hb dX3_init_38 rfl (lv_at hl 0 rfl) ?_
  refine lv_bipush (v := (21 : Int32)) hx hb dX3_init_39 (by decide) ?_
  refine x_newa (own := RX3) (atype := .int) (ty := .int) (N' := 21) (a0 := (21, .inl (fun _ => (0 : Int32)))) C X rfl k_2_7 0 rfl rfl (fun _ => rfl) (by decide) (by decide) (Nat.le_of_ble_eq_true rfl) (Nat.le_of_ble_eq_true rfl) (Nat.le_of_ble_eq_true rfl) dX3_init_41 (fun q_5 H X => ?_)
  have X : Wd D A s [(h0, .inr (3, [.int (0 : Int32), .ref q_1, .ref q_2, .ref q_3, .ref q_4, .null, .null, .null, .int (0 : Int32), .null, .null, .null, .int (0 : Int32), .null, .null, .null, .null, .int (0 : Int32), .null])), (q_1, .inl (cI, 4, .inl (fun _ => (0 : Int32)))), (q_2, .inl (cI, 4, .inl (fun _ => (0 : Int32)))), (q_3, .inl (cI, 3, .inl (fun _ => (0 : Int32)))), (q_4, .inl (cI, 21, .inl (fun _ => (0 : Int32)))), (q_5, .inl (cI, 21, .inl (fun _ => (0 : Int32))))] H locs := X
  refine W.widen (k := 5) (n := 53) (Nat.le_of_ble_eq_true rfl) (Nat.le_of_ble_eq_true rfl) ?_
  refine x_putF (own := RX3) (T := TX3) C X 0 rfl rfl 5 (by decide) k_5_11 rfl rfl rfl hin rfl (ty := (tyX3 5)) (v := .ref q_5) (by decide +kernel) rfl rfl (Nat.le_of_ble_eq_true rfl) dX3_init_43 (fun H locs X => ?_)
  have X : Wd D A s [(h0, .inr (3, [.int (0 : Int32), .ref q_1, .ref q_2, .ref q_3, .ref q_4, .ref q_5, .null, .null, .int (0 : Int32), .null, .null, .null, .int (0 : Int32), .null, .null, .null, .null, .int (0 : Int32), .null])), (q_1, .inl (cI, 4, .inl (fun _ => (0 : Int32)))), (q_2, .inl (cI, 4, .inl (fun _ => (0 : Int32)))), (q_3, .inl (cI, 3, .inl (fun _ => (0 : Int32)))), (q_4, .inl (cI, 21, .inl (fun _ => (0 : Int32)))), (q_5, .inl (cI, 21, .inl (fun _ => (0 : Int32))))] H locs := X
  refine lv_aload_n hx hb dX3_init_46 rfl (lv_at hl 0 rfl) ?_
  refine lv_bipush (v := (40 : Int32)) hx hb dX3_init_47 (by decide) ?_
  refine x_newa (own := RX3) (atype := .int) (ty := .int) (N' := 40) (a0 := (40, .inl (fun _ => (0 : Int32)))) C X rfl k_2_7 0 rfl rfl (fun _ => rfl) (by decide) (by decide) (Nat.le_of_ble_eq_true rfl) (Nat.le_of_ble_eq_true rfl) (Nat.le_of_ble_eq_true rfl) dX3_init_49 (fun q_6 H X => ?_)
  have X : Wd D A s [(h0, .inr (3, [.int (0 : Int32), .ref q_1, .ref q_2, .ref q_3, .ref q_4, .ref q_5, .null, .null, .int (0 : Int32), .null, .null, .null, .int (0 : Int32), .null, .null, .null, .null, .int (0 : Int32), .null])), (q_1, .inl (cI, 4, .inl (fun _ => (0 : Int32)))), (q_2, .inl (cI, 4, .inl (fun _ => (0 : Int32)))), (q_3, .inl (cI, 3, .inl (fun _ => (0 : Int32)))), (q_4, .inl (cI, 21, .inl (fun _ => (0 : Int32)))), (q_5, .inl (cI, 21, .inl (fun _ => (0 : Int32)))), (q_6, .inl (cI, 40, .inl (fun _ => (0 : Int32))))] H locs := X
  refine W.widen (k := 6) (n := 93) (Nat.le_of_ble_eq_true rfl) (Nat.le_of_ble_eq_true rfl) ?_
  refine x_putF (own := RX3) (T := TX3) C X 0 rfl rfl 6 (by decide) k_5_12 rfl rfl rfl hin rfl (ty := (tyX3 6)) (v := .ref q_6) (by decide +kernel) rfl rfl (Nat.le_of_ble_eq_true rfl) dX3_init_51 (fun H locs X => ?_)
  have X : Wd D A s [(h0, .inr (3, [.int (0 : Int32), .ref q_1, .ref q_2, .ref q_3, .ref q_4, .ref q_5, .ref q_6, .null, .int (0 : Int32), .null, .null, .null, .int (0 : Int32), .null, .null, .null, .null, .int (0 : Int32), .null])), (q_1, .inl (cI, 4, .inl (fun _ => (0 : Int32)))), (q_2, .inl (cI, 4, .inl (fun _ => (0 : Int32)))), (q_3, .inl (cI, 3, .inl (fun _ => (0 : Int32)))), (q_4, .inl (cI, 21, .inl (fun _ => (0 : Int32)))), (q_5, .inl (cI, 21, .inl (fun _ => (0 : Int32)))), (q_6, .inl (cI, 40, .inl (fun _ => (0 : Int32))))] H locs := X
  refine lv_aload_n hx hb dX3_init_54 rfl (lv_at hl 0 rfl) ?_
  refine lv_bipush (v := (41 : Int32)) hx hb dX3_init_55 (by decide) ?_
  refine x_newa (own := RX3) (atype := .int) (ty := .int) (N' := 41) (a0 := (41, .inl (fun _ => (0 : Int32)))) C X rfl k_2_7 0 rfl rfl (fun _ => rfl) (by decide) (by decide) (Nat.le_of_ble_eq_true rfl) (Nat.le_of_ble_eq_true rfl) (Nat.le_of_ble_eq_true rfl) dX3_init_57 (fun q_7 H X => ?_)
  have X : Wd D A s [(h0, .inr (3, [.int (0 : Int32), .ref q_1, .ref q_2, .ref q_3, .ref q_4, .ref q_5, .ref q_6, .null, .int (0 : Int32), .null, .null, .null, .int (0 : Int32), .null, .null, .null, .null, .int (0 : Int32), .null])), (q_1, .inl (cI, 4, .inl (fun _ => (0 : Int32)))), (q_2, .inl (cI, 4, .inl (fun _ => (0 : Int32)))), (q_3, .inl (cI, 3, .inl (fun _ => (0 : Int32)))), (q_4, .inl (cI, 21, .inl (fun _ => (0 : Int32)))), (q_5, .inl (cI, 21, .inl (fun _ => (0 : Int32)))), (q_6, .inl (cI, 40, .inl (fun _ => (0 : Int32)))), (q_7, .inl (cI, 41, .inl (fun _ => (0 : Int32))))] H locs := X
  refine W.widen (k := 7) (n := 134) (Nat.le_of_ble_eq_true rfl) (Nat.le_of_ble_eq_true rfl) ?_
  refine x_putF (own := RX3) (T := TX3) C X 0 rfl rfl 7 (by decide) k_5_13 rfl rfl rfl hin rfl (ty := (tyX3 7)) (v := .ref q_7) (by decide +kernel) rfl rfl (Nat.le_of_ble_eq_true rfl) dX3_init_59 (fun H locs X => ?_)
  have X : Wd D A s [(h0, .inr (3, [.int (0 : Int32), .ref q_1, .ref q_2, .ref q_3, .ref q_4, .ref q_5, .ref q_6, .ref q_7, .int (0 : Int32), .null, .null, .null, .int (0 : Int32), .null, .null, .null, .null, .int (0 : Int32), .null])), (q_1, .inl (cI, 4, .inl (fun _ => (0 : Int32)))), (q_2, .inl (cI, 4, .inl (fun _ => (0 : Int32)))), (q_3, .inl (cI, 3, .inl (fun _ => (0 : Int32)))), (q_4, .inl (cI, 21, .inl (fun _ => (0 : Int32)))), (q_5, .inl (cI, 21, .inl (fun _ => (0 : Int32)))), (q_6, .inl (cI, 40, .inl (fun _ => (0 : Int32)))), (q_7, .inl (cI, 41, .inl (fun _ => (0 : Int32))))] H locs := X
  refine lv_aload_n hx hb dX3_init_62 rfl (lv_at hl 0 rfl) ?_
  refine lv_iconst (v := (0 : Int32)) hx hb dX3_init_63 (by decide) ?_
  refine x_put (own := RX3) (T := TX3) C X 0 rfl rfl 8 (by decide) k_5_14 rfl rfl rfl (ty := .int) (v := .int (0 : Int32)) (by decide +kernel) rfl rfl (Nat.le_of_ble_eq_true rfl) dX3_init_64 (fun H locs X => ?_)
  have X : Wd D A s [(h0, .inr (3, [.int (0 : Int32), .ref q_1, .ref q_2, .ref q_3, .ref q_4, .ref q_5, .ref q_6, .ref q_7, .int (0 : Int32), .null, .null, .null, .int (0 : Int32), .null, .null, .null, .null, .int (0 : Int32), .null])), (q_1, .inl (cI, 4, .inl (fun _ => (0 : Int32)))), (q_2, .inl (cI, 4, .inl (fun _ => (0 : Int32)))), (q_3, .inl (cI, 3, .inl (fun _ => (0 : Int32)))), (q_4, .inl (cI, 21, .inl (fun _ => (0 : Int32)))), (q_5, .inl (cI, 21, .inl (fun _ => (0 : Int32)))), (q_6, .inl (cI, 40, .inl (fun _ => (0 : Int32)))), (q_7, .inl (cI, 41, .inl (fun _ => (0 : Int32))))] H locs := X
  refine lv_aload_n hx hb dX3_init_67 rfl (lv_at hl 0 rfl) ?_
  refine lv_bipush (v := (40 : Int32)) hx hb dX3_init_68 (by decide) ?_
  refine x_newa (own := RX3) (atype := .int) (ty := .int) (N' := 40) (a0 := (40, .inl (fun _ => (0 : Int32)))) C X rfl k_2_7 0 rfl rfl (fun _ => rfl) (by decide) (by decide) (Nat.le_of_ble_eq_true rfl) (Nat.le_of_ble_eq_true rfl) (Nat.le_of_ble_eq_true rfl) dX3_init_70 (fun q_8 H X => ?_)
  have X : Wd D A s [(h0, .inr (3, [.int (0 : Int32), .ref q_1, .ref q_2, .ref q_3, .ref q_4, .ref q_5, .ref q_6, .ref q_7, .int (0 : Int32), .null, .null, .null, .int (0 : Int32), .null, .null, .null, .null, .int (0 : Int32), .null])), (q_1, .inl (cI, 4, .inl (fun _ => (0 : Int32)))), (q_2, .inl (cI, 4, .inl (fun _ => (0 : Int32)))), (q_3, .inl (cI, 3, .inl (fun _ => (0 : Int32)))), (q_4, .inl (cI, 21, .inl (fun _ => (0 : Int32)))), (q_5, .inl (cI, 21, .inl (fun _ => (0 : Int32)))), (q_6, .inl (cI, 40, .inl (fun _ => (0 : Int32)))), (q_7, .inl (cI, 41, .inl (fun _ => (0 : Int32)))), (q_8, .inl (cI, 40, .inl (fun _ => (0 : Int32))))] H locs := X
  refine W.widen (k := 8) (n := 174) (Nat.le_of_ble_eq_true rfl) (Nat.le_of_ble_eq_true rfl) ?_
  refine x_putF (own := RX3) (T := TX3) C X 0 rfl rfl 9 (by decide) k_5_15 rfl rfl rfl hin rfl (ty := (tyX3 9)) (v := .ref q_8) (by decide +kernel) rfl rfl (Nat.le_of_ble_eq_true rfl) dX3_init_72 (fun H locs X => ?_)
  have X : Wd D A s [(h0, .inr (3, [.int (0 : Int32), .ref q_1, .ref q_2, .ref q_3, .ref q_4, .ref q_5, .ref q_6, .ref q_7, .int (0 : Int32), .ref q_8, .null, .null, .int (0 : Int32), .null, .null, .null, .null, .int (0 : Int32), .null])), (q_1, .inl (cI, 4, .inl (fun _ => (0 : Int32)))), (q_2, .inl (cI, 4, .inl (fun _ => (0 : Int32)))), (q_3, .inl (cI, 3, .inl (fun _ => (0 : Int32)))), (q_4, .inl (cI, 21, .inl (fun _ => (0 : Int32)))), (q_5, .inl (cI, 21, .inl (fun _ => (0 : Int32)))), (q_6, .inl (cI, 40, .inl (fun _ => (0 : Int32)))), (q_7, .inl (cI, 41, .inl (fun _ => (0 : Int32)))), (q_8, .inl (cI, 40, .inl (fun _ => (0 : Int32))))] H locs := X
  refine lv_aload_n hx hb dX3_init_75 rfl (lv_at hl 0 rfl) ?_
  refine lv_bipush (v := (40 : Int32)) hx hb dX3_init_76 (by decide) ?_
  refine x_newa (own := RX3) (atype := .int) (ty := .int) (N' := 40) (a0 := (40, .inl (fun _ => (0 : Int32)))) C X rfl k_2_7 0 rfl rfl (fun _ => rfl) (by decide) (by decide) (Nat.le_of_ble_eq_true rfl) (Nat.le_of_ble_eq_true rfl) (Nat.le_of_ble_eq_true rfl) dX3_init_78 (fun q_9 H X => ?_)
  have X : Wd D A s [(h0, .inr (3, [.int (0 : Int32), .ref q_1, .ref q_2, .ref q_3, .ref q_4, .ref q_5, .ref q_6, .ref q_7, .int (0 : Int32), .ref q_8, .null, .null, .int (0 : Int32), .null, .null, .null, .null, .int (0 : Int32), .null])), (q_1, .inl (cI, 4, .inl (fun _ => (0 : Int32)))), (q_2, .inl (cI, 4, .inl (fun _ => (0 : Int32)))), (q_3, .inl (cI, 3, .inl (fun _ => (0 : Int32)))), (q_4, .inl (cI, 21, .inl (fun _ => (0 : Int32)))), (q_5, .inl (cI, 21, .inl (fun _ => (0 : Int32)))), (q_6, .inl (cI, 40, .inl (fun _ => (0 : Int32)))), (q_7, .inl (cI, 41, .inl (fun _ => (0 : Int32)))), (q_8, .inl (cI, 40, .inl (fun _ => (0 : Int32)))), (q_9, .inl (cI, 40, .inl (fun _ => (0 : Int32))))] H locs := X
  refine W.widen (k := 9) (n := 214) (Nat.le_of_ble_eq_true rfl) (Nat.le_of_ble_eq_true rfl) ?_
  refine x_putF (own := RX3) (T := TX3) C X 0 rfl rfl 10 (by decide) k_5_16 rfl rfl rfl hin rfl (ty := (tyX3 10)) (v := .ref q_9) (by decide +kernel) rfl rfl (Nat.le_of_ble_eq_true rfl) dX3_init_80 (fun H locs X => ?_)
  have X : Wd D A s [(h0, .inr (3, [.int (0 : Int32), .ref q_1, .ref q_2, .ref q_3, .ref q_4, .ref q_5, .ref q_6, .ref q_7, .int (0 : Int32), .ref q_8, .ref q_9, .null, .int (0 : Int32), .null, .null, .null, .null, .int (0 : Int32), .null])), (q_1, .inl (cI, 4, .inl (fun _ => (0 : Int32)))), (q_2, .inl (cI, 4, .inl (fun _ => (0 : Int32)))), (q_3, .inl (cI, 3, .inl (fun _ => (0 : Int32)))), (q_4, .inl (cI, 21, .inl (fun _ => (0 : Int32)))), (q_5, .inl (cI, 21, .inl (fun _ => (0 : Int32)))), (q_6, .inl (cI, 40, .inl (fun _ => (0 : Int32)))), (q_7, .inl (cI, 41, .inl (fun _ => (0 : Int32)))), (q_8, .inl (cI, 40, .inl (fun _ => (0 : Int32)))), (q_9, .inl (cI, 40, .inl (fun _ => (0 : Int32))))] H locs := X
  refine lv_aload_n hx hb dX3_init_83 rfl (lv_at hl 0 rfl) ?_
  refine lv_bipush (v := (40 : Int32)) hx hb dX3_init_84 (by decide) ?_
  refine x_newa (own := RX3) (atype := .int) (ty := .int) (N' := 40) (a0 := (40, .inl (fun _ => (0 : Int32)))) C X rfl k_2_7 0 rfl rfl (fun _ => rfl) (by decide) (by decide) (Nat.le_of_ble_eq_true rfl) (Nat.le_of_ble_eq_true rfl) (Nat.le_of_ble_eq_true rfl) dX3_init_86 (fun q_10 H X => ?_)
  have X : Wd D A s [(h0, .inr (3, [.int (0 : Int32), .ref q_1, .ref q_2, .ref q_3, .ref q_4, .ref q_5, .ref q_6, .ref q_7, .int (0 : Int32), .ref q_8, .ref q_9, .null, .int (0 : Int32), .null, .null, .null, .null, .int (0 : Int32), .null])), (q_1, .inl (cI, 4, .inl (fun _ => (0 : Int32)))), (q_2, .inl (cI, 4, .inl (fun _ => (0 : Int32)))), (q_3, .inl (cI, 3, .inl (fun _ => (0 : Int32)))), (q_4, .inl (cI, 21, .inl (fun _ => (0 : Int32)))), (q_5, .inl (cI, 21, .inl (fun _ => (0 : Int32)))), (q_6, .inl (cI, 40, .inl (fun _ => (0 : Int32)))), (q_7, .inl (cI, 41, .inl (fun _ => (0 : Int32)))), (q_8, .inl (cI, 40, .inl (fun _ => (0 : Int32)))), (q_9, .inl (cI, 40, .inl (fun _ => (0 : Int32)))), (q_10, .inl (cI, 40, .inl (fun _ => (0 : Int32))))] H locs := X
  refine W.widen (k := 10) (n := 254) (Nat.le_of_ble_eq_true rfl) (Nat.le_of_ble_eq_true rfl) ?_
  refine x_putF (own := RX3) (T := TX3) C X 0 rfl rfl 11 (by decide) k_5_17 rfl rfl rfl hin rfl (ty := (tyX3 11)) (v := .ref q_10) (by decide +kernel) rfl rfl (Nat.le_of_ble_eq_true rfl) dX3_init_88 (fun H locs X => ?_)
  have X : Wd D A s [(h0, .inr (3, [.int (0 : Int32), .ref q_1, .ref q_2, .ref q_3, .ref q_4, .ref q_5, .ref q_6, .ref q_7, .int (0 : Int32), .ref q_8, .ref q_9, .ref q_10, .int (0 : Int32), .null, .null, .null, .null, .int (0 : Int32), .null])), (q_1, .inl (cI, 4, .inl (fun _ => (0 : Int32)))), (q_2, .inl (cI, 4, .inl (fun _ => (0 : Int32)))), (q_3, .inl (cI, 3, .inl (fun _ => (0 : Int32)))), (q_4, .inl (cI, 21, .inl (fun _ => (0 : Int32)))), (q_5, .inl (cI, 21, .inl (fun _ => (0 : Int32)))), (q_6, .inl (cI, 40, .inl (fun _ => (0 : Int32)))), (q_7, .inl (cI, 41, .inl (fun _ => (0 : Int32)))), (q_8, .inl (cI, 40, .inl (fun _ => (0 : Int32)))), (q_9, .inl (cI, 40, .inl (fun _ => (0 : Int32)))), (q_10, .inl (cI, 40, .inl (fun _ => (0 : Int32))))] H locs := X
  refine lv_aload_n hx hb dX3_init_91 rfl (lv_at hl 0 rfl) ?_
  refine lv_iconst (v := (0 : Int32)) hx hb dX3_init_92 (by decide) ?_
  refine x_put (own := RX3) (T := TX3) C X 0 rfl rfl 12 (by decide) k_5_18 rfl rfl rfl (ty := .int) (v := .int (0 : Int32)) (by decide +kernel) rfl rfl (Nat.le_of_ble_eq_true rfl) dX3_init_93 (fun H locs X => ?_)
  have X : Wd D A s [(h0, .inr (3, [.int (0 : Int32), .ref q_1, .ref q_2, .ref q_3, .ref q_4, .ref q_5, .ref q_6, .ref q_7, .int (0 : Int32), .ref q_8, .ref q_9, .ref q_10, .int (0 : Int32), .null, .null, .null, .null, .int (0 : Int32), .null])), (q_1, .inl (cI, 4, .inl (fun _ => (0 : Int32)))), (q_2, .inl (cI, 4, .inl (fun _ => (0 : Int32)))), (q_3, .inl (cI, 3, .inl (fun _ => (0 : Int32)))), (q_4, .inl (cI, 21, .inl (fun _ => (0 : Int32)))), (q_5, .inl (cI, 21, .inl (fun _ => (0 : Int32)))), (q_6, .inl (cI, 40, .inl (fun _ => (0 : Int32)))), (q_7, .inl (cI, 41, .inl (fun _ => (0 : Int32)))), (q_8, .inl (cI, 40, .inl (fun _ => (0 : Int32)))), (q_9, .inl (cI, 40, .inl (fun _ => (0 : Int32)))), (q_10, .inl (cI, 40, .inl (fun _ => (0 : Int32))))] H locs := X
  refine lv_aload_n hx hb dX3_init_96 rfl (lv_at hl 0 rfl) ?_
  refine lv_bipush (v := (40 : Int32)) hx hb dX3_init_97 (by decide) ?_
  refine x_newa (own := RX3) (atype := .int) (ty := .int) (N' := 40) (a0 := (40, .inl (fun _ => (0 : Int32)))) C X rfl k_2_7 0 rfl rfl (fun _ => rfl) (by decide) (by decide) (Nat.le_of_ble_eq_true rfl) (Nat.le_of_ble_eq_true rfl) (Nat.le_of_ble_eq_true rfl) dX3_init_99 (fun q_11 H X => ?_)
  have X : Wd D A s [(h0, .inr (3, [.int (0 : Int32), .ref q_1, .ref q_2, .ref q_3, .ref q_4, .ref q_5, .ref q_6, .ref q_7, .int (0 : Int32), .ref q_8, .ref q_9, .ref q_10, .int (0 : Int32), .null, .null, .null, .null, .int (0 : Int32), .null])), (q_1, .inl (cI, 4, .inl (fun _ => (0 : Int32)))), (q_2, .inl (cI, 4, .inl (fun _ => (0 : Int32)))), (q_3, .inl (cI, 3, .inl (fun _ => (0 : Int32)))), (q_4, .inl (cI, 21, .inl (fun _ => (0 : Int32)))), (q_5, .inl (cI, 21, .inl (fun _ => (0 : Int32)))), (q_6, .inl (cI, 40, .inl (fun _ => (0 : Int32)))), (q_7, .inl (cI, 41, .inl (fun _ => (0 : Int32)))), (q_8, .inl (cI, 40, .inl (fun _ => (0 : Int32)))), (q_9, .inl (cI, 40, .inl (fun _ => (0 : Int32)))), (q_10, .inl (cI, 40, .inl (fun _ => (0 : Int32)))), (q_11, .inl (cI, 40, .inl (fun _ => (0 : Int32))))] H locs := X
  refine W.widen (k := 11) (n := 294) (Nat.le_of_ble_eq_true rfl) (Nat.le_of_ble_eq_true rfl) ?_
  refine x_putF (own := RX3) (T := TX3) C X 0 rfl rfl 13 (by decide) k_5_19 rfl rfl rfl hin rfl (ty := (tyX3 13)) (v := .ref q_11) (by decide +kernel) rfl rfl (Nat.le_of_ble_eq_true rfl) dX3_init_101 (fun H locs X => ?_)
  have X : Wd D A s [(h0, .inr (3, [.int (0 : Int32), .ref q_1, .ref q_2, .ref q_3, .ref q_4, .ref q_5, .ref q_6, .ref q_7, .int (0 : Int32), .ref q_8, .ref q_9, .ref q_10, .int (0 : Int32), .ref q_11, .null, .null, .null, .int (0 : Int32), .null])), (q_1, .inl (cI, 4, .inl (fun _ => (0 : Int32)))), (q_2, .inl (cI, 4, .inl (fun _ => (0 : Int32)))), (q_3, .inl (cI, 3, .inl (fun _ => (0 : Int32)))), (q_4, .inl (cI, 21, .inl (fun _ => (0 : Int32)))), (q_5, .inl (cI, 21, .inl (fun _ => (0 : Int32)))), (q_6, .inl (cI, 40, .inl (fun _ => (0 : Int32)))), (q_7, .inl (cI, 41, .inl (fun _ => (0 : Int32)))), (q_8, .inl (cI, 40, .inl (fun _ => (0 : Int32)))), (q_9, .inl (cI, 40, .inl (fun _ => (0 : Int32)))), (q_10, .inl (cI, 40, .inl (fun _ => (0 : Int32)))), (q_11, .inl (cI, 40, .inl (fun _ => (0 : Int32))))] H locs := X
  refine lv_aload_n hx hb dX3_init_104 rfl (lv_at hl 0 rfl) ?_
  refine lv_bipush (v := (40 : Int32)) hx hb dX3_init_105 (by decide) ?_
  refine x_newa (own := RX3) (atype := .int) (ty := .int) (N' := 40) (a0 := (40, .inl (fun _ => (0 : Int32)))) C X rfl k_2_7 0 rfl rfl (fun _ => rfl) (by decide) (by decide) (Nat.le_of_ble_eq_true rfl) (Nat.le_of_ble_eq_true rfl) (Nat.le_of_ble_eq_true rfl) dX3_init_107 (fun q_12 H X => ?_)
  have X : Wd D A s [(h0, .inr (3, [.int (0 : Int32), .ref q_1, .ref q_2, .ref q_3, .ref q_4, .ref q_5, .ref q_6, .ref q_7, .int (0 : Int32), .ref q_8, .ref q_9, .ref q_10, .int (0 : Int32), .ref q_11, .null, .null, .null, .int (0 : Int32), .null])), (q_1, .inl (cI, 4, .inl (fun _ => (0 : Int32)))), (q_2, .inl (cI, 4, .inl (fun _ => (0 : Int32)))), (q_3, .inl (cI, 3, .inl (fun _ => (0 : Int32)))), (q_4, .inl (cI, 21, .inl (fun _ => (0 : Int32)))), (q_5, .inl (cI, 21, .inl (fun _ => (0 : Int32)))), (q_6, .inl (cI, 40, .inl (fun _ => (0 : Int32)))), (q_7, .inl (cI, 41, .inl (fun _ => (0 : Int32)))), (q_8, .inl (cI, 40, .inl (fun _ => (0 : Int32)))), (q_9, .inl (cI, 40, .inl (fun _ => (0 : Int32)))), (q_10, .inl (cI, 40, .inl (fun _ => (0 : Int32)))), (q_11, .inl (cI, 40, .inl (fun _ => (0 : Int32)))), (q_12, .inl (cI, 40, .inl (fun _ => (0 : Int32))))] H locs := X
  refine W.widen (k := 12) (n := 334) (Nat.le_of_ble_eq_true rfl) (Nat.le_of_ble_eq_true rfl) ?_
  refine x_putF (own := RX3) (T := TX3) C X 0 rfl rfl 14 (by decide) k_5_20 rfl rfl rfl hin rfl (ty := (tyX3 14)) (v := .ref q_12) (by decide +kernel) rfl rfl (Nat.le_of_ble_eq_true rfl) dX3_init_109 (fun H locs X => ?_)
  have X : Wd D A s [(h0, .inr (3, [.int (0 : Int32), .ref q_1, .ref q_2, .ref q_3, .ref q_4, .ref q_5, .ref q_6, .ref q_7, .int (0 : Int32), .ref q_8, .ref q_9, .ref q_10, .int (0 : Int32), .ref q_11, .ref q_12, .null, .null, .int (0 : Int32), .null])), (q_1, .inl (cI, 4, .inl (fun _ => (0 : Int32)))), (q_2, .inl (cI, 4, .inl (fun _ => (0 : Int32)))), (q_3, .inl (cI, 3, .inl (fun _ => (0 : Int32)))), (q_4, .inl (cI, 21, .inl (fun _ => (0 : Int32)))), (q_5, .inl (cI, 21, .inl (fun _ => (0 : Int32)))), (q_6, .inl (cI, 40, .inl (fun _ => (0 : Int32)))), (q_7, .inl (cI, 41, .inl (fun _ => (0 : Int32)))), (q_8, .inl (cI, 40, .inl (fun _ => (0 : Int32)))), (q_9, .inl (cI, 40, .inl (fun _ => (0 : Int32)))), (q_10, .inl (cI, 40, .inl (fun _ => (0 : Int32)))), (q_11, .inl (cI, 40, .inl (fun _ => (0 : Int32)))), (q_12, .inl (cI, 40, .inl (fun _ => (0 : Int32))))] H locs := X
  refine lv_aload_n hx hb dX3_init_112 rfl (lv_at hl 0 rfl) ?_
  refine lv_bipush (v := (40 : Int32)) hx hb dX3_init_113 (by decide) ?_
  refine x_newa (own := RX3) (atype := .int) (ty := .int) (N' := 40) (a0 := (40, .inl (fun _ => (0 : Int32)))) C X rfl k_2_7 0 rfl rfl (fun _ => rfl) (by decide) (by decide) (Nat.le_of_ble_eq_true rfl) (Nat.le_of_ble_eq_true rfl) (Nat.le_of_ble_eq_true rfl) dX3_init_115 (fun q_13 H X => ?_)
  have X : Wd D A s [(h0, .inr (3, [.int (0 : Int32), .ref q_1, .ref q_2, .ref q_3, .ref q_4, .ref q_5, .ref q_6, .ref q_7, .int (0 : Int32), .ref q_8, .ref q_9, .ref q_10, .int (0 : Int32), .ref q_11, .ref q_12, .null, .null, .int (0 : Int32), .null])), (q_1, .inl (cI, 4, .inl (fun _ => (0 : Int32)))), (q_2, .inl (cI, 4, .inl (fun _ => (0 : Int32)))), (q_3, .inl (cI, 3, .inl (fun _ => (0 : Int32)))), (q_4, .inl (cI, 21, .inl (fun _ => (0 : Int32)))), (q_5, .inl (cI, 21, .inl (fun _ => (0 : Int32)))), (q_6, .inl (cI, 40, .inl (fun _ => (0 : Int32)))), (q_7, .inl (cI, 41, .inl (fun _ => (0 : Int32)))), (q_8, .inl (cI, 40, .inl (fun _ => (0 : Int32)))), (q_9, .inl (cI, 40, .inl (fun _ => (0 : Int32)))), (q_10, .inl (cI, 40, .inl (fun _ => (0 : Int32)))), (q_11, .inl (cI, 40, .inl (fun _ => (0 : Int32)))), (q_12, .inl (cI, 40, .inl (fun _ => (0 : Int32)))), (q_13, .inl (cI, 40, .inl (fun _ => (0 : Int32))))] H locs := X
  refine W.widen (k := 13) (n := 374) (Nat.le_of_ble_eq_true rfl) (Nat.le_of_ble_eq_true rfl) ?_
  refine x_putF (own := RX3) (T := TX3) C X 0 rfl rfl 15 (by decide) k_5_21 rfl rfl rfl hin rfl (ty := (tyX3 15)) (v := .ref q_13) (by decide +kernel) rfl rfl (Nat.le_of_ble_eq_true rfl) dX3_init_117 (fun H locs X => ?_)
  have X : Wd D A s [(h0, .inr (3, [.int (0 : Int32), .ref q_1, .ref q_2, .ref q_3, .ref q_4, .ref q_5, .ref q_6, .ref q_7, .int (0 : Int32), .ref q_8, .ref q_9, .ref q_10, .int (0 : Int32), .ref q_11, .ref q_12, .ref q_13, .null, .int (0 : Int32), .null])), (q_1, .inl (cI, 4, .inl (fun _ => (0 : Int32)))), (q_2, .inl (cI, 4, .inl (fun _ => (0 : Int32)))), (q_3, .inl (cI, 3, .inl (fun _ => (0 : Int32)))), (q_4, .inl (cI, 21, .inl (fun _ => (0 : Int32)))), (q_5, .inl (cI, 21, .inl (fun _ => (0 : Int32)))), (q_6, .inl (cI, 40, .inl (fun _ => (0 : Int32)))), (q_7, .inl (cI, 41, .inl (fun _ => (0 : Int32)))), (q_8, .inl (cI, 40, .inl (fun _ => (0 : Int32)))), (q_9, .inl (cI, 40, .inl (fun _ => (0 : Int32)))), (q_10, .inl (cI, 40, .inl (fun _ => (0 : Int32)))), (q_11, .inl (cI, 40, .inl (fun _ => (0 : Int32)))), (q_12, .inl (cI, 40, .inl (fun _ => (0 : Int32)))), (q_13, .inl (cI, 40, .inl (fun _ => (0 : Int32))))] H locs := X
  refine lv_aload_n hx hb dX3_init_120 rfl (lv_at hl 0 rfl) ?_
  refine lv_sipush (v := (700 : Int32)) hx hb dX3_init_121 (by decide) ?_
  refine x_newa (own := RX3) (atype := .int) (ty := .int) (N' := 700) (a0 := (700, .inl (fun _ => (0 : Int32)))) C X rfl k_2_7 0 rfl rfl (fun _ => rfl) (by decide) (by decide) (Nat.le_of_ble_eq_true rfl) (Nat.le_of_ble_eq_true rfl) (Nat.le_of_ble_eq_true rfl) dX3_init_124 (fun q_14 H X => ?_)
  have X : Wd D A s [(h0, .inr (3, [.int (0 : Int32), .ref q_1, .ref q_2, .ref q_3, .ref q_4, .ref q_5, .ref q_6, .ref q_7, .int (0 : Int32), .ref q_8, .ref q_9, .ref q_10, .int (0 : Int32), .ref q_11, .ref q_12, .ref q_13, .null, .int (0 : Int32), .null])), (q_1, .inl (cI, 4, .inl (fun _ => (0 : Int32)))), (q_2, .inl (cI, 4, .inl (fun _ => (0 : Int32)))), (q_3, .inl (cI, 3, .inl (fun _ => (0 : Int32)))), (q_4, .inl (cI, 21, .inl (fun _ => (0 : Int32)))), (q_5, .inl (cI, 21, .inl (fun _ => (0 : Int32)))), (q_6, .inl (cI, 40, .inl (fun _ => (0 : Int32)))), (q_7, .inl (cI, 41, .inl (fun _ => (0 : Int32)))), (q_8, .inl (cI, 40, .inl (fun _ => (0 : Int32)))), (q_9, .inl (cI, 40, .inl (fun _ => (0 : Int32)))), (q_10, .inl (cI, 40, .inl (fun _ => (0 : Int32)))), (q_11, .inl (cI, 40, .inl (fun _ => (0 : Int32)))), (q_12, .inl (cI, 40, .inl (fun _ => (0 : Int32)))), (q_13, .inl (cI, 40, .inl (fun _ => (0 : Int32)))), (q_14, .inl (cI, 700, .inl (fun _ => (0 : Int32))))] H locs := X
  refine W.widen (k := 14) (n := 1074) (Nat.le_of_ble_eq_true rfl) (Nat.le_of_ble_eq_true rfl) ?_
  refine x_putF (own := RX3) (T := TX3) C X 0 rfl rfl 16 (by decide) k_5_22 rfl rfl rfl hin rfl (ty := (tyX3 16)) (v := .ref q_14) (by decide +kernel) rfl rfl (Nat.le_of_ble_eq_true rfl) dX3_init_126 (fun H locs X => ?_)
  have X : Wd D A s [(h0, .inr (3, [.int (0 : Int32), .ref q_1, .ref q_2, .ref q_3, .ref q_4, .ref q_5, .ref q_6, .ref q_7, .int (0 : Int32), .ref q_8, .ref q_9, .ref q_10, .int (0 : Int32), .ref q_11, .ref q_12, .ref q_13, .ref q_14, .int (0 : Int32), .null])), (q_1, .inl (cI, 4, .inl (fun _ => (0 : Int32)))), (q_2, .inl (cI, 4, .inl (fun _ => (0 : Int32)))), (q_3, .inl (cI, 3, .inl (fun _ => (0 : Int32)))), (q_4, .inl (cI, 21, .inl (fun _ => (0 : Int32)))), (q_5, .inl (cI, 21, .inl (fun _ => (0 : Int32)))), (q_6, .inl (cI, 40, .inl (fun _ => (0 : Int32)))), (q_7, .inl (cI, 41, .inl (fun _ => (0 : Int32)))), (q_8, .inl (cI, 40, .inl (fun _ => (0 : Int32)))), (q_9, .inl (cI, 40, .inl (fun _ => (0 : Int32)))), (q_10, .inl (cI, 40, .inl (fun _ => (0 : Int32)))), (q_11, .inl (cI, 40, .inl (fun _ => (0 : Int32)))), (q_12, .inl (cI, 40, .inl (fun _ => (0 : Int32)))), (q_13, .inl (cI, 40, .inl (fun _ => (0 : Int32)))), (q_14, .inl (cI, 700, .inl (fun _ => (0 : Int32))))] H locs := X
  refine lv_aload_n hx hb dX3_init_129 rfl (lv_at hl 0 rfl) ?_
  refine lv_iconst (v := (0 : Int32)) hx hb dX3_init_130 (by decide) ?_
  refine x_put (own := RX3) (T := TX3) C X 0 rfl rfl 17 (by decide) k_5_23 rfl rfl rfl (ty := .int) (v := .int (0 : Int32)) (by decide +kernel) rfl rfl (Nat.le_of_ble_eq_true rfl) dX3_init_131 (fun H locs X => ?_)
  have X : Wd D A s [(h0, .inr (3, [.int (0 : Int32), .ref q_1, .ref q_2, .ref q_3, .ref q_4, .ref q_5, .ref q_6, .ref q_7, .int (0 : Int32), .ref q_8, .ref q_9, .ref q_10, .int (0 : Int32), .ref q_11, .ref q_12, .ref q_13, .ref q_14, .int (0 : Int32), .null])), (q_1, .inl (cI, 4, .inl (fun _ => (0 : Int32)))), (q_2, .inl (cI, 4, .inl (fun _ => (0 : Int32)))), (q_3, .inl (cI, 3, .inl (fun _ => (0 : Int32)))), (q_4, .inl (cI, 21, .inl (fun _ => (0 : Int32)))), (q_5, .inl (cI, 21, .inl (fun _ => (0 : Int32)))), (q_6, .inl (cI, 40, .inl (fun _ => (0 : Int32)))), (q_7, .inl (cI, 41, .inl (fun _ => (0 : Int32)))), (q_8, .inl (cI, 40, .inl (fun _ => (0 : Int32)))), (q_9, .inl (cI, 40, .inl (fun _ => (0 : Int32)))), (q_10, .inl (cI, 40, .inl (fun _ => (0 : Int32)))), (q_11, .inl (cI, 40, .inl (fun _ => (0 : Int32)))), (q_12, .inl (cI, 40, .inl (fun _ => (0 : Int32)))), (q_13, .inl (cI, 40, .inl (fun _ => (0 : Int32)))), (q_14, .inl (cI, 700, .inl (fun _ => (0 : Int32))))] H locs := X
  refine lv_aload_n hx hb dX3_init_134 rfl (lv_at hl 0 rfl) ?_
  refine lv_bipush (v := (64 : Int32)) hx hb dX3_init_135 (by decide) ?_
  refine x_newa (own := RX3) (atype := .boolean) (ty := .boolean) (N' := 64) (a0 := (64, .inl (fun _ => (0 : Int32)))) C X rfl k_6_0 2 rfl rfl (fun _ => rfl) (by decide) (by decide) (Nat.le_of_ble_eq_true rfl) (Nat.le_of_ble_eq_true rfl) (Nat.le_of_ble_eq_true rfl) dX3_init_137 (fun q_15 H X => ?_)
  have X : Wd D A s [(h0, .inr (3, [.int (0 : Int32), .ref q_1, .ref q_2, .ref q_3, .ref q_4, .ref q_5, .ref q_6, .ref q_7, .int (0 : Int32), .ref q_8, .ref q_9, .ref q_10, .int (0 : Int32), .ref q_11, .ref q_12, .ref q_13, .ref q_14, .int (0 : Int32), .null])), (q_1, .inl (cI, 4, .inl (fun _ => (0 : Int32)))), (q_2, .inl (cI, 4, .inl (fun _ => (0 : Int32)))), (q_3, .inl (cI, 3, .inl (fun _ => (0 : Int32)))), (q_4, .inl (cI, 21, .inl (fun _ => (0 : Int32)))), (q_5, .inl (cI, 21, .inl (fun _ => (0 : Int32)))), (q_6, .inl (cI, 40, .inl (fun _ => (0 : Int32)))), (q_7, .inl (cI, 41, .inl (fun _ => (0 : Int32)))), (q_8, .inl (cI, 40, .inl (fun _ => (0 : Int32)))), (q_9, .inl (cI, 40, .inl (fun _ => (0 : Int32)))), (q_10, .inl (cI, 40, .inl (fun _ => (0 : Int32)))), (q_11, .inl (cI, 40, .inl (fun _ => (0 : Int32)))), (q_12, .inl (cI, 40, .inl (fun _ => (0 : Int32)))), (q_13, .inl (cI, 40, .inl (fun _ => (0 : Int32)))), (q_14, .inl (cI, 700, .inl (fun _ => (0 : Int32)))), (q_15, .inl (cZ, 64, .inl (fun _ => (0 : Int32))))] H locs := X
  refine W.widen (k := 15) (n := 1138) (Nat.le_of_ble_eq_true rfl) (Nat.le_of_ble_eq_true rfl) ?_
  refine x_putF (own := RX3) (T := TX3) C X 0 rfl rfl 18 (by decide) k_6_1 rfl rfl rfl hin rfl (ty := (tyX3 18)) (v := .ref q_15) (by decide +kernel) rfl rfl (Nat.le_of_ble_eq_true rfl) dX3_init_139 (fun H locs X => ?_)
  have X : Wd D A s [(h0, .inr (3, [.int (0 : Int32), .ref q_1, .ref q_2, .ref q_3, .ref q_4, .ref q_5, .ref q_6, .ref q_7, .int (0 : Int32), .ref q_8, .ref q_9, .ref q_10, .int (0 : Int32), .ref q_11, .ref q_12, .ref q_13, .ref q_14, .int (0 : Int32), .ref q_15])), (q_1, .inl (cI, 4, .inl (fun _ => (0 : Int32)))), (q_2, .inl (cI, 4, .inl (fun _ => (0 : Int32)))), (q_3, .inl (cI, 3, .inl (fun _ => (0 : Int32)))), (q_4, .inl (cI, 21, .inl (fun _ => (0 : Int32)))), (q_5, .inl (cI, 21, .inl (fun _ => (0 : Int32)))), (q_6, .inl (cI, 40, .inl (fun _ => (0 : Int32)))), (q_7, .inl (cI, 41, .inl (fun _ => (0 : Int32)))), (q_8, .inl (cI, 40, .inl (fun _ => (0 : Int32)))), (q_9, .inl (cI, 40, .inl (fun _ => (0 : Int32)))), (q_10, .inl (cI, 40, .inl (fun _ => (0 : Int32)))), (q_11, .inl (cI, 40, .inl (fun _ => (0 : Int32)))), (q_12, .inl (cI, 40, .inl (fun _ => (0 : Int32)))), (q_13, .inl (cI, 40, .inl (fun _ => (0 : Int32)))), (q_14, .inl (cI, 700, .inl (fun _ => (0 : Int32)))), (q_15, .inl (cZ, 64, .inl (fun _ => (0 : Int32))))] H locs := X
  refine lv_aload_n hx hb dX3_init_142 rfl (lv_at hl 0 rfl) ?_
  refine x_get (own := RX3) (T := TX3) C X 0 rfl rfl 6 (by decide) k_5_12 rfl rfl (v := .ref q_6) rfl dX3_init_143 ?_
  refine lv_iconst (v := (-1 : Int32)) hx hb dX3_init_146 (by decide) ?_
  refine x_cSv (own := RX3) (wr := [(h0, .inr (3, [.int (0 : Int32), .ref q_1, .ref q_2, .ref q_3, .ref q_4, .ref q_5, .ref q_6, .ref q_7, .int (0 : Int32), .ref q_8, .ref q_9, .ref q_10, .int (0 : Int32), .ref q_11, .ref q_12, .ref q_13, .ref q_14, .int (0 : Int32), .ref q_15])), (q_1, .inl (cI, 4, .inl (fun _ => (0 : Int32)))), (q_2, .inl (cI, 4, .inl (fun _ => (0 : Int32)))), (q_3, .inl (cI, 3, .inl (fun _ => (0 : Int32)))), (q_4, .inl (cI, 21, .inl (fun _ => (0 : Int32)))), (q_5, .inl (cI, 21, .inl (fun _ => (0 : Int32)))), (q_7, .inl (cI, 41, .inl (fun _ => (0 : Int32)))), (q_8, .inl (cI, 40, .inl (fun _ => (0 : Int32)))), (q_9, .inl (cI, 40, .inl (fun _ => (0 : Int32)))), (q_10, .inl (cI, 40, .inl (fun _ => (0 : Int32)))), (q_11, .inl (cI, 40, .inl (fun _ => (0 : Int32)))), (q_12, .inl (cI, 40, .inl (fun _ => (0 : Int32)))), (q_13, .inl (cI, 40, .inl (fun _ => (0 : Int32)))), (q_14, .inl (cI, 700, .inl (fun _ => (0 : Int32)))), (q_15, .inl (cZ, 64, .inl (fun _ => (0 : Int32))))]) (As := [.ref q_6, .int (-1 : Int32)]) C X hl.1 (c_fillI l D cI cJ cZ cB cO q_6 40 (fun _ => (0 : Int32)) (-1 : Int32) (by omega)) [6] [0, 1, 2, 3, 4, 5, 7, 8, 9, 10, 11, 12, 13, 14, 15] ⟨rfl, rfl, by decide, by decide, by decide⟩ k_6_2 k_4_6 k_4_7 k_4_8 (n := 2) (by decide +kernel) ⟨Nat.le_of_ble_eq_true rfl, Nat.le_of_ble_eq_true rfl⟩ rfl rfl (Nat.le_of_ble_eq_true rfl) dX3_init_147 ⟨Nat.le_of_ble_eq_true rfl, Nat.le_of_ble_eq_true rfl⟩ (fun u_16 H locs w_18 X => ?_)
  have X : Wd D A s [(h0, .inr (3, [.int (0 : Int32), .ref q_1, .ref q_2, .ref q_3, .ref q_4, .ref q_5, .ref q_6, .ref q_7, .int (0 : Int32), .ref q_8, .ref q_9, .ref q_10, .int (0 : Int32), .ref q_11, .ref q_12, .ref q_13, .ref q_14, .int (0 : Int32), .ref q_15])), (q_1, .inl (cI, 4, .inl (fun _ => (0 : Int32)))), (q_2, .inl (cI, 4, .inl (fun _ => (0 : Int32)))), (q_3, .inl (cI, 3, .inl (fun _ => (0 : Int32)))), (q_4, .inl (cI, 21, .inl (fun _ => (0 : Int32)))), (q_5, .inl (cI, 21, .inl (fun _ => (0 : Int32)))), (q_7, .inl (cI, 41, .inl (fun _ => (0 : Int32)))), (q_8, .inl (cI, 40, .inl (fun _ => (0 : Int32)))), (q_9, .inl (cI, 40, .inl (fun _ => (0 : Int32)))), (q_10, .inl (cI, 40, .inl (fun _ => (0 : Int32)))), (q_11, .inl (cI, 40, .inl (fun _ => (0 : Int32)))), (q_12, .inl (cI, 40, .inl (fun _ => (0 : Int32)))), (q_13, .inl (cI, 40, .inl (fun _ => (0 : Int32)))), (q_14, .inl (cI, 700, .inl (fun _ => (0 : Int32)))), (q_15, .inl (cZ, 64, .inl (fun _ => (0 : Int32)))), (q_6, .inl (cI, 40, .inl (fun _ => (-1 : Int32))))] H locs := X
  refine W.widen (k := 15) (n := 1138) (Nat.le_of_ble_eq_true rfl) (Nat.le_of_ble_eq_true rfl) ?_
  refine lv_aload_n hx hb dX3_init_150 rfl (lv_at hl 0 rfl) ?_
  refine x_get (own := RX3) (T := TX3) C X 0 rfl rfl 7 (by decide) k_5_13 rfl rfl (v := .ref q_7) rfl dX3_init_151 ?_
  refine lv_iconst (v := (1 : Int32)) hx hb dX3_init_154 (by decide) ?_
  refine x_cSv (own := RX3) (wr := [(h0, .inr (3, [.int (0 : Int32), .ref q_1, .ref q_2, .ref q_3, .ref q_4, .ref q_5, .ref q_6, .ref q_7, .int (0 : Int32), .ref q_8, .ref q_9, .ref q_10, .int (0 : Int32), .ref q_11, .ref q_12, .ref q_13, .ref q_14, .int (0 : Int32), .ref q_15])), (q_1, .inl (cI, 4, .inl (fun _ => (0 : Int32)))), (q_2, .inl (cI, 4, .inl (fun _ => (0 : Int32)))), (q_3, .inl (cI, 3, .inl (fun _ => (0 : Int32)))), (q_4, .inl (cI, 21, .inl (fun _ => (0 : Int32)))), (q_5, .inl (cI, 21, .inl (fun _ => (0 : Int32)))), (q_8, .inl (cI, 40, .inl (fun _ => (0 : Int32)))), (q_9, .inl (cI, 40, .inl (fun _ => (0 : Int32)))), (q_10, .inl (cI, 40, .inl (fun _ => (0 : Int32)))), (q_11, .inl (cI, 40, .inl (fun _ => (0 : Int32)))), (q_12, .inl (cI, 40, .inl (fun _ => (0 : Int32)))), (q_13, .inl (cI, 40, .inl (fun _ => (0 : Int32)))), (q_14, .inl (cI, 700, .inl (fun _ => (0 : Int32)))), (q_15, .inl (cZ, 64, .inl (fun _ => (0 : Int32)))), (q_6, .inl (cI, 40, .inl (fun _ => (-1 : Int32))))]) (As := [.ref q_7, .int (1 : Int32)]) C X hl.1 (c_fillI l D cI cJ cZ cB cO q_7 41 (fun _ => (0 : Int32)) (1 : Int32) (by omega)) [6] [0, 1, 2, 3, 4, 5, 7, 8, 9, 10, 11, 12, 13, 14, 15] ⟨rfl, rfl, by decide, by decide, by decide⟩ k_6_2 k_4_6 k_4_7 k_4_8 (n := 2) (by decide +kernel) ⟨Nat.le_of_ble_eq_true rfl, Nat.le_of_ble_eq_true rfl⟩ rfl rfl (Nat.le_of_ble_eq_true rfl) dX3_init_155 ⟨Nat.le_of_ble_eq_true rfl, Nat.le_of_ble_eq_true rfl⟩ (fun u_19 H locs w_21 X => ?_)
  have X : Wd D A s [(h0, .inr (3, [.int (0 : Int32), .ref q_1, .ref q_2, .ref q_3, .ref q_4, .ref q_5, .ref q_6, .ref q_7, .int (0 : Int32), .ref q_8, .ref q_9, .ref q_10, .int (0 : Int32), .ref q_11, .ref q_12, .ref q_13, .ref q_14, .int (0 : Int32), .ref q_15])), (q_1, .inl (cI, 4, .inl (fun _ => (0 : Int32)))), (q_2, .inl (cI, 4, .inl (fun _ => (0 : Int32)))), (q_3, .inl (cI, 3, .inl (fun _ => (0 : Int32)))), (q_4, .inl (cI, 21, .inl (fun _ => (0 : Int32)))), (q_5, .inl (cI, 21, .inl (fun _ => (0 : Int32)))), (q_8, .inl (cI, 40, .inl (fun _ => (0 : Int32)))), (q_9, .inl (cI, 40, .inl (fun _ => (0 : Int32)))), (q_10, .inl (cI, 40, .inl (fun _ => (0 : Int32)))), (q_11, .inl (cI, 40, .inl (fun _ => (0 : Int32)))), (q_12, .inl (cI, 40, .inl (fun _ => (0 : Int32)))), (q_13, .inl (cI, 40, .inl (fun _ => (0 : Int32)))), (q_14, .inl (cI, 700, .inl (fun _ => (0 : Int32)))), (q_15, .inl (cZ, 64, .inl (fun _ => (0 : Int32)))), (q_6, .inl (cI, 40, .inl (fun _ => (-1 : Int32)))), (q_7, .inl (cI, 41, .inl (fun _ => (1 : Int32))))] H locs := X
  refine W.widen (k := 15) (n := 1138) (Nat.le_of_ble_eq_true rfl) (Nat.le_of_ble_eq_true rfl) ?_
  exact x_vret C X hr hlk (fun k => ([h0, q_1, q_2, q_3, q_4, q_5, q_6, q_7, q_8, q_9, q_10, q_11, q_12, q_13, q_14, q_15] : List Nat).getD k 0) [0, 1, 2, 3, 4, 5, 14, 15, 6, 7, 8, 9, 10, 11, 12, 13] (by decide) rfl (trivial) (Nat.le_of_ble_eq_true rfl) (Nat.le_of_ble_eq_true rfl) dX3_init_158
set_option maxHeartbeats 4000000 in
set_option maxRecDepth 100000 in
theorem c_Rank_init (l : Launch) (D : va_G) (cI cJ cZ cB : ClassId) (cO : ClassId) (h0 : Nat) :
    CV l D [(cI, .int), (cJ, .long), (cZ, .boolean), (cB, .byte), (cO, .object "LuckLinks$World")] yX5_init cX5_init 1 ({ frames := 1, cells := 2, slots := 40, locals := 20 } : Room) [.ref h0] [(h0, .inr (5, [.null, .null, .int (0 : Int32)]))] (fun (u : (Nat → Nat)) => match u with | u => (True)) (fun (u : (Nat → Nat)) => match u with | u => [(h0, .inr (5, [.ref (u 1), .ref (u 2), .int (0 : Int32)])), ((u 1), .inl (cI, 20, .inl (fun _ => (0 : Int32)))), ((u 2), .inl (cI, 20, .inl (fun _ => (0 : Int32))))]) := by
  intro sz
  refine body_of (y := yX5_init) (cc := cX5_init) (maxL := 1) (ret := none) (rm := ({ frames := 1, cells := 2, slots := 40, locals := 20 } : Room)) (wc := [(h0, .inr (5, [.null, .null, .int (0 : Int32)]))]) (tys := [(cI, .int), (cJ, .long), (cZ, .boolean), (cB, .byte), (cO, .object "LuckLinks$World")]) (D := D) (sz := sz) (own := RX5) (av := [.ref h0]) (Qc := fun A => va_Qv (fun (u : (Nat → Nat)) => match u with | u => (True)) (fun u t => Aft D A ((fun (u : (Nat → Nat)) => match u with | u => [(h0, .inr (5, [.ref (u 1), .ref (u 2), .int (0 : Int32)])), ((u 1), .inl (cI, 20, .inl (fun _ => (0 : Int32)))), ((u 2), .inl (cI, 20, .inl (fun _ => (0 : Int32))))]) u) t) A) (by decide) rfl (Nat.le_of_ble_eq_true rfl) (fun p e s m below meth c A ls C hr hlk hin X hl => ?_)
  have hx := C.1
  have hb := C.2.1
  have hown := C.2.2.2.1
  have hts := C.2.2.2.2.1
  have hl : lv_has ls 1 [(0, .ref h0)] := hl
  show W p l e _ s m _ below meth c s.heap [] 0 0 (MQ below (va_Qv (fun (u : (Nat → Nat)) => match u with | u => (True)) (fun u t => Aft D A ((fun (u : (Nat → Nat)) => match u with | u => [(h0, .inr (5, [.ref (u 1), .ref (u 2), .int (0 : Int32)])), ((u 1), .inl (cI, 20, .inl (fun _ => (0 : Int32)))), ((u 2), .inl (cI, 20, .inl (fun _ => (0 : Int32))))]) u) t) A) ([.ref h0] : List Value).toArray s 2 40 A) (F0 m 0 ls [])
  have X : Wd D A s [(h0, .inr (5, [.null, .null, .int (0 : Int32)]))] s.heap [] := X
  obtain ⟨H, locs, eH, eL⟩ : ∃ H locs, H = s.heap ∧ locs = ([] : List Loc) := ⟨_, _, rfl, rfl⟩
  rw [← eH, ← eL] at X ⊢
  clear eH eL
  refine lv_aload_n hx hb dX5_init_0 rfl (lv_at hl 0 rfl) ?_
  refine x_objInit (own := RX5) C hl.1 k_7_0 k_1_10 k_1_11 dX5_init_1 (Nat.le_of_ble_eq_true rfl) (Nat.le_of_ble_eq_true rfl) ?_
  refine lv_aload_n hx hb dX5_init_4 rfl (lv_at hl 0 rfl) ?_
  refine lv_bipush (v := (20 : Int32)) hx hb dX5_init_5 (by decide) ?_
  refine x_newa (own := RX5) (atype := .int) (ty := .int) (N' := 20) (a0 := (20, .inl (fun _ => (0 : Int32)))) C X rfl k_2_7 0 rfl rfl (fun _ => rfl) (by decide) (by decide) (Nat.le_of_ble_eq_true rfl) (Nat.le_of_ble_eq_true rfl) (Nat.le_of_ble_eq_true rfl) dX5_init_7 (fun q_1 H X => ?_)
  have X : Wd D A s [(h0, .inr (5, [.null, .null, .int (0 : Int32)])), (q_1, .inl (cI, 20, .inl (fun _ => (0 : Int32))))] H locs := X
  refine W.widen (k := 1) (n := 20) (Nat.le_of_ble_eq_true rfl) (Nat.le_of_ble_eq_true rfl) ?_
  refine x_putF (own := RX5) (T := TX5) C X 0 rfl rfl 0 (by decide) k_7_1 rfl rfl rfl hin rfl (ty := (tyX5 0)) (v := .ref q_1) (by decide +kernel) rfl rfl (Nat.le_of_ble_eq_true rfl) dX5_init_9 (fun H locs X => ?_)
  have X : Wd D A s [(h0, .inr (5, [.ref q_1, .null, .int (0 : Int32)])), (q_1, .inl (cI, 20, .inl (fun _ => (0 : Int32))))] H locs := X
  refine lv_aload_n hx hb dX5_init_12 rfl (lv_at hl 0 rfl) ?_
  refine lv_bipush (v := (20 : Int32)) hx hb dX5_init_13 (by decide) ?_
  refine x_newa (own := RX5) (atype := .int) (ty := .int) (N' := 20) (a0 := (20, .inl (fun _ => (0 : Int32)))) C X rfl k_2_7 0 rfl rfl (fun _ => rfl) (by decide) (by decide) (Nat.le_of_ble_eq_true rfl) (Nat.le_of_ble_eq_true rfl) (Nat.le_of_ble_eq_true rfl) dX5_init_15 (fun q_2 H X => ?_)
  have X : Wd D A s [(h0, .inr (5, [.ref q_1, .null, .int (0 : Int32)])), (q_1, .inl (cI, 20, .inl (fun _ => (0 : Int32)))), (q_2, .inl (cI, 20, .inl (fun _ => (0 : Int32))))] H locs := X
  refine W.widen (k := 2) (n := 40) (Nat.le_of_ble_eq_true rfl) (Nat.le_of_ble_eq_true rfl) ?_
  refine x_putF (own := RX5) (T := TX5) C X 0 rfl rfl 1 (by decide) k_7_2 rfl rfl rfl hin rfl (ty := (tyX5 1)) (v := .ref q_2) (by decide +kernel) rfl rfl (Nat.le_of_ble_eq_true rfl) dX5_init_17 (fun H locs X => ?_)
  have X : Wd D A s [(h0, .inr (5, [.ref q_1, .ref q_2, .int (0 : Int32)])), (q_1, .inl (cI, 20, .inl (fun _ => (0 : Int32)))), (q_2, .inl (cI, 20, .inl (fun _ => (0 : Int32))))] H locs := X
  refine lv_aload_n hx hb dX5_init_20 rfl (lv_at hl 0 rfl) ?_
  refine lv_iconst (v := (0 : Int32)) hx hb dX5_init_21 (by decide) ?_
  refine x_put (own := RX5) (T := TX5) C X 0 rfl rfl 2 (by decide) k_7_3 rfl rfl rfl (ty := .int) (v := .int (0 : Int32)) (by decide +kernel) rfl rfl (Nat.le_of_ble_eq_true rfl) dX5_init_22 (fun H locs X => ?_)
  have X : Wd D A s [(h0, .inr (5, [.ref q_1, .ref q_2, .int (0 : Int32)])), (q_1, .inl (cI, 20, .inl (fun _ => (0 : Int32)))), (q_2, .inl (cI, 20, .inl (fun _ => (0 : Int32))))] H locs := X
  exact x_vret C X hr hlk (fun k => ([h0, q_1, q_2] : List Nat).getD k 0) [0, 1, 2] (by decide) rfl (trivial) (Nat.le_of_ble_eq_true rfl) (Nat.le_of_ble_eq_true rfl) dX5_init_25
set_option maxHeartbeats 4000000 in
set_option maxRecDepth 100000 in
theorem c_Ratio_init (l : Launch) (D : va_G) (cI cJ cZ cB : ClassId) (cO : ClassId) (h0 : Nat) :
    CV l D [(cI, .int), (cJ, .long), (cZ, .boolean), (cB, .byte), (cO, .object "LuckLinks$World")] yX6_init cX6_init 1 ({ frames := 1, cells := 0, slots := 0, locals := 20 } : Room) [.ref h0] [(h0, .inr (6, [.long (0 : Int64), .long (0 : Int64)]))] (fun (u : (Nat → Nat)) => match u with | u => (True)) (fun (u : (Nat → Nat)) => match u with | u => [(h0, .inr (6, [.long (0 : Int64), .long (0 : Int64)]))]) := by
  intro sz
  refine body_of (y := yX6_init) (cc := cX6_init) (maxL := 1) (ret := none) (rm := ({ frames := 1, cells := 0, slots := 0, locals := 20 } : Room)) (wc := [(h0, .inr (6, [.long (0 : Int64), .long (0 : Int64)]))]) (tys := [(cI, .int), (cJ, .long), (cZ, .boolean), (cB, .byte), (cO, .object "LuckLinks$World")]) (D := D) (sz := sz) (own := RX6) (av := [.ref h0]) (Qc := fun A => va_Qv (fun (u : (Nat → Nat)) => match u with | u => (True)) (fun u t => Aft D A ((fun (u : (Nat → Nat)) => match u with | u => [(h0, .inr (6, [.long (0 : Int64), .long (0 : Int64)]))]) u) t) A) (by decide) rfl (Nat.le_of_ble_eq_true rfl) (fun p e s m below meth c A ls C hr hlk hin X hl => ?_)
  have hx := C.1
  have hb := C.2.1
  have hown := C.2.2.2.1
  have hts := C.2.2.2.2.1
  have hl : lv_has ls 1 [(0, .ref h0)] := hl
  show W p l e _ s m _ below meth c s.heap [] 0 0 (MQ below (va_Qv (fun (u : (Nat → Nat)) => match u with | u => (True)) (fun u t => Aft D A ((fun (u : (Nat → Nat)) => match u with | u => [(h0, .inr (6, [.long (0 : Int64), .long (0 : Int64)]))]) u) t) A) ([.ref h0] : List Value).toArray s 0 0 A) (F0 m 0 ls [])
  have X : Wd D A s [(h0, .inr (6, [.long (0 : Int64), .long (0 : Int64)]))] s.heap [] := X
  obtain ⟨H, locs, eH, eL⟩ : ∃ H locs, H = s.heap ∧ locs = ([] : List Loc) := ⟨_, _, rfl, rfl⟩
  rw [← eH, ← eL] at X ⊢
  clear eH eL
  refine lv_aload_n hx hb dX6_init_0 rfl (lv_at hl 0 rfl) ?_
  refine x_objInit (own := RX6) C hl.1 k_6_7 k_1_10 k_1_11 dX6_init_1 (Nat.le_of_ble_eq_true rfl) (Nat.le_of_ble_eq_true rfl) ?_
  refine lv_aload_n hx hb dX6_init_4 rfl (lv_at hl 0 rfl) ?_
  refine lv_lconst (v := (0 : Int64)) hx hb dX6_init_5 (by decide) ?_
  refine x_put (own := RX6) (T := TX6) C X 0 rfl rfl 0 (by decide) k_6_8 rfl rfl rfl (ty := .long) (v := .long (0 : Int64)) (by decide +kernel) rfl rfl (Nat.le_of_ble_eq_true rfl) dX6_init_6 (fun H locs X => ?_)
  have X : Wd D A s [(h0, .inr (6, [.long (0 : Int64), .long (0 : Int64)]))] H locs := X
  refine lv_aload_n hx hb dX6_init_9 rfl (lv_at hl 0 rfl) ?_
  refine lv_lconst (v := (0 : Int64)) hx hb dX6_init_10 (by decide) ?_
  refine x_put (own := RX6) (T := TX6) C X 0 rfl rfl 1 (by decide) k_6_9 rfl rfl rfl (ty := .long) (v := .long (0 : Int64)) (by decide +kernel) rfl rfl (Nat.le_of_ble_eq_true rfl) dX6_init_11 (fun H locs X => ?_)
  have X : Wd D A s [(h0, .inr (6, [.long (0 : Int64), .long (0 : Int64)]))] H locs := X
  exact x_vret C X hr hlk (fun k => ([h0] : List Nat).getD k 0) [0] (by decide) rfl (trivial) (Nat.le_of_ble_eq_true rfl) (Nat.le_of_ble_eq_true rfl) dX6_init_14
set_option maxHeartbeats 4000000 in
set_option maxRecDepth 100000 in
theorem c_Reader_init (l : Launch) (D : va_G) (cI cJ cZ cB : ClassId) (cO : ClassId) (h0 : Nat) :
    CV l D [(cI, .int), (cJ, .long), (cZ, .boolean), (cB, .byte), (cO, .object "LuckLinks$World")] yX4_init cX4_init 1 ({ frames := 2, cells := 21, slots := 3324, locals := 43 } : Room) [.ref h0] [(h0, .inr (4, [.null, .null, .null, .null, .null, .int (0 : Int32), .int (0 : Int32), .int (0 : Int32), .null, .int (0 : Int32), .int (0 : Int32), .int (0 : Int32)]))] (fun (u : (Nat → Nat)) => match u with | u => (True)) (fun (u : (Nat → Nat)) => match u with | u => [(h0, .inr (4, [.ref (u 1), .ref (u 2), .ref (u 18), .ref (u 19), .ref (u 20), .int (0 : Int32), .int (0 : Int32), .int (0 : Int32), .ref (u 21), .int (0 : Int32), .int (0 : Int32), .int (0 : Int32)])), ((u 1), .inl (cB, 0, .inl (fun _ => (0 : Int32)))), ((u 2), .inr (3, [.int (0 : Int32), .ref (u 3), .ref (u 4), .ref (u 5), .ref (u 6), .ref (u 7), .ref (u 8), .ref (u 9), .int (0 : Int32), .ref (u 10), .ref (u 11), .ref (u 12), .int (0 : Int32), .ref (u 13), .ref (u 14), .ref (u 15), .ref (u 16), .int (0 : Int32), .ref (u 17)])), ((u 3), .inl (cI, 4, .inl (fun _ => (0 : Int32)))), ((u 4), .inl (cI, 4, .inl (fun _ => (0 : Int32)))), ((u 5), .inl (cI, 3, .inl (fun _ => (0 : Int32)))), ((u 6), .inl (cI, 21, .inl (fun _ => (0 : Int32)))), ((u 7), .inl (cI, 21, .inl (fun _ => (0 : Int32)))), ((u 8), .inl (cI, 40, .inl (fun _ => (-1 : Int32)))), ((u 9), .inl (cI, 41, .inl (fun _ => (1 : Int32)))), ((u 10), .inl (cI, 40, .inl (fun _ => (0 : Int32)))), ((u 11), .inl (cI, 40, .inl (fun _ => (0 : Int32)))), ((u 12), .inl (cI, 40, .inl (fun _ => (0 : Int32)))), ((u 13), .inl (cI, 40, .inl (fun _ => (0 : Int32)))), ((u 14), .inl (cI, 40, .inl (fun _ => (0 : Int32)))), ((u 15), .inl (cI, 40, .inl (fun _ => (0 : Int32)))), ((u 16), .inl (cI, 700, .inl (fun _ => (0 : Int32)))), ((u 17), .inl (cZ, 64, .inl (fun _ => (0 : Int32)))), ((u 18), .inl (cI, 701, .inl (fun _ => (0 : Int32)))), ((u 19), .inl (cI, 701, .inl (fun _ => (0 : Int32)))), ((u 20), .inl (cI, 701, .inl (fun _ => (0 : Int32)))), ((u 21), .inl (cI, 64, .inl (fun _ => (0 : Int32))))]) := by
  intro sz
  refine body_of (y := yX4_init) (cc := cX4_init) (maxL := 1) (ret := none) (rm := ({ frames := 2, cells := 21, slots := 3324, locals := 43 } : Room)) (wc := [(h0, .inr (4, [.null, .null, .null, .null, .null, .int (0 : Int32), .int (0 : Int32), .int (0 : Int32), .null, .int (0 : Int32), .int (0 : Int32), .int (0 : Int32)]))]) (tys := [(cI, .int), (cJ, .long), (cZ, .boolean), (cB, .byte), (cO, .object "LuckLinks$World")]) (D := D) (sz := sz) (own := RX4) (av := [.ref h0]) (Qc := fun A => va_Qv (fun (u : (Nat → Nat)) => match u with | u => (True)) (fun u t => Aft D A ((fun (u : (Nat → Nat)) => match u with | u => [(h0, .inr (4, [.ref (u 1), .ref (u 2), .ref (u 18), .ref (u 19), .ref (u 20), .int (0 : Int32), .int (0 : Int32), .int (0 : Int32), .ref (u 21), .int (0 : Int32), .int (0 : Int32), .int (0 : Int32)])), ((u 1), .inl (cB, 0, .inl (fun _ => (0 : Int32)))), ((u 2), .inr (3, [.int (0 : Int32), .ref (u 3), .ref (u 4), .ref (u 5), .ref (u 6), .ref (u 7), .ref (u 8), .ref (u 9), .int (0 : Int32), .ref (u 10), .ref (u 11), .ref (u 12), .int (0 : Int32), .ref (u 13), .ref (u 14), .ref (u 15), .ref (u 16), .int (0 : Int32), .ref (u 17)])), ((u 3), .inl (cI, 4, .inl (fun _ => (0 : Int32)))), ((u 4), .inl (cI, 4, .inl (fun _ => (0 : Int32)))), ((u 5), .inl (cI, 3, .inl (fun _ => (0 : Int32)))), ((u 6), .inl (cI, 21, .inl (fun _ => (0 : Int32)))), ((u 7), .inl (cI, 21, .inl (fun _ => (0 : Int32)))), ((u 8), .inl (cI, 40, .inl (fun _ => (-1 : Int32)))), ((u 9), .inl (cI, 41, .inl (fun _ => (1 : Int32)))), ((u 10), .inl (cI, 40, .inl (fun _ => (0 : Int32)))), ((u 11), .inl (cI, 40, .inl (fun _ => (0 : Int32)))), ((u 12), .inl (cI, 40, .inl (fun _ => (0 : Int32)))), ((u 13), .inl (cI, 40, .inl (fun _ => (0 : Int32)))), ((u 14), .inl (cI, 40, .inl (fun _ => (0 : Int32)))), ((u 15), .inl (cI, 40, .inl (fun _ => (0 : Int32)))), ((u 16), .inl (cI, 700, .inl (fun _ => (0 : Int32)))), ((u 17), .inl (cZ, 64, .inl (fun _ => (0 : Int32)))), ((u 18), .inl (cI, 701, .inl (fun _ => (0 : Int32)))), ((u 19), .inl (cI, 701, .inl (fun _ => (0 : Int32)))), ((u 20), .inl (cI, 701, .inl (fun _ => (0 : Int32)))), ((u 21), .inl (cI, 64, .inl (fun _ => (0 : Int32))))]) u) t) A) (by decide) rfl (Nat.le_of_ble_eq_true rfl) (fun p e s m below meth c A ls C hr hlk hin X hl => ?_)
  have hx := C.1
  have hb := C.2.1
  have hown := C.2.2.2.1
  have hts := C.2.2.2.2.1
  have hl : lv_has ls 1 [(0, .ref h0)] := hl
  show W p l e _ s m _ below meth c s.heap [] 0 0 (MQ below (va_Qv (fun (u : (Nat → Nat)) => match u with | u => (True)) (fun u t => Aft D A ((fun (u : (Nat → Nat)) => match u with | u => [(h0, .inr (4, [.ref (u 1), .ref (u 2), .ref (u 18), .ref (u 19), .ref (u 20), .int (0 : Int32), .int (0 : Int32), .int (0 : Int32), .ref (u 21), .int (0 : Int32), .int (0 : Int32), .int (0 : Int32)])), ((u 1), .inl (cB, 0, .inl (fun _ => (0 : Int32)))), ((u 2), .inr (3, [.int (0 : Int32), .ref (u 3), .ref (u 4), .ref (u 5), .ref (u 6), .ref (u 7), .ref (u 8), .ref (u 9), .int (0 : Int32), .ref (u 10), .ref (u 11), .ref (u 12), .int (0 : Int32), .ref (u 13), .ref (u 14), .ref (u 15), .ref (u 16), .int (0 : Int32), .ref (u 17)])), ((u 3), .inl (cI, 4, .inl (fun _ => (0 : Int32)))), ((u 4), .inl (cI, 4, .inl (fun _ => (0 : Int32)))), ((u 5), .inl (cI, 3, .inl (fun _ => (0 : Int32)))), ((u 6), .inl (cI, 21, .inl (fun _ => (0 : Int32)))), ((u 7), .inl (cI, 21, .inl (fun _ => (0 : Int32)))), ((u 8), .inl (cI, 40, .inl (fun _ => (-1 : Int32)))), ((u 9), .inl (cI, 41, .inl (fun _ => (1 : Int32)))), ((u 10), .inl (cI, 40, .inl (fun _ => (0 : Int32)))), ((u 11), .inl (cI, 40, .inl (fun _ => (0 : Int32)))), ((u 12), .inl (cI, 40, .inl (fun _ => (0 : Int32)))), ((u 13), .inl (cI, 40, .inl (fun _ => (0 : Int32)))), ((u 14), .inl (cI, 40, .inl (fun _ => (0 : Int32)))), ((u 15), .inl (cI, 40, .inl (fun _ => (0 : Int32)))), ((u 16), .inl (cI, 700, .inl (fun _ => (0 : Int32)))), ((u 17), .inl (cZ, 64, .inl (fun _ => (0 : Int32)))), ((u 18), .inl (cI, 701, .inl (fun _ => (0 : Int32)))), ((u 19), .inl (cI, 701, .inl (fun _ => (0 : Int32)))), ((u 20), .inl (cI, 701, .inl (fun _ => (0 : Int32)))), ((u 21), .inl (cI, 64, .inl (fun _ => (0 : Int32))))]) u) t) A) ([.ref h0] : List Value).toArray s 21 3324 A) (F0 m 0 ls [])
  have X : Wd D A s [(h0, .inr (4, [.null, .null, .null, .null, .null, .int (0 : Int32), .int (0 : Int32), .int (0 : Int32), .null, .int (0 : Int32), .int (0 : Int32), .int (0 : Int32)]))] s.heap [] := X
  obtain ⟨H, locs, eH, eL⟩ : ∃ H locs, H = s.heap ∧ locs = ([] : List Loc) := ⟨_, _, rfl, rfl⟩
  rw [← eH, ← eL] at X ⊢
  clear eH eL
  refine lv_aload_n hx hb dX4_init_0 rfl (lv_at hl 0 rfl) ?_
  refine x_objInit (own := RX4) C hl.1 k_4_12 k_1_10 k_1_11 dX4_init_1 (Nat.le_of_ble_eq_true rfl) (Nat.le_of_ble_eq_true rfl) ?_
  refine lv_aload_n hx hb dX4_init_4 rfl (lv_at hl 0 rfl) ?_
  refine lv_iconst (v := (0 : Int32)) hx hb dX4_init_5 (by decide) ?_
  refine x_newa (own := RX4) (atype := .byte) (ty := .byte) (N' := 0) (a0 := (0, .inl (fun _ => (0 : Int32)))) C X rfl k_1_18 3 rfl rfl (fun _ => rfl) (by decide) (by decide) (Nat.le_of_ble_eq_true rfl) (Nat.le_of_ble_eq_true rfl) (Nat.le_of_ble_eq_true rfl) dX4_init_6 (fun q_1 H X => ?_)
  have X : Wd D A s [(h0, .inr (4, [.null, .null, .null, .null, .null, .int (0 : Int32), .int (0 : Int32), .int (0 : Int32), .null, .int (0 : Int32), .int (0 : Int32), .int (0 : Int32)])), (q_1, .inl (cB, 0, .inl (fun _ => (0 : Int32))))] H locs := X
  refine W.widen (k := 1) (n := 0) (Nat.le_of_ble_eq_true rfl) (Nat.le_of_ble_eq_true rfl) ?_
  refine x_put (own := RX4) (T := TX4) C X 0 rfl rfl 0 (by decide) k_4_13 rfl rfl rfl (ty := (tyX4 0)) (v := .ref q_1) (by decide +kernel) rfl rfl (Nat.le_of_ble_eq_true rfl) dX4_init_8 (fun H locs X => ?_)
  have X : Wd D A s [(h0, .inr (4, [.ref q_1, .null, .null, .null, .null, .int (0 : Int32), .int (0 : Int32), .int (0 : Int32), .null, .int (0 : Int32), .int (0 : Int32), .int (0 : Int32)])), (q_1, .inl (cB, 0, .inl (fun _ => (0 : Int32))))] H locs := X
  refine lv_aload_n hx hb dX4_init_11 rfl (lv_at hl 0 rfl) ?_
  refine x_new (own := RX4) (ci := 3) (fs := [.int (0 : Int32), .null, .null, .null, .null, .null, .null, .null, .int (0 : Int32), .null, .null, .null, .int (0 : Int32), .null, .null, .null, .null, .int (0 : Int32), .null]) C X rfl tyX3 tyX3_ok k_4_14 k_2_2 k_2_3 (fun j hj => by match j, hj with | 0, _ => rfl | 1, _ => rfl | 2, _ => rfl | 3, _ => rfl | 4, _ => rfl | 5, _ => rfl | 6, _ => rfl | 7, _ => rfl | 8, _ => rfl | 9, _ => rfl | 10, _ => rfl | 11, _ => rfl | 12, _ => rfl | 13, _ => rfl | 14, _ => rfl | 15, _ => rfl | 16, _ => rfl | 17, _ => rfl | 18, _ => rfl | j + 19, h => exact absurd h (by omega)) (Nat.le_of_ble_eq_true rfl) (Nat.le_of_ble_eq_true rfl) dX4_init_12 (fun q_2 H X => ?_)
  have X : Wd D A s [(h0, .inr (4, [.ref q_1, .null, .null, .null, .null, .int (0 : Int32), .int (0 : Int32), .int (0 : Int32), .null, .int (0 : Int32), .int (0 : Int32), .int (0 : Int32)])), (q_1, .inl (cB, 0, .inl (fun _ => (0 : Int32)))), (q_2, .inr (3, [.int (0 : Int32), .null, .null, .null, .null, .null, .null, .null, .int (0 : Int32), .null, .null, .null, .int (0 : Int32), .null, .null, .null, .null, .int (0 : Int32), .null]))] H locs := X
  refine W.widen (k := 2) (n := 19) (Nat.le_of_ble_eq_true rfl) (Nat.le_of_ble_eq_true rfl) ?_
  refine lv_dup hx hb dX4_init_15 rfl ?_
  refine x_cI (own := RX4) (wr := [(h0, .inr (4, [.ref q_1, .null, .null, .null, .null, .int (0 : Int32), .int (0 : Int32), .int (0 : Int32), .null, .int (0 : Int32), .int (0 : Int32), .int (0 : Int32)])), (q_1, .inl (cB, 0, .inl (fun _ => (0 : Int32))))]) (As := []) C X hl.1 (c_Law_init l D cI cJ cZ cB cO q_2) [2] [0, 1] ⟨rfl, rfl, by decide, by decide, by decide⟩ k_5_2 k_5_3 k_2_3 k_5_4 rfl (n := 0) (by decide +kernel) ⟨Nat.le_of_ble_eq_true rfl, Nat.le_of_ble_eq_true rfl⟩ rfl rfl (Nat.le_of_ble_eq_true rfl) dX4_init_16 ⟨Nat.le_of_ble_eq_true rfl, Nat.le_of_ble_eq_true rfl⟩ (fun u_3 H locs w_5 X => ?_)
  have X : Wd D A s [(h0, .inr (4, [.ref q_1, .null, .null, .null, .null, .int (0 : Int32), .int (0 : Int32), .int (0 : Int32), .null, .int (0 : Int32), .int (0 : Int32), .int (0 : Int32)])), (q_1, .inl (cB, 0, .inl (fun _ => (0 : Int32)))), (q_2, .inr (3, [.int (0 : Int32), .ref (u_3 1), .ref (u_3 2), .ref (u_3 3), .ref (u_3 4), .ref (u_3 5), .ref (u_3 6), .ref (u_3 7), .int (0 : Int32), .ref (u_3 8), .ref (u_3 9), .ref (u_3 10), .int (0 : Int32), .ref (u_3 11), .ref (u_3 12), .ref (u_3 13), .ref (u_3 14), .int (0 : Int32), .ref (u_3 15)])), ((u_3 1), .inl (cI, 4, .inl (fun _ => (0 : Int32)))), ((u_3 2), .inl (cI, 4, .inl (fun _ => (0 : Int32)))), ((u_3 3), .inl (cI, 3, .inl (fun _ => (0 : Int32)))), ((u_3 4), .inl (cI, 21, .inl (fun _ => (0 : Int32)))), ((u_3 5), .inl (cI, 21, .inl (fun _ => (0 : Int32)))), ((u_3 6), .inl (cI, 40, .inl (fun _ => (-1 : Int32)))), ((u_3 7), .inl (cI, 41, .inl (fun _ => (1 : Int32)))), ((u_3 8), .inl (cI, 40, .inl (fun _ => (0 : Int32)))), ((u_3 9), .inl (cI, 40, .inl (fun _ => (0 : Int32)))), ((u_3 10), .inl (cI, 40, .inl (fun _ => (0 : Int32)))), ((u_3 11), .inl (cI, 40, .inl (fun _ => (0 : Int32)))), ((u_3 12), .inl (cI, 40, .inl (fun _ => (0 : Int32)))), ((u_3 13), .inl (cI, 40, .inl (fun _ => (0 : Int32)))), ((u_3 14), .inl (cI, 700, .inl (fun _ => (0 : Int32)))), ((u_3 15), .inl (cZ, 64, .inl (fun _ => (0 : Int32))))] H locs := X
  refine W.widen (k := 17) (n := 1157) (Nat.le_of_ble_eq_true rfl) (Nat.le_of_ble_eq_true rfl) ?_
  refine x_put (own := RX4) (T := TX4) C X 0 rfl rfl 1 (by decide) k_4_15 rfl rfl rfl (ty := (tyX4 1)) (v := .ref q_2) (by decide +kernel) rfl rfl (Nat.le_of_ble_eq_true rfl) dX4_init_19 (fun H locs X => ?_)
  have X : Wd D A s [(h0, .inr (4, [.ref q_1, .ref q_2, .null, .null, .null, .int (0 : Int32), .int (0 : Int32), .int (0 : Int32), .null, .int (0 : Int32), .int (0 : Int32), .int (0 : Int32)])), (q_1, .inl (cB, 0, .inl (fun _ => (0 : Int32)))), (q_2, .inr (3, [.int (0 : Int32), .ref (u_3 1), .ref (u_3 2), .ref (u_3 3), .ref (u_3 4), .ref (u_3 5), .ref (u_3 6), .ref (u_3 7), .int (0 : Int32), .ref (u_3 8), .ref (u_3 9), .ref (u_3 10), .int (0 : Int32), .ref (u_3 11), .ref (u_3 12), .ref (u_3 13), .ref (u_3 14), .int (0 : Int32), .ref (u_3 15)])), ((u_3 1), .inl (cI, 4, .inl (fun _ => (0 : Int32)))), ((u_3 2), .inl (cI, 4, .inl (fun _ => (0 : Int32)))), ((u_3 3), .inl (cI, 3, .inl (fun _ => (0 : Int32)))), ((u_3 4), .inl (cI, 21, .inl (fun _ => (0 : Int32)))), ((u_3 5), .inl (cI, 21, .inl (fun _ => (0 : Int32)))), ((u_3 6), .inl (cI, 40, .inl (fun _ => (-1 : Int32)))), ((u_3 7), .inl (cI, 41, .inl (fun _ => (1 : Int32)))), ((u_3 8), .inl (cI, 40, .inl (fun _ => (0 : Int32)))), ((u_3 9), .inl (cI, 40, .inl (fun _ => (0 : Int32)))), ((u_3 10), .inl (cI, 40, .inl (fun _ => (0 : Int32)))), ((u_3 11), .inl (cI, 40, .inl (fun _ => (0 : Int32)))), ((u_3 12), .inl (cI, 40, .inl (fun _ => (0 : Int32)))), ((u_3 13), .inl (cI, 40, .inl (fun _ => (0 : Int32)))), ((u_3 14), .inl (cI, 700, .inl (fun _ => (0 : Int32)))), ((u_3 15), .inl (cZ, 64, .inl (fun _ => (0 : Int32))))] H locs := X
  refine lv_aload_n hx hb dX4_init_22 rfl (lv_at hl 0 rfl) ?_
  refine lv_sipush (v := (701 : Int32)) hx hb dX4_init_23 (by decide) ?_
  refine x_newa (own := RX4) (atype := .int) (ty := .int) (N' := 701) (a0 := (701, .inl (fun _ => (0 : Int32)))) C X rfl k_2_7 0 rfl rfl (fun _ => rfl) (by decide) (by decide) (Nat.le_of_ble_eq_true rfl) (Nat.le_of_ble_eq_true rfl) (Nat.le_of_ble_eq_true rfl) dX4_init_26 (fun q_6 H X => ?_)
  have X : Wd D A s [(h0, .inr (4, [.ref q_1, .ref q_2, .null, .null, .null, .int (0 : Int32), .int (0 : Int32), .int (0 : Int32), .null, .int (0 : Int32), .int (0 : Int32), .int (0 : Int32)])), (q_1, .inl (cB, 0, .inl (fun _ => (0 : Int32)))), (q_2, .inr (3, [.int (0 : Int32), .ref (u_3 1), .ref (u_3 2), .ref (u_3 3), .ref (u_3 4), .ref (u_3 5), .ref (u_3 6), .ref (u_3 7), .int (0 : Int32), .ref (u_3 8), .ref (u_3 9), .ref (u_3 10), .int (0 : Int32), .ref (u_3 11), .ref (u_3 12), .ref (u_3 13), .ref (u_3 14), .int (0 : Int32), .ref (u_3 15)])), ((u_3 1), .inl (cI, 4, .inl (fun _ => (0 : Int32)))), ((u_3 2), .inl (cI, 4, .inl (fun _ => (0 : Int32)))), ((u_3 3), .inl (cI, 3, .inl (fun _ => (0 : Int32)))), ((u_3 4), .inl (cI, 21, .inl (fun _ => (0 : Int32)))), ((u_3 5), .inl (cI, 21, .inl (fun _ => (0 : Int32)))), ((u_3 6), .inl (cI, 40, .inl (fun _ => (-1 : Int32)))), ((u_3 7), .inl (cI, 41, .inl (fun _ => (1 : Int32)))), ((u_3 8), .inl (cI, 40, .inl (fun _ => (0 : Int32)))), ((u_3 9), .inl (cI, 40, .inl (fun _ => (0 : Int32)))), ((u_3 10), .inl (cI, 40, .inl (fun _ => (0 : Int32)))), ((u_3 11), .inl (cI, 40, .inl (fun _ => (0 : Int32)))), ((u_3 12), .inl (cI, 40, .inl (fun _ => (0 : Int32)))), ((u_3 13), .inl (cI, 40, .inl (fun _ => (0 : Int32)))), ((u_3 14), .inl (cI, 700, .inl (fun _ => (0 : Int32)))), ((u_3 15), .inl (cZ, 64, .inl (fun _ => (0 : Int32)))), (q_6, .inl (cI, 701, .inl (fun _ => (0 : Int32))))] H locs := X
  refine W.widen (k := 18) (n := 1858) (Nat.le_of_ble_eq_true rfl) (Nat.le_of_ble_eq_true rfl) ?_
  refine x_putF (own := RX4) (T := TX4) C X 0 rfl rfl 2 (by decide) k_4_16 rfl rfl rfl hin rfl (ty := (tyX4 2)) (v := .ref q_6) (by decide +kernel) rfl rfl (Nat.le_of_ble_eq_true rfl) dX4_init_28 (fun H locs X => ?_)
  have X : Wd D A s [(h0, .inr (4, [.ref q_1, .ref q_2, .ref q_6, .null, .null, .int (0 : Int32), .int (0 : Int32), .int (0 : Int32), .null, .int (0 : Int32), .int (0 : Int32), .int (0 : Int32)])), (q_1, .inl (cB, 0, .inl (fun _ => (0 : Int32)))), (q_2, .inr (3, [.int (0 : Int32), .ref (u_3 1), .ref (u_3 2), .ref (u_3 3), .ref (u_3 4), .ref (u_3 5), .ref (u_3 6), .ref (u_3 7), .int (0 : Int32), .ref (u_3 8), .ref (u_3 9), .ref (u_3 10), .int (0 : Int32), .ref (u_3 11), .ref (u_3 12), .ref (u_3 13), .ref (u_3 14), .int (0 : Int32), .ref (u_3 15)])), ((u_3 1), .inl (cI, 4, .inl (fun _ => (0 : Int32)))), ((u_3 2), .inl (cI, 4, .inl (fun _ => (0 : Int32)))), ((u_3 3), .inl (cI, 3, .inl (fun _ => (0 : Int32)))), ((u_3 4), .inl (cI, 21, .inl (fun _ => (0 : Int32)))), ((u_3 5), .inl (cI, 21, .inl (fun _ => (0 : Int32)))), ((u_3 6), .inl (cI, 40, .inl (fun _ => (-1 : Int32)))), ((u_3 7), .inl (cI, 41, .inl (fun _ => (1 : Int32)))), ((u_3 8), .inl (cI, 40, .inl (fun _ => (0 : Int32)))), ((u_3 9), .inl (cI, 40, .inl (fun _ => (0 : Int32)))), ((u_3 10), .inl (cI, 40, .inl (fun _ => (0 : Int32)))), ((u_3 11), .inl (cI, 40, .inl (fun _ => (0 : Int32)))), ((u_3 12), .inl (cI, 40, .inl (fun _ => (0 : Int32)))), ((u_3 13), .inl (cI, 40, .inl (fun _ => (0 : Int32)))), ((u_3 14), .inl (cI, 700, .inl (fun _ => (0 : Int32)))), ((u_3 15), .inl (cZ, 64, .inl (fun _ => (0 : Int32)))), (q_6, .inl (cI, 701, .inl (fun _ => (0 : Int32))))] H locs := X
  refine lv_aload_n hx hb dX4_init_31 rfl (lv_at hl 0 rfl) ?_
  refine lv_sipush (v := (701 : Int32)) hx hb dX4_init_32 (by decide) ?_
  refine x_newa (own := RX4) (atype := .int) (ty := .int) (N' := 701) (a0 := (701, .inl (fun _ => (0 : Int32)))) C X rfl k_2_7 0 rfl rfl (fun _ => rfl) (by decide) (by decide) (Nat.le_of_ble_eq_true rfl) (Nat.le_of_ble_eq_true rfl) (Nat.le_of_ble_eq_true rfl) dX4_init_35 (fun q_7 H X => ?_)
  have X : Wd D A s [(h0, .inr (4, [.ref q_1, .ref q_2, .ref q_6, .null, .null, .int (0 : Int32), .int (0 : Int32), .int (0 : Int32), .null, .int (0 : Int32), .int (0 : Int32), .int (0 : Int32)])), (q_1, .inl (cB, 0, .inl (fun _ => (0 : Int32)))), (q_2, .inr (3, [.int (0 : Int32), .ref (u_3 1), .ref (u_3 2), .ref (u_3 3), .ref (u_3 4), .ref (u_3 5), .ref (u_3 6), .ref (u_3 7), .int (0 : Int32), .ref (u_3 8), .ref (u_3 9), .ref (u_3 10), .int (0 : Int32), .ref (u_3 11), .ref (u_3 12), .ref (u_3 13), .ref (u_3 14), .int (0 : Int32), .ref (u_3 15)])), ((u_3 1), .inl (cI, 4, .inl (fun _ => (0 : Int32)))), ((u_3 2), .inl (cI, 4, .inl (fun _ => (0 : Int32)))), ((u_3 3), .inl (cI, 3, .inl (fun _ => (0 : Int32)))), ((u_3 4), .inl (cI, 21, .inl (fun _ => (0 : Int32)))), ((u_3 5), .inl (cI, 21, .inl (fun _ => (0 : Int32)))), ((u_3 6), .inl (cI, 40, .inl (fun _ => (-1 : Int32)))), ((u_3 7), .inl (cI, 41, .inl (fun _ => (1 : Int32)))), ((u_3 8), .inl (cI, 40, .inl (fun _ => (0 : Int32)))), ((u_3 9), .inl (cI, 40, .inl (fun _ => (0 : Int32)))), ((u_3 10), .inl (cI, 40, .inl (fun _ => (0 : Int32)))), ((u_3 11), .inl (cI, 40, .inl (fun _ => (0 : Int32)))), ((u_3 12), .inl (cI, 40, .inl (fun _ => (0 : Int32)))), ((u_3 13), .inl (cI, 40, .inl (fun _ => (0 : Int32)))), ((u_3 14), .inl (cI, 700, .inl (fun _ => (0 : Int32)))), ((u_3 15), .inl (cZ, 64, .inl (fun _ => (0 : Int32)))), (q_6, .inl (cI, 701, .inl (fun _ => (0 : Int32)))), (q_7, .inl (cI, 701, .inl (fun _ => (0 : Int32))))] H locs := X
  refine W.widen (k := 19) (n := 2559) (Nat.le_of_ble_eq_true rfl) (Nat.le_of_ble_eq_true rfl) ?_
  refine x_putF (own := RX4) (T := TX4) C X 0 rfl rfl 3 (by decide) k_4_17 rfl rfl rfl hin rfl (ty := (tyX4 3)) (v := .ref q_7) (by decide +kernel) rfl rfl (Nat.le_of_ble_eq_true rfl) dX4_init_37 (fun H locs X => ?_)
  have X : Wd D A s [(h0, .inr (4, [.ref q_1, .ref q_2, .ref q_6, .ref q_7, .null, .int (0 : Int32), .int (0 : Int32), .int (0 : Int32), .null, .int (0 : Int32), .int (0 : Int32), .int (0 : Int32)])), (q_1, .inl (cB, 0, .inl (fun _ => (0 : Int32)))), (q_2, .inr (3, [.int (0 : Int32), .ref (u_3 1), .ref (u_3 2), .ref (u_3 3), .ref (u_3 4), .ref (u_3 5), .ref (u_3 6), .ref (u_3 7), .int (0 : Int32), .ref (u_3 8), .ref (u_3 9), .ref (u_3 10), .int (0 : Int32), .ref (u_3 11), .ref (u_3 12), .ref (u_3 13), .ref (u_3 14), .int (0 : Int32), .ref (u_3 15)])), ((u_3 1), .inl (cI, 4, .inl (fun _ => (0 : Int32)))), ((u_3 2), .inl (cI, 4, .inl (fun _ => (0 : Int32)))), ((u_3 3), .inl (cI, 3, .inl (fun _ => (0 : Int32)))), ((u_3 4), .inl (cI, 21, .inl (fun _ => (0 : Int32)))), ((u_3 5), .inl (cI, 21, .inl (fun _ => (0 : Int32)))), ((u_3 6), .inl (cI, 40, .inl (fun _ => (-1 : Int32)))), ((u_3 7), .inl (cI, 41, .inl (fun _ => (1 : Int32)))), ((u_3 8), .inl (cI, 40, .inl (fun _ => (0 : Int32)))), ((u_3 9), .inl (cI, 40, .inl (fun _ => (0 : Int32)))), ((u_3 10), .inl (cI, 40, .inl (fun _ => (0 : Int32)))), ((u_3 11), .inl (cI, 40, .inl (fun _ => (0 : Int32)))), ((u_3 12), .inl (cI, 40, .inl (fun _ => (0 : Int32)))), ((u_3 13), .inl (cI, 40, .inl (fun _ => (0 : Int32)))), ((u_3 14), .inl (cI, 700, .inl (fun _ => (0 : Int32)))), ((u_3 15), .inl (cZ, 64, .inl (fun _ => (0 : Int32)))), (q_6, .inl (cI, 701, .inl (fun _ => (0 : Int32)))), (q_7, .inl (cI, 701, .inl (fun _ => (0 : Int32))))] H locs := X
  refine lv_aload_n hx hb dX4_init_40 rfl (lv_at hl 0 rfl) ?_
  refine lv_sipush (v := (701 : Int32)) hx hb dX4_init_41 (by decide) ?_
  refine x_newa (own := RX4) (atype := .int) (ty := .int) (N' := 701) (a0 := (701, .inl (fun _ => (0 : Int32)))) C X rfl k_2_7 0 rfl rfl (fun _ => rfl) (by decide) (by decide) (Nat.le_of_ble_eq_true rfl) (Nat.le_of_ble_eq_true rfl) (Nat.le_of_ble_eq_true rfl) dX4_init_44 (fun q_8 H X => ?_)
  have X : Wd D A s [(h0, .inr (4, [.ref q_1, .ref q_2, .ref q_6, .ref q_7, .null, .int (0 : Int32), .int (0 : Int32), .int (0 : Int32), .null, .int (0 : Int32), .int (0 : Int32), .int (0 : Int32)])), (q_1, .inl (cB, 0, .inl (fun _ => (0 : Int32)))), (q_2, .inr (3, [.int (0 : Int32), .ref (u_3 1), .ref (u_3 2), .ref (u_3 3), .ref (u_3 4), .ref (u_3 5), .ref (u_3 6), .ref (u_3 7), .int (0 : Int32), .ref (u_3 8), .ref (u_3 9), .ref (u_3 10), .int (0 : Int32), .ref (u_3 11), .ref (u_3 12), .ref (u_3 13), .ref (u_3 14), .int (0 : Int32), .ref (u_3 15)])), ((u_3 1), .inl (cI, 4, .inl (fun _ => (0 : Int32)))), ((u_3 2), .inl (cI, 4, .inl (fun _ => (0 : Int32)))), ((u_3 3), .inl (cI, 3, .inl (fun _ => (0 : Int32)))), ((u_3 4), .inl (cI, 21, .inl (fun _ => (0 : Int32)))), ((u_3 5), .inl (cI, 21, .inl (fun _ => (0 : Int32)))), ((u_3 6), .inl (cI, 40, .inl (fun _ => (-1 : Int32)))), ((u_3 7), .inl (cI, 41, .inl (fun _ => (1 : Int32)))), ((u_3 8), .inl (cI, 40, .inl (fun _ => (0 : Int32)))), ((u_3 9), .inl (cI, 40, .inl (fun _ => (0 : Int32)))), ((u_3 10), .inl (cI, 40, .inl (fun _ => (0 : Int32)))), ((u_3 11), .inl (cI, 40, .inl (fun _ => (0 : Int32)))), ((u_3 12), .inl (cI, 40, .inl (fun _ => (0 : Int32)))), ((u_3 13), .inl (cI, 40, .inl (fun _ => (0 : Int32)))), ((u_3 14), .inl (cI, 700, .inl (fun _ => (0 : Int32)))), ((u_3 15), .inl (cZ, 64, .inl (fun _ => (0 : Int32)))), (q_6, .inl (cI, 701, .inl (fun _ => (0 : Int32)))), (q_7, .inl (cI, 701, .inl (fun _ => (0 : Int32)))), (q_8, .inl (cI, 701, .inl (fun _ => (0 : Int32))))] H locs := X
  refine W.widen (k := 20) (n := 3260) (Nat.le_of_ble_eq_true rfl) (Nat.le_of_ble_eq_true rfl) ?_
  refine x_putF (own := RX4) (T := TX4) C X 0 rfl rfl 4 (by decide) k_4_18 rfl rfl rfl hin rfl (ty := (tyX4 4)) (v := .ref q_8) (by decide +kernel) rfl rfl (Nat.le_of_ble_eq_true rfl) dX4_init_46 (fun H locs X => ?_)
  have X : Wd D A s [(h0, .inr (4, [.ref q_1, .ref q_2, .ref q_6, .ref q_7, .ref q_8, .int (0 : Int32), .int (0 : Int32), .int (0 : Int32), .null, .int (0 : Int32), .int (0 : Int32), .int (0 : Int32)])), (q_1, .inl (cB, 0, .inl (fun _ => (0 : Int32)))), (q_2, .inr (3, [.int (0 : Int32), .ref (u_3 1), .ref (u_3 2), .ref (u_3 3), .ref (u_3 4), .ref (u_3 5), .ref (u_3 6), .ref (u_3 7), .int (0 : Int32), .ref (u_3 8), .ref (u_3 9), .ref (u_3 10), .int (0 : Int32), .ref (u_3 11), .ref (u_3 12), .ref (u_3 13), .ref (u_3 14), .int (0 : Int32), .ref (u_3 15)])), ((u_3 1), .inl (cI, 4, .inl (fun _ => (0 : Int32)))), ((u_3 2), .inl (cI, 4, .inl (fun _ => (0 : Int32)))), ((u_3 3), .inl (cI, 3, .inl (fun _ => (0 : Int32)))), ((u_3 4), .inl (cI, 21, .inl (fun _ => (0 : Int32)))), ((u_3 5), .inl (cI, 21, .inl (fun _ => (0 : Int32)))), ((u_3 6), .inl (cI, 40, .inl (fun _ => (-1 : Int32)))), ((u_3 7), .inl (cI, 41, .inl (fun _ => (1 : Int32)))), ((u_3 8), .inl (cI, 40, .inl (fun _ => (0 : Int32)))), ((u_3 9), .inl (cI, 40, .inl (fun _ => (0 : Int32)))), ((u_3 10), .inl (cI, 40, .inl (fun _ => (0 : Int32)))), ((u_3 11), .inl (cI, 40, .inl (fun _ => (0 : Int32)))), ((u_3 12), .inl (cI, 40, .inl (fun _ => (0 : Int32)))), ((u_3 13), .inl (cI, 40, .inl (fun _ => (0 : Int32)))), ((u_3 14), .inl (cI, 700, .inl (fun _ => (0 : Int32)))), ((u_3 15), .inl (cZ, 64, .inl (fun _ => (0 : Int32)))), (q_6, .inl (cI, 701, .inl (fun _ => (0 : Int32)))), (q_7, .inl (cI, 701, .inl (fun _ => (0 : Int32)))), (q_8, .inl (cI, 701, .inl (fun _ => (0 : Int32))))] H locs := X
  refine lv_aload_n hx hb dX4_init_49 rfl (lv_at hl 0 rfl) ?_
  refine lv_iconst (v := (0 : Int32)) hx hb dX4_init_50 (by decide) ?_
  refine x_put (own := RX4) (T := TX4) C X 0 rfl rfl 5 (by decide) k_4_19 rfl rfl rfl (ty := .int) (v := .int (0 : Int32)) (by decide +kernel) rfl rfl (Nat.le_of_ble_eq_true rfl) dX4_init_51 (fun H locs X => ?_)
  have X : Wd D A s [(h0, .inr (4, [.ref q_1, .ref q_2, .ref q_6, .ref q_7, .ref q_8, .int (0 : Int32), .int (0 : Int32), .int (0 : Int32), .null, .int (0 : Int32), .int (0 : Int32), .int (0 : Int32)])), (q_1, .inl (cB, 0, .inl (fun _ => (0 : Int32)))), (q_2, .inr (3, [.int (0 : Int32), .ref (u_3 1), .ref (u_3 2), .ref (u_3 3), .ref (u_3 4), .ref (u_3 5), .ref (u_3 6), .ref (u_3 7), .int (0 : Int32), .ref (u_3 8), .ref (u_3 9), .ref (u_3 10), .int (0 : Int32), .ref (u_3 11), .ref (u_3 12), .ref (u_3 13), .ref (u_3 14), .int (0 : Int32), .ref (u_3 15)])), ((u_3 1), .inl (cI, 4, .inl (fun _ => (0 : Int32)))), ((u_3 2), .inl (cI, 4, .inl (fun _ => (0 : Int32)))), ((u_3 3), .inl (cI, 3, .inl (fun _ => (0 : Int32)))), ((u_3 4), .inl (cI, 21, .inl (fun _ => (0 : Int32)))), ((u_3 5), .inl (cI, 21, .inl (fun _ => (0 : Int32)))), ((u_3 6), .inl (cI, 40, .inl (fun _ => (-1 : Int32)))), ((u_3 7), .inl (cI, 41, .inl (fun _ => (1 : Int32)))), ((u_3 8), .inl (cI, 40, .inl (fun _ => (0 : Int32)))), ((u_3 9), .inl (cI, 40, .inl (fun _ => (0 : Int32)))), ((u_3 10), .inl (cI, 40, .inl (fun _ => (0 : Int32)))), ((u_3 11), .inl (cI, 40, .inl (fun _ => (0 : Int32)))), ((u_3 12), .inl (cI, 40, .inl (fun _ => (0 : Int32)))), ((u_3 13), .inl (cI, 40, .inl (fun _ => (0 : Int32)))), ((u_3 14), .inl (cI, 700, .inl (fun _ => (0 : Int32)))), ((u_3 15), .inl (cZ, 64, .inl (fun _ => (0 : Int32)))), (q_6, .inl (cI, 701, .inl (fun _ => (0 : Int32)))), (q_7, .inl (cI, 701, .inl (fun _ => (0 : Int32)))), (q_8, .inl (cI, 701, .inl (fun _ => (0 : Int32))))] H locs := X
  refine lv_aload_n hx hb dX4_init_54 rfl (lv_at hl 0 rfl) ?_
  refine lv_iconst (v := (0 : Int32)) hx hb dX4_init_55 (by decide) ?_
  refine x_put (own := RX4) (T := TX4) C X 0 rfl rfl 6 (by decide) k_4_20 rfl rfl rfl (ty := .int) (v := .int (0 : Int32)) (by decide +kernel) rfl rfl (Nat.le_of_ble_eq_true rfl) dX4_init_56 (fun H locs X => ?_)
  have X : Wd D A s [(h0, .inr (4, [.ref q_1, .ref q_2, .ref q_6, .ref q_7, .ref q_8, .int (0 : Int32), .int (0 : Int32), .int (0 : Int32), .null, .int (0 : Int32), .int (0 : Int32), .int (0 : Int32)])), (q_1, .inl (cB, 0, .inl (fun _ => (0 : Int32)))), (q_2, .inr (3, [.int (0 : Int32), .ref (u_3 1), .ref (u_3 2), .ref (u_3 3), .ref (u_3 4), .ref (u_3 5), .ref (u_3 6), .ref (u_3 7), .int (0 : Int32), .ref (u_3 8), .ref (u_3 9), .ref (u_3 10), .int (0 : Int32), .ref (u_3 11), .ref (u_3 12), .ref (u_3 13), .ref (u_3 14), .int (0 : Int32), .ref (u_3 15)])), ((u_3 1), .inl (cI, 4, .inl (fun _ => (0 : Int32)))), ((u_3 2), .inl (cI, 4, .inl (fun _ => (0 : Int32)))), ((u_3 3), .inl (cI, 3, .inl (fun _ => (0 : Int32)))), ((u_3 4), .inl (cI, 21, .inl (fun _ => (0 : Int32)))), ((u_3 5), .inl (cI, 21, .inl (fun _ => (0 : Int32)))), ((u_3 6), .inl (cI, 40, .inl (fun _ => (-1 : Int32)))), ((u_3 7), .inl (cI, 41, .inl (fun _ => (1 : Int32)))), ((u_3 8), .inl (cI, 40, .inl (fun _ => (0 : Int32)))), ((u_3 9), .inl (cI, 40, .inl (fun _ => (0 : Int32)))), ((u_3 10), .inl (cI, 40, .inl (fun _ => (0 : Int32)))), ((u_3 11), .inl (cI, 40, .inl (fun _ => (0 : Int32)))), ((u_3 12), .inl (cI, 40, .inl (fun _ => (0 : Int32)))), ((u_3 13), .inl (cI, 40, .inl (fun _ => (0 : Int32)))), ((u_3 14), .inl (cI, 700, .inl (fun _ => (0 : Int32)))), ((u_3 15), .inl (cZ, 64, .inl (fun _ => (0 : Int32)))), (q_6, .inl (cI, 701, .inl (fun _ => (0 : Int32)))), (q_7, .inl (cI, 701, .inl (fun _ => (0 : Int32)))), (q_8, .inl (cI, 701, .inl (fun _ => (0 : Int32))))] H locs := X
  refine lv_aload_n hx hb dX4_init_59 rfl (lv_at hl 0 rfl) ?_
  refine lv_iconst (v := (0 : Int32)) hx hb dX4_init_60 (by decide) ?_
  refine x_put (own := RX4) (T := TX4) C X 0 rfl rfl 7 (by decide) k_4_21 rfl rfl rfl (ty := .int) (v := .int (0 : Int32)) (by decide +kernel) rfl rfl (Nat.le_of_ble_eq_true rfl) dX4_init_61 (fun H locs X => ?_)
  have X : Wd D A s [(h0, .inr (4, [.ref q_1, .ref q_2, .ref q_6, .ref q_7, .ref q_8, .int (0 : Int32), .int (0 : Int32), .int (0 : Int32), .null, .int (0 : Int32), .int (0 : Int32), .int (0 : Int32)])), (q_1, .inl (cB, 0, .inl (fun _ => (0 : Int32)))), (q_2, .inr (3, [.int (0 : Int32), .ref (u_3 1), .ref (u_3 2), .ref (u_3 3), .ref (u_3 4), .ref (u_3 5), .ref (u_3 6), .ref (u_3 7), .int (0 : Int32), .ref (u_3 8), .ref (u_3 9), .ref (u_3 10), .int (0 : Int32), .ref (u_3 11), .ref (u_3 12), .ref (u_3 13), .ref (u_3 14), .int (0 : Int32), .ref (u_3 15)])), ((u_3 1), .inl (cI, 4, .inl (fun _ => (0 : Int32)))), ((u_3 2), .inl (cI, 4, .inl (fun _ => (0 : Int32)))), ((u_3 3), .inl (cI, 3, .inl (fun _ => (0 : Int32)))), ((u_3 4), .inl (cI, 21, .inl (fun _ => (0 : Int32)))), ((u_3 5), .inl (cI, 21, .inl (fun _ => (0 : Int32)))), ((u_3 6), .inl (cI, 40, .inl (fun _ => (-1 : Int32)))), ((u_3 7), .inl (cI, 41, .inl (fun _ => (1 : Int32)))), ((u_3 8), .inl (cI, 40, .inl (fun _ => (0 : Int32)))), ((u_3 9), .inl (cI, 40, .inl (fun _ => (0 : Int32)))), ((u_3 10), .inl (cI, 40, .inl (fun _ => (0 : Int32)))), ((u_3 11), .inl (cI, 40, .inl (fun _ => (0 : Int32)))), ((u_3 12), .inl (cI, 40, .inl (fun _ => (0 : Int32)))), ((u_3 13), .inl (cI, 40, .inl (fun _ => (0 : Int32)))), ((u_3 14), .inl (cI, 700, .inl (fun _ => (0 : Int32)))), ((u_3 15), .inl (cZ, 64, .inl (fun _ => (0 : Int32)))), (q_6, .inl (cI, 701, .inl (fun _ => (0 : Int32)))), (q_7, .inl (cI, 701, .inl (fun _ => (0 : Int32)))), (q_8, .inl (cI, 701, .inl (fun _ => (0 : Int32))))] H locs := X
  refine lv_aload_n hx hb dX4_init_64 rfl (lv_at hl 0 rfl) ?_
  refine lv_bipush (v := (64 : Int32)) hx hb dX4_init_65 (by decide) ?_
  refine x_newa (own := RX4) (atype := .int) (ty := .int) (N' := 64) (a0 := (64, .inl (fun _ => (0 : Int32)))) C X rfl k_2_7 0 rfl rfl (fun _ => rfl) (by decide) (by decide) (Nat.le_of_ble_eq_true rfl) (Nat.le_of_ble_eq_true rfl) (Nat.le_of_ble_eq_true rfl) dX4_init_67 (fun q_9 H X => ?_)
  have X : Wd D A s [(h0, .inr (4, [.ref q_1, .ref q_2, .ref q_6, .ref q_7, .ref q_8, .int (0 : Int32), .int (0 : Int32), .int (0 : Int32), .null, .int (0 : Int32), .int (0 : Int32), .int (0 : Int32)])), (q_1, .inl (cB, 0, .inl (fun _ => (0 : Int32)))), (q_2, .inr (3, [.int (0 : Int32), .ref (u_3 1), .ref (u_3 2), .ref (u_3 3), .ref (u_3 4), .ref (u_3 5), .ref (u_3 6), .ref (u_3 7), .int (0 : Int32), .ref (u_3 8), .ref (u_3 9), .ref (u_3 10), .int (0 : Int32), .ref (u_3 11), .ref (u_3 12), .ref (u_3 13), .ref (u_3 14), .int (0 : Int32), .ref (u_3 15)])), ((u_3 1), .inl (cI, 4, .inl (fun _ => (0 : Int32)))), ((u_3 2), .inl (cI, 4, .inl (fun _ => (0 : Int32)))), ((u_3 3), .inl (cI, 3, .inl (fun _ => (0 : Int32)))), ((u_3 4), .inl (cI, 21, .inl (fun _ => (0 : Int32)))), ((u_3 5), .inl (cI, 21, .inl (fun _ => (0 : Int32)))), ((u_3 6), .inl (cI, 40, .inl (fun _ => (-1 : Int32)))), ((u_3 7), .inl (cI, 41, .inl (fun _ => (1 : Int32)))), ((u_3 8), .inl (cI, 40, .inl (fun _ => (0 : Int32)))), ((u_3 9), .inl (cI, 40, .inl (fun _ => (0 : Int32)))), ((u_3 10), .inl (cI, 40, .inl (fun _ => (0 : Int32)))), ((u_3 11), .inl (cI, 40, .inl (fun _ => (0 : Int32)))), ((u_3 12), .inl (cI, 40, .inl (fun _ => (0 : Int32)))), ((u_3 13), .inl (cI, 40, .inl (fun _ => (0 : Int32)))), ((u_3 14), .inl (cI, 700, .inl (fun _ => (0 : Int32)))), ((u_3 15), .inl (cZ, 64, .inl (fun _ => (0 : Int32)))), (q_6, .inl (cI, 701, .inl (fun _ => (0 : Int32)))), (q_7, .inl (cI, 701, .inl (fun _ => (0 : Int32)))), (q_8, .inl (cI, 701, .inl (fun _ => (0 : Int32)))), (q_9, .inl (cI, 64, .inl (fun _ => (0 : Int32))))] H locs := X
  refine W.widen (k := 21) (n := 3324) (Nat.le_of_ble_eq_true rfl) (Nat.le_of_ble_eq_true rfl) ?_
  refine x_putF (own := RX4) (T := TX4) C X 0 rfl rfl 8 (by decide) k_4_22 rfl rfl rfl hin rfl (ty := (tyX4 8)) (v := .ref q_9) (by decide +kernel) rfl rfl (Nat.le_of_ble_eq_true rfl) dX4_init_69 (fun H locs X => ?_)
  have X : Wd D A s [(h0, .inr (4, [.ref q_1, .ref q_2, .ref q_6, .ref q_7, .ref q_8, .int (0 : Int32), .int (0 : Int32), .int (0 : Int32), .ref q_9, .int (0 : Int32), .int (0 : Int32), .int (0 : Int32)])), (q_1, .inl (cB, 0, .inl (fun _ => (0 : Int32)))), (q_2, .inr (3, [.int (0 : Int32), .ref (u_3 1), .ref (u_3 2), .ref (u_3 3), .ref (u_3 4), .ref (u_3 5), .ref (u_3 6), .ref (u_3 7), .int (0 : Int32), .ref (u_3 8), .ref (u_3 9), .ref (u_3 10), .int (0 : Int32), .ref (u_3 11), .ref (u_3 12), .ref (u_3 13), .ref (u_3 14), .int (0 : Int32), .ref (u_3 15)])), ((u_3 1), .inl (cI, 4, .inl (fun _ => (0 : Int32)))), ((u_3 2), .inl (cI, 4, .inl (fun _ => (0 : Int32)))), ((u_3 3), .inl (cI, 3, .inl (fun _ => (0 : Int32)))), ((u_3 4), .inl (cI, 21, .inl (fun _ => (0 : Int32)))), ((u_3 5), .inl (cI, 21, .inl (fun _ => (0 : Int32)))), ((u_3 6), .inl (cI, 40, .inl (fun _ => (-1 : Int32)))), ((u_3 7), .inl (cI, 41, .inl (fun _ => (1 : Int32)))), ((u_3 8), .inl (cI, 40, .inl (fun _ => (0 : Int32)))), ((u_3 9), .inl (cI, 40, .inl (fun _ => (0 : Int32)))), ((u_3 10), .inl (cI, 40, .inl (fun _ => (0 : Int32)))), ((u_3 11), .inl (cI, 40, .inl (fun _ => (0 : Int32)))), ((u_3 12), .inl (cI, 40, .inl (fun _ => (0 : Int32)))), ((u_3 13), .inl (cI, 40, .inl (fun _ => (0 : Int32)))), ((u_3 14), .inl (cI, 700, .inl (fun _ => (0 : Int32)))), ((u_3 15), .inl (cZ, 64, .inl (fun _ => (0 : Int32)))), (q_6, .inl (cI, 701, .inl (fun _ => (0 : Int32)))), (q_7, .inl (cI, 701, .inl (fun _ => (0 : Int32)))), (q_8, .inl (cI, 701, .inl (fun _ => (0 : Int32)))), (q_9, .inl (cI, 64, .inl (fun _ => (0 : Int32))))] H locs := X
  refine lv_aload_n hx hb dX4_init_72 rfl (lv_at hl 0 rfl) ?_
  refine lv_iconst (v := (0 : Int32)) hx hb dX4_init_73 (by decide) ?_
  refine x_put (own := RX4) (T := TX4) C X 0 rfl rfl 9 (by decide) k_4_23 rfl rfl rfl (ty := .int) (v := .int (0 : Int32)) (by decide +kernel) rfl rfl (Nat.le_of_ble_eq_true rfl) dX4_init_74 (fun H locs X => ?_)
  have X : Wd D A s [(h0, .inr (4, [.ref q_1, .ref q_2, .ref q_6, .ref q_7, .ref q_8, .int (0 : Int32), .int (0 : Int32), .int (0 : Int32), .ref q_9, .int (0 : Int32), .int (0 : Int32), .int (0 : Int32)])), (q_1, .inl (cB, 0, .inl (fun _ => (0 : Int32)))), (q_2, .inr (3, [.int (0 : Int32), .ref (u_3 1), .ref (u_3 2), .ref (u_3 3), .ref (u_3 4), .ref (u_3 5), .ref (u_3 6), .ref (u_3 7), .int (0 : Int32), .ref (u_3 8), .ref (u_3 9), .ref (u_3 10), .int (0 : Int32), .ref (u_3 11), .ref (u_3 12), .ref (u_3 13), .ref (u_3 14), .int (0 : Int32), .ref (u_3 15)])), ((u_3 1), .inl (cI, 4, .inl (fun _ => (0 : Int32)))), ((u_3 2), .inl (cI, 4, .inl (fun _ => (0 : Int32)))), ((u_3 3), .inl (cI, 3, .inl (fun _ => (0 : Int32)))), ((u_3 4), .inl (cI, 21, .inl (fun _ => (0 : Int32)))), ((u_3 5), .inl (cI, 21, .inl (fun _ => (0 : Int32)))), ((u_3 6), .inl (cI, 40, .inl (fun _ => (-1 : Int32)))), ((u_3 7), .inl (cI, 41, .inl (fun _ => (1 : Int32)))), ((u_3 8), .inl (cI, 40, .inl (fun _ => (0 : Int32)))), ((u_3 9), .inl (cI, 40, .inl (fun _ => (0 : Int32)))), ((u_3 10), .inl (cI, 40, .inl (fun _ => (0 : Int32)))), ((u_3 11), .inl (cI, 40, .inl (fun _ => (0 : Int32)))), ((u_3 12), .inl (cI, 40, .inl (fun _ => (0 : Int32)))), ((u_3 13), .inl (cI, 40, .inl (fun _ => (0 : Int32)))), ((u_3 14), .inl (cI, 700, .inl (fun _ => (0 : Int32)))), ((u_3 15), .inl (cZ, 64, .inl (fun _ => (0 : Int32)))), (q_6, .inl (cI, 701, .inl (fun _ => (0 : Int32)))), (q_7, .inl (cI, 701, .inl (fun _ => (0 : Int32)))), (q_8, .inl (cI, 701, .inl (fun _ => (0 : Int32)))), (q_9, .inl (cI, 64, .inl (fun _ => (0 : Int32))))] H locs := X
  refine lv_aload_n hx hb dX4_init_77 rfl (lv_at hl 0 rfl) ?_
  refine lv_iconst (v := (0 : Int32)) hx hb dX4_init_78 (by decide) ?_
  refine x_put (own := RX4) (T := TX4) C X 0 rfl rfl 10 (by decide) k_5_0 rfl rfl rfl (ty := .int) (v := .int (0 : Int32)) (by decide +kernel) rfl rfl (Nat.le_of_ble_eq_true rfl) dX4_init_79 (fun H locs X => ?_)
  have X : Wd D A s [(h0, .inr (4, [.ref q_1, .ref q_2, .ref q_6, .ref q_7, .ref q_8, .int (0 : Int32), .int (0 : Int32), .int (0 : Int32), .ref q_9, .int (0 : Int32), .int (0 : Int32), .int (0 : Int32)])), (q_1, .inl (cB, 0, .inl (fun _ => (0 : Int32)))), (q_2, .inr (3, [.int (0 : Int32), .ref (u_3 1), .ref (u_3 2), .ref (u_3 3), .ref (u_3 4), .ref (u_3 5), .ref (u_3 6), .ref (u_3 7), .int (0 : Int32), .ref (u_3 8), .ref (u_3 9), .ref (u_3 10), .int (0 : Int32), .ref (u_3 11), .ref (u_3 12), .ref (u_3 13), .ref (u_3 14), .int (0 : Int32), .ref (u_3 15)])), ((u_3 1), .inl (cI, 4, .inl (fun _ => (0 : Int32)))), ((u_3 2), .inl (cI, 4, .inl (fun _ => (0 : Int32)))), ((u_3 3), .inl (cI, 3, .inl (fun _ => (0 : Int32)))), ((u_3 4), .inl (cI, 21, .inl (fun _ => (0 : Int32)))), ((u_3 5), .inl (cI, 21, .inl (fun _ => (0 : Int32)))), ((u_3 6), .inl (cI, 40, .inl (fun _ => (-1 : Int32)))), ((u_3 7), .inl (cI, 41, .inl (fun _ => (1 : Int32)))), ((u_3 8), .inl (cI, 40, .inl (fun _ => (0 : Int32)))), ((u_3 9), .inl (cI, 40, .inl (fun _ => (0 : Int32)))), ((u_3 10), .inl (cI, 40, .inl (fun _ => (0 : Int32)))), ((u_3 11), .inl (cI, 40, .inl (fun _ => (0 : Int32)))), ((u_3 12), .inl (cI, 40, .inl (fun _ => (0 : Int32)))), ((u_3 13), .inl (cI, 40, .inl (fun _ => (0 : Int32)))), ((u_3 14), .inl (cI, 700, .inl (fun _ => (0 : Int32)))), ((u_3 15), .inl (cZ, 64, .inl (fun _ => (0 : Int32)))), (q_6, .inl (cI, 701, .inl (fun _ => (0 : Int32)))), (q_7, .inl (cI, 701, .inl (fun _ => (0 : Int32)))), (q_8, .inl (cI, 701, .inl (fun _ => (0 : Int32)))), (q_9, .inl (cI, 64, .inl (fun _ => (0 : Int32))))] H locs := X
  refine lv_aload_n hx hb dX4_init_82 rfl (lv_at hl 0 rfl) ?_
  refine lv_iconst (v := (0 : Int32)) hx hb dX4_init_83 (by decide) ?_
  refine x_put (own := RX4) (T := TX4) C X 0 rfl rfl 11 (by decide) k_5_1 rfl rfl rfl (ty := .int) (v := .int (0 : Int32)) (by decide +kernel) rfl rfl (Nat.le_of_ble_eq_true rfl) dX4_init_84 (fun H locs X => ?_)
  have X : Wd D A s [(h0, .inr (4, [.ref q_1, .ref q_2, .ref q_6, .ref q_7, .ref q_8, .int (0 : Int32), .int (0 : Int32), .int (0 : Int32), .ref q_9, .int (0 : Int32), .int (0 : Int32), .int (0 : Int32)])), (q_1, .inl (cB, 0, .inl (fun _ => (0 : Int32)))), (q_2, .inr (3, [.int (0 : Int32), .ref (u_3 1), .ref (u_3 2), .ref (u_3 3), .ref (u_3 4), .ref (u_3 5), .ref (u_3 6), .ref (u_3 7), .int (0 : Int32), .ref (u_3 8), .ref (u_3 9), .ref (u_3 10), .int (0 : Int32), .ref (u_3 11), .ref (u_3 12), .ref (u_3 13), .ref (u_3 14), .int (0 : Int32), .ref (u_3 15)])), ((u_3 1), .inl (cI, 4, .inl (fun _ => (0 : Int32)))), ((u_3 2), .inl (cI, 4, .inl (fun _ => (0 : Int32)))), ((u_3 3), .inl (cI, 3, .inl (fun _ => (0 : Int32)))), ((u_3 4), .inl (cI, 21, .inl (fun _ => (0 : Int32)))), ((u_3 5), .inl (cI, 21, .inl (fun _ => (0 : Int32)))), ((u_3 6), .inl (cI, 40, .inl (fun _ => (-1 : Int32)))), ((u_3 7), .inl (cI, 41, .inl (fun _ => (1 : Int32)))), ((u_3 8), .inl (cI, 40, .inl (fun _ => (0 : Int32)))), ((u_3 9), .inl (cI, 40, .inl (fun _ => (0 : Int32)))), ((u_3 10), .inl (cI, 40, .inl (fun _ => (0 : Int32)))), ((u_3 11), .inl (cI, 40, .inl (fun _ => (0 : Int32)))), ((u_3 12), .inl (cI, 40, .inl (fun _ => (0 : Int32)))), ((u_3 13), .inl (cI, 40, .inl (fun _ => (0 : Int32)))), ((u_3 14), .inl (cI, 700, .inl (fun _ => (0 : Int32)))), ((u_3 15), .inl (cZ, 64, .inl (fun _ => (0 : Int32)))), (q_6, .inl (cI, 701, .inl (fun _ => (0 : Int32)))), (q_7, .inl (cI, 701, .inl (fun _ => (0 : Int32)))), (q_8, .inl (cI, 701, .inl (fun _ => (0 : Int32)))), (q_9, .inl (cI, 64, .inl (fun _ => (0 : Int32))))] H locs := X
  exact x_vret C X hr hlk (fun k => ([h0, q_1, q_2, (u_3 1), (u_3 2), (u_3 3), (u_3 4), (u_3 5), (u_3 6), (u_3 7), (u_3 8), (u_3 9), (u_3 10), (u_3 11), (u_3 12), (u_3 13), (u_3 14), (u_3 15), q_6, q_7, q_8, q_9] : List Nat).getD k 0) [0, 1, 2, 3, 4, 5, 6, 7, 8, 9, 10, 11, 12, 13, 14, 15, 16, 17, 18, 19, 20, 21] (by decide) rfl (trivial) (Nat.le_of_ble_eq_true rfl) (Nat.le_of_ble_eq_true rfl) dX4_init_87
set_option maxHeartbeats 4000000 in
set_option maxRecDepth 100000 in
theorem c_Draw_init (l : Launch) (D : va_G) (cI cJ cZ cB : ClassId) (cO : ClassId) (h0 wa : Nat) :
    CV l D [(cI, .int), (cJ, .long), (cZ, .boolean), (cB, .byte), (cO, .object "LuckLinks$World")] yX9_init cX9_init 2 ({ frames := 2, cells := 7, slots := 92, locals := 40 } : Room) [.ref h0, .ref wa] [(h0, .inr (9, [.null, .null, .null, .null]))] (fun (u : (Nat → Nat)) => match u with | u => (True)) (fun (u : (Nat → Nat)) => match u with | u => [(h0, .inr (9, [.ref wa, .ref (u 1), .ref (u 4), .ref (u 7)])), ((u 1), .inr (5, [.ref (u 2), .ref (u 3), .int (0 : Int32)])), ((u 2), .inl (cI, 20, .inl (fun _ => (0 : Int32)))), ((u 3), .inl (cI, 20, .inl (fun _ => (0 : Int32)))), ((u 4), .inr (5, [.ref (u 5), .ref (u 6), .int (0 : Int32)])), ((u 5), .inl (cI, 20, .inl (fun _ => (0 : Int32)))), ((u 6), .inl (cI, 20, .inl (fun _ => (0 : Int32)))), ((u 7), .inl (cI, 6, .inl (fun _ => (0 : Int32))))]) := by
  intro sz
  refine body_of (y := yX9_init) (cc := cX9_init) (maxL := 2) (ret := none) (rm := ({ frames := 2, cells := 7, slots := 92, locals := 40 } : Room)) (wc := [(h0, .inr (9, [.null, .null, .null, .null]))]) (tys := [(cI, .int), (cJ, .long), (cZ, .boolean), (cB, .byte), (cO, .object "LuckLinks$World")]) (D := D) (sz := sz) (own := RX9) (av := [.ref h0, .ref wa]) (Qc := fun A => va_Qv (fun (u : (Nat → Nat)) => match u with | u => (True)) (fun u t => Aft D A ((fun (u : (Nat → Nat)) => match u with | u => [(h0, .inr (9, [.ref wa, .ref (u 1), .ref (u 4), .ref (u 7)])), ((u 1), .inr (5, [.ref (u 2), .ref (u 3), .int (0 : Int32)])), ((u 2), .inl (cI, 20, .inl (fun _ => (0 : Int32)))), ((u 3), .inl (cI, 20, .inl (fun _ => (0 : Int32)))), ((u 4), .inr (5, [.ref (u 5), .ref (u 6), .int (0 : Int32)])), ((u 5), .inl (cI, 20, .inl (fun _ => (0 : Int32)))), ((u 6), .inl (cI, 20, .inl (fun _ => (0 : Int32)))), ((u 7), .inl (cI, 6, .inl (fun _ => (0 : Int32))))]) u) t) A) (by decide) rfl (Nat.le_of_ble_eq_true rfl) (fun p e s m below meth c A ls C hr hlk hin X hl => ?_)
  have hx := C.1
  have hb := C.2.1
  have hown := C.2.2.2.1
  have hts := C.2.2.2.2.1
  have hl : lv_has ls 2 [(0, .ref h0), (1, .ref wa)] := hl
  show W p l e _ s m _ below meth c s.heap [] 0 0 (MQ below (va_Qv (fun (u : (Nat → Nat)) => match u with | u => (True)) (fun u t => Aft D A ((fun (u : (Nat → Nat)) => match u with | u => [(h0, .inr (9, [.ref wa, .ref (u 1), .ref (u 4), .ref (u 7)])), ((u 1), .inr (5, [.ref (u 2), .ref (u 3), .int (0 : Int32)])), ((u 2), .inl (cI, 20, .inl (fun _ => (0 : Int32)))), ((u 3), .inl (cI, 20, .inl (fun _ => (0 : Int32)))), ((u 4), .inr (5, [.ref (u 5), .ref (u 6), .int (0 : Int32)])), ((u 5), .inl (cI, 20, .inl (fun _ => (0 : Int32)))), ((u 6), .inl (cI, 20, .inl (fun _ => (0 : Int32)))), ((u 7), .inl (cI, 6, .inl (fun _ => (0 : Int32))))]) u) t) A) ([.ref h0, .ref wa] : List Value).toArray s 7 92 A) (F0 m 0 ls [])
  have X : Wd D A s [(h0, .inr (9, [.null, .null, .null, .null]))] s.heap [] := X
  obtain ⟨H, locs, eH, eL⟩ : ∃ H locs, H = s.heap ∧ locs = ([] : List Loc) := ⟨_, _, rfl, rfl⟩
  rw [← eH, ← eL] at X ⊢
  clear eH eL
  refine lv_aload_n hx hb dX9_init_0 rfl (lv_at hl 0 rfl) ?_
  refine x_objInit (own := RX9) C hl.1 k_6_13 k_1_10 k_1_11 dX9_init_1 (Nat.le_of_ble_eq_true rfl) (Nat.le_of_ble_eq_true rfl) ?_
  refine lv_aload_n hx hb dX9_init_4 rfl (lv_at hl 0 rfl) ?_
  refine x_new (own := RX9) (ci := 5) (fs := [.null, .null, .int (0 : Int32)]) C X rfl tyX5 tyX5_ok k_6_14 k_6_15 k_6_16 (fun j hj => by match j, hj with | 0, _ => rfl | 1, _ => rfl | 2, _ => rfl | j + 3, h => exact absurd h (by omega)) (Nat.le_of_ble_eq_true rfl) (Nat.le_of_ble_eq_true rfl) dX9_init_5 (fun q_1 H X => ?_)
  have X : Wd D A s [(h0, .inr (9, [.null, .null, .null, .null])), (q_1, .inr (5, [.null, .null, .int (0 : Int32)]))] H locs := X
  refine W.widen (k := 1) (n := 3) (Nat.le_of_ble_eq_true rfl) (Nat.le_of_ble_eq_true rfl) ?_
  refine lv_dup hx hb dX9_init_8 rfl ?_
  refine x_cI (own := RX9) (wr := [(h0, .inr (9, [.null, .null, .null, .null]))]) (As := []) C X hl.1 (c_Rank_init l D cI cJ cZ cB cO q_1) [1] [0] ⟨rfl, rfl, by decide, by decide, by decide⟩ k_6_21 k_6_22 k_6_16 k_6_23 rfl (n := 0) (by decide +kernel) ⟨Nat.le_of_ble_eq_true rfl, Nat.le_of_ble_eq_true rfl⟩ rfl rfl (Nat.le_of_ble_eq_true rfl) dX9_init_9 ⟨Nat.le_of_ble_eq_true rfl, Nat.le_of_ble_eq_true rfl⟩ (fun u_2 H locs w_4 X => ?_)
  have X : Wd D A s [(h0, .inr (9, [.null, .null, .null, .null])), (q_1, .inr (5, [.ref (u_2 1), .ref (u_2 2), .int (0 : Int32)])), ((u_2 1), .inl (cI, 20, .inl (fun _ => (0 : Int32)))), ((u_2 2), .inl (cI, 20, .inl (fun _ => (0 : Int32))))] H locs := X
  refine W.widen (k := 3) (n := 43) (Nat.le_of_ble_eq_true rfl) (Nat.le_of_ble_eq_true rfl) ?_
  refine x_putF (own := RX9) (T := TX9) C X 0 rfl rfl 1 (by decide) k_6_17 rfl rfl rfl hin rfl (ty := (tyX9 1)) (v := .ref q_1) (by decide +kernel) rfl rfl (Nat.le_of_ble_eq_true rfl) dX9_init_12 (fun H locs X => ?_)
  have X : Wd D A s [(h0, .inr (9, [.null, .ref q_1, .null, .null])), (q_1, .inr (5, [.ref (u_2 1), .ref (u_2 2), .int (0 : Int32)])), ((u_2 1), .inl (cI, 20, .inl (fun _ => (0 : Int32)))), ((u_2 2), .inl (cI, 20, .inl (fun _ => (0 : Int32))))] H locs := X
  refine lv_aload_n hx hb dX9_init_15 rfl (lv_at hl 0 rfl) ?_
  refine x_new (own := RX9) (ci := 5) (fs := [.null, .null, .int (0 : Int32)]) C X rfl tyX5 tyX5_ok k_6_14 k_6_15 k_6_16 (fun j hj => by match j, hj with | 0, _ => rfl | 1, _ => rfl | 2, _ => rfl | j + 3, h => exact absurd h (by omega)) (Nat.le_of_ble_eq_true rfl) (Nat.le_of_ble_eq_true rfl) dX9_init_16 (fun q_5 H X => ?_)
  have X : Wd D A s [(h0, .inr (9, [.null, .ref q_1, .null, .null])), (q_1, .inr (5, [.ref (u_2 1), .ref (u_2 2), .int (0 : Int32)])), ((u_2 1), .inl (cI, 20, .inl (fun _ => (0 : Int32)))), ((u_2 2), .inl (cI, 20, .inl (fun _ => (0 : Int32)))), (q_5, .inr (5, [.null, .null, .int (0 : Int32)]))] H locs := X
  refine W.widen (k := 4) (n := 46) (Nat.le_of_ble_eq_true rfl) (Nat.le_of_ble_eq_true rfl) ?_
  refine lv_dup hx hb dX9_init_19 rfl ?_
  refine x_cI (own := RX9) (wr := [(h0, .inr (9, [.null, .ref q_1, .null, .null])), (q_1, .inr (5, [.ref (u_2 1), .ref (u_2 2), .int (0 : Int32)])), ((u_2 1), .inl (cI, 20, .inl (fun _ => (0 : Int32)))), ((u_2 2), .inl (cI, 20, .inl (fun _ => (0 : Int32))))]) (As := []) C X hl.1 (c_Rank_init l D cI cJ cZ cB cO q_5) [4] [0, 1, 2, 3] ⟨rfl, rfl, by decide, by decide, by decide⟩ k_6_21 k_6_22 k_6_16 k_6_23 rfl (n := 0) (by decide +kernel) ⟨Nat.le_of_ble_eq_true rfl, Nat.le_of_ble_eq_true rfl⟩ rfl rfl (Nat.le_of_ble_eq_true rfl) dX9_init_20 ⟨Nat.le_of_ble_eq_true rfl, Nat.le_of_ble_eq_true rfl⟩ (fun u_6 H locs w_8 X => ?_)
  have X : Wd D A s [(h0, .inr (9, [.null, .ref q_1, .null, .null])), (q_1, .inr (5, [.ref (u_2 1), .ref (u_2 2), .int (0 : Int32)])), ((u_2 1), .inl (cI, 20, .inl (fun _ => (0 : Int32)))), ((u_2 2), .inl (cI, 20, .inl (fun _ => (0 : Int32)))), (q_5, .inr (5, [.ref (u_6 1), .ref (u_6 2), .int (0 : Int32)])), ((u_6 1), .inl (cI, 20, .inl (fun _ => (0 : Int32)))), ((u_6 2), .inl (cI, 20, .inl (fun _ => (0 : Int32))))] H locs := X
  refine W.widen (k := 6) (n := 86) (Nat.le_of_ble_eq_true rfl) (Nat.le_of_ble_eq_true rfl) ?_
  refine x_putF (own := RX9) (T := TX9) C X 0 rfl rfl 2 (by decide) k_6_18 rfl rfl rfl hin rfl (ty := (tyX9 2)) (v := .ref q_5) (by decide +kernel) rfl rfl (Nat.le_of_ble_eq_true rfl) dX9_init_23 (fun H locs X => ?_)
  have X : Wd D A s [(h0, .inr (9, [.null, .ref q_1, .ref q_5, .null])), (q_1, .inr (5, [.ref (u_2 1), .ref (u_2 2), .int (0 : Int32)])), ((u_2 1), .inl (cI, 20, .inl (fun _ => (0 : Int32)))), ((u_2 2), .inl (cI, 20, .inl (fun _ => (0 : Int32)))), (q_5, .inr (5, [.ref (u_6 1), .ref (u_6 2), .int (0 : Int32)])), ((u_6 1), .inl (cI, 20, .inl (fun _ => (0 : Int32)))), ((u_6 2), .inl (cI, 20, .inl (fun _ => (0 : Int32))))] H locs := X
  refine lv_aload_n hx hb dX9_init_26 rfl (lv_at hl 0 rfl) ?_
  refine lv_bipush (v := (6 : Int32)) hx hb dX9_init_27 (by decide) ?_
  refine x_newa (own := RX9) (atype := .int) (ty := .int) (N' := 6) (a0 := (6, .inl (fun _ => (0 : Int32)))) C X rfl k_2_7 0 rfl rfl (fun _ => rfl) (by decide) (by decide) (Nat.le_of_ble_eq_true rfl) (Nat.le_of_ble_eq_true rfl) (Nat.le_of_ble_eq_true rfl) dX9_init_29 (fun q_9 H X => ?_)
  have X : Wd D A s [(h0, .inr (9, [.null, .ref q_1, .ref q_5, .null])), (q_1, .inr (5, [.ref (u_2 1), .ref (u_2 2), .int (0 : Int32)])), ((u_2 1), .inl (cI, 20, .inl (fun _ => (0 : Int32)))), ((u_2 2), .inl (cI, 20, .inl (fun _ => (0 : Int32)))), (q_5, .inr (5, [.ref (u_6 1), .ref (u_6 2), .int (0 : Int32)])), ((u_6 1), .inl (cI, 20, .inl (fun _ => (0 : Int32)))), ((u_6 2), .inl (cI, 20, .inl (fun _ => (0 : Int32)))), (q_9, .inl (cI, 6, .inl (fun _ => (0 : Int32))))] H locs := X
  refine W.widen (k := 7) (n := 92) (Nat.le_of_ble_eq_true rfl) (Nat.le_of_ble_eq_true rfl) ?_
  refine x_putF (own := RX9) (T := TX9) C X 0 rfl rfl 3 (by decide) k_6_19 rfl rfl rfl hin rfl (ty := (tyX9 3)) (v := .ref q_9) (by decide +kernel) rfl rfl (Nat.le_of_ble_eq_true rfl) dX9_init_31 (fun H locs X => ?_)
  have X : Wd D A s [(h0, .inr (9, [.null, .ref q_1, .ref q_5, .ref q_9])), (q_1, .inr (5, [.ref (u_2 1), .ref (u_2 2), .int (0 : Int32)])), ((u_2 1), .inl (cI, 20, .inl (fun _ => (0 : Int32)))), ((u_2 2), .inl (cI, 20, .inl (fun _ => (0 : Int32)))), (q_5, .inr (5, [.ref (u_6 1), .ref (u_6 2), .int (0 : Int32)])), ((u_6 1), .inl (cI, 20, .inl (fun _ => (0 : Int32)))), ((u_6 2), .inl (cI, 20, .inl (fun _ => (0 : Int32)))), (q_9, .inl (cI, 6, .inl (fun _ => (0 : Int32))))] H locs := X
  refine lv_aload_n hx hb dX9_init_34 rfl (lv_at hl 0 rfl) ?_
  refine lv_aload_n hx hb dX9_init_35 rfl (lv_at hl 1 rfl) ?_
  refine x_putF (own := RX9) (T := TX9) C X 0 rfl rfl 0 (by decide) k_6_20 rfl rfl rfl hin rfl (ty := (tyX9 0)) (v := .ref wa) (by decide +kernel) rfl rfl (Nat.le_of_ble_eq_true rfl) dX9_init_36 (fun H locs X => ?_)
  have X : Wd D A s [(h0, .inr (9, [.ref wa, .ref q_1, .ref q_5, .ref q_9])), (q_1, .inr (5, [.ref (u_2 1), .ref (u_2 2), .int (0 : Int32)])), ((u_2 1), .inl (cI, 20, .inl (fun _ => (0 : Int32)))), ((u_2 2), .inl (cI, 20, .inl (fun _ => (0 : Int32)))), (q_5, .inr (5, [.ref (u_6 1), .ref (u_6 2), .int (0 : Int32)])), ((u_6 1), .inl (cI, 20, .inl (fun _ => (0 : Int32)))), ((u_6 2), .inl (cI, 20, .inl (fun _ => (0 : Int32)))), (q_9, .inl (cI, 6, .inl (fun _ => (0 : Int32))))] H locs := X
  exact x_vret C X hr hlk (fun k => ([h0, q_1, (u_2 1), (u_2 2), q_5, (u_6 1), (u_6 2), q_9] : List Nat).getD k 0) [0, 1, 2, 3, 4, 5, 6, 7] (by decide) rfl (trivial) (Nat.le_of_ble_eq_true rfl) (Nat.le_of_ble_eq_true rfl) dX9_init_39
set_option maxHeartbeats 4000000 in
set_option maxRecDepth 100000 in
theorem c_Stand_init (l : Launch) (D : va_G) (cI cJ cZ cB : ClassId) (cO : ClassId) (h0 wa : Nat) :
    CV l D [(cI, .int), (cJ, .long), (cZ, .boolean), (cB, .byte), (cO, .object "LuckLinks$World")] yX7_init cX7_init 2 ({ frames := 2, cells := 4, slots := 63, locals := 40 } : Room) [.ref h0, .ref wa] [(h0, .inr (7, [.null, .null, .null]))] (fun (u : (Nat → Nat)) => match u with | u => (True)) (fun (u : (Nat → Nat)) => match u with | u => [(h0, .inr (7, [.ref wa, .ref (u 1), .ref (u 4)])), ((u 1), .inr (5, [.ref (u 2), .ref (u 3), .int (0 : Int32)])), ((u 2), .inl (cI, 20, .inl (fun _ => (0 : Int32)))), ((u 3), .inl (cI, 20, .inl (fun _ => (0 : Int32)))), ((u 4), .inl (cI, 20, .inl (fun _ => (0 : Int32))))]) := by
  intro sz
  refine body_of (y := yX7_init) (cc := cX7_init) (maxL := 2) (ret := none) (rm := ({ frames := 2, cells := 4, slots := 63, locals := 40 } : Room)) (wc := [(h0, .inr (7, [.null, .null, .null]))]) (tys := [(cI, .int), (cJ, .long), (cZ, .boolean), (cB, .byte), (cO, .object "LuckLinks$World")]) (D := D) (sz := sz) (own := RX7) (av := [.ref h0, .ref wa]) (Qc := fun A => va_Qv (fun (u : (Nat → Nat)) => match u with | u => (True)) (fun u t => Aft D A ((fun (u : (Nat → Nat)) => match u with | u => [(h0, .inr (7, [.ref wa, .ref (u 1), .ref (u 4)])), ((u 1), .inr (5, [.ref (u 2), .ref (u 3), .int (0 : Int32)])), ((u 2), .inl (cI, 20, .inl (fun _ => (0 : Int32)))), ((u 3), .inl (cI, 20, .inl (fun _ => (0 : Int32)))), ((u 4), .inl (cI, 20, .inl (fun _ => (0 : Int32))))]) u) t) A) (by decide) rfl (Nat.le_of_ble_eq_true rfl) (fun p e s m below meth c A ls C hr hlk hin X hl => ?_)
  have hx := C.1
  have hb := C.2.1
  have hown := C.2.2.2.1
  have hts := C.2.2.2.2.1
  have hl : lv_has ls 2 [(0, .ref h0), (1, .ref wa)] := hl
  show W p l e _ s m _ below meth c s.heap [] 0 0 (MQ below (va_Qv (fun (u : (Nat → Nat)) => match u with | u => (True)) (fun u t => Aft D A ((fun (u : (Nat → Nat)) => match u with | u => [(h0, .inr (7, [.ref wa, .ref (u 1), .ref (u 4)])), ((u 1), .inr (5, [.ref (u 2), .ref (u 3), .int (0 : Int32)])), ((u 2), .inl (cI, 20, .inl (fun _ => (0 : Int32)))), ((u 3), .inl (cI, 20, .inl (fun _ => (0 : Int32)))), ((u 4), .inl (cI, 20, .inl (fun _ => (0 : Int32))))]) u) t) A) ([.ref h0, .ref wa] : List Value).toArray s 4 63 A) (F0 m 0 ls [])
  have X : Wd D A s [(h0, .inr (7, [.null, .null, .null]))] s.heap [] := X
  obtain ⟨H, locs, eH, eL⟩ : ∃ H locs, H = s.heap ∧ locs = ([] : List Loc) := ⟨_, _, rfl, rfl⟩
  rw [← eH, ← eL] at X ⊢
  clear eH eL
  refine lv_aload_n hx hb dX7_init_0 rfl (lv_at hl 0 rfl) ?_
  refine x_objInit (own := RX7) C hl.1 k_7_7 k_1_10 k_1_11 dX7_init_1 (Nat.le_of_ble_eq_true rfl) (Nat.le_of_ble_eq_true rfl) ?_
  refine lv_aload_n hx hb dX7_init_4 rfl (lv_at hl 0 rfl) ?_
  refine x_new (own := RX7) (ci := 5) (fs := [.null, .null, .int (0 : Int32)]) C X rfl tyX5 tyX5_ok k_7_8 k_6_15 k_6_16 (fun j hj => by match j, hj with | 0, _ => rfl | 1, _ => rfl | 2, _ => rfl | j + 3, h => exact absurd h (by omega)) (Nat.le_of_ble_eq_true rfl) (Nat.le_of_ble_eq_true rfl) dX7_init_5 (fun q_1 H X => ?_)
  have X : Wd D A s [(h0, .inr (7, [.null, .null, .null])), (q_1, .inr (5, [.null, .null, .int (0 : Int32)]))] H locs := X
  refine W.widen (k := 1) (n := 3) (Nat.le_of_ble_eq_true rfl) (Nat.le_of_ble_eq_true rfl) ?_
  refine lv_dup hx hb dX7_init_8 rfl ?_
  refine x_cI (own := RX7) (wr := [(h0, .inr (7, [.null, .null, .null]))]) (As := []) C X hl.1 (c_Rank_init l D cI cJ cZ cB cO q_1) [1] [0] ⟨rfl, rfl, by decide, by decide, by decide⟩ k_7_12 k_6_22 k_6_16 k_6_23 rfl (n := 0) (by decide +kernel) ⟨Nat.le_of_ble_eq_true rfl, Nat.le_of_ble_eq_true rfl⟩ rfl rfl (Nat.le_of_ble_eq_true rfl) dX7_init_9 ⟨Nat.le_of_ble_eq_true rfl, Nat.le_of_ble_eq_true rfl⟩ (fun u_2 H locs w_4 X => ?_)
  have X : Wd D A s [(h0, .inr (7, [.null, .null, .null])), (q_1, .inr (5, [.ref (u_2 1), .ref (u_2 2), .int (0 : Int32)])), ((u_2 1), .inl (cI, 20, .inl (fun _ => (0 : Int32)))), ((u_2 2), .inl (cI, 20, .inl (fun _ => (0 : Int32))))] H locs := X
  refine W.widen (k := 3) (n := 43) (Nat.le_of_ble_eq_true rfl) (Nat.le_of_ble_eq_true rfl) ?_
  refine x_putF (own := RX7) (T := TX7) C X 0 rfl rfl 1 (by decide) k_7_9 rfl rfl rfl hin rfl (ty := (tyX7 1)) (v := .ref q_1) (by decide +kernel) rfl rfl (Nat.le_of_ble_eq_true rfl) dX7_init_12 (fun H locs X => ?_)
  have X : Wd D A s [(h0, .inr (7, [.null, .ref q_1, .null])), (q_1, .inr (5, [.ref (u_2 1), .ref (u_2 2), .int (0 : Int32)])), ((u_2 1), .inl (cI, 20, .inl (fun _ => (0 : Int32)))), ((u_2 2), .inl (cI, 20, .inl (fun _ => (0 : Int32))))] H locs := X
  refine lv_aload_n hx hb dX7_init_15 rfl (lv_at hl 0 rfl) ?_
  refine lv_bipush (v := (20 : Int32)) hx hb dX7_init_16 (by decide) ?_
  refine x_newa (own := RX7) (atype := .int) (ty := .int) (N' := 20) (a0 := (20, .inl (fun _ => (0 : Int32)))) C X rfl k_2_7 0 rfl rfl (fun _ => rfl) (by decide) (by decide) (Nat.le_of_ble_eq_true rfl) (Nat.le_of_ble_eq_true rfl) (Nat.le_of_ble_eq_true rfl) dX7_init_18 (fun q_5 H X => ?_)
  have X : Wd D A s [(h0, .inr (7, [.null, .ref q_1, .null])), (q_1, .inr (5, [.ref (u_2 1), .ref (u_2 2), .int (0 : Int32)])), ((u_2 1), .inl (cI, 20, .inl (fun _ => (0 : Int32)))), ((u_2 2), .inl (cI, 20, .inl (fun _ => (0 : Int32)))), (q_5, .inl (cI, 20, .inl (fun _ => (0 : Int32))))] H locs := X
  refine W.widen (k := 4) (n := 63) (Nat.le_of_ble_eq_true rfl) (Nat.le_of_ble_eq_true rfl) ?_
  refine x_putF (own := RX7) (T := TX7) C X 0 rfl rfl 2 (by decide) k_7_10 rfl rfl rfl hin rfl (ty := (tyX7 2)) (v := .ref q_5) (by decide +kernel) rfl rfl (Nat.le_of_ble_eq_true rfl) dX7_init_20 (fun H locs X => ?_)
  have X : Wd D A s [(h0, .inr (7, [.null, .ref q_1, .ref q_5])), (q_1, .inr (5, [.ref (u_2 1), .ref (u_2 2), .int (0 : Int32)])), ((u_2 1), .inl (cI, 20, .inl (fun _ => (0 : Int32)))), ((u_2 2), .inl (cI, 20, .inl (fun _ => (0 : Int32)))), (q_5, .inl (cI, 20, .inl (fun _ => (0 : Int32))))] H locs := X
  refine lv_aload_n hx hb dX7_init_23 rfl (lv_at hl 0 rfl) ?_
  refine lv_aload_n hx hb dX7_init_24 rfl (lv_at hl 1 rfl) ?_
  refine x_putF (own := RX7) (T := TX7) C X 0 rfl rfl 0 (by decide) k_7_11 rfl rfl rfl hin rfl (ty := (tyX7 0)) (v := .ref wa) (by decide +kernel) rfl rfl (Nat.le_of_ble_eq_true rfl) dX7_init_25 (fun H locs X => ?_)
  have X : Wd D A s [(h0, .inr (7, [.ref wa, .ref q_1, .ref q_5])), (q_1, .inr (5, [.ref (u_2 1), .ref (u_2 2), .int (0 : Int32)])), ((u_2 1), .inl (cI, 20, .inl (fun _ => (0 : Int32)))), ((u_2 2), .inl (cI, 20, .inl (fun _ => (0 : Int32)))), (q_5, .inl (cI, 20, .inl (fun _ => (0 : Int32))))] H locs := X
  exact x_vret C X hr hlk (fun k => ([h0, q_1, (u_2 1), (u_2 2), q_5] : List Nat).getD k 0) [0, 1, 2, 3, 4] (by decide) rfl (trivial) (Nat.le_of_ble_eq_true rfl) (Nat.le_of_ble_eq_true rfl) dX7_init_28
set_option maxHeartbeats 4000000 in
set_option maxRecDepth 100000 in
theorem c_Form_init (l : Launch) (D : va_G) (cI cJ cZ cB : ClassId) (cO : ClassId) (h0 wa : Nat) :
    CV l D [(cI, .int), (cJ, .long), (cZ, .boolean), (cB, .byte), (cO, .object "LuckLinks$World")] yX1_init cX1_init 2 ({ frames := 1, cells := 2, slots := 1600, locals := 20 } : Room) [.ref h0, .ref wa] [(h0, .inr (1, [.null, .null, .null, .long (0 : Int64), .long (0 : Int64)]))] (fun (u : (Nat → Nat)) => match u with | u => (True)) (fun (u : (Nat → Nat)) => match u with | u => [(h0, .inr (1, [.ref wa, .ref (u 1), .ref (u 2), .long (0 : Int64), .long (0 : Int64)])), ((u 1), .inl (cJ, 800, .inr (.inl (fun _ => (0 : Int64))))), ((u 2), .inl (cI, 800, .inl (fun _ => (0 : Int32))))]) := by
  intro sz
  refine body_of (y := yX1_init) (cc := cX1_init) (maxL := 2) (ret := none) (rm := ({ frames := 1, cells := 2, slots := 1600, locals := 20 } : Room)) (wc := [(h0, .inr (1, [.null, .null, .null, .long (0 : Int64), .long (0 : Int64)]))]) (tys := [(cI, .int), (cJ, .long), (cZ, .boolean), (cB, .byte), (cO, .object "LuckLinks$World")]) (D := D) (sz := sz) (own := RX1) (av := [.ref h0, .ref wa]) (Qc := fun A => va_Qv (fun (u : (Nat → Nat)) => match u with | u => (True)) (fun u t => Aft D A ((fun (u : (Nat → Nat)) => match u with | u => [(h0, .inr (1, [.ref wa, .ref (u 1), .ref (u 2), .long (0 : Int64), .long (0 : Int64)])), ((u 1), .inl (cJ, 800, .inr (.inl (fun _ => (0 : Int64))))), ((u 2), .inl (cI, 800, .inl (fun _ => (0 : Int32))))]) u) t) A) (by decide) rfl (Nat.le_of_ble_eq_true rfl) (fun p e s m below meth c A ls C hr hlk hin X hl => ?_)
  have hx := C.1
  have hb := C.2.1
  have hown := C.2.2.2.1
  have hts := C.2.2.2.2.1
  have hl : lv_has ls 2 [(0, .ref h0), (1, .ref wa)] := hl
  show W p l e _ s m _ below meth c s.heap [] 0 0 (MQ below (va_Qv (fun (u : (Nat → Nat)) => match u with | u => (True)) (fun u t => Aft D A ((fun (u : (Nat → Nat)) => match u with | u => [(h0, .inr (1, [.ref wa, .ref (u 1), .ref (u 2), .long (0 : Int64), .long (0 : Int64)])), ((u 1), .inl (cJ, 800, .inr (.inl (fun _ => (0 : Int64))))), ((u 2), .inl (cI, 800, .inl (fun _ => (0 : Int32))))]) u) t) A) ([.ref h0, .ref wa] : List Value).toArray s 2 1600 A) (F0 m 0 ls [])
  have X : Wd D A s [(h0, .inr (1, [.null, .null, .null, .long (0 : Int64), .long (0 : Int64)]))] s.heap [] := X
  obtain ⟨H, locs, eH, eL⟩ : ∃ H locs, H = s.heap ∧ locs = ([] : List Loc) := ⟨_, _, rfl, rfl⟩
  rw [← eH, ← eL] at X ⊢
  clear eH eL
  refine lv_aload_n hx hb dX1_init_0 rfl (lv_at hl 0 rfl) ?_
  refine x_objInit (own := RX1) C hl.1 k_7_16 k_1_10 k_1_11 dX1_init_1 (Nat.le_of_ble_eq_true rfl) (Nat.le_of_ble_eq_true rfl) ?_
  refine lv_aload_n hx hb dX1_init_4 rfl (lv_at hl 0 rfl) ?_
  refine lv_sipush (v := (800 : Int32)) hx hb dX1_init_5 (by decide) ?_
  refine x_newa (own := RX1) (atype := .long) (ty := .long) (N' := 800) (a0 := (800, .inr (.inl (fun _ => (0 : Int64))))) C X rfl k_7_17 1 rfl rfl (fun _ => rfl) (by decide) (by decide) (Nat.le_of_ble_eq_true rfl) (Nat.le_of_ble_eq_true rfl) (Nat.le_of_ble_eq_true rfl) dX1_init_8 (fun q_1 H X => ?_)
  have X : Wd D A s [(h0, .inr (1, [.null, .null, .null, .long (0 : Int64), .long (0 : Int64)])), (q_1, .inl (cJ, 800, .inr (.inl (fun _ => (0 : Int64)))))] H locs := X
  refine W.widen (k := 1) (n := 800) (Nat.le_of_ble_eq_true rfl) (Nat.le_of_ble_eq_true rfl) ?_
  refine x_putF (own := RX1) (T := TX1) C X 0 rfl rfl 1 (by decide) k_7_18 rfl rfl rfl hin rfl (ty := (tyX1 1)) (v := .ref q_1) (by decide +kernel) rfl rfl (Nat.le_of_ble_eq_true rfl) dX1_init_10 (fun H locs X => ?_)
  have X : Wd D A s [(h0, .inr (1, [.null, .ref q_1, .null, .long (0 : Int64), .long (0 : Int64)])), (q_1, .inl (cJ, 800, .inr (.inl (fun _ => (0 : Int64)))))] H locs := X
  refine lv_aload_n hx hb dX1_init_13 rfl (lv_at hl 0 rfl) ?_
  refine lv_sipush (v := (800 : Int32)) hx hb dX1_init_14 (by decide) ?_
  refine x_newa (own := RX1) (atype := .int) (ty := .int) (N' := 800) (a0 := (800, .inl (fun _ => (0 : Int32)))) C X rfl k_2_7 0 rfl rfl (fun _ => rfl) (by decide) (by decide) (Nat.le_of_ble_eq_true rfl) (Nat.le_of_ble_eq_true rfl) (Nat.le_of_ble_eq_true rfl) dX1_init_17 (fun q_2 H X => ?_)
  have X : Wd D A s [(h0, .inr (1, [.null, .ref q_1, .null, .long (0 : Int64), .long (0 : Int64)])), (q_1, .inl (cJ, 800, .inr (.inl (fun _ => (0 : Int64))))), (q_2, .inl (cI, 800, .inl (fun _ => (0 : Int32))))] H locs := X
  refine W.widen (k := 2) (n := 1600) (Nat.le_of_ble_eq_true rfl) (Nat.le_of_ble_eq_true rfl) ?_
  refine x_putF (own := RX1) (T := TX1) C X 0 rfl rfl 2 (by decide) k_7_19 rfl rfl rfl hin rfl (ty := (tyX1 2)) (v := .ref q_2) (by decide +kernel) rfl rfl (Nat.le_of_ble_eq_true rfl) dX1_init_19 (fun H locs X => ?_)
  have X : Wd D A s [(h0, .inr (1, [.null, .ref q_1, .ref q_2, .long (0 : Int64), .long (0 : Int64)])), (q_1, .inl (cJ, 800, .inr (.inl (fun _ => (0 : Int64))))), (q_2, .inl (cI, 800, .inl (fun _ => (0 : Int32))))] H locs := X
  refine lv_aload_n hx hb dX1_init_22 rfl (lv_at hl 0 rfl) ?_
  refine lv_lconst (v := (0 : Int64)) hx hb dX1_init_23 (by decide) ?_
  refine x_put (own := RX1) (T := TX1) C X 0 rfl rfl 3 (by decide) k_7_20 rfl rfl rfl (ty := .long) (v := .long (0 : Int64)) (by decide +kernel) rfl rfl (Nat.le_of_ble_eq_true rfl) dX1_init_24 (fun H locs X => ?_)
  have X : Wd D A s [(h0, .inr (1, [.null, .ref q_1, .ref q_2, .long (0 : Int64), .long (0 : Int64)])), (q_1, .inl (cJ, 800, .inr (.inl (fun _ => (0 : Int64))))), (q_2, .inl (cI, 800, .inl (fun _ => (0 : Int32))))] H locs := X
  refine lv_aload_n hx hb dX1_init_27 rfl (lv_at hl 0 rfl) ?_
  refine lv_lconst (v := (0 : Int64)) hx hb dX1_init_28 (by decide) ?_
  refine x_put (own := RX1) (T := TX1) C X 0 rfl rfl 4 (by decide) k_7_21 rfl rfl rfl (ty := .long) (v := .long (0 : Int64)) (by decide +kernel) rfl rfl (Nat.le_of_ble_eq_true rfl) dX1_init_29 (fun H locs X => ?_)
  have X : Wd D A s [(h0, .inr (1, [.null, .ref q_1, .ref q_2, .long (0 : Int64), .long (0 : Int64)])), (q_1, .inl (cJ, 800, .inr (.inl (fun _ => (0 : Int64))))), (q_2, .inl (cI, 800, .inl (fun _ => (0 : Int32))))] H locs := X
  refine lv_aload_n hx hb dX1_init_32 rfl (lv_at hl 0 rfl) ?_
  refine lv_aload_n hx hb dX1_init_33 rfl (lv_at hl 1 rfl) ?_
  refine x_putF (own := RX1) (T := TX1) C X 0 rfl rfl 0 (by decide) k_7_22 rfl rfl rfl hin rfl (ty := (tyX1 0)) (v := .ref wa) (by decide +kernel) rfl rfl (Nat.le_of_ble_eq_true rfl) dX1_init_34 (fun H locs X => ?_)
  have X : Wd D A s [(h0, .inr (1, [.ref wa, .ref q_1, .ref q_2, .long (0 : Int64), .long (0 : Int64)])), (q_1, .inl (cJ, 800, .inr (.inl (fun _ => (0 : Int64))))), (q_2, .inl (cI, 800, .inl (fun _ => (0 : Int32))))] H locs := X
  exact x_vret C X hr hlk (fun k => ([h0, q_1, q_2] : List Nat).getD k 0) [0, 1, 2] (by decide) rfl (trivial) (Nat.le_of_ble_eq_true rfl) (Nat.le_of_ble_eq_true rfl) dX1_init_37
set_option maxHeartbeats 4000000 in
set_option maxRecDepth 100000 in
theorem c_Half_init (l : Launch) (D : va_G) (cI cJ cZ cB : ClassId) (cO : ClassId) (h0 wa : Nat) :
    CV l D [(cI, .int), (cJ, .long), (cZ, .boolean), (cB, .byte), (cO, .object "LuckLinks$World")] yX2_init cX2_init 2 ({ frames := 1, cells := 4, slots := 80, locals := 20 } : Room) [.ref h0, .ref wa] [(h0, .inr (2, [.null, .null, .null, .null, .null, .int (0 : Int32), .int (0 : Int32), .int (0 : Int32)]))] (fun (u : (Nat → Nat)) => match u with | u => (True)) (fun (u : (Nat → Nat)) => match u with | u => [(h0, .inr (2, [.ref wa, .ref (u 1), .ref (u 2), .ref (u 3), .ref (u 4), .int (0 : Int32), .int (0 : Int32), .int (0 : Int32)])), ((u 1), .inl (cJ, 20, .inr (.inl (fun _ => (0 : Int64))))), ((u 2), .inl (cJ, 20, .inr (.inl (fun _ => (0 : Int64))))), ((u 3), .inl (cJ, 20, .inr (.inl (fun _ => (0 : Int64))))), ((u 4), .inl (cJ, 20, .inr (.inl (fun _ => (0 : Int64)))))]) := by
  intro sz
  refine body_of (y := yX2_init) (cc := cX2_init) (maxL := 2) (ret := none) (rm := ({ frames := 1, cells := 4, slots := 80, locals := 20 } : Room)) (wc := [(h0, .inr (2, [.null, .null, .null, .null, .null, .int (0 : Int32), .int (0 : Int32), .int (0 : Int32)]))]) (tys := [(cI, .int), (cJ, .long), (cZ, .boolean), (cB, .byte), (cO, .object "LuckLinks$World")]) (D := D) (sz := sz) (own := RX2) (av := [.ref h0, .ref wa]) (Qc := fun A => va_Qv (fun (u : (Nat → Nat)) => match u with | u => (True)) (fun u t => Aft D A ((fun (u : (Nat → Nat)) => match u with | u => [(h0, .inr (2, [.ref wa, .ref (u 1), .ref (u 2), .ref (u 3), .ref (u 4), .int (0 : Int32), .int (0 : Int32), .int (0 : Int32)])), ((u 1), .inl (cJ, 20, .inr (.inl (fun _ => (0 : Int64))))), ((u 2), .inl (cJ, 20, .inr (.inl (fun _ => (0 : Int64))))), ((u 3), .inl (cJ, 20, .inr (.inl (fun _ => (0 : Int64))))), ((u 4), .inl (cJ, 20, .inr (.inl (fun _ => (0 : Int64)))))]) u) t) A) (by decide) rfl (Nat.le_of_ble_eq_true rfl) (fun p e s m below meth c A ls C hr hlk hin X hl => ?_)
  have hx := C.1
  have hb := C.2.1
  have hown := C.2.2.2.1
  have hts := C.2.2.2.2.1
  have hl : lv_has ls 2 [(0, .ref h0), (1, .ref wa)] := hl
  show W p l e _ s m _ below meth c s.heap [] 0 0 (MQ below (va_Qv (fun (u : (Nat → Nat)) => match u with | u => (True)) (fun u t => Aft D A ((fun (u : (Nat → Nat)) => match u with | u => [(h0, .inr (2, [.ref wa, .ref (u 1), .ref (u 2), .ref (u 3), .ref (u 4), .int (0 : Int32), .int (0 : Int32), .int (0 : Int32)])), ((u 1), .inl (cJ, 20, .inr (.inl (fun _ => (0 : Int64))))), ((u 2), .inl (cJ, 20, .inr (.inl (fun _ => (0 : Int64))))), ((u 3), .inl (cJ, 20, .inr (.inl (fun _ => (0 : Int64))))), ((u 4), .inl (cJ, 20, .inr (.inl (fun _ => (0 : Int64)))))]) u) t) A) ([.ref h0, .ref wa] : List Value).toArray s 4 80 A) (F0 m 0 ls [])
  have X : Wd D A s [(h0, .inr (2, [.null, .null, .null, .null, .null, .int (0 : Int32), .int (0 : Int32), .int (0 : Int32)]))] s.heap [] := X
  obtain ⟨H, locs, eH, eL⟩ : ∃ H locs, H = s.heap ∧ locs = ([] : List Loc) := ⟨_, _, rfl, rfl⟩
  rw [← eH, ← eL] at X ⊢
  clear eH eL
  refine lv_aload_n hx hb dX2_init_0 rfl (lv_at hl 0 rfl) ?_
  refine x_objInit (own := RX2) C hl.1 k_8_2 k_1_10 k_1_11 dX2_init_1 (Nat.le_of_ble_eq_true rfl) (Nat.le_of_ble_eq_true rfl) ?_
  refine lv_aload_n hx hb dX2_init_4 rfl (lv_at hl 0 rfl) ?_
  refine lv_bipush (v := (20 : Int32)) hx hb dX2_init_5 (by decide) ?_
  refine x_newa (own := RX2) (atype := .long) (ty := .long) (N' := 20) (a0 := (20, .inr (.inl (fun _ => (0 : Int64))))) C X rfl k_7_17 1 rfl rfl (fun _ => rfl) (by decide) (by decide) (Nat.le_of_ble_eq_true rfl) (Nat.le_of_ble_eq_true rfl) (Nat.le_of_ble_eq_true rfl) dX2_init_7 (fun q_1 H X => ?_)
  have X : Wd D A s [(h0, .inr (2, [.null, .null, .null, .null, .null, .int (0 : Int32), .int (0 : Int32), .int (0 : Int32)])), (q_1, .inl (cJ, 20, .inr (.inl (fun _ => (0 : Int64)))))] H locs := X
  refine W.widen (k := 1) (n := 20) (Nat.le_of_ble_eq_true rfl) (Nat.le_of_ble_eq_true rfl) ?_
  refine x_putF (own := RX2) (T := TX2) C X 0 rfl rfl 1 (by decide) k_8_3 rfl rfl rfl hin rfl (ty := (tyX2 1)) (v := .ref q_1) (by decide +kernel) rfl rfl (Nat.le_of_ble_eq_true rfl) dX2_init_9 (fun H locs X => ?_)
  have X : Wd D A s [(h0, .inr (2, [.null, .ref q_1, .null, .null, .null, .int (0 : Int32), .int (0 : Int32), .int (0 : Int32)])), (q_1, .inl (cJ, 20, .inr (.inl (fun _ => (0 : Int64)))))] H locs := X
  refine lv_aload_n hx hb dX2_init_12 rfl (lv_at hl 0 rfl) ?_
  refine lv_bipush (v := (20 : Int32)) hx hb dX2_init_13 (by decide) ?_
  refine x_newa (own := RX2) (atype := .long) (ty := .long) (N' := 20) (a0 := (20, .inr (.inl (fun _ => (0 : Int64))))) C X rfl k_7_17 1 rfl rfl (fun _ => rfl) (by decide) (by decide) (Nat.le_of_ble_eq_true rfl) (Nat.le_of_ble_eq_true rfl) (Nat.le_of_ble_eq_true rfl) dX2_init_15 (fun q_2 H X => ?_)
  have X : Wd D A s [(h0, .inr (2, [.null, .ref q_1, .null, .null, .null, .int (0 : Int32), .int (0 : Int32), .int (0 : Int32)])), (q_1, .inl (cJ, 20, .inr (.inl (fun _ => (0 : Int64))))), (q_2, .inl (cJ, 20, .inr (.inl (fun _ => (0 : Int64)))))] H locs := X
  refine W.widen (k := 2) (n := 40) (Nat.le_of_ble_eq_true rfl) (Nat.le_of_ble_eq_true rfl) ?_
  refine x_putF (own := RX2) (T := TX2) C X 0 rfl rfl 2 (by decide) k_8_4 rfl rfl rfl hin rfl (ty := (tyX2 2)) (v := .ref q_2) (by decide +kernel) rfl rfl (Nat.le_of_ble_eq_true rfl) dX2_init_17 (fun H locs X => ?_)
  have X : Wd D A s [(h0, .inr (2, [.null, .ref q_1, .ref q_2, .null, .null, .int (0 : Int32), .int (0 : Int32), .int (0 : Int32)])), (q_1, .inl (cJ, 20, .inr (.inl (fun _ => (0 : Int64))))), (q_2, .inl (cJ, 20, .inr (.inl (fun _ => (0 : Int64)))))] H locs := X
  refine lv_aload_n hx hb dX2_init_20 rfl (lv_at hl 0 rfl) ?_
  refine lv_bipush (v := (20 : Int32)) hx hb dX2_init_21 (by decide) ?_
  refine x_newa (own := RX2) (atype := .long) (ty := .long) (N' := 20) (a0 := (20, .inr (.inl (fun _ => (0 : Int64))))) C X rfl k_7_17 1 rfl rfl (fun _ => rfl) (by decide) (by decide) (Nat.le_of_ble_eq_true rfl) (Nat.le_of_ble_eq_true rfl) (Nat.le_of_ble_eq_true rfl) dX2_init_23 (fun q_3 H X => ?_)
  have X : Wd D A s [(h0, .inr (2, [.null, .ref q_1, .ref q_2, .null, .null, .int (0 : Int32), .int (0 : Int32), .int (0 : Int32)])), (q_1, .inl (cJ, 20, .inr (.inl (fun _ => (0 : Int64))))), (q_2, .inl (cJ, 20, .inr (.inl (fun _ => (0 : Int64))))), (q_3, .inl (cJ, 20, .inr (.inl (fun _ => (0 : Int64)))))] H locs := X
  refine W.widen (k := 3) (n := 60) (Nat.le_of_ble_eq_true rfl) (Nat.le_of_ble_eq_true rfl) ?_
  refine x_putF (own := RX2) (T := TX2) C X 0 rfl rfl 3 (by decide) k_8_5 rfl rfl rfl hin rfl (ty := (tyX2 3)) (v := .ref q_3) (by decide +kernel) rfl rfl (Nat.le_of_ble_eq_true rfl) dX2_init_25 (fun H locs X => ?_)
  have X : Wd D A s [(h0, .inr (2, [.null, .ref q_1, .ref q_2, .ref q_3, .null, .int (0 : Int32), .int (0 : Int32), .int (0 : Int32)])), (q_1, .inl (cJ, 20, .inr (.inl (fun _ => (0 : Int64))))), (q_2, .inl (cJ, 20, .inr (.inl (fun _ => (0 : Int64))))), (q_3, .inl (cJ, 20, .inr (.inl (fun _ => (0 : Int64)))))] H locs := X
  refine lv_aload_n hx hb dX2_init_28 rfl (lv_at hl 0 rfl) ?_
  refine lv_bipush (v := (20 : Int32)) hx hb dX2_init_29 (by decide) ?_
  refine x_newa (own := RX2) (atype := .long) (ty := .long) (N' := 20) (a0 := (20, .inr (.inl (fun _ => (0 : Int64))))) C X rfl k_7_17 1 rfl rfl (fun _ => rfl) (by decide) (by decide) (Nat.le_of_ble_eq_true rfl) (Nat.le_of_ble_eq_true rfl) (Nat.le_of_ble_eq_true rfl) dX2_init_31 (fun q_4 H X => ?_)
  have X : Wd D A s [(h0, .inr (2, [.null, .ref q_1, .ref q_2, .ref q_3, .null, .int (0 : Int32), .int (0 : Int32), .int (0 : Int32)])), (q_1, .inl (cJ, 20, .inr (.inl (fun _ => (0 : Int64))))), (q_2, .inl (cJ, 20, .inr (.inl (fun _ => (0 : Int64))))), (q_3, .inl (cJ, 20, .inr (.inl (fun _ => (0 : Int64))))), (q_4, .inl (cJ, 20, .inr (.inl (fun _ => (0 : Int64)))))] H locs := X
  refine W.widen (k := 4) (n := 80) (Nat.le_of_ble_eq_true rfl) (Nat.le_of_ble_eq_true rfl) ?_
  refine x_putF (own := RX2) (T := TX2) C X 0 rfl rfl 4 (by decide) k_8_6 rfl rfl rfl hin rfl (ty := (tyX2 4)) (v := .ref q_4) (by decide +kernel) rfl rfl (Nat.le_of_ble_eq_true rfl) dX2_init_33 (fun H locs X => ?_)
  have X : Wd D A s [(h0, .inr (2, [.null, .ref q_1, .ref q_2, .ref q_3, .ref q_4, .int (0 : Int32), .int (0 : Int32), .int (0 : Int32)])), (q_1, .inl (cJ, 20, .inr (.inl (fun _ => (0 : Int64))))), (q_2, .inl (cJ, 20, .inr (.inl (fun _ => (0 : Int64))))), (q_3, .inl (cJ, 20, .inr (.inl (fun _ => (0 : Int64))))), (q_4, .inl (cJ, 20, .inr (.inl (fun _ => (0 : Int64)))))] H locs := X
  refine lv_aload_n hx hb dX2_init_36 rfl (lv_at hl 0 rfl) ?_
  refine lv_iconst (v := (0 : Int32)) hx hb dX2_init_37 (by decide) ?_
  refine x_put (own := RX2) (T := TX2) C X 0 rfl rfl 5 (by decide) k_8_7 rfl rfl rfl (ty := .int) (v := .int (0 : Int32)) (by decide +kernel) rfl rfl (Nat.le_of_ble_eq_true rfl) dX2_init_38 (fun H locs X => ?_)
  have X : Wd D A s [(h0, .inr (2, [.null, .ref q_1, .ref q_2, .ref q_3, .ref q_4, .int (0 : Int32), .int (0 : Int32), .int (0 : Int32)])), (q_1, .inl (cJ, 20, .inr (.inl (fun _ => (0 : Int64))))), (q_2, .inl (cJ, 20, .inr (.inl (fun _ => (0 : Int64))))), (q_3, .inl (cJ, 20, .inr (.inl (fun _ => (0 : Int64))))), (q_4, .inl (cJ, 20, .inr (.inl (fun _ => (0 : Int64)))))] H locs := X
  refine lv_aload_n hx hb dX2_init_41 rfl (lv_at hl 0 rfl) ?_
  refine lv_iconst (v := (0 : Int32)) hx hb dX2_init_42 (by decide) ?_
  refine x_put (own := RX2) (T := TX2) C X 0 rfl rfl 6 (by decide) k_8_8 rfl rfl rfl (ty := .int) (v := .int (0 : Int32)) (by decide +kernel) rfl rfl (Nat.le_of_ble_eq_true rfl) dX2_init_43 (fun H locs X => ?_)
  have X : Wd D A s [(h0, .inr (2, [.null, .ref q_1, .ref q_2, .ref q_3, .ref q_4, .int (0 : Int32), .int (0 : Int32), .int (0 : Int32)])), (q_1, .inl (cJ, 20, .inr (.inl (fun _ => (0 : Int64))))), (q_2, .inl (cJ, 20, .inr (.inl (fun _ => (0 : Int64))))), (q_3, .inl (cJ, 20, .inr (.inl (fun _ => (0 : Int64))))), (q_4, .inl (cJ, 20, .inr (.inl (fun _ => (0 : Int64)))))] H locs := X
  refine lv_aload_n hx hb dX2_init_46 rfl (lv_at hl 0 rfl) ?_
  refine lv_iconst (v := (0 : Int32)) hx hb dX2_init_47 (by decide) ?_
  refine x_put (own := RX2) (T := TX2) C X 0 rfl rfl 7 (by decide) k_8_9 rfl rfl rfl (ty := .int) (v := .int (0 : Int32)) (by decide +kernel) rfl rfl (Nat.le_of_ble_eq_true rfl) dX2_init_48 (fun H locs X => ?_)
  have X : Wd D A s [(h0, .inr (2, [.null, .ref q_1, .ref q_2, .ref q_3, .ref q_4, .int (0 : Int32), .int (0 : Int32), .int (0 : Int32)])), (q_1, .inl (cJ, 20, .inr (.inl (fun _ => (0 : Int64))))), (q_2, .inl (cJ, 20, .inr (.inl (fun _ => (0 : Int64))))), (q_3, .inl (cJ, 20, .inr (.inl (fun _ => (0 : Int64))))), (q_4, .inl (cJ, 20, .inr (.inl (fun _ => (0 : Int64)))))] H locs := X
  refine lv_aload_n hx hb dX2_init_51 rfl (lv_at hl 0 rfl) ?_
  refine lv_aload_n hx hb dX2_init_52 rfl (lv_at hl 1 rfl) ?_
  refine x_putF (own := RX2) (T := TX2) C X 0 rfl rfl 0 (by decide) k_8_10 rfl rfl rfl hin rfl (ty := (tyX2 0)) (v := .ref wa) (by decide +kernel) rfl rfl (Nat.le_of_ble_eq_true rfl) dX2_init_53 (fun H locs X => ?_)
  have X : Wd D A s [(h0, .inr (2, [.ref wa, .ref q_1, .ref q_2, .ref q_3, .ref q_4, .int (0 : Int32), .int (0 : Int32), .int (0 : Int32)])), (q_1, .inl (cJ, 20, .inr (.inl (fun _ => (0 : Int64))))), (q_2, .inl (cJ, 20, .inr (.inl (fun _ => (0 : Int64))))), (q_3, .inl (cJ, 20, .inr (.inl (fun _ => (0 : Int64))))), (q_4, .inl (cJ, 20, .inr (.inl (fun _ => (0 : Int64)))))] H locs := X
  exact x_vret C X hr hlk (fun k => ([h0, q_1, q_2, q_3, q_4] : List Nat).getD k 0) [0, 1, 2, 3, 4] (by decide) rfl (trivial) (Nat.le_of_ble_eq_true rfl) (Nat.le_of_ble_eq_true rfl) dX2_init_56
set_option maxHeartbeats 4000000 in
set_option maxRecDepth 100000 in
theorem c_Chan_init (l : Launch) (D : va_G) (cI cJ cZ cB : ClassId) (cO : ClassId) (h0 : Nat) :
    CV l D [(cI, .int), (cJ, .long), (cZ, .boolean), (cB, .byte), (cO, .object "LuckLinks$World")] yX0_init cX0_init 1 ({ frames := 1, cells := 7, slots := 9027, locals := 20 } : Room) [.ref h0] [(h0, .inr (0, [.null, .null, .null, .null, .null, .null, .long (0 : Int64), .int (0 : Int32), .null]))] (fun (u : (Nat → Nat)) => match u with | u => (True)) (fun (u : (Nat → Nat)) => match u with | u => [(h0, .inr (0, [.ref (u 1), .ref (u 2), .ref (u 3), .ref (u 4), .ref (u 5), .ref (u 6), .long (0 : Int64), .int (0 : Int32), .ref (u 7)])), ((u 1), .inl (cJ, 73, .inr (.inl (fun _ => (0 : Int64))))), ((u 2), .inl (cJ, 73, .inr (.inl (fun _ => (0 : Int64))))), ((u 3), .inl (cJ, 74, .inr (.inl (fun _ => (0 : Int64))))), ((u 4), .inl (cJ, 145, .inr (.inl (fun _ => (0 : Int64))))), ((u 5), .inl (cJ, 4321, .inr (.inl (fun _ => (0 : Int64))))), ((u 6), .inl (cJ, 4321, .inr (.inl (fun _ => (0 : Int64))))), ((u 7), .inl (cI, 20, .inl (fun _ => (0 : Int32))))]) := by
  intro sz
  refine body_of (y := yX0_init) (cc := cX0_init) (maxL := 1) (ret := none) (rm := ({ frames := 1, cells := 7, slots := 9027, locals := 20 } : Room)) (wc := [(h0, .inr (0, [.null, .null, .null, .null, .null, .null, .long (0 : Int64), .int (0 : Int32), .null]))]) (tys := [(cI, .int), (cJ, .long), (cZ, .boolean), (cB, .byte), (cO, .object "LuckLinks$World")]) (D := D) (sz := sz) (own := RX0) (av := [.ref h0]) (Qc := fun A => va_Qv (fun (u : (Nat → Nat)) => match u with | u => (True)) (fun u t => Aft D A ((fun (u : (Nat → Nat)) => match u with | u => [(h0, .inr (0, [.ref (u 1), .ref (u 2), .ref (u 3), .ref (u 4), .ref (u 5), .ref (u 6), .long (0 : Int64), .int (0 : Int32), .ref (u 7)])), ((u 1), .inl (cJ, 73, .inr (.inl (fun _ => (0 : Int64))))), ((u 2), .inl (cJ, 73, .inr (.inl (fun _ => (0 : Int64))))), ((u 3), .inl (cJ, 74, .inr (.inl (fun _ => (0 : Int64))))), ((u 4), .inl (cJ, 145, .inr (.inl (fun _ => (0 : Int64))))), ((u 5), .inl (cJ, 4321, .inr (.inl (fun _ => (0 : Int64))))), ((u 6), .inl (cJ, 4321, .inr (.inl (fun _ => (0 : Int64))))), ((u 7), .inl (cI, 20, .inl (fun _ => (0 : Int32))))]) u) t) A) (by decide) rfl (Nat.le_of_ble_eq_true rfl) (fun p e s m below meth c A ls C hr hlk hin X hl => ?_)
  have hx := C.1
  have hb := C.2.1
  have hown := C.2.2.2.1
  have hts := C.2.2.2.2.1
  have hl : lv_has ls 1 [(0, .ref h0)] := hl
  show W p l e _ s m _ below meth c s.heap [] 0 0 (MQ below (va_Qv (fun (u : (Nat → Nat)) => match u with | u => (True)) (fun u t => Aft D A ((fun (u : (Nat → Nat)) => match u with | u => [(h0, .inr (0, [.ref (u 1), .ref (u 2), .ref (u 3), .ref (u 4), .ref (u 5), .ref (u 6), .long (0 : Int64), .int (0 : Int32), .ref (u 7)])), ((u 1), .inl (cJ, 73, .inr (.inl (fun _ => (0 : Int64))))), ((u 2), .inl (cJ, 73, .inr (.inl (fun _ => (0 : Int64))))), ((u 3), .inl (cJ, 74, .inr (.inl (fun _ => (0 : Int64))))), ((u 4), .inl (cJ, 145, .inr (.inl (fun _ => (0 : Int64))))), ((u 5), .inl (cJ, 4321, .inr (.inl (fun _ => (0 : Int64))))), ((u 6), .inl (cJ, 4321, .inr (.inl (fun _ => (0 : Int64))))), ((u 7), .inl (cI, 20, .inl (fun _ => (0 : Int32))))]) u) t) A) ([.ref h0] : List Value).toArray s 7 9027 A) (F0 m 0 ls [])
  have X : Wd D A s [(h0, .inr (0, [.null, .null, .null, .null, .null, .null, .long (0 : Int64), .int (0 : Int32), .null]))] s.heap [] := X
  obtain ⟨H, locs, eH, eL⟩ : ∃ H locs, H = s.heap ∧ locs = ([] : List Loc) := ⟨_, _, rfl, rfl⟩
  rw [← eH, ← eL] at X ⊢
  clear eH eL
  refine lv_aload_n hx hb dX0_init_0 rfl (lv_at hl 0 rfl) ?_
  refine x_objInit (own := RX0) C hl.1 k_8_14 k_1_10 k_1_11 dX0_init_1 (Nat.le_of_ble_eq_true rfl) (Nat.le_of_ble_eq_true rfl) ?_
  refine lv_aload_n hx hb dX0_init_4 rfl (lv_at hl 0 rfl) ?_
  refine lv_bipush (v := (73 : Int32)) hx hb dX0_init_5 (by decide) ?_
  refine x_newa (own := RX0) (atype := .long) (ty := .long) (N' := 73) (a0 := (73, .inr (.inl (fun _ => (0 : Int64))))) C X rfl k_7_17 1 rfl rfl (fun _ => rfl) (by decide) (by decide) (Nat.le_of_ble_eq_true rfl) (Nat.le_of_ble_eq_true rfl) (Nat.le_of_ble_eq_true rfl) dX0_init_7 (fun q_1 H X => ?_)
  have X : Wd D A s [(h0, .inr (0, [.null, .null, .null, .null, .null, .null, .long (0 : Int64), .int (0 : Int32), .null])), (q_1, .inl (cJ, 73, .inr (.inl (fun _ => (0 : Int64)))))] H locs := X
  refine W.widen (k := 1) (n := 73) (Nat.le_of_ble_eq_true rfl) (Nat.le_of_ble_eq_true rfl) ?_
  refine x_putF (own := RX0) (T := TX0) C X 0 rfl rfl 0 (by decide) k_8_15 rfl rfl rfl hin rfl (ty := (tyX0 0)) (v := .ref q_1) (by decide +kernel) rfl rfl (Nat.le_of_ble_eq_true rfl) dX0_init_9 (fun H locs X => ?_)
  have X : Wd D A s [(h0, .inr (0, [.ref q_1, .null, .null, .null, .null, .null, .long (0 : Int64), .int (0 : Int32), .null])), (q_1, .inl (cJ, 73, .inr (.inl (fun _ => (0 : Int64)))))] H locs := X
  refine lv_aload_n hx hb dX0_init_12 rfl (lv_at hl 0 rfl) ?_
  refine lv_bipush (v := (73 : Int32)) hx hb dX0_init_13 (by decide) ?_
  refine x_newa (own := RX0) (atype := .long) (ty := .long) (N' := 73) (a0 := (73, .inr (.inl (fun _ => (0 : Int64))))) C X rfl k_7_17 1 rfl rfl (fun _ => rfl) (by decide) (by decide) (Nat.le_of_ble_eq_true rfl) (Nat.le_of_ble_eq_true rfl) (Nat.le_of_ble_eq_true rfl) dX0_init_15 (fun q_2 H X => ?_)
  have X : Wd D A s [(h0, .inr (0, [.ref q_1, .null, .null, .null, .null, .null, .long (0 : Int64), .int (0 : Int32), .null])), (q_1, .inl (cJ, 73, .inr (.inl (fun _ => (0 : Int64))))), (q_2, .inl (cJ, 73, .inr (.inl (fun _ => (0 : Int64)))))] H locs := X
  refine W.widen (k := 2) (n := 146) (Nat.le_of_ble_eq_true rfl) (Nat.le_of_ble_eq_true rfl) ?_
  refine x_putF (own := RX0) (T := TX0) C X 0 rfl rfl 1 (by decide) k_8_16 rfl rfl rfl hin rfl (ty := (tyX0 1)) (v := .ref q_2) (by decide +kernel) rfl rfl (Nat.le_of_ble_eq_true rfl) dX0_init_17 (fun H locs X => ?_)
  have X : Wd D A s [(h0, .inr (0, [.ref q_1, .ref q_2, .null, .null, .null, .null, .long (0 : Int64), .int (0 : Int32), .null])), (q_1, .inl (cJ, 73, .inr (.inl (fun _ => (0 : Int64))))), (q_2, .inl (cJ, 73, .inr (.inl (fun _ => (0 : Int64)))))] H locs := X
  refine lv_aload_n hx hb dX0_init_20 rfl (lv_at hl 0 rfl) ?_
  refine lv_bipush (v := (74 : Int32)) hx hb dX0_init_21 (by decide) ?_
  refine x_newa (own := RX0) (atype := .long) (ty := .long) (N' := 74) (a0 := (74, .inr (.inl (fun _ => (0 : Int64))))) C X rfl k_7_17 1 rfl rfl (fun _ => rfl) (by decide) (by decide) (Nat.le_of_ble_eq_true rfl) (Nat.le_of_ble_eq_true rfl) (Nat.le_of_ble_eq_true rfl) dX0_init_23 (fun q_3 H X => ?_)
  have X : Wd D A s [(h0, .inr (0, [.ref q_1, .ref q_2, .null, .null, .null, .null, .long (0 : Int64), .int (0 : Int32), .null])), (q_1, .inl (cJ, 73, .inr (.inl (fun _ => (0 : Int64))))), (q_2, .inl (cJ, 73, .inr (.inl (fun _ => (0 : Int64))))), (q_3, .inl (cJ, 74, .inr (.inl (fun _ => (0 : Int64)))))] H locs := X
  refine W.widen (k := 3) (n := 220) (Nat.le_of_ble_eq_true rfl) (Nat.le_of_ble_eq_true rfl) ?_
  refine x_putF (own := RX0) (T := TX0) C X 0 rfl rfl 2 (by decide) k_8_17 rfl rfl rfl hin rfl (ty := (tyX0 2)) (v := .ref q_3) (by decide +kernel) rfl rfl (Nat.le_of_ble_eq_true rfl) dX0_init_25 (fun H locs X => ?_)
  have X : Wd D A s [(h0, .inr (0, [.ref q_1, .ref q_2, .ref q_3, .null, .null, .null, .long (0 : Int64), .int (0 : Int32), .null])), (q_1, .inl (cJ, 73, .inr (.inl (fun _ => (0 : Int64))))), (q_2, .inl (cJ, 73, .inr (.inl (fun _ => (0 : Int64))))), (q_3, .inl (cJ, 74, .inr (.inl (fun _ => (0 : Int64)))))] H locs := X
  refine lv_aload_n hx hb dX0_init_28 rfl (lv_at hl 0 rfl) ?_
  refine lv_sipush (v := (145 : Int32)) hx hb dX0_init_29 (by decide) ?_
  refine x_newa (own := RX0) (atype := .long) (ty := .long) (N' := 145) (a0 := (145, .inr (.inl (fun _ => (0 : Int64))))) C X rfl k_7_17 1 rfl rfl (fun _ => rfl) (by decide) (by decide) (Nat.le_of_ble_eq_true rfl) (Nat.le_of_ble_eq_true rfl) (Nat.le_of_ble_eq_true rfl) dX0_init_32 (fun q_4 H X => ?_)
  have X : Wd D A s [(h0, .inr (0, [.ref q_1, .ref q_2, .ref q_3, .null, .null, .null, .long (0 : Int64), .int (0 : Int32), .null])), (q_1, .inl (cJ, 73, .inr (.inl (fun _ => (0 : Int64))))), (q_2, .inl (cJ, 73, .inr (.inl (fun _ => (0 : Int64))))), (q_3, .inl (cJ, 74, .inr (.inl (fun _ => (0 : Int64))))), (q_4, .inl (cJ, 145, .inr (.inl (fun _ => (0 : Int64)))))] H locs := X
  refine W.widen (k := 4) (n := 365) (Nat.le_of_ble_eq_true rfl) (Nat.le_of_ble_eq_true rfl) ?_
  refine x_putF (own := RX0) (T := TX0) C X 0 rfl rfl 3 (by decide) k_8_18 rfl rfl rfl hin rfl (ty := (tyX0 3)) (v := .ref q_4) (by decide +kernel) rfl rfl (Nat.le_of_ble_eq_true rfl) dX0_init_34 (fun H locs X => ?_)
  have X : Wd D A s [(h0, .inr (0, [.ref q_1, .ref q_2, .ref q_3, .ref q_4, .null, .null, .long (0 : Int64), .int (0 : Int32), .null])), (q_1, .inl (cJ, 73, .inr (.inl (fun _ => (0 : Int64))))), (q_2, .inl (cJ, 73, .inr (.inl (fun _ => (0 : Int64))))), (q_3, .inl (cJ, 74, .inr (.inl (fun _ => (0 : Int64))))), (q_4, .inl (cJ, 145, .inr (.inl (fun _ => (0 : Int64)))))] H locs := X
  refine lv_aload_n hx hb dX0_init_37 rfl (lv_at hl 0 rfl) ?_
  refine lv_sipush (v := (4321 : Int32)) hx hb dX0_init_38 (by decide) ?_
  refine x_newa (own := RX0) (atype := .long) (ty := .long) (N' := 4321) (a0 := (4321, .inr (.inl (fun _ => (0 : Int64))))) C X rfl k_7_17 1 rfl rfl (fun _ => rfl) (by decide) (by decide) (Nat.le_of_ble_eq_true rfl) (Nat.le_of_ble_eq_true rfl) (Nat.le_of_ble_eq_true rfl) dX0_init_41 (fun q_5 H X => ?_)
  have X : Wd D A s [(h0, .inr (0, [.ref q_1, .ref q_2, .ref q_3, .ref q_4, .null, .null, .long (0 : Int64), .int (0 : Int32), .null])), (q_1, .inl (cJ, 73, .inr (.inl (fun _ => (0 : Int64))))), (q_2, .inl (cJ, 73, .inr (.inl (fun _ => (0 : Int64))))), (q_3, .inl (cJ, 74, .inr (.inl (fun _ => (0 : Int64))))), (q_4, .inl (cJ, 145, .inr (.inl (fun _ => (0 : Int64))))), (q_5, .inl (cJ, 4321, .inr (.inl (fun _ => (0 : Int64)))))] H locs := X
  refine W.widen (k := 5) (n := 4686) (Nat.le_of_ble_eq_true rfl) (Nat.le_of_ble_eq_true rfl) ?_
  refine x_putF (own := RX0) (T := TX0) C X 0 rfl rfl 4 (by decide) k_8_19 rfl rfl rfl hin rfl (ty := (tyX0 4)) (v := .ref q_5) (by decide +kernel) rfl rfl (Nat.le_of_ble_eq_true rfl) dX0_init_43 (fun H locs X => ?_)
  have X : Wd D A s [(h0, .inr (0, [.ref q_1, .ref q_2, .ref q_3, .ref q_4, .ref q_5, .null, .long (0 : Int64), .int (0 : Int32), .null])), (q_1, .inl (cJ, 73, .inr (.inl (fun _ => (0 : Int64))))), (q_2, .inl (cJ, 73, .inr (.inl (fun _ => (0 : Int64))))), (q_3, .inl (cJ, 74, .inr (.inl (fun _ => (0 : Int64))))), (q_4, .inl (cJ, 145, .inr (.inl (fun _ => (0 : Int64))))), (q_5, .inl (cJ, 4321, .inr (.inl (fun _ => (0 : Int64)))))] H locs := X
  refine lv_aload_n hx hb dX0_init_46 rfl (lv_at hl 0 rfl) ?_
  refine lv_sipush (v := (4321 : Int32)) hx hb dX0_init_47 (by decide) ?_
  refine x_newa (own := RX0) (atype := .long) (ty := .long) (N' := 4321) (a0 := (4321, .inr (.inl (fun _ => (0 : Int64))))) C X rfl k_7_17 1 rfl rfl (fun _ => rfl) (by decide) (by decide) (Nat.le_of_ble_eq_true rfl) (Nat.le_of_ble_eq_true rfl) (Nat.le_of_ble_eq_true rfl) dX0_init_50 (fun q_6 H X => ?_)
  have X : Wd D A s [(h0, .inr (0, [.ref q_1, .ref q_2, .ref q_3, .ref q_4, .ref q_5, .null, .long (0 : Int64), .int (0 : Int32), .null])), (q_1, .inl (cJ, 73, .inr (.inl (fun _ => (0 : Int64))))), (q_2, .inl (cJ, 73, .inr (.inl (fun _ => (0 : Int64))))), (q_3, .inl (cJ, 74, .inr (.inl (fun _ => (0 : Int64))))), (q_4, .inl (cJ, 145, .inr (.inl (fun _ => (0 : Int64))))), (q_5, .inl (cJ, 4321, .inr (.inl (fun _ => (0 : Int64))))), (q_6, .inl (cJ, 4321, .inr (.inl (fun _ => (0 : Int64)))))] H locs := X
  refine W.widen (k := 6) (n := 9007) (Nat.le_of_ble_eq_true rfl) (Nat.le_of_ble_eq_true rfl) ?_
  refine x_putF (own := RX0) (T := TX0) C X 0 rfl rfl 5 (by decide) k_8_20 rfl rfl rfl hin rfl (ty := (tyX0 5)) (v := .ref q_6) (by decide +kernel) rfl rfl (Nat.le_of_ble_eq_true rfl) dX0_init_52 (fun H locs X => ?_)
  have X : Wd D A s [(h0, .inr (0, [.ref q_1, .ref q_2, .ref q_3, .ref q_4, .ref q_5, .ref q_6, .long (0 : Int64), .int (0 : Int32), .null])), (q_1, .inl (cJ, 73, .inr (.inl (fun _ => (0 : Int64))))), (q_2, .inl (cJ, 73, .inr (.inl (fun _ => (0 : Int64))))), (q_3, .inl (cJ, 74, .inr (.inl (fun _ => (0 : Int64))))), (q_4, .inl (cJ, 145, .inr (.inl (fun _ => (0 : Int64))))), (q_5, .inl (cJ, 4321, .inr (.inl (fun _ => (0 : Int64))))), (q_6, .inl (cJ, 4321, .inr (.inl (fun _ => (0 : Int64)))))] H locs := X
  refine lv_aload_n hx hb dX0_init_55 rfl (lv_at hl 0 rfl) ?_
  refine lv_lconst (v := (0 : Int64)) hx hb dX0_init_56 (by decide) ?_
  refine x_put (own := RX0) (T := TX0) C X 0 rfl rfl 6 (by decide) k_8_21 rfl rfl rfl (ty := .long) (v := .long (0 : Int64)) (by decide +kernel) rfl rfl (Nat.le_of_ble_eq_true rfl) dX0_init_57 (fun H locs X => ?_)
  have X : Wd D A s [(h0, .inr (0, [.ref q_1, .ref q_2, .ref q_3, .ref q_4, .ref q_5, .ref q_6, .long (0 : Int64), .int (0 : Int32), .null])), (q_1, .inl (cJ, 73, .inr (.inl (fun _ => (0 : Int64))))), (q_2, .inl (cJ, 73, .inr (.inl (fun _ => (0 : Int64))))), (q_3, .inl (cJ, 74, .inr (.inl (fun _ => (0 : Int64))))), (q_4, .inl (cJ, 145, .inr (.inl (fun _ => (0 : Int64))))), (q_5, .inl (cJ, 4321, .inr (.inl (fun _ => (0 : Int64))))), (q_6, .inl (cJ, 4321, .inr (.inl (fun _ => (0 : Int64)))))] H locs := X
  refine lv_aload_n hx hb dX0_init_60 rfl (lv_at hl 0 rfl) ?_
  refine lv_iconst (v := (0 : Int32)) hx hb dX0_init_61 (by decide) ?_
  refine x_put (own := RX0) (T := TX0) C X 0 rfl rfl 7 (by decide) k_8_22 rfl rfl rfl (ty := .int) (v := .int (0 : Int32)) (by decide +kernel) rfl rfl (Nat.le_of_ble_eq_true rfl) dX0_init_62 (fun H locs X => ?_)
  have X : Wd D A s [(h0, .inr (0, [.ref q_1, .ref q_2, .ref q_3, .ref q_4, .ref q_5, .ref q_6, .long (0 : Int64), .int (0 : Int32), .null])), (q_1, .inl (cJ, 73, .inr (.inl (fun _ => (0 : Int64))))), (q_2, .inl (cJ, 73, .inr (.inl (fun _ => (0 : Int64))))), (q_3, .inl (cJ, 74, .inr (.inl (fun _ => (0 : Int64))))), (q_4, .inl (cJ, 145, .inr (.inl (fun _ => (0 : Int64))))), (q_5, .inl (cJ, 4321, .inr (.inl (fun _ => (0 : Int64))))), (q_6, .inl (cJ, 4321, .inr (.inl (fun _ => (0 : Int64)))))] H locs := X
  refine lv_aload_n hx hb dX0_init_65 rfl (lv_at hl 0 rfl) ?_
  refine lv_bipush (v := (20 : Int32)) hx hb dX0_init_66 (by decide) ?_
  refine x_newa (own := RX0) (atype := .int) (ty := .int) (N' := 20) (a0 := (20, .inl (fun _ => (0 : Int32)))) C X rfl k_2_7 0 rfl rfl (fun _ => rfl) (by decide) (by decide) (Nat.le_of_ble_eq_true rfl) (Nat.le_of_ble_eq_true rfl) (Nat.le_of_ble_eq_true rfl) dX0_init_68 (fun q_7 H X => ?_)
  have X : Wd D A s [(h0, .inr (0, [.ref q_1, .ref q_2, .ref q_3, .ref q_4, .ref q_5, .ref q_6, .long (0 : Int64), .int (0 : Int32), .null])), (q_1, .inl (cJ, 73, .inr (.inl (fun _ => (0 : Int64))))), (q_2, .inl (cJ, 73, .inr (.inl (fun _ => (0 : Int64))))), (q_3, .inl (cJ, 74, .inr (.inl (fun _ => (0 : Int64))))), (q_4, .inl (cJ, 145, .inr (.inl (fun _ => (0 : Int64))))), (q_5, .inl (cJ, 4321, .inr (.inl (fun _ => (0 : Int64))))), (q_6, .inl (cJ, 4321, .inr (.inl (fun _ => (0 : Int64))))), (q_7, .inl (cI, 20, .inl (fun _ => (0 : Int32))))] H locs := X
  refine W.widen (k := 7) (n := 9027) (Nat.le_of_ble_eq_true rfl) (Nat.le_of_ble_eq_true rfl) ?_
  refine x_putF (own := RX0) (T := TX0) C X 0 rfl rfl 8 (by decide) k_8_23 rfl rfl rfl hin rfl (ty := (tyX0 8)) (v := .ref q_7) (by decide +kernel) rfl rfl (Nat.le_of_ble_eq_true rfl) dX0_init_70 (fun H locs X => ?_)
  have X : Wd D A s [(h0, .inr (0, [.ref q_1, .ref q_2, .ref q_3, .ref q_4, .ref q_5, .ref q_6, .long (0 : Int64), .int (0 : Int32), .ref q_7])), (q_1, .inl (cJ, 73, .inr (.inl (fun _ => (0 : Int64))))), (q_2, .inl (cJ, 73, .inr (.inl (fun _ => (0 : Int64))))), (q_3, .inl (cJ, 74, .inr (.inl (fun _ => (0 : Int64))))), (q_4, .inl (cJ, 145, .inr (.inl (fun _ => (0 : Int64))))), (q_5, .inl (cJ, 4321, .inr (.inl (fun _ => (0 : Int64))))), (q_6, .inl (cJ, 4321, .inr (.inl (fun _ => (0 : Int64))))), (q_7, .inl (cI, 20, .inl (fun _ => (0 : Int32))))] H locs := X
  exact x_vret C X hr hlk (fun k => ([h0, q_1, q_2, q_3, q_4, q_5, q_6, q_7] : List Nat).getD k 0) [0, 1, 2, 3, 4, 5, 6, 7] (by decide) rfl (trivial) (Nat.le_of_ble_eq_true rfl) (Nat.le_of_ble_eq_true rfl) dX0_init_73
set_option maxHeartbeats 4000000 in
set_option maxRecDepth 100000 in
theorem c_Tal_init (l : Launch) (D : va_G) (cI cJ cZ cB : ClassId) (cO : ClassId) (h0 wa : Nat) :
    CV l D [(cI, .int), (cJ, .long), (cZ, .boolean), (cB, .byte), (cO, .object "LuckLinks$World")] yX8_init cX8_init 2 ({ frames := 1, cells := 0, slots := 0, locals := 20 } : Room) [.ref h0, .ref wa] [(h0, .inr (8, [.null, .int (0 : Int32), .int (0 : Int32), .int (0 : Int32), .int (0 : Int32), .long (0 : Int64), .long (0 : Int64), .long (0 : Int64)]))] (fun (u : (Nat → Nat)) => match u with | u => (True)) (fun (u : (Nat → Nat)) => match u with | u => [(h0, .inr (8, [.ref wa, .int (0 : Int32), .int (0 : Int32), .int (-1 : Int32), .int (0 : Int32), .long (0 : Int64), .long (0 : Int64), .long (0 : Int64)]))]) := by
  intro sz
  refine body_of (y := yX8_init) (cc := cX8_init) (maxL := 2) (ret := none) (rm := ({ frames := 1, cells := 0, slots := 0, locals := 20 } : Room)) (wc := [(h0, .inr (8, [.null, .int (0 : Int32), .int (0 : Int32), .int (0 : Int32), .int (0 : Int32), .long (0 : Int64), .long (0 : Int64), .long (0 : Int64)]))]) (tys := [(cI, .int), (cJ, .long), (cZ, .boolean), (cB, .byte), (cO, .object "LuckLinks$World")]) (D := D) (sz := sz) (own := RX8) (av := [.ref h0, .ref wa]) (Qc := fun A => va_Qv (fun (u : (Nat → Nat)) => match u with | u => (True)) (fun u t => Aft D A ((fun (u : (Nat → Nat)) => match u with | u => [(h0, .inr (8, [.ref wa, .int (0 : Int32), .int (0 : Int32), .int (-1 : Int32), .int (0 : Int32), .long (0 : Int64), .long (0 : Int64), .long (0 : Int64)]))]) u) t) A) (by decide) rfl (Nat.le_of_ble_eq_true rfl) (fun p e s m below meth c A ls C hr hlk hin X hl => ?_)
  have hx := C.1
  have hb := C.2.1
  have hown := C.2.2.2.1
  have hts := C.2.2.2.2.1
  have hl : lv_has ls 2 [(0, .ref h0), (1, .ref wa)] := hl
  show W p l e _ s m _ below meth c s.heap [] 0 0 (MQ below (va_Qv (fun (u : (Nat → Nat)) => match u with | u => (True)) (fun u t => Aft D A ((fun (u : (Nat → Nat)) => match u with | u => [(h0, .inr (8, [.ref wa, .int (0 : Int32), .int (0 : Int32), .int (-1 : Int32), .int (0 : Int32), .long (0 : Int64), .long (0 : Int64), .long (0 : Int64)]))]) u) t) A) ([.ref h0, .ref wa] : List Value).toArray s 0 0 A) (F0 m 0 ls [])
  have X : Wd D A s [(h0, .inr (8, [.null, .int (0 : Int32), .int (0 : Int32), .int (0 : Int32), .int (0 : Int32), .long (0 : Int64), .long (0 : Int64), .long (0 : Int64)]))] s.heap [] := X
  obtain ⟨H, locs, eH, eL⟩ : ∃ H locs, H = s.heap ∧ locs = ([] : List Loc) := ⟨_, _, rfl, rfl⟩
  rw [← eH, ← eL] at X ⊢
  clear eH eL
  refine lv_aload_n hx hb dX8_init_0 rfl (lv_at hl 0 rfl) ?_
  refine x_objInit (own := RX8) C hl.1 k_9_3 k_1_10 k_1_11 dX8_init_1 (Nat.le_of_ble_eq_true rfl) (Nat.le_of_ble_eq_true rfl) ?_
  refine lv_aload_n hx hb dX8_init_4 rfl (lv_at hl 0 rfl) ?_
  refine lv_iconst (v := (0 : Int32)) hx hb dX8_init_5 (by decide) ?_
  refine x_put (own := RX8) (T := TX8) C X 0 rfl rfl 1 (by decide) k_9_4 rfl rfl rfl (ty := .int) (v := .int (0 : Int32)) (by decide +kernel) rfl rfl (Nat.le_of_ble_eq_true rfl) dX8_init_6 (fun H locs X => ?_)
  have X : Wd D A s [(h0, .inr (8, [.null, .int (0 : Int32), .int (0 : Int32), .int (0 : Int32), .int (0 : Int32), .long (0 : Int64), .long (0 : Int64), .long (0 : Int64)]))] H locs := X
  refine lv_aload_n hx hb dX8_init_9 rfl (lv_at hl 0 rfl) ?_
  refine lv_iconst (v := (0 : Int32)) hx hb dX8_init_10 (by decide) ?_
  refine x_put (own := RX8) (T := TX8) C X 0 rfl rfl 2 (by decide) k_9_5 rfl rfl rfl (ty := .int) (v := .int (0 : Int32)) (by decide +kernel) rfl rfl (Nat.le_of_ble_eq_true rfl) dX8_init_11 (fun H locs X => ?_)
  have X : Wd D A s [(h0, .inr (8, [.null, .int (0 : Int32), .int (0 : Int32), .int (0 : Int32), .int (0 : Int32), .long (0 : Int64), .long (0 : Int64), .long (0 : Int64)]))] H locs := X
  refine lv_aload_n hx hb dX8_init_14 rfl (lv_at hl 0 rfl) ?_
  refine lv_iconst (v := (-1 : Int32)) hx hb dX8_init_15 (by decide) ?_
  refine x_put (own := RX8) (T := TX8) C X 0 rfl rfl 3 (by decide) k_9_6 rfl rfl rfl (ty := .int) (v := .int (-1 : Int32)) (by decide +kernel) rfl rfl (Nat.le_of_ble_eq_true rfl) dX8_init_16 (fun H locs X => ?_)
  have X : Wd D A s [(h0, .inr (8, [.null, .int (0 : Int32), .int (0 : Int32), .int (-1 : Int32), .int (0 : Int32), .long (0 : Int64), .long (0 : Int64), .long (0 : Int64)]))] H locs := X
  refine lv_aload_n hx hb dX8_init_19 rfl (lv_at hl 0 rfl) ?_
  refine lv_iconst (v := (0 : Int32)) hx hb dX8_init_20 (by decide) ?_
  refine x_put (own := RX8) (T := TX8) C X 0 rfl rfl 4 (by decide) k_9_7 rfl rfl rfl (ty := .int) (v := .int (0 : Int32)) (by decide +kernel) rfl rfl (Nat.le_of_ble_eq_true rfl) dX8_init_21 (fun H locs X => ?_)
  have X : Wd D A s [(h0, .inr (8, [.null, .int (0 : Int32), .int (0 : Int32), .int (-1 : Int32), .int (0 : Int32), .long (0 : Int64), .long (0 : Int64), .long (0 : Int64)]))] H locs := X
  refine lv_aload_n hx hb dX8_init_24 rfl (lv_at hl 0 rfl) ?_
  refine lv_lconst (v := (0 : Int64)) hx hb dX8_init_25 (by decide) ?_
  refine x_put (own := RX8) (T := TX8) C X 0 rfl rfl 5 (by decide) k_9_8 rfl rfl rfl (ty := .long) (v := .long (0 : Int64)) (by decide +kernel) rfl rfl (Nat.le_of_ble_eq_true rfl) dX8_init_26 (fun H locs X => ?_)
  have X : Wd D A s [(h0, .inr (8, [.null, .int (0 : Int32), .int (0 : Int32), .int (-1 : Int32), .int (0 : Int32), .long (0 : Int64), .long (0 : Int64), .long (0 : Int64)]))] H locs := X
  refine lv_aload_n hx hb dX8_init_29 rfl (lv_at hl 0 rfl) ?_
  refine lv_lconst (v := (0 : Int64)) hx hb dX8_init_30 (by decide) ?_
  refine x_put (own := RX8) (T := TX8) C X 0 rfl rfl 6 (by decide) k_9_9 rfl rfl rfl (ty := .long) (v := .long (0 : Int64)) (by decide +kernel) rfl rfl (Nat.le_of_ble_eq_true rfl) dX8_init_31 (fun H locs X => ?_)
  have X : Wd D A s [(h0, .inr (8, [.null, .int (0 : Int32), .int (0 : Int32), .int (-1 : Int32), .int (0 : Int32), .long (0 : Int64), .long (0 : Int64), .long (0 : Int64)]))] H locs := X
  refine lv_aload_n hx hb dX8_init_34 rfl (lv_at hl 0 rfl) ?_
  refine lv_lconst (v := (0 : Int64)) hx hb dX8_init_35 (by decide) ?_
  refine x_put (own := RX8) (T := TX8) C X 0 rfl rfl 7 (by decide) k_9_10 rfl rfl rfl (ty := .long) (v := .long (0 : Int64)) (by decide +kernel) rfl rfl (Nat.le_of_ble_eq_true rfl) dX8_init_36 (fun H locs X => ?_)
  have X : Wd D A s [(h0, .inr (8, [.null, .int (0 : Int32), .int (0 : Int32), .int (-1 : Int32), .int (0 : Int32), .long (0 : Int64), .long (0 : Int64), .long (0 : Int64)]))] H locs := X
  refine lv_aload_n hx hb dX8_init_39 rfl (lv_at hl 0 rfl) ?_
  refine lv_aload_n hx hb dX8_init_40 rfl (lv_at hl 1 rfl) ?_
  refine x_putF (own := RX8) (T := TX8) C X 0 rfl rfl 0 (by decide) k_9_11 rfl rfl rfl hin rfl (ty := (tyX8 0)) (v := .ref wa) (by decide +kernel) rfl rfl (Nat.le_of_ble_eq_true rfl) dX8_init_41 (fun H locs X => ?_)
  have X : Wd D A s [(h0, .inr (8, [.ref wa, .int (0 : Int32), .int (0 : Int32), .int (-1 : Int32), .int (0 : Int32), .long (0 : Int64), .long (0 : Int64), .long (0 : Int64)]))] H locs := X
  exact x_vret C X hr hlk (fun k => ([h0] : List Nat).getD k 0) [0] (by decide) rfl (trivial) (Nat.le_of_ble_eq_true rfl) (Nat.le_of_ble_eq_true rfl) dX8_init_44
