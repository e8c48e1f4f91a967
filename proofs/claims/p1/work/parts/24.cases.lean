theorem k_11_21 : Cond.methodLink RL 13 yX11_player ∈ wsL_law := mr_11 _ (List.mem_of_getElem? (i := 21) rfl)
theorem k_11_22 : Cond.instanceMethod yX11_player ∈ wsL_law := mr_11 _ (List.mem_of_getElem? (i := 22) rfl)
theorem k_11_23 : Cond.selects RX11 yX11_player yX11_player ∈ wsL_law := mr_11 _ (List.mem_of_getElem? (i := 23) rfl)
theorem k_12_0 : Cond.code yX11_player cX11_player 5 (some .int) ∈ wsL_law := mr_12 _ (List.mem_of_getElem? (i := 0) rfl)
theorem k_12_19 : Cond.methodLink RL 17 yX12_player ∈ wsL_law := mr_12 _ (List.mem_of_getElem? (i := 19) rfl)
theorem k_12_20 : Cond.instanceMethod yX12_player ∈ wsL_law := mr_12 _ (List.mem_of_getElem? (i := 20) rfl)
theorem k_12_21 : Cond.selects RX12 yX12_player yX12_player ∈ wsL_law := mr_12 _ (List.mem_of_getElem? (i := 21) rfl)
theorem k_12_22 : Cond.code yX12_player cX12_player 7 (some .int) ∈ wsL_law := mr_12 _ (List.mem_of_getElem? (i := 22) rfl)
theorem k_13_15 : Cond.methodLink RL 21 yX12_course ∈ wsL_law := mr_13 _ (List.mem_of_getElem? (i := 15) rfl)
theorem k_13_16 : Cond.instanceMethod yX12_course ∈ wsL_law := mr_13 _ (List.mem_of_getElem? (i := 16) rfl)
theorem k_13_17 : Cond.selects RX12 yX12_course yX12_course ∈ wsL_law := mr_13 _ (List.mem_of_getElem? (i := 17) rfl)
theorem k_13_18 : Cond.code yX12_course cX12_course 7 (some .int) ∈ wsL_law := mr_13 _ (List.mem_of_getElem? (i := 18) rfl)
theorem k_13_19 : Cond.methodLink RL 22 yX11_week ∈ wsL_law := mr_13 _ (List.mem_of_getElem? (i := 19) rfl)
theorem k_13_20 : Cond.instanceMethod yX11_week ∈ wsL_law := mr_13 _ (List.mem_of_getElem? (i := 20) rfl)
theorem k_13_21 : Cond.selects RX11 yX11_week yX11_week ∈ wsL_law := mr_13 _ (List.mem_of_getElem? (i := 21) rfl)
theorem k_13_22 : Cond.code yX11_week cX11_week 4 (some .boolean) ∈ wsL_law := mr_13 _ (List.mem_of_getElem? (i := 22) rfl)
theorem k_13_6 : Cond.methodLink RL 18 yX11_course ∈ wsL_law := mr_13 _ (List.mem_of_getElem? (i := 6) rfl)
theorem k_13_7 : Cond.instanceMethod yX11_course ∈ wsL_law := mr_13 _ (List.mem_of_getElem? (i := 7) rfl)
theorem k_13_8 : Cond.selects RX11 yX11_course yX11_course ∈ wsL_law := mr_13 _ (List.mem_of_getElem? (i := 8) rfl)
theorem k_13_9 : Cond.code yX11_course cX11_course 5 (some .int) ∈ wsL_law := mr_13 _ (List.mem_of_getElem? (i := 9) rfl)
theorem k_14_10 : Cond.code yX12_week cX12_week 3 (some .boolean) ∈ wsL_law := mr_14 _ (List.mem_of_getElem? (i := 10) rfl)
theorem k_14_18 : Cond.methodLink RL 27 yX11_round ∈ wsL_law := mr_14 _ (List.mem_of_getElem? (i := 18) rfl)
theorem k_14_19 : Cond.instanceMethod yX11_round ∈ wsL_law := mr_14 _ (List.mem_of_getElem? (i := 19) rfl)
theorem k_14_20 : Cond.selects RX11 yX11_round yX11_round ∈ wsL_law := mr_14 _ (List.mem_of_getElem? (i := 20) rfl)
theorem k_14_21 : Cond.code yX11_round cX11_round 5 (some .int) ∈ wsL_law := mr_14 _ (List.mem_of_getElem? (i := 21) rfl)
theorem k_14_7 : Cond.methodLink RL 26 yX12_week ∈ wsL_law := mr_14 _ (List.mem_of_getElem? (i := 7) rfl)
theorem k_14_8 : Cond.instanceMethod yX12_week ∈ wsL_law := mr_14 _ (List.mem_of_getElem? (i := 8) rfl)
theorem k_14_9 : Cond.selects RX12 yX12_week yX12_week ∈ wsL_law := mr_14 _ (List.mem_of_getElem? (i := 9) rfl)
theorem k_16_10 : Cond.code yX12_round cX12_round 9 (some .int) ∈ wsL_law := mr_16 _ (List.mem_of_getElem? (i := 10) rfl)
theorem k_16_23 : Cond.methodLink RL 31 yX11_bet ∈ wsL_law := mr_16 _ (List.mem_of_getElem? (i := 23) rfl)
theorem k_16_7 : Cond.methodLink RL 30 yX12_round ∈ wsL_law := mr_16 _ (List.mem_of_getElem? (i := 7) rfl)
theorem k_16_8 : Cond.instanceMethod yX12_round ∈ wsL_law := mr_16 _ (List.mem_of_getElem? (i := 8) rfl)
theorem k_16_9 : Cond.selects RX12 yX12_round yX12_round ∈ wsL_law := mr_16 _ (List.mem_of_getElem? (i := 9) rfl)
theorem k_17_0 : Cond.instanceMethod yX11_bet ∈ wsL_law := mr_17 _ (List.mem_of_getElem? (i := 0) rfl)
theorem k_17_1 : Cond.selects RX11 yX11_bet yX11_bet ∈ wsL_law := mr_17 _ (List.mem_of_getElem? (i := 1) rfl)
theorem k_17_10 : Cond.selects RX12 yX12_bet yX12_bet ∈ wsL_law := mr_17 _ (List.mem_of_getElem? (i := 10) rfl)
theorem k_17_11 : Cond.code yX12_bet cX12_bet 4 (some .boolean) ∈ wsL_law := mr_17 _ (List.mem_of_getElem? (i := 11) rfl)
theorem k_17_12 : Cond.methodLink RL 36 yX11_seed ∈ wsL_law := mr_17 _ (List.mem_of_getElem? (i := 12) rfl)
theorem k_17_13 : Cond.instanceMethod yX11_seed ∈ wsL_law := mr_17 _ (List.mem_of_getElem? (i := 13) rfl)
theorem k_17_14 : Cond.selects RX11 yX11_seed yX11_seed ∈ wsL_law := mr_17 _ (List.mem_of_getElem? (i := 14) rfl)
theorem k_17_15 : Cond.code yX11_seed cX11_seed 2 (some .boolean) ∈ wsL_law := mr_17 _ (List.mem_of_getElem? (i := 15) rfl)
theorem k_17_18 : Cond.methodLink RL 40 yX12_seed ∈ wsL_law := mr_17 _ (List.mem_of_getElem? (i := 18) rfl)
theorem k_17_19 : Cond.instanceMethod yX12_seed ∈ wsL_law := mr_17 _ (List.mem_of_getElem? (i := 19) rfl)
theorem k_17_2 : Cond.code yX11_bet cX11_bet 4 (some .boolean) ∈ wsL_law := mr_17 _ (List.mem_of_getElem? (i := 2) rfl)
theorem k_17_20 : Cond.selects RX12 yX12_seed yX12_seed ∈ wsL_law := mr_17 _ (List.mem_of_getElem? (i := 20) rfl)
theorem k_17_21 : Cond.code yX12_seed cX12_seed 2 (some .boolean) ∈ wsL_law := mr_17 _ (List.mem_of_getElem? (i := 21) rfl)
theorem k_17_23 : Cond.methodLink RL 41 yX11_feed ∈ wsL_law := mr_17 _ (List.mem_of_getElem? (i := 23) rfl)
theorem k_17_8 : Cond.methodLink RL 35 yX12_bet ∈ wsL_law := mr_17 _ (List.mem_of_getElem? (i := 8) rfl)
theorem k_17_9 : Cond.instanceMethod yX12_bet ∈ wsL_law := mr_17 _ (List.mem_of_getElem? (i := 9) rfl)
theorem k_18_0 : Cond.instanceMethod yX11_feed ∈ wsL_law := mr_18 _ (List.mem_of_getElem? (i := 0) rfl)
theorem k_18_1 : Cond.selects RX11 yX11_feed yX11_feed ∈ wsL_law := mr_18 _ (List.mem_of_getElem? (i := 1) rfl)
theorem k_18_10 : Cond.code yX12_feed cX12_feed 8 (some .int) ∈ wsL_law := mr_18 _ (List.mem_of_getElem? (i := 10) rfl)
theorem k_18_12 : Cond.methodLink RL 46 yX11_law ∈ wsL_law := mr_18 _ (List.mem_of_getElem? (i := 12) rfl)
theorem k_18_13 : Cond.instanceMethod yX11_law ∈ wsL_law := mr_18 _ (List.mem_of_getElem? (i := 13) rfl)
theorem k_18_14 : Cond.selects RX11 yX11_law yX11_law ∈ wsL_law := mr_18 _ (List.mem_of_getElem? (i := 14) rfl)
theorem k_18_15 : Cond.code yX11_law cX11_law 3 (some .int) ∈ wsL_law := mr_18 _ (List.mem_of_getElem? (i := 15) rfl)
theorem k_18_2 : Cond.code yX11_feed cX11_feed 6 (some .int) ∈ wsL_law := mr_18 _ (List.mem_of_getElem? (i := 2) rfl)
theorem k_18_7 : Cond.methodLink RL 45 yX12_feed ∈ wsL_law := mr_18 _ (List.mem_of_getElem? (i := 7) rfl)
theorem k_18_8 : Cond.instanceMethod yX12_feed ∈ wsL_law := mr_18 _ (List.mem_of_getElem? (i := 8) rfl)
theorem k_18_9 : Cond.selects RX12 yX12_feed yX12_feed ∈ wsL_law := mr_18 _ (List.mem_of_getElem? (i := 9) rfl)
theorem k_25_13 : Cond.methodLink RL 50 yX12_law ∈ wsL_law := mr_25 _ (List.mem_of_getElem? (i := 13) rfl)
theorem k_25_14 : Cond.instanceMethod yX12_law ∈ wsL_law := mr_25 _ (List.mem_of_getElem? (i := 14) rfl)
theorem k_25_15 : Cond.selects RX12 yX12_law yX12_law ∈ wsL_law := mr_25 _ (List.mem_of_getElem? (i := 15) rfl)
theorem k_25_16 : Cond.code yX12_law cX12_law 2 (some .int) ∈ wsL_law := mr_25 _ (List.mem_of_getElem? (i := 16) rfl)
theorem k_30_1 : Cond.methodLink RL 51 yX11_fault ∈ wsL_law := mr_30 _ (List.mem_of_getElem? (i := 1) rfl)
theorem k_30_10 : Cond.instanceMethod yX11_rule ∈ wsL_law := mr_30 _ (List.mem_of_getElem? (i := 10) rfl)
theorem k_30_11 : Cond.selects RX11 yX11_rule yX11_rule ∈ wsL_law := mr_30 _ (List.mem_of_getElem? (i := 11) rfl)
theorem k_30_12 : Cond.code yX11_rule cX11_rule 2 (some .int) ∈ wsL_law := mr_30 _ (List.mem_of_getElem? (i := 12) rfl)
theorem k_30_2 : Cond.instanceMethod yX11_fault ∈ wsL_law := mr_30 _ (List.mem_of_getElem? (i := 2) rfl)
theorem k_30_22 : Cond.methodLink RL 59 yX12_rule ∈ wsL_law := mr_30 _ (List.mem_of_getElem? (i := 22) rfl)
theorem k_30_23 : Cond.instanceMethod yX12_rule ∈ wsL_law := mr_30 _ (List.mem_of_getElem? (i := 23) rfl)
theorem k_30_3 : Cond.selects RX11 yX11_fault yX11_fault ∈ wsL_law := mr_30 _ (List.mem_of_getElem? (i := 3) rfl)
theorem k_30_4 : Cond.code yX11_fault cX11_fault 1 (some .int) ∈ wsL_law := mr_30 _ (List.mem_of_getElem? (i := 4) rfl)
theorem k_30_5 : Cond.methodLink RL 55 yX12_fault ∈ wsL_law := mr_30 _ (List.mem_of_getElem? (i := 5) rfl)
theorem k_30_6 : Cond.instanceMethod yX12_fault ∈ wsL_law := mr_30 _ (List.mem_of_getElem? (i := 6) rfl)
theorem k_30_7 : Cond.selects RX12 yX12_fault yX12_fault ∈ wsL_law := mr_30 _ (List.mem_of_getElem? (i := 7) rfl)
theorem k_30_8 : Cond.code yX12_fault cX12_fault 1 (some .int) ∈ wsL_law := mr_30 _ (List.mem_of_getElem? (i := 8) rfl)
theorem k_30_9 : Cond.methodLink RL 56 yX11_rule ∈ wsL_law := mr_30 _ (List.mem_of_getElem? (i := 9) rfl)
theorem k_31_0 : Cond.selects RX12 yX12_rule yX12_rule ∈ wsL_law := mr_31 _ (List.mem_of_getElem? (i := 0) rfl)
theorem k_31_1 : Cond.code yX12_rule cX12_rule 2 (some .int) ∈ wsL_law := mr_31 _ (List.mem_of_getElem? (i := 1) rfl)
theorem dL_law_200 : decode cL_law 200 = .ok (.aload_n 1, 1) := by decide +kernel
theorem dL_law_201 : decode cL_law 201 = .ok (.aload_n 0, 1) := by decide +kernel
theorem dL_law_202 : decode cL_law 202 = .ok (.iload_n 3, 1) := by decide +kernel
theorem dL_law_203 : decode cL_law 203 = .ok (.iconst 1, 1) := by decide +kernel
theorem dL_law_204 : decode cL_law 204 = .ok (.iadd, 1) := by decide +kernel
theorem dL_law_205 : decode cL_law 205 = .ok (.iaload, 1) := by decide +kernel
theorem dL_law_206 : decode cL_law 206 = .ok (.aload_n 0, 1) := by decide +kernel
theorem dL_law_207 : decode cL_law 207 = .ok (.iload_n 3, 1) := by decide +kernel
theorem dL_law_208 : decode cL_law 208 = .ok (.iconst 2, 1) := by decide +kernel
theorem dL_law_209 : decode cL_law 209 = .ok (.iadd, 1) := by decide +kernel
theorem dL_law_210 : decode cL_law 210 = .ok (.iaload, 1) := by decide +kernel
theorem dL_law_211 : decode cL_law 211 = .ok (.aload_n 0, 1) := by decide +kernel
theorem dL_law_212 : decode cL_law 212 = .ok (.iload_n 3, 1) := by decide +kernel
theorem dL_law_213 : decode cL_law 213 = .ok (.iconst 3, 1) := by decide +kernel
theorem dL_law_214 : decode cL_law 214 = .ok (.iadd, 1) := by decide +kernel
theorem dL_law_215 : decode cL_law 215 = .ok (.iaload, 1) := by decide +kernel
theorem dL_law_216 : decode cL_law 216 = .ok (.aload_n 0, 1) := by decide +kernel
theorem dL_law_217 : decode cL_law 217 = .ok (.iload_n 3, 1) := by decide +kernel
theorem dL_law_218 : decode cL_law 218 = .ok (.iconst 4, 1) := by decide +kernel
theorem dL_law_219 : decode cL_law 219 = .ok (.iadd, 1) := by decide +kernel
theorem dL_law_220 : decode cL_law 220 = .ok (.iaload, 1) := by decide +kernel
theorem dL_law_221 : decode cL_law 221 = .ok (.invokevirtual 13, 3) := by decide +kernel
theorem dL_law_224 : decode cL_law 224 = .ok (.aload_n 2, 1) := by decide +kernel
theorem dL_law_225 : decode cL_law 225 = .ok (.aload_n 0, 1) := by decide +kernel
theorem dL_law_226 : decode cL_law 226 = .ok (.iload_n 3, 1) := by decide +kernel
theorem dL_law_227 : decode cL_law 227 = .ok (.iconst 1, 1) := by decide +kernel
theorem dL_law_228 : decode cL_law 228 = .ok (.iadd, 1) := by decide +kernel
theorem dL_law_229 : decode cL_law 229 = .ok (.iaload, 1) := by decide +kernel
theorem dL_law_230 : decode cL_law 230 = .ok (.aload_n 0, 1) := by decide +kernel
theorem dL_law_231 : decode cL_law 231 = .ok (.iload_n 3, 1) := by decide +kernel
theorem dL_law_232 : decode cL_law 232 = .ok (.iconst 2, 1) := by decide +kernel
theorem dL_law_233 : decode cL_law 233 = .ok (.iadd, 1) := by decide +kernel
theorem dL_law_234 : decode cL_law 234 = .ok (.iaload, 1) := by decide +kernel
theorem dL_law_235 : decode cL_law 235 = .ok (.aload_n 0, 1) := by decide +kernel
theorem dL_law_236 : decode cL_law 236 = .ok (.iload_n 3, 1) := by decide +kernel
theorem dL_law_237 : decode cL_law 237 = .ok (.iconst 3, 1) := by decide +kernel
theorem dL_law_238 : decode cL_law 238 = .ok (.iadd, 1) := by decide +kernel
theorem dL_law_239 : decode cL_law 239 = .ok (.iaload, 1) := by decide +kernel
theorem dL_law_240 : decode cL_law 240 = .ok (.aload_n 0, 1) := by decide +kernel
theorem dL_law_241 : decode cL_law 241 = .ok (.iload_n 3, 1) := by decide +kernel
theorem dL_law_242 : decode cL_law 242 = .ok (.iconst 4, 1) := by decide +kernel
theorem dL_law_243 : decode cL_law 243 = .ok (.iadd, 1) := by decide +kernel
theorem dL_law_244 : decode cL_law 244 = .ok (.iaload, 1) := by decide +kernel
theorem dL_law_245 : decode cL_law 245 = .ok (.invokevirtual 17, 3) := by decide +kernel
theorem dL_law_248 : decode cL_law 248 = .ok (.if_icmp .eq 1473, 3) := by decide +kernel
theorem dL_law_253 : decode cL_law 253 = .ok (.aload_n 1, 1) := by decide +kernel
theorem dL_law_254 : decode cL_law 254 = .ok (.aload_n 0, 1) := by decide +kernel
theorem dL_law_255 : decode cL_law 255 = .ok (.iload_n 3, 1) := by decide +kernel
theorem dL_law_256 : decode cL_law 256 = .ok (.iconst 1, 1) := by decide +kernel
theorem dL_law_257 : decode cL_law 257 = .ok (.iadd, 1) := by decide +kernel
theorem dL_law_258 : decode cL_law 258 = .ok (.iaload, 1) := by decide +kernel
theorem dL_law_259 : decode cL_law 259 = .ok (.aload_n 0, 1) := by decide +kernel
theorem dL_law_260 : decode cL_law 260 = .ok (.iload_n 3, 1) := by decide +kernel
theorem dL_law_261 : decode cL_law 261 = .ok (.iconst 2, 1) := by decide +kernel
theorem dL_law_262 : decode cL_law 262 = .ok (.iadd, 1) := by decide +kernel
theorem dL_law_263 : decode cL_law 263 = .ok (.iaload, 1) := by decide +kernel
theorem dL_law_264 : decode cL_law 264 = .ok (.aload_n 0, 1) := by decide +kernel
theorem dL_law_265 : decode cL_law 265 = .ok (.iload_n 3, 1) := by decide +kernel
theorem dL_law_266 : decode cL_law 266 = .ok (.iconst 3, 1) := by decide +kernel
theorem dL_law_267 : decode cL_law 267 = .ok (.iadd, 1) := by decide +kernel
theorem dL_law_268 : decode cL_law 268 = .ok (.iaload, 1) := by decide +kernel
theorem dL_law_269 : decode cL_law 269 = .ok (.aload_n 0, 1) := by decide +kernel
theorem dL_law_270 : decode cL_law 270 = .ok (.iload_n 3, 1) := by decide +kernel
theorem dL_law_271 : decode cL_law 271 = .ok (.iconst 4, 1) := by decide +kernel
theorem dL_law_272 : decode cL_law 272 = .ok (.iadd, 1) := by decide +kernel
theorem dL_law_273 : decode cL_law 273 = .ok (.iaload, 1) := by decide +kernel
theorem dL_law_274 : decode cL_law 274 = .ok (.invokevirtual 18, 3) := by decide +kernel
theorem dL_law_277 : decode cL_law 277 = .ok (.aload_n 2, 1) := by decide +kernel
theorem dL_law_278 : decode cL_law 278 = .ok (.aload_n 0, 1) := by decide +kernel
theorem dL_law_279 : decode cL_law 279 = .ok (.iload_n 3, 1) := by decide +kernel
theorem dL_law_280 : decode cL_law 280 = .ok (.iconst 1, 1) := by decide +kernel
theorem dL_law_281 : decode cL_law 281 = .ok (.iadd, 1) := by decide +kernel
theorem dL_law_282 : decode cL_law 282 = .ok (.iaload, 1) := by decide +kernel
theorem dL_law_283 : decode cL_law 283 = .ok (.aload_n 0, 1) := by decide +kernel
theorem dL_law_284 : decode cL_law 284 = .ok (.iload_n 3, 1) := by decide +kernel
theorem dL_law_285 : decode cL_law 285 = .ok (.iconst 2, 1) := by decide +kernel
theorem dL_law_286 : decode cL_law 286 = .ok (.iadd, 1) := by decide +kernel
theorem dL_law_287 : decode cL_law 287 = .ok (.iaload, 1) := by decide +kernel
theorem dL_law_288 : decode cL_law 288 = .ok (.aload_n 0, 1) := by decide +kernel
theorem dL_law_289 : decode cL_law 289 = .ok (.iload_n 3, 1) := by decide +kernel
theorem dL_law_290 : decode cL_law 290 = .ok (.iconst 3, 1) := by decide +kernel
theorem dL_law_291 : decode cL_law 291 = .ok (.iadd, 1) := by decide +kernel
theorem dL_law_292 : decode cL_law 292 = .ok (.iaload, 1) := by decide +kernel
theorem dL_law_293 : decode cL_law 293 = .ok (.aload_n 0, 1) := by decide +kernel
theorem dL_law_294 : decode cL_law 294 = .ok (.iload_n 3, 1) := by decide +kernel
theorem dL_law_295 : decode cL_law 295 = .ok (.iconst 4, 1) := by decide +kernel
theorem dL_law_296 : decode cL_law 296 = .ok (.iadd, 1) := by decide +kernel
theorem dL_law_297 : decode cL_law 297 = .ok (.iaload, 1) := by decide +kernel
theorem dL_law_298 : decode cL_law 298 = .ok (.invokevirtual 21, 3) := by decide +kernel
theorem dL_law_301 : decode cL_law 301 = .ok (.if_icmp .eq 1420, 3) := by decide +kernel
theorem dL_law_306 : decode cL_law 306 = .ok (.aload_n 1, 1) := by decide +kernel
theorem dL_law_307 : decode cL_law 307 = .ok (.aload_n 0, 1) := by decide +kernel
theorem dL_law_308 : decode cL_law 308 = .ok (.iload_n 3, 1) := by decide +kernel
theorem dL_law_309 : decode cL_law 309 = .ok (.iconst 1, 1) := by decide +kernel
theorem dL_law_310 : decode cL_law 310 = .ok (.iadd, 1) := by decide +kernel
theorem dL_law_311 : decode cL_law 311 = .ok (.iaload, 1) := by decide +kernel
theorem dL_law_312 : decode cL_law 312 = .ok (.aload_n 0, 1) := by decide +kernel
theorem dL_law_313 : decode cL_law 313 = .ok (.iload_n 3, 1) := by decide +kernel
theorem dL_law_314 : decode cL_law 314 = .ok (.iconst 2, 1) := by decide +kernel
theorem dL_law_315 : decode cL_law 315 = .ok (.iadd, 1) := by decide +kernel
theorem dL_law_316 : decode cL_law 316 = .ok (.iaload, 1) := by decide +kernel
theorem dL_law_317 : decode cL_law 317 = .ok (.invokevirtual 22, 3) := by decide +kernel
theorem dL_law_320 : decode cL_law 320 = .ok (.aload_n 2, 1) := by decide +kernel
theorem dL_law_321 : decode cL_law 321 = .ok (.aload_n 0, 1) := by decide +kernel
theorem dL_law_322 : decode cL_law 322 = .ok (.iload_n 3, 1) := by decide +kernel
theorem dL_law_323 : decode cL_law 323 = .ok (.iconst 1, 1) := by decide +kernel
theorem dL_law_324 : decode cL_law 324 = .ok (.iadd, 1) := by decide +kernel
theorem dL_law_325 : decode cL_law 325 = .ok (.iaload, 1) := by decide +kernel
theorem dL_law_326 : decode cL_law 326 = .ok (.aload_n 0, 1) := by decide +kernel
theorem dL_law_327 : decode cL_law 327 = .ok (.iload_n 3, 1) := by decide +kernel
theorem dL_law_328 : decode cL_law 328 = .ok (.iconst 2, 1) := by decide +kernel
theorem dL_law_329 : decode cL_law 329 = .ok (.iadd, 1) := by decide +kernel
theorem dL_law_330 : decode cL_law 330 = .ok (.iaload, 1) := by decide +kernel
theorem dL_law_331 : decode cL_law 331 = .ok (.invokevirtual 26, 3) := by decide +kernel
theorem dL_law_334 : decode cL_law 334 = .ok (.if_icmp .eq 1387, 3) := by decide +kernel
theorem dL_law_339 : decode cL_law 339 = .ok (.aload_n 1, 1) := by decide +kernel
theorem dL_law_340 : decode cL_law 340 = .ok (.aload_n 0, 1) := by decide +kernel
theorem dL_law_341 : decode cL_law 341 = .ok (.iload_n 3, 1) := by decide +kernel
theorem dL_law_342 : decode cL_law 342 = .ok (.iconst 1, 1) := by decide +kernel
theorem dL_law_343 : decode cL_law 343 = .ok (.iadd, 1) := by decide +kernel
theorem dL_law_344 : decode cL_law 344 = .ok (.iaload, 1) := by decide +kernel
theorem dL_law_345 : decode cL_law 345 = .ok (.aload_n 0, 1) := by decide +kernel
theorem dL_law_346 : decode cL_law 346 = .ok (.iload_n 3, 1) := by decide +kernel
theorem dL_law_347 : decode cL_law 347 = .ok (.iconst 2, 1) := by decide +kernel
theorem dL_law_348 : decode cL_law 348 = .ok (.iadd, 1) := by decide +kernel
theorem dL_law_349 : decode cL_law 349 = .ok (.iaload, 1) := by decide +kernel
theorem dL_law_350 : decode cL_law 350 = .ok (.aload_n 0, 1) := by decide +kernel
theorem dL_law_351 : decode cL_law 351 = .ok (.iload_n 3, 1) := by decide +kernel
theorem dL_law_352 : decode cL_law 352 = .ok (.iconst 3, 1) := by decide +kernel
theorem dL_law_353 : decode cL_law 353 = .ok (.iadd, 1) := by decide +kernel
theorem dL_law_354 : decode cL_law 354 = .ok (.iaload, 1) := by decide +kernel
theorem dL_law_355 : decode cL_law 355 = .ok (.aload_n 0, 1) := by decide +kernel
theorem dL_law_356 : decode cL_law 356 = .ok (.iload_n 3, 1) := by decide +kernel
theorem dL_law_357 : decode cL_law 357 = .ok (.iconst 4, 1) := by decide +kernel
theorem dL_law_358 : decode cL_law 358 = .ok (.iadd, 1) := by decide +kernel
theorem dL_law_359 : decode cL_law 359 = .ok (.iaload, 1) := by decide +kernel
theorem dL_law_360 : decode cL_law 360 = .ok (.invokevirtual 27, 3) := by decide +kernel
theorem dL_law_363 : decode cL_law 363 = .ok (.aload_n 2, 1) := by decide +kernel
theorem dL_law_364 : decode cL_law 364 = .ok (.aload_n 0, 1) := by decide +kernel
theorem dL_law_365 : decode cL_law 365 = .ok (.iload_n 3, 1) := by decide +kernel
theorem dL_law_366 : decode cL_law 366 = .ok (.iconst 1, 1) := by decide +kernel
theorem dL_law_367 : decode cL_law 367 = .ok (.iadd, 1) := by decide +kernel
theorem dL_law_368 : decode cL_law 368 = .ok (.iaload, 1) := by decide +kernel
theorem dL_law_369 : decode cL_law 369 = .ok (.aload_n 0, 1) := by decide +kernel
theorem dL_law_370 : decode cL_law 370 = .ok (.iload_n 3, 1) := by decide +kernel
theorem dL_law_371 : decode cL_law 371 = .ok (.iconst 2, 1) := by decide +kernel
theorem dL_law_372 : decode cL_law 372 = .ok (.iadd, 1) := by decide +kernel
theorem dL_law_373 : decode cL_law 373 = .ok (.iaload, 1) := by decide +kernel
theorem dL_law_374 : decode cL_law 374 = .ok (.aload_n 0, 1) := by decide +kernel
theorem dL_law_375 : decode cL_law 375 = .ok (.iload_n 3, 1) := by decide +kernel
theorem dL_law_376 : decode cL_law 376 = .ok (.iconst 3, 1) := by decide +kernel
theorem dL_law_377 : decode cL_law 377 = .ok (.iadd, 1) := by decide +kernel
theorem dL_law_378 : decode cL_law 378 = .ok (.iaload, 1) := by decide +kernel
theorem dL_law_379 : decode cL_law 379 = .ok (.aload_n 0, 1) := by decide +kernel
theorem dL_law_380 : decode cL_law 380 = .ok (.iload_n 3, 1) := by decide +kernel
theorem dL_law_381 : decode cL_law 381 = .ok (.iconst 4, 1) := by decide +kernel
theorem dL_law_382 : decode cL_law 382 = .ok (.iadd, 1) := by decide +kernel
theorem dL_law_383 : decode cL_law 383 = .ok (.iaload, 1) := by decide +kernel
theorem dL_law_384 : decode cL_law 384 = .ok (.invokevirtual 30, 3) := by decide +kernel
theorem dL_law_387 : decode cL_law 387 = .ok (.if_icmp .eq 1334, 3) := by decide +kernel
theorem dL_law_392 : decode cL_law 392 = .ok (.aload_n 1, 1) := by decide +kernel
theorem dL_law_393 : decode cL_law 393 = .ok (.aload_n 0, 1) := by decide +kernel
theorem dL_law_394 : decode cL_law 394 = .ok (.iload_n 3, 1) := by decide +kernel
theorem dL_law_395 : decode cL_law 395 = .ok (.iconst 1, 1) := by decide +kernel
theorem dL_law_396 : decode cL_law 396 = .ok (.iadd, 1) := by decide +kernel
theorem dL_law_397 : decode cL_law 397 = .ok (.iaload, 1) := by decide +kernel
theorem dL_law_398 : decode cL_law 398 = .ok (.aload_n 0, 1) := by decide +kernel
theorem dL_law_399 : decode cL_law 399 = .ok (.iload_n 3, 1) := by decide +kernel
theorem dL_law_400 : decode cL_law 400 = .ok (.iconst 2, 1) := by decide +kernel
theorem dL_law_401 : decode cL_law 401 = .ok (.iadd, 1) := by decide +kernel
theorem dL_law_402 : decode cL_law 402 = .ok (.iaload, 1) := by decide +kernel
theorem dL_law_403 : decode cL_law 403 = .ok (.aload_n 0, 1) := by decide +kernel
theorem dL_law_404 : decode cL_law 404 = .ok (.iload_n 3, 1) := by decide +kernel
theorem dL_law_405 : decode cL_law 405 = .ok (.iconst 3, 1) := by decide +kernel
theorem dL_law_406 : decode cL_law 406 = .ok (.iadd, 1) := by decide +kernel
theorem dL_law_407 : decode cL_law 407 = .ok (.iaload, 1) := by decide +kernel
theorem dL_law_408 : decode cL_law 408 = .ok (.invokevirtual 31, 3) := by decide +kernel
theorem dL_law_411 : decode cL_law 411 = .ok (.aload_n 2, 1) := by decide +kernel
theorem dL_law_412 : decode cL_law 412 = .ok (.aload_n 0, 1) := by decide +kernel
theorem dL_law_413 : decode cL_law 413 = .ok (.iload_n 3, 1) := by decide +kernel
theorem dL_law_414 : decode cL_law 414 = .ok (.iconst 1, 1) := by decide +kernel
theorem dL_law_415 : decode cL_law 415 = .ok (.iadd, 1) := by decide +kernel
theorem dL_law_416 : decode cL_law 416 = .ok (.iaload, 1) := by decide +kernel
theorem dL_law_417 : decode cL_law 417 = .ok (.aload_n 0, 1) := by decide +kernel
theorem dL_law_418 : decode cL_law 418 = .ok (.iload_n 3, 1) := by decide +kernel
theorem dL_law_419 : decode cL_law 419 = .ok (.iconst 2, 1) := by decide +kernel
theorem dL_law_420 : decode cL_law 420 = .ok (.iadd, 1) := by decide +kernel
theorem dL_law_421 : decode cL_law 421 = .ok (.iaload, 1) := by decide +kernel
theorem dL_law_422 : decode cL_law 422 = .ok (.aload_n 0, 1) := by decide +kernel
theorem dL_law_423 : decode cL_law 423 = .ok (.iload_n 3, 1) := by decide +kernel
theorem dL_law_424 : decode cL_law 424 = .ok (.iconst 3, 1) := by decide +kernel
theorem dL_law_425 : decode cL_law 425 = .ok (.iadd, 1) := by decide +kernel
theorem dL_law_426 : decode cL_law 426 = .ok (.iaload, 1) := by decide +kernel
theorem dL_law_427 : decode cL_law 427 = .ok (.invokevirtual 35, 3) := by decide +kernel
theorem dL_law_430 : decode cL_law 430 = .ok (.if_icmp .eq 1291, 3) := by decide +kernel
theorem dL_law_435 : decode cL_law 435 = .ok (.aload_n 1, 1) := by decide +kernel
theorem dL_law_436 : decode cL_law 436 = .ok (.aload_n 0, 1) := by decide +kernel
theorem dL_law_437 : decode cL_law 437 = .ok (.iload_n 3, 1) := by decide +kernel
theorem dL_law_438 : decode cL_law 438 = .ok (.iconst 1, 1) := by decide +kernel
theorem dL_law_439 : decode cL_law 439 = .ok (.iadd, 1) := by decide +kernel
theorem dL_law_440 : decode cL_law 440 = .ok (.iaload, 1) := by decide +kernel
theorem dL_law_441 : decode cL_law 441 = .ok (.invokevirtual 36, 3) := by decide +kernel
theorem dL_law_444 : decode cL_law 444 = .ok (.aload_n 2, 1) := by decide +kernel
theorem dL_law_445 : decode cL_law 445 = .ok (.aload_n 0, 1) := by decide +kernel
theorem dL_law_446 : decode cL_law 446 = .ok (.iload_n 3, 1) := by decide +kernel
theorem dL_law_447 : decode cL_law 447 = .ok (.iconst 1, 1) := by decide +kernel
theorem dL_law_448 : decode cL_law 448 = .ok (.iadd, 1) := by decide +kernel
theorem dL_law_449 : decode cL_law 449 = .ok (.iaload, 1) := by decide +kernel
theorem dL_law_450 : decode cL_law 450 = .ok (.invokevirtual 40, 3) := by decide +kernel
theorem dL_law_453 : decode cL_law 453 = .ok (.if_icmp .eq 1268, 3) := by decide +kernel
theorem dL_law_458 : decode cL_law 458 = .ok (.aload_n 1, 1) := by decide +kernel
theorem dL_law_459 : decode cL_law 459 = .ok (.aload_n 0, 1) := by decide +kernel
theorem dL_law_460 : decode cL_law 460 = .ok (.iload_n 3, 1) := by decide +kernel
theorem dL_law_461 : decode cL_law 461 = .ok (.iconst 1, 1) := by decide +kernel
theorem dL_law_462 : decode cL_law 462 = .ok (.iadd, 1) := by decide +kernel
theorem dL_law_463 : decode cL_law 463 = .ok (.iaload, 1) := by decide +kernel
theorem dL_law_464 : decode cL_law 464 = .ok (.aload_n 0, 1) := by decide +kernel
theorem dL_law_465 : decode cL_law 465 = .ok (.iload_n 3, 1) := by decide +kernel
theorem dL_law_466 : decode cL_law 466 = .ok (.iconst 2, 1) := by decide +kernel
theorem dL_law_467 : decode cL_law 467 = .ok (.iadd, 1) := by decide +kernel
theorem dL_law_468 : decode cL_law 468 = .ok (.iaload, 1) := by decide +kernel
theorem dL_law_469 : decode cL_law 469 = .ok (.aload_n 0, 1) := by decide +kernel
theorem dL_law_470 : decode cL_law 470 = .ok (.iload_n 3, 1) := by decide +kernel
theorem dL_law_471 : decode cL_law 471 = .ok (.iconst 3, 1) := by decide +kernel
theorem dL_law_472 : decode cL_law 472 = .ok (.iadd, 1) := by decide +kernel
theorem dL_law_473 : decode cL_law 473 = .ok (.iaload, 1) := by decide +kernel
theorem dL_law_474 : decode cL_law 474 = .ok (.aload_n 0, 1) := by decide +kernel
theorem dL_law_475 : decode cL_law 475 = .ok (.iload_n 3, 1) := by decide +kernel
theorem dL_law_476 : decode cL_law 476 = .ok (.iconst 4, 1) := by decide +kernel
theorem dL_law_477 : decode cL_law 477 = .ok (.iadd, 1) := by decide +kernel
theorem dL_law_478 : decode cL_law 478 = .ok (.iaload, 1) := by decide +kernel
theorem dL_law_479 : decode cL_law 479 = .ok (.aload_n 0, 1) := by decide +kernel
theorem dL_law_480 : decode cL_law 480 = .ok (.iload_n 3, 1) := by decide +kernel
theorem dL_law_481 : decode cL_law 481 = .ok (.iconst 5, 1) := by decide +kernel
theorem dL_law_482 : decode cL_law 482 = .ok (.iadd, 1) := by decide +kernel
theorem dL_law_483 : decode cL_law 483 = .ok (.iaload, 1) := by decide +kernel
theorem dL_law_484 : decode cL_law 484 = .ok (.invokevirtual 41, 3) := by decide +kernel
theorem dL_law_487 : decode cL_law 487 = .ok (.aload_n 2, 1) := by decide +kernel
theorem dL_law_488 : decode cL_law 488 = .ok (.aload_n 0, 1) := by decide +kernel
theorem dL_law_489 : decode cL_law 489 = .ok (.iload_n 3, 1) := by decide +kernel
theorem dL_law_490 : decode cL_law 490 = .ok (.iconst 1, 1) := by decide +kernel
theorem dL_law_491 : decode cL_law 491 = .ok (.iadd, 1) := by decide +kernel
theorem dL_law_492 : decode cL_law 492 = .ok (.iaload, 1) := by decide +kernel
theorem dL_law_493 : decode cL_law 493 = .ok (.aload_n 0, 1) := by decide +kernel
theorem dL_law_494 : decode cL_law 494 = .ok (.iload_n 3, 1) := by decide +kernel
theorem dL_law_495 : decode cL_law 495 = .ok (.iconst 2, 1) := by decide +kernel
theorem dL_law_496 : decode cL_law 496 = .ok (.iadd, 1) := by decide +kernel
theorem dL_law_497 : decode cL_law 497 = .ok (.iaload, 1) := by decide +kernel
theorem dL_law_498 : decode cL_law 498 = .ok (.aload_n 0, 1) := by decide +kernel
theorem dL_law_499 : decode cL_law 499 = .ok (.iload_n 3, 1) := by decide +kernel
theorem dL_law_500 : decode cL_law 500 = .ok (.iconst 3, 1) := by decide +kernel
theorem dL_law_501 : decode cL_law 501 = .ok (.iadd, 1) := by decide +kernel
theorem dL_law_502 : decode cL_law 502 = .ok (.iaload, 1) := by decide +kernel
theorem dL_law_503 : decode cL_law 503 = .ok (.aload_n 0, 1) := by decide +kernel
theorem dL_law_504 : decode cL_law 504 = .ok (.iload_n 3, 1) := by decide +kernel
theorem dL_law_505 : decode cL_law 505 = .ok (.iconst 4, 1) := by decide +kernel
theorem dL_law_506 : decode cL_law 506 = .ok (.iadd, 1) := by decide +kernel
theorem dL_law_507 : decode cL_law 507 = .ok (.iaload, 1) := by decide +kernel
theorem dL_law_508 : decode cL_law 508 = .ok (.aload_n 0, 1) := by decide +kernel
theorem dL_law_509 : decode cL_law 509 = .ok (.iload_n 3, 1) := by decide +kernel
theorem dL_law_510 : decode cL_law 510 = .ok (.iconst 5, 1) := by decide +kernel
theorem dL_law_511 : decode cL_law 511 = .ok (.iadd, 1) := by decide +kernel
theorem dL_law_512 : decode cL_law 512 = .ok (.iaload, 1) := by decide +kernel
theorem dL_law_513 : decode cL_law 513 = .ok (.invokevirtual 45, 3) := by decide +kernel
theorem dL_law_516 : decode cL_law 516 = .ok (.if_icmp .eq 1205, 3) := by decide +kernel
theorem dL_law_521 : decode cL_law 521 = .ok (.aload_n 1, 1) := by decide +kernel
theorem dL_law_522 : decode cL_law 522 = .ok (.aload_n 0, 1) := by decide +kernel
theorem dL_law_523 : decode cL_law 523 = .ok (.iload_n 3, 1) := by decide +kernel
theorem dL_law_524 : decode cL_law 524 = .ok (.iconst 1, 1) := by decide +kernel
theorem dL_law_525 : decode cL_law 525 = .ok (.iadd, 1) := by decide +kernel
theorem dL_law_526 : decode cL_law 526 = .ok (.iaload, 1) := by decide +kernel
theorem dL_law_527 : decode cL_law 527 = .ok (.invokevirtual 46, 3) := by decide +kernel
theorem dL_law_530 : decode cL_law 530 = .ok (.aload_n 2, 1) := by decide +kernel
theorem dL_law_531 : decode cL_law 531 = .ok (.aload_n 0, 1) := by decide +kernel
theorem dL_law_532 : decode cL_law 532 = .ok (.iload_n 3, 1) := by decide +kernel
theorem dL_law_533 : decode cL_law 533 = .ok (.iconst 1, 1) := by decide +kernel
theorem dL_law_534 : decode cL_law 534 = .ok (.iadd, 1) := by decide +kernel
theorem dL_law_535 : decode cL_law 535 = .ok (.iaload, 1) := by decide +kernel
theorem dL_law_536 : decode cL_law 536 = .ok (.invokevirtual 50, 3) := by decide +kernel
theorem dL_law_539 : decode cL_law 539 = .ok (.if_icmp .eq 1182, 3) := by decide +kernel
theorem dL_law_544 : decode cL_law 544 = .ok (.aload_n 1, 1) := by decide +kernel
theorem dL_law_545 : decode cL_law 545 = .ok (.invokevirtual 51, 3) := by decide +kernel
theorem dL_law_548 : decode cL_law 548 = .ok (.aload_n 2, 1) := by decide +kernel
theorem dL_law_549 : decode cL_law 549 = .ok (.invokevirtual 55, 3) := by decide +kernel
theorem dL_law_552 : decode cL_law 552 = .ok (.if_icmp .eq 1169, 3) := by decide +kernel
theorem dL_law_557 : decode cL_law 557 = .ok (.aload_n 1, 1) := by decide +kernel
theorem dL_law_558 : decode cL_law 558 = .ok (.aload_n 0, 1) := by decide +kernel
theorem dL_law_559 : decode cL_law 559 = .ok (.iload_n 3, 1) := by decide +kernel
theorem dL_law_560 : decode cL_law 560 = .ok (.iconst 1, 1) := by decide +kernel
theorem dL_law_561 : decode cL_law 561 = .ok (.iadd, 1) := by decide +kernel
theorem dL_law_562 : decode cL_law 562 = .ok (.iaload, 1) := by decide +kernel
theorem dL_law_563 : decode cL_law 563 = .ok (.invokevirtual 56, 3) := by decide +kernel
theorem dL_law_566 : decode cL_law 566 = .ok (.aload_n 2, 1) := by decide +kernel
theorem dL_law_567 : decode cL_law 567 = .ok (.aload_n 0, 1) := by decide +kernel
theorem dL_law_568 : decode cL_law 568 = .ok (.iload_n 3, 1) := by decide +kernel
theorem dL_law_569 : decode cL_law 569 = .ok (.iconst 1, 1) := by decide +kernel
theorem dL_law_570 : decode cL_law 570 = .ok (.iadd, 1) := by decide +kernel
theorem dL_law_571 : decode cL_law 571 = .ok (.iaload, 1) := by decide +kernel
theorem dL_law_572 : decode cL_law 572 = .ok (.invokevirtual 59, 3) := by decide +kernel
theorem dL_law_575 : decode cL_law 575 = .ok (.if_icmp .eq 1146, 3) := by decide +kernel
set_option maxHeartbeats 4000000 in
set_option maxRecDepth 100000 in
theorem law_c0 {p : Program} {e : Env} {s : State} {m : MethodId} {below : List Frame} {meth : Method} {c : Code} {l : Launch} {b : Nat} {xs : Nat → Int32} {D : va_G} {cI cJ cZ cB cO : ClassId} (K0 : LwC p s m meth c b xs D [(cI, .int), (cJ, .long), (cZ, .boolean), (cB, .byte), (cO, .object "LuckLinks$World")]) {u v : Nat → Nat} {H : Heap} {locs : List Loc} {ls : Array Slot} (X : Wd D (fun q : Nat => s.heap.size ≤ q) s (xW cI cJ cZ cB cO u ++ mW cI cJ cZ cB cO v) H locs) (hl : lv_has ls 4 [(3, .int (0 : Int32)), (2, .ref (v 0)), (1, .ref (u 0)), (0, .ref b)]) :
    W p l e room_1 s m #[Value.ref b] below meth c H locs 150 141288 (lw_Z below #[Value.ref b] s) (F0 m 200 ls []) := by
  have C := K0.1
  have hx := C.1
  have hb := C.2.1
  have hX := K0.2.2.2.1
  have hbl := K0.2.2.2.2
  have hbA : ¬ (fun q : Nat => s.heap.size ≤ q) b := Nat.not_le.mpr hbl
  refine lv_aload_n hx hb dL_law_200 rfl (lv_at hl 2 rfl) ?_
  refine lv_aload_n hx hb dL_law_201 rfl (lv_at hl 3 rfl) ?_
  refine lv_iload_n hx hb dL_law_202 rfl (lv_at hl 0 rfl) ?_
  refine lv_iconst (v := (1 : Int32)) hx hb dL_law_203 (by decide) ?_
  refine lv_iadd hx hb dL_law_204 ?_
  refine x_eqi (show (0 : Int32) + (1 : Int32) = (1 : Int32) from by decide +kernel) ?_
  refine va_sld hx hb hX hbl hbA X.2.2.1 (i := (1 : Int32)) (vp_in_nI (n := 1) (by omega) (by omega)) dL_law_205 ?_
  refine x_eqi (show xs ((1 : Int32).toNatClampNeg) = xs 1 from rfl) ?_
  refine lv_aload_n hx hb dL_law_206 rfl (lv_at hl 3 rfl) ?_
  refine lv_iload_n hx hb dL_law_207 rfl (lv_at hl 0 rfl) ?_
  refine lv_iconst (v := (2 : Int32)) hx hb dL_law_208 (by decide) ?_
  refine lv_iadd hx hb dL_law_209 ?_
  refine x_eqi (show (0 : Int32) + (2 : Int32) = (2 : Int32) from by decide +kernel) ?_
  refine va_sld hx hb hX hbl hbA X.2.2.1 (i := (2 : Int32)) (vp_in_nI (n := 2) (by omega) (by omega)) dL_law_210 ?_
  refine x_eqi (show xs ((2 : Int32).toNatClampNeg) = xs 2 from rfl) ?_
  refine lv_aload_n hx hb dL_law_211 rfl (lv_at hl 3 rfl) ?_
  refine lv_iload_n hx hb dL_law_212 rfl (lv_at hl 0 rfl) ?_
  refine lv_iconst (v := (3 : Int32)) hx hb dL_law_213 (by decide) ?_
  refine lv_iadd hx hb dL_law_214 ?_
  refine x_eqi (show (0 : Int32) + (3 : Int32) = (3 : Int32) from by decide +kernel) ?_
  refine va_sld hx hb hX hbl hbA X.2.2.1 (i := (3 : Int32)) (vp_in_nI (n := 3) (by omega) (by omega)) dL_law_215 ?_
  refine x_eqi (show xs ((3 : Int32).toNatClampNeg) = xs 3 from rfl) ?_
  refine lv_aload_n hx hb dL_law_216 rfl (lv_at hl 3 rfl) ?_
  refine lv_iload_n hx hb dL_law_217 rfl (lv_at hl 0 rfl) ?_
  refine lv_iconst (v := (4 : Int32)) hx hb dL_law_218 (by decide) ?_
  refine lv_iadd hx hb dL_law_219 ?_
  refine x_eqi (show (0 : Int32) + (4 : Int32) = (4 : Int32) from by decide +kernel) ?_
  refine va_sld hx hb hX hbl hbA X.2.2.1 (i := (4 : Int32)) (vp_in_nI (n := 4) (by omega) (by omega)) dL_law_220 ?_
  refine x_eqi (show xs ((4 : Int32).toNatClampNeg) = xs 4 from rfl) ?_
  refine x_cV (own := RL) (wr := [((v 0), .inr (12, (mF v))), ((v 1), .inl (cI, 4, .inl (fun _ => (0 : Int32)))), ((v 5), .inl (cI, 320, .inl (fun _ => (0 : Int32)))), ((v 8), .inl (cZ, 12800, .inl (fun _ => (0 : Int32)))), ((v 9), .inl (cZ, 3200, .inl (fun _ => (0 : Int32)))), ((v 13), .inl (cI, 3, .inl (fun _ => (0 : Int32))))]) (As := [.int (xs 1), .int (xs 2), .int (xs 3), .int (xs 4)]) C X hl.1 (cx_player l D cI cJ cZ cB cO u (xs 1) (xs 2) (xs 3) (xs 4)) [0, 1, 2, 66] [98, 99, 103, 106, 107, 111] ⟨rfl, rfl, by decide, by decide, by decide⟩ (qb := 0) rfl rfl k_11_21 k_11_22 k_11_23 k_1_2 k_12_0 (n := 4) (by decide +kernel) ⟨Nat.le_of_ble_eq_true rfl, Nat.le_of_ble_eq_true rfl⟩ rfl rfl (Nat.le_of_ble_eq_true rfl) dL_law_221 ⟨Nat.le_of_ble_eq_true rfl, Nat.le_of_ble_eq_true rfl⟩ (fun r_2 u_1 H locs w_3 X => ?_)
  have X : Wd D (fun q : Nat => s.heap.size ≤ q) s [((v 0), .inr (12, (mF v))), ((v 1), .inl (cI, 4, .inl (fun _ => (0 : Int32)))), ((v 5), .inl (cI, 320, .inl (fun _ => (0 : Int32)))), ((v 8), .inl (cZ, 12800, .inl (fun _ => (0 : Int32)))), ((v 9), .inl (cZ, 3200, .inl (fun _ => (0 : Int32)))), ((v 13), .inl (cI, 3, .inl (fun _ => (0 : Int32))))] H locs := X
  refine W.widen (k := 150) (n := 141288) (Nat.le_of_ble_eq_true rfl) (Nat.le_of_ble_eq_true rfl) ?_
  obtain ⟨rfl, fw_3⟩ | ⟨rfl, fw_3⟩ : (r_2 = (0 : Int32) ∧ (-20 ≤ (xs 1).toInt ∧ (xs 1).toInt ≤ 20 ∧ -20 ≤ (xs 2).toInt ∧ (xs 2).toInt ≤ 20 ∧ -20 ≤ (xs 3).toInt ∧ (xs 3).toInt ≤ 20 ∧ -20 ≤ (xs 4).toInt ∧ (xs 4).toInt ≤ 20)) ∨ (r_2 = (-1 : Int32) ∧ ((xs 1).toInt < -20 ∨ 20 < (xs 1).toInt ∨ (xs 2).toInt < -20 ∨ 20 < (xs 2).toInt ∨ (xs 3).toInt < -20 ∨ 20 < (xs 3).toInt ∨ (xs 4).toInt < -20 ∨ 20 < (xs 4).toInt)) := w_3
  · refine lv_aload_n hx hb dL_law_224 rfl (lv_at hl 1 rfl) ?_
    refine lv_aload_n hx hb dL_law_225 rfl (lv_at hl 3 rfl) ?_
    refine lv_iload_n hx hb dL_law_226 rfl (lv_at hl 0 rfl) ?_
    refine lv_iconst (v := (1 : Int32)) hx hb dL_law_227 (by decide) ?_
    refine lv_iadd hx hb dL_law_228 ?_
    refine x_eqi (show (0 : Int32) + (1 : Int32) = (1 : Int32) from by decide +kernel) ?_
    refine va_sld hx hb hX hbl hbA X.2.2.1 (i := (1 : Int32)) (vp_in_nI (n := 1) (by omega) (by omega)) dL_law_229 ?_
    refine x_eqi (show xs ((1 : Int32).toNatClampNeg) = xs 1 from rfl) ?_
    refine lv_aload_n hx hb dL_law_230 rfl (lv_at hl 3 rfl) ?_
    refine lv_iload_n hx hb dL_law_231 rfl (lv_at hl 0 rfl) ?_
    refine lv_iconst (v := (2 : Int32)) hx hb dL_law_232 (by decide) ?_
    refine lv_iadd hx hb dL_law_233 ?_
    refine x_eqi (show (0 : Int32) + (2 : Int32) = (2 : Int32) from by decide +kernel) ?_
    refine va_sld hx hb hX hbl hbA X.2.2.1 (i := (2 : Int32)) (vp_in_nI (n := 2) (by omega) (by omega)) dL_law_234 ?_
    refine x_eqi (show xs ((2 : Int32).toNatClampNeg) = xs 2 from rfl) ?_
    refine lv_aload_n hx hb dL_law_235 rfl (lv_at hl 3 rfl) ?_
    refine lv_iload_n hx hb dL_law_236 rfl (lv_at hl 0 rfl) ?_
    refine lv_iconst (v := (3 : Int32)) hx hb dL_law_237 (by decide) ?_
    refine lv_iadd hx hb dL_law_238 ?_
    refine x_eqi (show (0 : Int32) + (3 : Int32) = (3 : Int32) from by decide +kernel) ?_
    refine va_sld hx hb hX hbl hbA X.2.2.1 (i := (3 : Int32)) (vp_in_nI (n := 3) (by omega) (by omega)) dL_law_239 ?_
    refine x_eqi (show xs ((3 : Int32).toNatClampNeg) = xs 3 from rfl) ?_
    refine lv_aload_n hx hb dL_law_240 rfl (lv_at hl 3 rfl) ?_
    refine lv_iload_n hx hb dL_law_241 rfl (lv_at hl 0 rfl) ?_
    refine lv_iconst (v := (4 : Int32)) hx hb dL_law_242 (by decide) ?_
    refine lv_iadd hx hb dL_law_243 ?_
    refine x_eqi (show (0 : Int32) + (4 : Int32) = (4 : Int32) from by decide +kernel) ?_
    refine va_sld hx hb hX hbl hbA X.2.2.1 (i := (4 : Int32)) (vp_in_nI (n := 4) (by omega) (by omega)) dL_law_244 ?_
    refine x_eqi (show xs ((4 : Int32).toNatClampNeg) = xs 4 from rfl) ?_
    refine x_cV (own := RL) (wr := []) (As := [.int (xs 1), .int (xs 2), .int (xs 3), .int (xs 4)]) C X hl.1 (cm_player l D cI cJ cZ cB cO v (xs 1) (xs 2) (xs 3) (xs 4)) [0, 1, 2, 3, 4, 5] [] ⟨rfl, rfl, by decide, by decide, by decide⟩ (qb := 0) rfl rfl k_12_19 k_12_20 k_12_21 k_1_5 k_12_22 (n := 4) (by decide +kernel) ⟨Nat.le_of_ble_eq_true rfl, Nat.le_of_ble_eq_true rfl⟩ rfl rfl (Nat.le_of_ble_eq_true rfl) dL_law_245 ⟨Nat.le_of_ble_eq_true rfl, Nat.le_of_ble_eq_true rfl⟩ (fun r_5 u_4 H locs w_6 X => ?_)
    have X : Wd D (fun q : Nat => s.heap.size ≤ q) s [] H locs := X
    refine W.widen (k := 150) (n := 141288) (Nat.le_of_ble_eq_true rfl) (Nat.le_of_ble_eq_true rfl) ?_
    obtain ⟨rfl, fw_6⟩ | ⟨rfl, fw_6⟩ : (r_5 = (0 : Int32) ∧ (-20 ≤ (xs 1).toInt ∧ (xs 1).toInt ≤ 20 ∧ -20 ≤ (xs 2).toInt ∧ (xs 2).toInt ≤ 20 ∧ -20 ≤ (xs 3).toInt ∧ (xs 3).toInt ≤ 20 ∧ -20 ≤ (xs 4).toInt ∧ (xs 4).toInt ≤ 20)) ∨ (r_5 = (-1 : Int32) ∧ ((xs 1).toInt < -20 ∨ 20 < (xs 1).toInt ∨ (xs 2).toInt < -20 ∨ 20 < (xs 2).toInt ∨ (xs 3).toInt < -20 ∨ 20 < (xs 3).toInt ∨ (xs 4).toInt < -20 ∨ 20 < (xs 4).toInt)) := w_6
    · refine lv_icmp_eq (tgt := 1721) hx hb dL_law_248 (by decide) (fun _ => ?_) (fun c0 => absurd (by decide) c0)
      exact law_tail K0 X hl (Nat.le_of_ble_eq_true rfl) (Nat.le_of_ble_eq_true rfl)
    · exfalso; omega
  · refine lv_aload_n hx hb dL_law_224 rfl (lv_at hl 1 rfl) ?_
    refine lv_aload_n hx hb dL_law_225 rfl (lv_at hl 3 rfl) ?_
    refine lv_iload_n hx hb dL_law_226 rfl (lv_at hl 0 rfl) ?_
    refine lv_iconst (v := (1 : Int32)) hx hb dL_law_227 (by decide) ?_
    refine lv_iadd hx hb dL_law_228 ?_
    refine x_eqi (show (0 : Int32) + (1 : Int32) = (1 : Int32) from by decide +kernel) ?_
    refine va_sld hx hb hX hbl hbA X.2.2.1 (i := (1 : Int32)) (vp_in_nI (n := 1) (by omega) (by omega)) dL_law_229 ?_
    refine x_eqi (show xs ((1 : Int32).toNatClampNeg) = xs 1 from rfl) ?_
    refine lv_aload_n hx hb dL_law_230 rfl (lv_at hl 3 rfl) ?_
    refine lv_iload_n hx hb dL_law_231 rfl (lv_at hl 0 rfl) ?_
    refine lv_iconst (v := (2 : Int32)) hx hb dL_law_232 (by decide) ?_
    refine lv_iadd hx hb dL_law_233 ?_
    refine x_eqi (show (0 : Int32) + (2 : Int32) = (2 : Int32) from by decide +kernel) ?_
    refine va_sld hx hb hX hbl hbA X.2.2.1 (i := (2 : Int32)) (vp_in_nI (n := 2) (by omega) (by omega)) dL_law_234 ?_
    refine x_eqi (show xs ((2 : Int32).toNatClampNeg) = xs 2 from rfl) ?_
    refine lv_aload_n hx hb dL_law_235 rfl (lv_at hl 3 rfl) ?_
    refine lv_iload_n hx hb dL_law_236 rfl (lv_at hl 0 rfl) ?_
    refine lv_iconst (v := (3 : Int32)) hx hb dL_law_237 (by decide) ?_
    refine lv_iadd hx hb dL_law_238 ?_
    refine x_eqi (show (0 : Int32) + (3 : Int32) = (3 : Int32) from by decide +kernel) ?_
    refine va_sld hx hb hX hbl hbA X.2.2.1 (i := (3 : Int32)) (vp_in_nI (n := 3) (by omega) (by omega)) dL_law_239 ?_
    refine x_eqi (show xs ((3 : Int32).toNatClampNeg) = xs 3 from rfl) ?_
    refine lv_aload_n hx hb dL_law_240 rfl (lv_at hl 3 rfl) ?_
    refine lv_iload_n hx hb dL_law_241 rfl (lv_at hl 0 rfl) ?_
    refine lv_iconst (v := (4 : Int32)) hx hb dL_law_242 (by decide) ?_
    refine lv_iadd hx hb dL_law_243 ?_
    refine x_eqi (show (0 : Int32) + (4 : Int32) = (4 : Int32) from by decide +kernel) ?_
    refine va_sld hx hb hX hbl hbA X.2.2.1 (i := (4 : Int32)) (vp_in_nI (n := 4) (by omega) (by omega)) dL_law_244 ?_
    refine x_eqi (show xs ((4 : Int32).toNatClampNeg) = xs 4 from rfl) ?_
    refine x_cV (own := RL) (wr := []) (As := [.int (xs 1), .int (xs 2), .int (xs 3), .int (xs 4)]) C X hl.1 (cm_player l D cI cJ cZ cB cO v (xs 1) (xs 2) (xs 3) (xs 4)) [0, 1, 2, 3, 4, 5] [] ⟨rfl, rfl, by decide, by decide, by decide⟩ (qb := 0) rfl rfl k_12_19 k_12_20 k_12_21 k_1_5 k_12_22 (n := 4) (by decide +kernel) ⟨Nat.le_of_ble_eq_true rfl, Nat.le_of_ble_eq_true rfl⟩ rfl rfl (Nat.le_of_ble_eq_true rfl) dL_law_245 ⟨Nat.le_of_ble_eq_true rfl, Nat.le_of_ble_eq_true rfl⟩ (fun r_8 u_7 H locs w_9 X => ?_)
    have X : Wd D (fun q : Nat => s.heap.size ≤ q) s [] H locs := X
    refine W.widen (k := 150) (n := 141288) (Nat.le_of_ble_eq_true rfl) (Nat.le_of_ble_eq_true rfl) ?_
    obtain ⟨rfl, fw_9⟩ | ⟨rfl, fw_9⟩ : (r_8 = (0 : Int32) ∧ (-20 ≤ (xs 1).toInt ∧ (xs 1).toInt ≤ 20 ∧ -20 ≤ (xs 2).toInt ∧ (xs 2).toInt ≤ 20 ∧ -20 ≤ (xs 3).toInt ∧ (xs 3).toInt ≤ 20 ∧ -20 ≤ (xs 4).toInt ∧ (xs 4).toInt ≤ 20)) ∨ (r_8 = (-1 : Int32) ∧ ((xs 1).toInt < -20 ∨ 20 < (xs 1).toInt ∨ (xs 2).toInt < -20 ∨ 20 < (xs 2).toInt ∨ (xs 3).toInt < -20 ∨ 20 < (xs 3).toInt ∨ (xs 4).toInt < -20 ∨ 20 < (xs 4).toInt)) := w_9
    · exfalso; omega
    · refine lv_icmp_eq (tgt := 1721) hx hb dL_law_248 (by decide) (fun _ => ?_) (fun c0 => absurd (by decide) c0)
      exact law_tail K0 X hl (Nat.le_of_ble_eq_true rfl) (Nat.le_of_ble_eq_true rfl)
set_option maxHeartbeats 4000000 in
set_option maxRecDepth 100000 in
theorem law_c1 {p : Program} {e : Env} {s : State} {m : MethodId} {below : List Frame} {meth : Method} {c : Code} {l : Launch} {b : Nat} {xs : Nat → Int32} {D : va_G} {cI cJ cZ cB cO : ClassId} (K0 : LwC p s m meth c b xs D [(cI, .int), (cJ, .long), (cZ, .boolean), (cB, .byte), (cO, .object "LuckLinks$World")]) {u v : Nat → Nat} {H : Heap} {locs : List Loc} {ls : Array Slot} (X : Wd D (fun q : Nat => s.heap.size ≤ q) s (xW cI cJ cZ cB cO u ++ mW cI cJ cZ cB cO v) H locs) (hl : lv_has ls 4 [(3, .int (0 : Int32)), (2, .ref (v 0)), (1, .ref (u 0)), (0, .ref b)]) :
    W p l e room_1 s m #[Value.ref b] below meth c H locs 150 141288 (lw_Z below #[Value.ref b] s) (F0 m 253 ls []) := by
  have C := K0.1
  have hx := C.1
  have hb := C.2.1
  have hX := K0.2.2.2.1
  have hbl := K0.2.2.2.2
  have hbA : ¬ (fun q : Nat => s.heap.size ≤ q) b := Nat.not_le.mpr hbl
  refine lv_aload_n hx hb dL_law_253 rfl (lv_at hl 2 rfl) ?_
  refine lv_aload_n hx hb dL_law_254 rfl (lv_at hl 3 rfl) ?_
  refine lv_iload_n hx hb dL_law_255 rfl (lv_at hl 0 rfl) ?_
  refine lv_iconst (v := (1 : Int32)) hx hb dL_law_256 (by decide) ?_
  refine lv_iadd hx hb dL_law_257 ?_
  refine x_eqi (show (0 : Int32) + (1 : Int32) = (1 : Int32) from by decide +kernel) ?_
  refine va_sld hx hb hX hbl hbA X.2.2.1 (i := (1 : Int32)) (vp_in_nI (n := 1) (by omega) (by omega)) dL_law_258 ?_
  refine x_eqi (show xs ((1 : Int32).toNatClampNeg) = xs 1 from rfl) ?_
  refine lv_aload_n hx hb dL_law_259 rfl (lv_at hl 3 rfl) ?_
  refine lv_iload_n hx hb dL_law_260 rfl (lv_at hl 0 rfl) ?_
  refine lv_iconst (v := (2 : Int32)) hx hb dL_law_261 (by decide) ?_
  refine lv_iadd hx hb dL_law_262 ?_
  refine x_eqi (show (0 : Int32) + (2 : Int32) = (2 : Int32) from by decide +kernel) ?_
  refine va_sld hx hb hX hbl hbA X.2.2.1 (i := (2 : Int32)) (vp_in_nI (n := 2) (by omega) (by omega)) dL_law_263 ?_
  refine x_eqi (show xs ((2 : Int32).toNatClampNeg) = xs 2 from rfl) ?_
  refine lv_aload_n hx hb dL_law_264 rfl (lv_at hl 3 rfl) ?_
  refine lv_iload_n hx hb dL_law_265 rfl (lv_at hl 0 rfl) ?_
  refine lv_iconst (v := (3 : Int32)) hx hb dL_law_266 (by decide) ?_
  refine lv_iadd hx hb dL_law_267 ?_
  refine x_eqi (show (0 : Int32) + (3 : Int32) = (3 : Int32) from by decide +kernel) ?_
  refine va_sld hx hb hX hbl hbA X.2.2.1 (i := (3 : Int32)) (vp_in_nI (n := 3) (by omega) (by omega)) dL_law_268 ?_
  refine x_eqi (show xs ((3 : Int32).toNatClampNeg) = xs 3 from rfl) ?_
  refine lv_aload_n hx hb dL_law_269 rfl (lv_at hl 3 rfl) ?_
  refine lv_iload_n hx hb dL_law_270 rfl (lv_at hl 0 rfl) ?_
  refine lv_iconst (v := (4 : Int32)) hx hb dL_law_271 (by decide) ?_
  refine lv_iadd hx hb dL_law_272 ?_
  refine x_eqi (show (0 : Int32) + (4 : Int32) = (4 : Int32) from by decide +kernel) ?_
  refine va_sld hx hb hX hbl hbA X.2.2.1 (i := (4 : Int32)) (vp_in_nI (n := 4) (by omega) (by omega)) dL_law_273 ?_
  refine x_eqi (show xs ((4 : Int32).toNatClampNeg) = xs 4 from rfl) ?_
  refine x_cV (own := RL) (wr := [((v 0), .inr (12, (mF v))), ((v 2), .inl (cI, 4, .inl (fun _ => (0 : Int32)))), ((v 6), .inl (cI, 96, .inl (fun _ => (0 : Int32)))), ((v 13), .inl (cI, 3, .inl (fun _ => (0 : Int32))))]) (As := [.int (xs 1), .int (xs 2), .int (xs 3), .int (xs 4)]) C X hl.1 (cx_course l D cI cJ cZ cB cO u (xs 1) (xs 2) (xs 3) (xs 4)) [0, 1, 3, 66] [98, 100, 104, 111] ⟨rfl, rfl, by decide, by decide, by decide⟩ (qb := 0) rfl rfl k_13_6 k_13_7 k_13_8 k_1_2 k_13_9 (n := 4) (by decide +kernel) ⟨Nat.le_of_ble_eq_true rfl, Nat.le_of_ble_eq_true rfl⟩ rfl rfl (Nat.le_of_ble_eq_true rfl) dL_law_274 ⟨Nat.le_of_ble_eq_true rfl, Nat.le_of_ble_eq_true rfl⟩ (fun r_2 u_1 H locs w_3 X => ?_)
  have X : Wd D (fun q : Nat => s.heap.size ≤ q) s [((v 0), .inr (12, (mF v))), ((v 2), .inl (cI, 4, .inl (fun _ => (0 : Int32)))), ((v 6), .inl (cI, 96, .inl (fun _ => (0 : Int32)))), ((v 13), .inl (cI, 3, .inl (fun _ => (0 : Int32))))] H locs := X
  refine W.widen (k := 150) (n := 141288) (Nat.le_of_ble_eq_true rfl) (Nat.le_of_ble_eq_true rfl) ?_
  obtain ⟨rfl, fw_3⟩ | ⟨rfl, fw_3⟩ : (r_2 = (0 : Int32) ∧ (0 ≤ (xs 1).toInt ∧ (xs 1).toInt ≤ 60 ∧ 0 ≤ (xs 2).toInt ∧ (xs 2).toInt ≤ 60 ∧ 0 ≤ (xs 3).toInt ∧ (xs 3).toInt ≤ 60 ∧ 0 ≤ (xs 4).toInt ∧ (xs 4).toInt ≤ 60)) ∨ (r_2 = (-1 : Int32) ∧ ((xs 1).toInt < 0 ∨ 60 < (xs 1).toInt ∨ (xs 2).toInt < 0 ∨ 60 < (xs 2).toInt ∨ (xs 3).toInt < 0 ∨ 60 < (xs 3).toInt ∨ (xs 4).toInt < 0 ∨ 60 < (xs 4).toInt)) := w_3
  · refine lv_aload_n hx hb dL_law_277 rfl (lv_at hl 1 rfl) ?_
    refine lv_aload_n hx hb dL_law_278 rfl (lv_at hl 3 rfl) ?_
    refine lv_iload_n hx hb dL_law_279 rfl (lv_at hl 0 rfl) ?_
    refine lv_iconst (v := (1 : Int32)) hx hb dL_law_280 (by decide) ?_
    refine lv_iadd hx hb dL_law_281 ?_
    refine x_eqi (show (0 : Int32) + (1 : Int32) = (1 : Int32) from by decide +kernel) ?_
    refine va_sld hx hb hX hbl hbA X.2.2.1 (i := (1 : Int32)) (vp_in_nI (n := 1) (by omega) (by omega)) dL_law_282 ?_
    refine x_eqi (show xs ((1 : Int32).toNatClampNeg) = xs 1 from rfl) ?_
    refine lv_aload_n hx hb dL_law_283 rfl (lv_at hl 3 rfl) ?_
    refine lv_iload_n hx hb dL_law_284 rfl (lv_at hl 0 rfl) ?_
    refine lv_iconst (v := (2 : Int32)) hx hb dL_law_285 (by decide) ?_
    refine lv_iadd hx hb dL_law_286 ?_
    refine x_eqi (show (0 : Int32) + (2 : Int32) = (2 : Int32) from by decide +kernel) ?_
    refine va_sld hx hb hX hbl hbA X.2.2.1 (i := (2 : Int32)) (vp_in_nI (n := 2) (by omega) (by omega)) dL_law_287 ?_
    refine x_eqi (show xs ((2 : Int32).toNatClampNeg) = xs 2 from rfl) ?_
    refine lv_aload_n hx hb dL_law_288 rfl (lv_at hl 3 rfl) ?_
    refine lv_iload_n hx hb dL_law_289 rfl (lv_at hl 0 rfl) ?_
    refine lv_iconst (v := (3 : Int32)) hx hb dL_law_290 (by decide) ?_
    refine lv_iadd hx hb dL_law_291 ?_
    refine x_eqi (show (0 : Int32) + (3 : Int32) = (3 : Int32) from by decide +kernel) ?_
    refine va_sld hx hb hX hbl hbA X.2.2.1 (i := (3 : Int32)) (vp_in_nI (n := 3) (by omega) (by omega)) dL_law_292 ?_
    refine x_eqi (show xs ((3 : Int32).toNatClampNeg) = xs 3 from rfl) ?_
    refine lv_aload_n hx hb dL_law_293 rfl (lv_at hl 3 rfl) ?_
    refine lv_iload_n hx hb dL_law_294 rfl (lv_at hl 0 rfl) ?_
    refine lv_iconst (v := (4 : Int32)) hx hb dL_law_295 (by decide) ?_
    refine lv_iadd hx hb dL_law_296 ?_
    refine x_eqi (show (0 : Int32) + (4 : Int32) = (4 : Int32) from by decide +kernel) ?_
    refine va_sld hx hb hX hbl hbA X.2.2.1 (i := (4 : Int32)) (vp_in_nI (n := 4) (by omega) (by omega)) dL_law_297 ?_
    refine x_eqi (show xs ((4 : Int32).toNatClampNeg) = xs 4 from rfl) ?_
    refine x_cV (own := RL) (wr := []) (As := [.int (xs 1), .int (xs 2), .int (xs 3), .int (xs 4)]) C X hl.1 (cm_course l D cI cJ cZ cB cO v (xs 1) (xs 2) (xs 3) (xs 4)) [0, 1, 2, 3] [] ⟨rfl, rfl, by decide, by decide, by decide⟩ (qb := 0) rfl rfl k_13_15 k_13_16 k_13_17 k_1_5 k_13_18 (n := 4) (by decide +kernel) ⟨Nat.le_of_ble_eq_true rfl, Nat.le_of_ble_eq_true rfl⟩ rfl rfl (Nat.le_of_ble_eq_true rfl) dL_law_298 ⟨Nat.le_of_ble_eq_true rfl, Nat.le_of_ble_eq_true rfl⟩ (fun r_5 u_4 H locs w_6 X => ?_)
    have X : Wd D (fun q : Nat => s.heap.size ≤ q) s [] H locs := X
    refine W.widen (k := 150) (n := 141288) (Nat.le_of_ble_eq_true rfl) (Nat.le_of_ble_eq_true rfl) ?_
    obtain ⟨rfl, fw_6⟩ | ⟨rfl, fw_6⟩ : (r_5 = (0 : Int32) ∧ (0 ≤ (xs 1).toInt ∧ (xs 1).toInt ≤ 60 ∧ 0 ≤ (xs 2).toInt ∧ (xs 2).toInt ≤ 60 ∧ 0 ≤ (xs 3).toInt ∧ (xs 3).toInt ≤ 60 ∧ 0 ≤ (xs 4).toInt ∧ (xs 4).toInt ≤ 60)) ∨ (r_5 = (-1 : Int32) ∧ ((xs 1).toInt < 0 ∨ 60 < (xs 1).toInt ∨ (xs 2).toInt < 0 ∨ 60 < (xs 2).toInt ∨ (xs 3).toInt < 0 ∨ 60 < (xs 3).toInt ∨ (xs 4).toInt < 0 ∨ 60 < (xs 4).toInt)) := w_6
    · refine lv_icmp_eq (tgt := 1721) hx hb dL_law_301 (by decide) (fun _ => ?_) (fun c0 => absurd (by decide) c0)
      exact law_tail K0 X hl (Nat.le_of_ble_eq_true rfl) (Nat.le_of_ble_eq_true rfl)
    · exfalso; omega
  · refine lv_aload_n hx hb dL_law_277 rfl (lv_at hl 1 rfl) ?_
    refine lv_aload_n hx hb dL_law_278 rfl (lv_at hl 3 rfl) ?_
    refine lv_iload_n hx hb dL_law_279 rfl (lv_at hl 0 rfl) ?_
    refine lv_iconst (v := (1 : Int32)) hx hb dL_law_280 (by decide) ?_
    refine lv_iadd hx hb dL_law_281 ?_
    refine x_eqi (show (0 : Int32) + (1 : Int32) = (1 : Int32) from by decide +kernel) ?_
    refine va_sld hx hb hX hbl hbA X.2.2.1 (i := (1 : Int32)) (vp_in_nI (n := 1) (by omega) (by omega)) dL_law_282 ?_
    refine x_eqi (show xs ((1 : Int32).toNatClampNeg) = xs 1 from rfl) ?_
    refine lv_aload_n hx hb dL_law_283 rfl (lv_at hl 3 rfl) ?_
    refine lv_iload_n hx hb dL_law_284 rfl (lv_at hl 0 rfl) ?_
    refine lv_iconst (v := (2 : Int32)) hx hb dL_law_285 (by decide) ?_
    refine lv_iadd hx hb dL_law_286 ?_
    refine x_eqi (show (0 : Int32) + (2 : Int32) = (2 : Int32) from by decide +kernel) ?_
    refine va_sld hx hb hX hbl hbA X.2.2.1 (i := (2 : Int32)) (vp_in_nI (n := 2) (by omega) (by omega)) dL_law_287 ?_
    refine x_eqi (show xs ((2 : Int32).toNatClampNeg) = xs 2 from rfl) ?_
    refine lv_aload_n hx hb dL_law_288 rfl (lv_at hl 3 rfl) ?_
    refine lv_iload_n hx hb dL_law_289 rfl (lv_at hl 0 rfl) ?_
    refine lv_iconst (v := (3 : Int32)) hx hb dL_law_290 (by decide) ?_
    refine lv_iadd hx hb dL_law_291 ?_
    refine x_eqi (show (0 : Int32) + (3 : Int32) = (3 : Int32) from by decide +kernel) ?_
    refine va_sld hx hb hX hbl hbA X.2.2.1 (i := (3 : Int32)) (vp_in_nI (n := 3) (by omega) (by omega)) dL_law_292 ?_
    refine x_eqi (show xs ((3 : Int32).toNatClampNeg) = xs 3 from rfl) ?_
    refine lv_aload_n hx hb dL_law_293 rfl (lv_at hl 3 rfl) ?_
    refine lv_iload_n hx hb dL_law_294 rfl (lv_at hl 0 rfl) ?_
    refine lv_iconst (v := (4 : Int32)) hx hb dL_law_295 (by decide) ?_
    refine lv_iadd hx hb dL_law_296 ?_
    refine x_eqi (show (0 : Int32) + (4 : Int32) = (4 : Int32) from by decide +kernel) ?_
    refine va_sld hx hb hX hbl hbA X.2.2.1 (i := (4 : Int32)) (vp_in_nI (n := 4) (by omega) (by omega)) dL_law_297 ?_
    refine x_eqi (show xs ((4 : Int32).toNatClampNeg) = xs 4 from rfl) ?_
    refine x_cV (own := RL) (wr := []) (As := [.int (xs 1), .int (xs 2), .int (xs 3), .int (xs 4)]) C X hl.1 (cm_course l D cI cJ cZ cB cO v (xs 1) (xs 2) (xs 3) (xs 4)) [0, 1, 2, 3] [] ⟨rfl, rfl, by decide, by decide, by decide⟩ (qb := 0) rfl rfl k_13_15 k_13_16 k_13_17 k_1_5 k_13_18 (n := 4) (by decide +kernel) ⟨Nat.le_of_ble_eq_true rfl, Nat.le_of_ble_eq_true rfl⟩ rfl rfl (Nat.le_of_ble_eq_true rfl) dL_law_298 ⟨Nat.le_of_ble_eq_true rfl, Nat.le_of_ble_eq_true rfl⟩ (fun r_8 u_7 H locs w_9 X => ?_)
    have X : Wd D (fun q : Nat => s.heap.size ≤ q) s [] H locs := X
    refine W.widen (k := 150) (n := 141288) (Nat.le_of_ble_eq_true rfl) (Nat.le_of_ble_eq_true rfl) ?_
    obtain ⟨rfl, fw_9⟩ | ⟨rfl, fw_9⟩ : (r_8 = (0 : Int32) ∧ (0 ≤ (xs 1).toInt ∧ (xs 1).toInt ≤ 60 ∧ 0 ≤ (xs 2).toInt ∧ (xs 2).toInt ≤ 60 ∧ 0 ≤ (xs 3).toInt ∧ (xs 3).toInt ≤ 60 ∧ 0 ≤ (xs 4).toInt ∧ (xs 4).toInt ≤ 60)) ∨ (r_8 = (-1 : Int32) ∧ ((xs 1).toInt < 0 ∨ 60 < (xs 1).toInt ∨ (xs 2).toInt < 0 ∨ 60 < (xs 2).toInt ∨ (xs 3).toInt < 0 ∨ 60 < (xs 3).toInt ∨ (xs 4).toInt < 0 ∨ 60 < (xs 4).toInt)) := w_9
    · exfalso; omega
    · refine lv_icmp_eq (tgt := 1721) hx hb dL_law_301 (by decide) (fun _ => ?_) (fun c0 => absurd (by decide) c0)
      exact law_tail K0 X hl (Nat.le_of_ble_eq_true rfl) (Nat.le_of_ble_eq_true rfl)
set_option maxHeartbeats 4000000 in
set_option maxRecDepth 100000 in
theorem law_c2 {p : Program} {e : Env} {s : State} {m : MethodId} {below : List Frame} {meth : Method} {c : Code} {l : Launch} {b : Nat} {xs : Nat → Int32} {D : va_G} {cI cJ cZ cB cO : ClassId} (K0 : LwC p s m meth c b xs D [(cI, .int), (cJ, .long), (cZ, .boolean), (cB, .byte), (cO, .object "LuckLinks$World")]) {u v : Nat → Nat} {H : Heap} {locs : List Loc} {ls : Array Slot} (X : Wd D (fun q : Nat => s.heap.size ≤ q) s (xW cI cJ cZ cB cO u ++ mW cI cJ cZ cB cO v) H locs) (hl : lv_has ls 4 [(3, .int (0 : Int32)), (2, .ref (v 0)), (1, .ref (u 0)), (0, .ref b)]) :
    W p l e room_1 s m #[Value.ref b] below meth c H locs 150 141288 (lw_Z below #[Value.ref b] s) (F0 m 306 ls []) := by
  have C := K0.1
  have hx := C.1
  have hb := C.2.1
  have hX := K0.2.2.2.1
  have hbl := K0.2.2.2.2
  have hbA : ¬ (fun q : Nat => s.heap.size ≤ q) b := Nat.not_le.mpr hbl
  refine lv_aload_n hx hb dL_law_306 rfl (lv_at hl 2 rfl) ?_
  refine lv_aload_n hx hb dL_law_307 rfl (lv_at hl 3 rfl) ?_
  refine lv_iload_n hx hb dL_law_308 rfl (lv_at hl 0 rfl) ?_
  refine lv_iconst (v := (1 : Int32)) hx hb dL_law_309 (by decide) ?_
  refine lv_iadd hx hb dL_law_310 ?_
  refine x_eqi (show (0 : Int32) + (1 : Int32) = (1 : Int32) from by decide +kernel) ?_
  refine va_sld hx hb hX hbl hbA X.2.2.1 (i := (1 : Int32)) (vp_in_nI (n := 1) (by omega) (by omega)) dL_law_311 ?_
  refine x_eqi (show xs ((1 : Int32).toNatClampNeg) = xs 1 from rfl) ?_
  refine lv_aload_n hx hb dL_law_312 rfl (lv_at hl 3 rfl) ?_
  refine lv_iload_n hx hb dL_law_313 rfl (lv_at hl 0 rfl) ?_
  refine lv_iconst (v := (2 : Int32)) hx hb dL_law_314 (by decide) ?_
  refine lv_iadd hx hb dL_law_315 ?_
  refine x_eqi (show (0 : Int32) + (2 : Int32) = (2 : Int32) from by decide +kernel) ?_
  refine va_sld hx hb hX hbl hbA X.2.2.1 (i := (2 : Int32)) (vp_in_nI (n := 2) (by omega) (by omega)) dL_law_316 ?_
  refine x_eqi (show xs ((2 : Int32).toNatClampNeg) = xs 2 from rfl) ?_
  refine x_cV (own := RL) (wr := [((v 0), .inr (12, (mF v))), ((v 2), .inl (cI, 4, .inl (fun _ => (0 : Int32)))), ((v 13), .inl (cI, 3, .inl (fun _ => (0 : Int32))))]) (As := [.int (xs 1), .int (xs 2)]) C X hl.1 (cx_week l D cI cJ cZ cB cO u (xs 1) (xs 2)) [0, 1, 4, 66] [98, 100, 111] ⟨rfl, rfl, by decide, by decide, by decide⟩ (qb := 0) rfl rfl k_13_19 k_13_20 k_13_21 k_1_2 k_13_22 (n := 2) (by decide +kernel) ⟨Nat.le_of_ble_eq_true rfl, Nat.le_of_ble_eq_true rfl⟩ rfl rfl (Nat.le_of_ble_eq_true rfl) dL_law_317 ⟨Nat.le_of_ble_eq_true rfl, Nat.le_of_ble_eq_true rfl⟩ (fun r_2 u_1 H locs w_3 X => ?_)
  have X : Wd D (fun q : Nat => s.heap.size ≤ q) s [((v 0), .inr (12, (mF v))), ((v 2), .inl (cI, 4, .inl (fun _ => (0 : Int32)))), ((v 13), .inl (cI, 3, .inl (fun _ => (0 : Int32))))] H locs := X
  refine W.widen (k := 150) (n := 141288) (Nat.le_of_ble_eq_true rfl) (Nat.le_of_ble_eq_true rfl) ?_
  obtain ⟨rfl, fw_3⟩ : r_2 = (0 : Int32) ∧ True := w_3
  refine lv_aload_n hx hb dL_law_320 rfl (lv_at hl 1 rfl) ?_
  refine lv_aload_n hx hb dL_law_321 rfl (lv_at hl 3 rfl) ?_
  refine lv_iload_n hx hb dL_law_322 rfl (lv_at hl 0 rfl) ?_
  refine lv_iconst (v := (1 : Int32)) hx hb dL_law_323 (by decide) ?_
  refine lv_iadd hx hb dL_law_324 ?_
  refine x_eqi (show (0 : Int32) + (1 : Int32) = (1 : Int32) from by decide +kernel) ?_
  refine va_sld hx hb hX hbl hbA X.2.2.1 (i := (1 : Int32)) (vp_in_nI (n := 1) (by omega) (by omega)) dL_law_325 ?_
  refine x_eqi (show xs ((1 : Int32).toNatClampNeg) = xs 1 from rfl) ?_
  refine lv_aload_n hx hb dL_law_326 rfl (lv_at hl 3 rfl) ?_
  refine lv_iload_n hx hb dL_law_327 rfl (lv_at hl 0 rfl) ?_
  refine lv_iconst (v := (2 : Int32)) hx hb dL_law_328 (by decide) ?_
  refine lv_iadd hx hb dL_law_329 ?_
  refine x_eqi (show (0 : Int32) + (2 : Int32) = (2 : Int32) from by decide +kernel) ?_
  refine va_sld hx hb hX hbl hbA X.2.2.1 (i := (2 : Int32)) (vp_in_nI (n := 2) (by omega) (by omega)) dL_law_330 ?_
  refine x_eqi (show xs ((2 : Int32).toNatClampNeg) = xs 2 from rfl) ?_
  refine x_cV (own := RL) (wr := []) (As := [.int (xs 1), .int (xs 2)]) C X hl.1 (cm_week l D cI cJ cZ cB cO v (xs 1) (xs 2)) [0, 1, 2] [] ⟨rfl, rfl, by decide, by decide, by decide⟩ (qb := 0) rfl rfl k_14_7 k_14_8 k_14_9 k_1_5 k_14_10 (n := 2) (by decide +kernel) ⟨Nat.le_of_ble_eq_true rfl, Nat.le_of_ble_eq_true rfl⟩ rfl rfl (Nat.le_of_ble_eq_true rfl) dL_law_331 ⟨Nat.le_of_ble_eq_true rfl, Nat.le_of_ble_eq_true rfl⟩ (fun r_5 u_4 H locs w_6 X => ?_)
  have X : Wd D (fun q : Nat => s.heap.size ≤ q) s [] H locs := X
  refine W.widen (k := 150) (n := 141288) (Nat.le_of_ble_eq_true rfl) (Nat.le_of_ble_eq_true rfl) ?_
  obtain ⟨rfl, fw_6⟩ : r_5 = (0 : Int32) ∧ True := w_6
  refine lv_icmp_eq (tgt := 1721) hx hb dL_law_334 (by decide) (fun _ => ?_) (fun c0 => absurd (by decide) c0)
  exact law_tail K0 X hl (Nat.le_of_ble_eq_true rfl) (Nat.le_of_ble_eq_true rfl)
set_option maxHeartbeats 4000000 in
set_option maxRecDepth 100000 in
theorem law_c3 {p : Program} {e : Env} {s : State} {m : MethodId} {below : List Frame} {meth : Method} {c : Code} {l : Launch} {b : Nat} {xs : Nat → Int32} {D : va_G} {cI cJ cZ cB cO : ClassId} (K0 : LwC p s m meth c b xs D [(cI, .int), (cJ, .long), (cZ, .boolean), (cB, .byte), (cO, .object "LuckLinks$World")]) {u v : Nat → Nat} {H : Heap} {locs : List Loc} {ls : Array Slot} (X : Wd D (fun q : Nat => s.heap.size ≤ q) s (xW cI cJ cZ cB cO u ++ mW cI cJ cZ cB cO v) H locs) (hl : lv_has ls 4 [(3, .int (0 : Int32)), (2, .ref (v 0)), (1, .ref (u 0)), (0, .ref b)]) :
    W p l e room_1 s m #[Value.ref b] below meth c H locs 150 141288 (lw_Z below #[Value.ref b] s) (F0 m 339 ls []) := by
  have C := K0.1
  have hx := C.1
  have hb := C.2.1
  have hX := K0.2.2.2.1
  have hbl := K0.2.2.2.2
  have hbA : ¬ (fun q : Nat => s.heap.size ≤ q) b := Nat.not_le.mpr hbl
  refine lv_aload_n hx hb dL_law_339 rfl (lv_at hl 2 rfl) ?_
  refine lv_aload_n hx hb dL_law_340 rfl (lv_at hl 3 rfl) ?_
  refine lv_iload_n hx hb dL_law_341 rfl (lv_at hl 0 rfl) ?_
  refine lv_iconst (v := (1 : Int32)) hx hb dL_law_342 (by decide) ?_
  refine lv_iadd hx hb dL_law_343 ?_
  refine x_eqi (show (0 : Int32) + (1 : Int32) = (1 : Int32) from by decide +kernel) ?_
  refine va_sld hx hb hX hbl hbA X.2.2.1 (i := (1 : Int32)) (vp_in_nI (n := 1) (by omega) (by omega)) dL_law_344 ?_
  refine x_eqi (show xs ((1 : Int32).toNatClampNeg) = xs 1 from rfl) ?_
  refine lv_aload_n hx hb dL_law_345 rfl (lv_at hl 3 rfl) ?_
  refine lv_iload_n hx hb dL_law_346 rfl (lv_at hl 0 rfl) ?_
  refine lv_iconst (v := (2 : Int32)) hx hb dL_law_347 (by decide) ?_
  refine lv_iadd hx hb dL_law_348 ?_
  refine x_eqi (show (0 : Int32) + (2 : Int32) = (2 : Int32) from by decide +kernel) ?_
  refine va_sld hx hb hX hbl hbA X.2.2.1 (i := (2 : Int32)) (vp_in_nI (n := 2) (by omega) (by omega)) dL_law_349 ?_
  refine x_eqi (show xs ((2 : Int32).toNatClampNeg) = xs 2 from rfl) ?_
  refine lv_aload_n hx hb dL_law_350 rfl (lv_at hl 3 rfl) ?_
  refine lv_iload_n hx hb dL_law_351 rfl (lv_at hl 0 rfl) ?_
  refine lv_iconst (v := (3 : Int32)) hx hb dL_law_352 (by decide) ?_
  refine lv_iadd hx hb dL_law_353 ?_
  refine x_eqi (show (0 : Int32) + (3 : Int32) = (3 : Int32) from by decide +kernel) ?_
  refine va_sld hx hb hX hbl hbA X.2.2.1 (i := (3 : Int32)) (vp_in_nI (n := 3) (by omega) (by omega)) dL_law_354 ?_
  refine x_eqi (show xs ((3 : Int32).toNatClampNeg) = xs 3 from rfl) ?_
  refine lv_aload_n hx hb dL_law_355 rfl (lv_at hl 3 rfl) ?_
  refine lv_iload_n hx hb dL_law_356 rfl (lv_at hl 0 rfl) ?_
  refine lv_iconst (v := (4 : Int32)) hx hb dL_law_357 (by decide) ?_
  refine lv_iadd hx hb dL_law_358 ?_
  refine x_eqi (show (0 : Int32) + (4 : Int32) = (4 : Int32) from by decide +kernel) ?_
  refine va_sld hx hb hX hbl hbA X.2.2.1 (i := (4 : Int32)) (vp_in_nI (n := 4) (by omega) (by omega)) dL_law_359 ?_
  refine x_eqi (show xs ((4 : Int32).toNatClampNeg) = xs 4 from rfl) ?_
  refine x_cV (own := RL) (wr := [((v 0), .inr (12, (mF v))), ((v 1), .inl (cI, 4, .inl (fun _ => (0 : Int32)))), ((v 13), .inl (cI, 3, .inl (fun _ => (0 : Int32))))]) (As := [.int (xs 1), .int (xs 2), .int (xs 3), .int (xs 4)]) C X hl.1 (cx_round l D cI cJ cZ cB cO u (xs 1) (xs 2) (xs 3) (xs 4)) [0, 1, 66] [98, 99, 111] ⟨rfl, rfl, by decide, by decide, by decide⟩ (qb := 0) rfl rfl k_14_18 k_14_19 k_14_20 k_1_2 k_14_21 (n := 4) (by decide +kernel) ⟨Nat.le_of_ble_eq_true rfl, Nat.le_of_ble_eq_true rfl⟩ rfl rfl (Nat.le_of_ble_eq_true rfl) dL_law_360 ⟨Nat.le_of_ble_eq_true rfl, Nat.le_of_ble_eq_true rfl⟩ (fun r_2 u_1 H locs w_3 X => ?_)
  have X : Wd D (fun q : Nat => s.heap.size ≤ q) s [((v 0), .inr (12, (mF v))), ((v 1), .inl (cI, 4, .inl (fun _ => (0 : Int32)))), ((v 13), .inl (cI, 3, .inl (fun _ => (0 : Int32))))] H locs := X
  refine W.widen (k := 150) (n := 141288) (Nat.le_of_ble_eq_true rfl) (Nat.le_of_ble_eq_true rfl) ?_
  obtain ⟨rfl, fw_3⟩ : r_2 = (-1 : Int32) ∧ True := w_3
  refine lv_aload_n hx hb dL_law_363 rfl (lv_at hl 1 rfl) ?_
  refine lv_aload_n hx hb dL_law_364 rfl (lv_at hl 3 rfl) ?_
  refine lv_iload_n hx hb dL_law_365 rfl (lv_at hl 0 rfl) ?_
  refine lv_iconst (v := (1 : Int32)) hx hb dL_law_366 (by decide) ?_
  refine lv_iadd hx hb dL_law_367 ?_
  refine x_eqi (show (0 : Int32) + (1 : Int32) = (1 : Int32) from by decide +kernel) ?_
  refine va_sld hx hb hX hbl hbA X.2.2.1 (i := (1 : Int32)) (vp_in_nI (n := 1) (by omega) (by omega)) dL_law_368 ?_
  refine x_eqi (show xs ((1 : Int32).toNatClampNeg) = xs 1 from rfl) ?_
  refine lv_aload_n hx hb dL_law_369 rfl (lv_at hl 3 rfl) ?_
  refine lv_iload_n hx hb dL_law_370 rfl (lv_at hl 0 rfl) ?_
  refine lv_iconst (v := (2 : Int32)) hx hb dL_law_371 (by decide) ?_
  refine lv_iadd hx hb dL_law_372 ?_
  refine x_eqi (show (0 : Int32) + (2 : Int32) = (2 : Int32) from by decide +kernel) ?_
  refine va_sld hx hb hX hbl hbA X.2.2.1 (i := (2 : Int32)) (vp_in_nI (n := 2) (by omega) (by omega)) dL_law_373 ?_
  refine x_eqi (show xs ((2 : Int32).toNatClampNeg) = xs 2 from rfl) ?_
  refine lv_aload_n hx hb dL_law_374 rfl (lv_at hl 3 rfl) ?_
  refine lv_iload_n hx hb dL_law_375 rfl (lv_at hl 0 rfl) ?_
  refine lv_iconst (v := (3 : Int32)) hx hb dL_law_376 (by decide) ?_
  refine lv_iadd hx hb dL_law_377 ?_
  refine x_eqi (show (0 : Int32) + (3 : Int32) = (3 : Int32) from by decide +kernel) ?_
  refine va_sld hx hb hX hbl hbA X.2.2.1 (i := (3 : Int32)) (vp_in_nI (n := 3) (by omega) (by omega)) dL_law_378 ?_
  refine x_eqi (show xs ((3 : Int32).toNatClampNeg) = xs 3 from rfl) ?_
  refine lv_aload_n hx hb dL_law_379 rfl (lv_at hl 3 rfl) ?_
  refine lv_iload_n hx hb dL_law_380 rfl (lv_at hl 0 rfl) ?_
  refine lv_iconst (v := (4 : Int32)) hx hb dL_law_381 (by decide) ?_
  refine lv_iadd hx hb dL_law_382 ?_
  refine x_eqi (show (0 : Int32) + (4 : Int32) = (4 : Int32) from by decide +kernel) ?_
  refine va_sld hx hb hX hbl hbA X.2.2.1 (i := (4 : Int32)) (vp_in_nI (n := 4) (by omega) (by omega)) dL_law_383 ?_
  refine x_eqi (show xs ((4 : Int32).toNatClampNeg) = xs 4 from rfl) ?_
  refine x_cV (own := RL) (wr := []) (As := [.int (xs 1), .int (xs 2), .int (xs 3), .int (xs 4)]) C X hl.1 (cm_round l D cI cJ cZ cB cO v (xs 1) (xs 2) (xs 3) (xs 4)) [0, 1, 2] [] ⟨rfl, rfl, by decide, by decide, by decide⟩ (qb := 0) rfl rfl k_16_7 k_16_8 k_16_9 k_1_5 k_16_10 (n := 4) (by decide +kernel) ⟨Nat.le_of_ble_eq_true rfl, Nat.le_of_ble_eq_true rfl⟩ rfl rfl (Nat.le_of_ble_eq_true rfl) dL_law_384 ⟨Nat.le_of_ble_eq_true rfl, Nat.le_of_ble_eq_true rfl⟩ (fun r_5 u_4 H locs w_6 X => ?_)
  have X : Wd D (fun q : Nat => s.heap.size ≤ q) s [] H locs := X
  refine W.widen (k := 150) (n := 141288) (Nat.le_of_ble_eq_true rfl) (Nat.le_of_ble_eq_true rfl) ?_
  obtain ⟨rfl, fw_6⟩ : r_5 = (-1 : Int32) ∧ True := w_6
  refine lv_icmp_eq (tgt := 1721) hx hb dL_law_387 (by decide) (fun _ => ?_) (fun c0 => absurd (by decide) c0)
  exact law_tail K0 X hl (Nat.le_of_ble_eq_true rfl) (Nat.le_of_ble_eq_true rfl)
set_option maxHeartbeats 4000000 in
set_option maxRecDepth 100000 in
theorem law_c4 {p : Program} {e : Env} {s : State} {m : MethodId} {below : List Frame} {meth : Method} {c : Code} {l : Launch} {b : Nat} {xs : Nat → Int32} {D : va_G} {cI cJ cZ cB cO : ClassId} (K0 : LwC p s m meth c b xs D [(cI, .int), (cJ, .long), (cZ, .boolean), (cB, .byte), (cO, .object "LuckLinks$World")]) {u v : Nat → Nat} {H : Heap} {locs : List Loc} {ls : Array Slot} (X : Wd D (fun q : Nat => s.heap.size ≤ q) s (xW cI cJ cZ cB cO u ++ mW cI cJ cZ cB cO v) H locs) (hl : lv_has ls 4 [(3, .int (0 : Int32)), (2, .ref (v 0)), (1, .ref (u 0)), (0, .ref b)]) :
    W p l e room_1 s m #[Value.ref b] below meth c H locs 150 141288 (lw_Z below #[Value.ref b] s) (F0 m 392 ls []) := by
  have C := K0.1
  have hx := C.1
  have hb := C.2.1
  have hX := K0.2.2.2.1
  have hbl := K0.2.2.2.2
  have hbA : ¬ (fun q : Nat => s.heap.size ≤ q) b := Nat.not_le.mpr hbl
  refine lv_aload_n hx hb dL_law_392 rfl (lv_at hl 2 rfl) ?_
  refine lv_aload_n hx hb dL_law_393 rfl (lv_at hl 3 rfl) ?_
  refine lv_iload_n hx hb dL_law_394 rfl (lv_at hl 0 rfl) ?_
  refine lv_iconst (v := (1 : Int32)) hx hb dL_law_395 (by decide) ?_
  refine lv_iadd hx hb dL_law_396 ?_
  refine x_eqi (show (0 : Int32) + (1 : Int32) = (1 : Int32) from by decide +kernel) ?_
  refine va_sld hx hb hX hbl hbA X.2.2.1 (i := (1 : Int32)) (vp_in_nI (n := 1) (by omega) (by omega)) dL_law_397 ?_
  refine x_eqi (show xs ((1 : Int32).toNatClampNeg) = xs 1 from rfl) ?_
  refine lv_aload_n hx hb dL_law_398 rfl (lv_at hl 3 rfl) ?_
  refine lv_iload_n hx hb dL_law_399 rfl (lv_at hl 0 rfl) ?_
  refine lv_iconst (v := (2 : Int32)) hx hb dL_law_400 (by decide) ?_
  refine lv_iadd hx hb dL_law_401 ?_
  refine x_eqi (show (0 : Int32) + (2 : Int32) = (2 : Int32) from by decide +kernel) ?_
  refine va_sld hx hb hX hbl hbA X.2.2.1 (i := (2 : Int32)) (vp_in_nI (n := 2) (by omega) (by omega)) dL_law_402 ?_
  refine x_eqi (show xs ((2 : Int32).toNatClampNeg) = xs 2 from rfl) ?_
  refine lv_aload_n hx hb dL_law_403 rfl (lv_at hl 3 rfl) ?_
  refine lv_iload_n hx hb dL_law_404 rfl (lv_at hl 0 rfl) ?_
  refine lv_iconst (v := (3 : Int32)) hx hb dL_law_405 (by decide) ?_
  refine lv_iadd hx hb dL_law_406 ?_
  refine x_eqi (show (0 : Int32) + (3 : Int32) = (3 : Int32) from by decide +kernel) ?_
  refine va_sld hx hb hX hbl hbA X.2.2.1 (i := (3 : Int32)) (vp_in_nI (n := 3) (by omega) (by omega)) dL_law_407 ?_
  refine x_eqi (show xs ((3 : Int32).toNatClampNeg) = xs 3 from rfl) ?_
  refine x_cV (own := RL) (wr := [((v 0), .inr (12, (mF v))), ((v 1), .inl (cI, 4, .inl (fun _ => (0 : Int32)))), ((v 13), .inl (cI, 3, .inl (fun _ => (0 : Int32))))]) (As := [.int (xs 1), .int (xs 2), .int (xs 3)]) C X hl.1 (cx_bet l D cI cJ cZ cB cO u (xs 1) (xs 2) (xs 3)) [0, 1, 66] [98, 99, 111] ⟨rfl, rfl, by decide, by decide, by decide⟩ (qb := 0) rfl rfl k_16_23 k_17_0 k_17_1 k_1_2 k_17_2 (n := 3) (by decide +kernel) ⟨Nat.le_of_ble_eq_true rfl, Nat.le_of_ble_eq_true rfl⟩ rfl rfl (Nat.le_of_ble_eq_true rfl) dL_law_408 ⟨Nat.le_of_ble_eq_true rfl, Nat.le_of_ble_eq_true rfl⟩ (fun r_2 u_1 H locs w_3 X => ?_)
  have X : Wd D (fun q : Nat => s.heap.size ≤ q) s [((v 0), .inr (12, (mF v))), ((v 1), .inl (cI, 4, .inl (fun _ => (0 : Int32)))), ((v 13), .inl (cI, 3, .inl (fun _ => (0 : Int32))))] H locs := X
  refine W.widen (k := 150) (n := 141288) (Nat.le_of_ble_eq_true rfl) (Nat.le_of_ble_eq_true rfl) ?_
  obtain ⟨rfl, fw_3⟩ : r_2 = (0 : Int32) ∧ True := w_3
  refine lv_aload_n hx hb dL_law_411 rfl (lv_at hl 1 rfl) ?_
  refine lv_aload_n hx hb dL_law_412 rfl (lv_at hl 3 rfl) ?_
  refine lv_iload_n hx hb dL_law_413 rfl (lv_at hl 0 rfl) ?_
  refine lv_iconst (v := (1 : Int32)) hx hb dL_law_414 (by decide) ?_
  refine lv_iadd hx hb dL_law_415 ?_
  refine x_eqi (show (0 : Int32) + (1 : Int32) = (1 : Int32) from by decide +kernel) ?_
  refine va_sld hx hb hX hbl hbA X.2.2.1 (i := (1 : Int32)) (vp_in_nI (n := 1) (by omega) (by omega)) dL_law_416 ?_
  refine x_eqi (show xs ((1 : Int32).toNatClampNeg) = xs 1 from rfl) ?_
  refine lv_aload_n hx hb dL_law_417 rfl (lv_at hl 3 rfl) ?_
  refine lv_iload_n hx hb dL_law_418 rfl (lv_at hl 0 rfl) ?_
  refine lv_iconst (v := (2 : Int32)) hx hb dL_law_419 (by decide) ?_
  refine lv_iadd hx hb dL_law_420 ?_
  refine x_eqi (show (0 : Int32) + (2 : Int32) = (2 : Int32) from by decide +kernel) ?_
  refine va_sld hx hb hX hbl hbA X.2.2.1 (i := (2 : Int32)) (vp_in_nI (n := 2) (by omega) (by omega)) dL_law_421 ?_
  refine x_eqi (show xs ((2 : Int32).toNatClampNeg) = xs 2 from rfl) ?_
  refine lv_aload_n hx hb dL_law_422 rfl (lv_at hl 3 rfl) ?_
  refine lv_iload_n hx hb dL_law_423 rfl (lv_at hl 0 rfl) ?_
  refine lv_iconst (v := (3 : Int32)) hx hb dL_law_424 (by decide) ?_
  refine lv_iadd hx hb dL_law_425 ?_
  refine x_eqi (show (0 : Int32) + (3 : Int32) = (3 : Int32) from by decide +kernel) ?_
  refine va_sld hx hb hX hbl hbA X.2.2.1 (i := (3 : Int32)) (vp_in_nI (n := 3) (by omega) (by omega)) dL_law_426 ?_
  refine x_eqi (show xs ((3 : Int32).toNatClampNeg) = xs 3 from rfl) ?_
  refine x_cV (own := RL) (wr := []) (As := [.int (xs 1), .int (xs 2), .int (xs 3)]) C X hl.1 (cm_bet l D cI cJ cZ cB cO v (xs 1) (xs 2) (xs 3)) [0, 1, 2] [] ⟨rfl, rfl, by decide, by decide, by decide⟩ (qb := 0) rfl rfl k_17_8 k_17_9 k_17_10 k_1_5 k_17_11 (n := 3) (by decide +kernel) ⟨Nat.le_of_ble_eq_true rfl, Nat.le_of_ble_eq_true rfl⟩ rfl rfl (Nat.le_of_ble_eq_true rfl) dL_law_427 ⟨Nat.le_of_ble_eq_true rfl, Nat.le_of_ble_eq_true rfl⟩ (fun r_5 u_4 H locs w_6 X => ?_)
  have X : Wd D (fun q : Nat => s.heap.size ≤ q) s [] H locs := X
  refine W.widen (k := 150) (n := 141288) (Nat.le_of_ble_eq_true rfl) (Nat.le_of_ble_eq_true rfl) ?_
  obtain ⟨rfl, fw_6⟩ : r_5 = (0 : Int32) ∧ True := w_6
  refine lv_icmp_eq (tgt := 1721) hx hb dL_law_430 (by decide) (fun _ => ?_) (fun c0 => absurd (by decide) c0)
  exact law_tail K0 X hl (Nat.le_of_ble_eq_true rfl) (Nat.le_of_ble_eq_true rfl)
set_option maxHeartbeats 4000000 in
set_option maxRecDepth 100000 in
theorem law_c5 {p : Program} {e : Env} {s : State} {m : MethodId} {below : List Frame} {meth : Method} {c : Code} {l : Launch} {b : Nat} {xs : Nat → Int32} {D : va_G} {cI cJ cZ cB cO : ClassId} (K0 : LwC p s m meth c b xs D [(cI, .int), (cJ, .long), (cZ, .boolean), (cB, .byte), (cO, .object "LuckLinks$World")]) {u v : Nat → Nat} {H : Heap} {locs : List Loc} {ls : Array Slot} (X : Wd D (fun q : Nat => s.heap.size ≤ q) s (xW cI cJ cZ cB cO u ++ mW cI cJ cZ cB cO v) H locs) (hl : lv_has ls 4 [(3, .int (0 : Int32)), (2, .ref (v 0)), (1, .ref (u 0)), (0, .ref b)]) :
    W p l e room_1 s m #[Value.ref b] below meth c H locs 150 141288 (lw_Z below #[Value.ref b] s) (F0 m 435 ls []) := by
  have C := K0.1
  have hx := C.1
  have hb := C.2.1
  have hX := K0.2.2.2.1
  have hbl := K0.2.2.2.2
  have hbA : ¬ (fun q : Nat => s.heap.size ≤ q) b := Nat.not_le.mpr hbl
  refine lv_aload_n hx hb dL_law_435 rfl (lv_at hl 2 rfl) ?_
  refine lv_aload_n hx hb dL_law_436 rfl (lv_at hl 3 rfl) ?_
  refine lv_iload_n hx hb dL_law_437 rfl (lv_at hl 0 rfl) ?_
  refine lv_iconst (v := (1 : Int32)) hx hb dL_law_438 (by decide) ?_
  refine lv_iadd hx hb dL_law_439 ?_
  refine x_eqi (show (0 : Int32) + (1 : Int32) = (1 : Int32) from by decide +kernel) ?_
  refine va_sld hx hb hX hbl hbA X.2.2.1 (i := (1 : Int32)) (vp_in_nI (n := 1) (by omega) (by omega)) dL_law_440 ?_
  refine x_eqi (show xs ((1 : Int32).toNatClampNeg) = xs 1 from rfl) ?_
  refine x_cV (own := RL) (wr := [((v 0), .inr (12, (mF v))), ((v 4), .inl (cJ, 4, .inr (.inl (vp_updL (fun _ => (0 : Int64)) (0) ((1 : Int64)))))), ((v 13), .inl (cI, 3, .inl (fun _ => (0 : Int32))))]) (As := [.int (xs 1)]) C X hl.1 (cx_seed l D cI cJ cZ cB cO u (xs 1)) [0, 1, 66] [98, 102, 111] ⟨rfl, rfl, by decide, by decide, by decide⟩ (qb := 0) rfl rfl k_17_12 k_17_13 k_17_14 k_1_2 k_17_15 (n := 1) (by decide +kernel) ⟨Nat.le_of_ble_eq_true rfl, Nat.le_of_ble_eq_true rfl⟩ rfl rfl (Nat.le_of_ble_eq_true rfl) dL_law_441 ⟨Nat.le_of_ble_eq_true rfl, Nat.le_of_ble_eq_true rfl⟩ (fun r_2 u_1 H locs w_3 X => ?_)
  have X : Wd D (fun q : Nat => s.heap.size ≤ q) s [((v 0), .inr (12, (mF v))), ((v 4), .inl (cJ, 4, .inr (.inl (vp_updL (fun _ => (0 : Int64)) (0) ((1 : Int64)))))), ((v 13), .inl (cI, 3, .inl (fun _ => (0 : Int32))))] H locs := X
  refine W.widen (k := 150) (n := 141288) (Nat.le_of_ble_eq_true rfl) (Nat.le_of_ble_eq_true rfl) ?_
  obtain ⟨rfl, fw_3⟩ | ⟨rfl, fw_3⟩ : (r_2 = (1 : Int32) ∧ (0 ≤ (xs 1).toInt ∧ (xs 1).toInt ≤ 999999999)) ∨ (r_2 = (0 : Int32) ∧ ((xs 1).toInt < 0 ∨ 999999999 < (xs 1).toInt)) := w_3
  · refine lv_aload_n hx hb dL_law_444 rfl (lv_at hl 1 rfl) ?_
    refine lv_aload_n hx hb dL_law_445 rfl (lv_at hl 3 rfl) ?_
    refine lv_iload_n hx hb dL_law_446 rfl (lv_at hl 0 rfl) ?_
    refine lv_iconst (v := (1 : Int32)) hx hb dL_law_447 (by decide) ?_
    refine lv_iadd hx hb dL_law_448 ?_
    refine x_eqi (show (0 : Int32) + (1 : Int32) = (1 : Int32) from by decide +kernel) ?_
    refine va_sld hx hb hX hbl hbA X.2.2.1 (i := (1 : Int32)) (vp_in_nI (n := 1) (by omega) (by omega)) dL_law_449 ?_
    refine x_eqi (show xs ((1 : Int32).toNatClampNeg) = xs 1 from rfl) ?_
    refine x_cV (own := RL) (wr := []) (As := [.int (xs 1)]) C X hl.1 (cm_seed l D cI cJ cZ cB cO v (xs 1)) [0, 1, 2] [] ⟨rfl, rfl, by decide, by decide, by decide⟩ (qb := 0) rfl rfl k_17_18 k_17_19 k_17_20 k_1_5 k_17_21 (n := 1) (by decide +kernel) ⟨Nat.le_of_ble_eq_true rfl, Nat.le_of_ble_eq_true rfl⟩ rfl rfl (Nat.le_of_ble_eq_true rfl) dL_law_450 ⟨Nat.le_of_ble_eq_true rfl, Nat.le_of_ble_eq_true rfl⟩ (fun r_5 u_4 H locs w_6 X => ?_)
    have X : Wd D (fun q : Nat => s.heap.size ≤ q) s [] H locs := X
    refine W.widen (k := 150) (n := 141288) (Nat.le_of_ble_eq_true rfl) (Nat.le_of_ble_eq_true rfl) ?_
    obtain ⟨rfl, fw_6⟩ | ⟨rfl, fw_6⟩ : (r_5 = (1 : Int32) ∧ (0 ≤ (xs 1).toInt ∧ (xs 1).toInt ≤ 999999999)) ∨ (r_5 = (0 : Int32) ∧ ((xs 1).toInt < 0 ∨ 999999999 < (xs 1).toInt)) := w_6
    · refine lv_icmp_eq (tgt := 1721) hx hb dL_law_453 (by decide) (fun _ => ?_) (fun c0 => absurd (by decide) c0)
      exact law_tail K0 X hl (Nat.le_of_ble_eq_true rfl) (Nat.le_of_ble_eq_true rfl)
    · exfalso; omega
  · refine lv_aload_n hx hb dL_law_444 rfl (lv_at hl 1 rfl) ?_
    refine lv_aload_n hx hb dL_law_445 rfl (lv_at hl 3 rfl) ?_
    refine lv_iload_n hx hb dL_law_446 rfl (lv_at hl 0 rfl) ?_
    refine lv_iconst (v := (1 : Int32)) hx hb dL_law_447 (by decide) ?_
    refine lv_iadd hx hb dL_law_448 ?_
    refine x_eqi (show (0 : Int32) + (1 : Int32) = (1 : Int32) from by decide +kernel) ?_
    refine va_sld hx hb hX hbl hbA X.2.2.1 (i := (1 : Int32)) (vp_in_nI (n := 1) (by omega) (by omega)) dL_law_449 ?_
    refine x_eqi (show xs ((1 : Int32).toNatClampNeg) = xs 1 from rfl) ?_
    refine x_cV (own := RL) (wr := []) (As := [.int (xs 1)]) C X hl.1 (cm_seed l D cI cJ cZ cB cO v (xs 1)) [0, 1, 2] [] ⟨rfl, rfl, by decide, by decide, by decide⟩ (qb := 0) rfl rfl k_17_18 k_17_19 k_17_20 k_1_5 k_17_21 (n := 1) (by decide +kernel) ⟨Nat.le_of_ble_eq_true rfl, Nat.le_of_ble_eq_true rfl⟩ rfl rfl (Nat.le_of_ble_eq_true rfl) dL_law_450 ⟨Nat.le_of_ble_eq_true rfl, Nat.le_of_ble_eq_true rfl⟩ (fun r_8 u_7 H locs w_9 X => ?_)
    have X : Wd D (fun q : Nat => s.heap.size ≤ q) s [] H locs := X
    refine W.widen (k := 150) (n := 141288) (Nat.le_of_ble_eq_true rfl) (Nat.le_of_ble_eq_true rfl) ?_
    obtain ⟨rfl, fw_9⟩ | ⟨rfl, fw_9⟩ : (r_8 = (1 : Int32) ∧ (0 ≤ (xs 1).toInt ∧ (xs 1).toInt ≤ 999999999)) ∨ (r_8 = (0 : Int32) ∧ ((xs 1).toInt < 0 ∨ 999999999 < (xs 1).toInt)) := w_9
    · exfalso; omega
    · refine lv_icmp_eq (tgt := 1721) hx hb dL_law_453 (by decide) (fun _ => ?_) (fun c0 => absurd (by decide) c0)
      exact law_tail K0 X hl (Nat.le_of_ble_eq_true rfl) (Nat.le_of_ble_eq_true rfl)
set_option maxHeartbeats 4000000 in
set_option maxRecDepth 100000 in
theorem law_c6 {p : Program} {e : Env} {s : State} {m : MethodId} {below : List Frame} {meth : Method} {c : Code} {l : Launch} {b : Nat} {xs : Nat → Int32} {D : va_G} {cI cJ cZ cB cO : ClassId} (K0 : LwC p s m meth c b xs D [(cI, .int), (cJ, .long), (cZ, .boolean), (cB, .byte), (cO, .object "LuckLinks$World")]) {u v : Nat → Nat} {H : Heap} {locs : List Loc} {ls : Array Slot} (X : Wd D (fun q : Nat => s.heap.size ≤ q) s (xW cI cJ cZ cB cO u ++ mW cI cJ cZ cB cO v) H locs) (hl : lv_has ls 4 [(3, .int (0 : Int32)), (2, .ref (v 0)), (1, .ref (u 0)), (0, .ref b)]) :
    W p l e room_1 s m #[Value.ref b] below meth c H locs 150 141288 (lw_Z below #[Value.ref b] s) (F0 m 458 ls []) := by
  have C := K0.1
  have hx := C.1
  have hb := C.2.1
  have hX := K0.2.2.2.1
  have hbl := K0.2.2.2.2
  have hbA : ¬ (fun q : Nat => s.heap.size ≤ q) b := Nat.not_le.mpr hbl
  refine lv_aload_n hx hb dL_law_458 rfl (lv_at hl 2 rfl) ?_
  refine lv_aload_n hx hb dL_law_459 rfl (lv_at hl 3 rfl) ?_
  refine lv_iload_n hx hb dL_law_460 rfl (lv_at hl 0 rfl) ?_
  refine lv_iconst (v := (1 : Int32)) hx hb dL_law_461 (by decide) ?_
  refine lv_iadd hx hb dL_law_462 ?_
  refine x_eqi (show (0 : Int32) + (1 : Int32) = (1 : Int32) from by decide +kernel) ?_
  refine va_sld hx hb hX hbl hbA X.2.2.1 (i := (1 : Int32)) (vp_in_nI (n := 1) (by omega) (by omega)) dL_law_463 ?_
  refine x_eqi (show xs ((1 : Int32).toNatClampNeg) = xs 1 from rfl) ?_
  refine lv_aload_n hx hb dL_law_464 rfl (lv_at hl 3 rfl) ?_
  refine lv_iload_n hx hb dL_law_465 rfl (lv_at hl 0 rfl) ?_
  refine lv_iconst (v := (2 : Int32)) hx hb dL_law_466 (by decide) ?_
  refine lv_iadd hx hb dL_law_467 ?_
  refine x_eqi (show (0 : Int32) + (2 : Int32) = (2 : Int32) from by decide +kernel) ?_
  refine va_sld hx hb hX hbl hbA X.2.2.1 (i := (2 : Int32)) (vp_in_nI (n := 2) (by omega) (by omega)) dL_law_468 ?_
  refine x_eqi (show xs ((2 : Int32).toNatClampNeg) = xs 2 from rfl) ?_
  refine lv_aload_n hx hb dL_law_469 rfl (lv_at hl 3 rfl) ?_
  refine lv_iload_n hx hb dL_law_470 rfl (lv_at hl 0 rfl) ?_
  refine lv_iconst (v := (3 : Int32)) hx hb dL_law_471 (by decide) ?_
  refine lv_iadd hx hb dL_law_472 ?_
  refine x_eqi (show (0 : Int32) + (3 : Int32) = (3 : Int32) from by decide +kernel) ?_
  refine va_sld hx hb hX hbl hbA X.2.2.1 (i := (3 : Int32)) (vp_in_nI (n := 3) (by omega) (by omega)) dL_law_473 ?_
  refine x_eqi (show xs ((3 : Int32).toNatClampNeg) = xs 3 from rfl) ?_
  refine lv_aload_n hx hb dL_law_474 rfl (lv_at hl 3 rfl) ?_
  refine lv_iload_n hx hb dL_law_475 rfl (lv_at hl 0 rfl) ?_
  refine lv_iconst (v := (4 : Int32)) hx hb dL_law_476 (by decide) ?_
  refine lv_iadd hx hb dL_law_477 ?_
  refine x_eqi (show (0 : Int32) + (4 : Int32) = (4 : Int32) from by decide +kernel) ?_
  refine va_sld hx hb hX hbl hbA X.2.2.1 (i := (4 : Int32)) (vp_in_nI (n := 4) (by omega) (by omega)) dL_law_478 ?_
  refine x_eqi (show xs ((4 : Int32).toNatClampNeg) = xs 4 from rfl) ?_
  refine lv_aload_n hx hb dL_law_479 rfl (lv_at hl 3 rfl) ?_
  refine lv_iload_n hx hb dL_law_480 rfl (lv_at hl 0 rfl) ?_
  refine lv_iconst (v := (5 : Int32)) hx hb dL_law_481 (by decide) ?_
  refine lv_iadd hx hb dL_law_482 ?_
  refine x_eqi (show (0 : Int32) + (5 : Int32) = (5 : Int32) from by decide +kernel) ?_
  refine va_sld hx hb hX hbl hbA X.2.2.1 (i := (5 : Int32)) (vp_in_nI (n := 5) (by omega) (by omega)) dL_law_483 ?_
  refine x_eqi (show xs ((5 : Int32).toNatClampNeg) = xs 5 from rfl) ?_
  refine x_cV (own := RL) (wr := [((v 0), .inr (12, (mF v))), ((v 35), .inl (cB, 700, .inl (fun _ => (0 : Int32))))]) (As := [.int (xs 1), .int (xs 2), .int (xs 3), .int (xs 4), .int (xs 5)]) C X hl.1 (cx_feed l D cI cJ cZ cB cO u (xs 1) (xs 2) (xs 3) (xs 4) (xs 5)) [0, 11] [98, 133] ⟨rfl, rfl, by decide, by decide, by decide⟩ (qb := 0) rfl rfl k_17_23 k_18_0 k_18_1 k_1_2 k_18_2 (n := 5) (by decide +kernel) ⟨Nat.le_of_ble_eq_true rfl, Nat.le_of_ble_eq_true rfl⟩ rfl rfl (Nat.le_of_ble_eq_true rfl) dL_law_484 ⟨Nat.le_of_ble_eq_true rfl, Nat.le_of_ble_eq_true rfl⟩ (fun r_2 u_1 H locs w_3 X => ?_)
  have X : Wd D (fun q : Nat => s.heap.size ≤ q) s [((v 0), .inr (12, (mF v))), ((v 35), .inl (cB, 700, .inl (fun _ => (0 : Int32))))] H locs := X
  refine W.widen (k := 150) (n := 141288) (Nat.le_of_ble_eq_true rfl) (Nat.le_of_ble_eq_true rfl) ?_
  obtain ⟨rfl, fw_3⟩ : r_2 = (20 : Int32) ∧ True := w_3
  refine lv_aload_n hx hb dL_law_487 rfl (lv_at hl 1 rfl) ?_
  refine lv_aload_n hx hb dL_law_488 rfl (lv_at hl 3 rfl) ?_
  refine lv_iload_n hx hb dL_law_489 rfl (lv_at hl 0 rfl) ?_
  refine lv_iconst (v := (1 : Int32)) hx hb dL_law_490 (by decide) ?_
  refine lv_iadd hx hb dL_law_491 ?_
  refine x_eqi (show (0 : Int32) + (1 : Int32) = (1 : Int32) from by decide +kernel) ?_
  refine va_sld hx hb hX hbl hbA X.2.2.1 (i := (1 : Int32)) (vp_in_nI (n := 1) (by omega) (by omega)) dL_law_492 ?_
  refine x_eqi (show xs ((1 : Int32).toNatClampNeg) = xs 1 from rfl) ?_
  refine lv_aload_n hx hb dL_law_493 rfl (lv_at hl 3 rfl) ?_
  refine lv_iload_n hx hb dL_law_494 rfl (lv_at hl 0 rfl) ?_
  refine lv_iconst (v := (2 : Int32)) hx hb dL_law_495 (by decide) ?_
  refine lv_iadd hx hb dL_law_496 ?_
  refine x_eqi (show (0 : Int32) + (2 : Int32) = (2 : Int32) from by decide +kernel) ?_
  refine va_sld hx hb hX hbl hbA X.2.2.1 (i := (2 : Int32)) (vp_in_nI (n := 2) (by omega) (by omega)) dL_law_497 ?_
  refine x_eqi (show xs ((2 : Int32).toNatClampNeg) = xs 2 from rfl) ?_
  refine lv_aload_n hx hb dL_law_498 rfl (lv_at hl 3 rfl) ?_
  refine lv_iload_n hx hb dL_law_499 rfl (lv_at hl 0 rfl) ?_
  refine lv_iconst (v := (3 : Int32)) hx hb dL_law_500 (by decide) ?_
  refine lv_iadd hx hb dL_law_501 ?_
  refine x_eqi (show (0 : Int32) + (3 : Int32) = (3 : Int32) from by decide +kernel) ?_
  refine va_sld hx hb hX hbl hbA X.2.2.1 (i := (3 : Int32)) (vp_in_nI (n := 3) (by omega) (by omega)) dL_law_502 ?_
  refine x_eqi (show xs ((3 : Int32).toNatClampNeg) = xs 3 from rfl) ?_
  refine lv_aload_n hx hb dL_law_503 rfl (lv_at hl 3 rfl) ?_
  refine lv_iload_n hx hb dL_law_504 rfl (lv_at hl 0 rfl) ?_
  refine lv_iconst (v := (4 : Int32)) hx hb dL_law_505 (by decide) ?_
  refine lv_iadd hx hb dL_law_506 ?_
  refine x_eqi (show (0 : Int32) + (4 : Int32) = (4 : Int32) from by decide +kernel) ?_
  refine va_sld hx hb hX hbl hbA X.2.2.1 (i := (4 : Int32)) (vp_in_nI (n := 4) (by omega) (by omega)) dL_law_507 ?_
  refine x_eqi (show xs ((4 : Int32).toNatClampNeg) = xs 4 from rfl) ?_
  refine lv_aload_n hx hb dL_law_508 rfl (lv_at hl 3 rfl) ?_
  refine lv_iload_n hx hb dL_law_509 rfl (lv_at hl 0 rfl) ?_
  refine lv_iconst (v := (5 : Int32)) hx hb dL_law_510 (by decide) ?_
  refine lv_iadd hx hb dL_law_511 ?_
  refine x_eqi (show (0 : Int32) + (5 : Int32) = (5 : Int32) from by decide +kernel) ?_
  refine va_sld hx hb hX hbl hbA X.2.2.1 (i := (5 : Int32)) (vp_in_nI (n := 5) (by omega) (by omega)) dL_law_512 ?_
  refine x_eqi (show xs ((5 : Int32).toNatClampNeg) = xs 5 from rfl) ?_
  refine x_cV (own := RL) (wr := []) (As := [.int (xs 1), .int (xs 2), .int (xs 3), .int (xs 4), .int (xs 5)]) C X hl.1 (cm_feed l D cI cJ cZ cB cO v (xs 1) (xs 2) (xs 3) (xs 4) (xs 5)) [0, 1] [] ⟨rfl, rfl, by decide, by decide, by decide⟩ (qb := 0) rfl rfl k_18_7 k_18_8 k_18_9 k_1_5 k_18_10 (n := 5) (by decide +kernel) ⟨Nat.le_of_ble_eq_true rfl, Nat.le_of_ble_eq_true rfl⟩ rfl rfl (Nat.le_of_ble_eq_true rfl) dL_law_513 ⟨Nat.le_of_ble_eq_true rfl, Nat.le_of_ble_eq_true rfl⟩ (fun r_5 u_4 H locs w_6 X => ?_)
  have X : Wd D (fun q : Nat => s.heap.size ≤ q) s [] H locs := X
  refine W.widen (k := 150) (n := 141288) (Nat.le_of_ble_eq_true rfl) (Nat.le_of_ble_eq_true rfl) ?_
  obtain ⟨rfl, fw_6⟩ : r_5 = (20 : Int32) ∧ True := w_6
  refine lv_icmp_eq (tgt := 1721) hx hb dL_law_516 (by decide) (fun _ => ?_) (fun c0 => absurd (by decide) c0)
  exact law_tail K0 X hl (Nat.le_of_ble_eq_true rfl) (Nat.le_of_ble_eq_true rfl)
set_option maxHeartbeats 4000000 in
set_option maxRecDepth 100000 in
theorem law_c7 {p : Program} {e : Env} {s : State} {m : MethodId} {below : List Frame} {meth : Method} {c : Code} {l : Launch} {b : Nat} {xs : Nat → Int32} {D : va_G} {cI cJ cZ cB cO : ClassId} (K0 : LwC p s m meth c b xs D [(cI, .int), (cJ, .long), (cZ, .boolean), (cB, .byte), (cO, .object "LuckLinks$World")]) {u v : Nat → Nat} {H : Heap} {locs : List Loc} {ls : Array Slot} (X : Wd D (fun q : Nat => s.heap.size ≤ q) s (xW cI cJ cZ cB cO u ++ mW cI cJ cZ cB cO v) H locs) (hl : lv_has ls 4 [(3, .int (0 : Int32)), (2, .ref (v 0)), (1, .ref (u 0)), (0, .ref b)]) :
    W p l e room_1 s m #[Value.ref b] below meth c H locs 150 141288 (lw_Z below #[Value.ref b] s) (F0 m 521 ls []) := by
  have C := K0.1
  have hx := C.1
  have hb := C.2.1
  have hX := K0.2.2.2.1
  have hbl := K0.2.2.2.2
  have hbA : ¬ (fun q : Nat => s.heap.size ≤ q) b := Nat.not_le.mpr hbl
  refine lv_aload_n hx hb dL_law_521 rfl (lv_at hl 2 rfl) ?_
  refine lv_aload_n hx hb dL_law_522 rfl (lv_at hl 3 rfl) ?_
  refine lv_iload_n hx hb dL_law_523 rfl (lv_at hl 0 rfl) ?_
  refine lv_iconst (v := (1 : Int32)) hx hb dL_law_524 (by decide) ?_
  refine lv_iadd hx hb dL_law_525 ?_
  refine x_eqi (show (0 : Int32) + (1 : Int32) = (1 : Int32) from by decide +kernel) ?_
  refine va_sld hx hb hX hbl hbA X.2.2.1 (i := (1 : Int32)) (vp_in_nI (n := 1) (by omega) (by omega)) dL_law_526 ?_
  refine x_eqi (show xs ((1 : Int32).toNatClampNeg) = xs 1 from rfl) ?_
  refine x_cV (own := RL) (wr := [((v 0), .inr (12, (mF v))), ((v 14), .inl (cI, 2, .inl (fun _ => (0 : Int32)))), ((v 15), .inl (cI, 2, .inl (fun _ => (0 : Int32)))), ((v 16), .inl (cI, 2, .inl (fun _ => (0 : Int32)))), ((v 17), .inl (cI, 8, .inl (fun _ => (0 : Int32)))), ((v 18), .inl (cI, 8, .inl (fun _ => (0 : Int32)))), ((v 19), .inl (cI, 6, .inl (fun _ => (0 : Int32)))), ((v 20), .inl (cI, 42, .inl (fun _ => (0 : Int32)))), ((v 21), .inl (cI, 42, .inl (fun _ => (0 : Int32)))), ((v 23), .inl (cZ, 80, .inl (fun _ => (0 : Int32)))), ((v 22), .inl (cI, 80, .inl (fun _ => (0 : Int32)))), ((v 24), .inl (cI, 80, .inl (fun _ => (0 : Int32)))), ((v 25), .inl (cI, 80, .inl (fun _ => (0 : Int32)))), ((v 26), .inl (cI, 80, .inl (fun _ => (0 : Int32)))), ((v 27), .inl (cI, 80, .inl (fun _ => (0 : Int32)))), ((v 28), .inl (cI, 80, .inl (fun _ => (0 : Int32)))), ((v 29), .inl (cI, 80, .inl (fun _ => (0 : Int32)))), ((v 30), .inl (cI, 80, .inl (fun _ => (0 : Int32)))), ((v 31), .inl (cI, 2000, .inl (fun _ => (0 : Int32)))), ((v 32), .inl (cI, 2000, .inl (fun _ => (0 : Int32)))), ((v 33), .inl (cI, 2000, .inl (fun _ => (0 : Int32)))), ((v 34), .inl (cI, 2000, .inl (fun _ => (0 : Int32)))), ((v 13), .inl (cI, 3, .inl (fun _ => (0 : Int32)))), ((v 35), .inl (cB, 700, .inl (fun _ => (0 : Int32))))]) (As := [.int (xs 1)]) C X hl.1 (cx_law l D cI cJ cZ cB cO u (xs 1)) [0, 12, 30, 31, 32, 11, 50, 51, 52, 53, 54, 55, 56, 57, 34, 66] [98, 112, 113, 114, 115, 116, 117, 118, 119, 121, 120, 122, 123, 124, 125, 126, 127, 128, 129, 130, 131, 132, 111, 133] ⟨rfl, rfl, by decide, by decide, by decide⟩ (qb := 0) rfl rfl k_18_12 k_18_13 k_18_14 k_1_2 k_18_15 (n := 1) (by decide +kernel) ⟨Nat.le_of_ble_eq_true rfl, Nat.le_of_ble_eq_true rfl⟩ rfl rfl (Nat.le_of_ble_eq_true rfl) dL_law_527 ⟨Nat.le_of_ble_eq_true rfl, Nat.le_of_ble_eq_true rfl⟩ (fun r_2 u_1 H locs w_3 X => ?_)
  have X : Wd D (fun q : Nat => s.heap.size ≤ q) s [((v 0), .inr (12, (mF v))), ((v 14), .inl (cI, 2, .inl (fun _ => (0 : Int32)))), ((v 15), .inl (cI, 2, .inl (fun _ => (0 : Int32)))), ((v 16), .inl (cI, 2, .inl (fun _ => (0 : Int32)))), ((v 17), .inl (cI, 8, .inl (fun _ => (0 : Int32)))), ((v 18), .inl (cI, 8, .inl (fun _ => (0 : Int32)))), ((v 19), .inl (cI, 6, .inl (fun _ => (0 : Int32)))), ((v 20), .inl (cI, 42, .inl (fun _ => (0 : Int32)))), ((v 21), .inl (cI, 42, .inl (fun _ => (0 : Int32)))), ((v 23), .inl (cZ, 80, .inl (fun _ => (0 : Int32)))), ((v 22), .inl (cI, 80, .inl (fun _ => (0 : Int32)))), ((v 24), .inl (cI, 80, .inl (fun _ => (0 : Int32)))), ((v 25), .inl (cI, 80, .inl (fun _ => (0 : Int32)))), ((v 26), .inl (cI, 80, .inl (fun _ => (0 : Int32)))), ((v 27), .inl (cI, 80, .inl (fun _ => (0 : Int32)))), ((v 28), .inl (cI, 80, .inl (fun _ => (0 : Int32)))), ((v 29), .inl (cI, 80, .inl (fun _ => (0 : Int32)))), ((v 30), .inl (cI, 80, .inl (fun _ => (0 : Int32)))), ((v 31), .inl (cI, 2000, .inl (fun _ => (0 : Int32)))), ((v 32), .inl (cI, 2000, .inl (fun _ => (0 : Int32)))), ((v 33), .inl (cI, 2000, .inl (fun _ => (0 : Int32)))), ((v 34), .inl (cI, 2000, .inl (fun _ => (0 : Int32)))), ((v 13), .inl (cI, 3, .inl (fun _ => (0 : Int32)))), ((v 35), .inl (cB, 700, .inl (fun _ => (0 : Int32))))] H locs := X
  refine W.widen (k := 150) (n := 141288) (Nat.le_of_ble_eq_true rfl) (Nat.le_of_ble_eq_true rfl) ?_
  obtain ⟨rfl, fw_3⟩ | ⟨rfl, fw_3⟩ : (r_2 = (0 : Int32) ∧ (xs 1).toInt = 0) ∨ (r_2 = (-2 : Int32) ∧ (xs 1).toInt ≠ 0) := w_3
  · refine lv_aload_n hx hb dL_law_530 rfl (lv_at hl 1 rfl) ?_
    refine lv_aload_n hx hb dL_law_531 rfl (lv_at hl 3 rfl) ?_
    refine lv_iload_n hx hb dL_law_532 rfl (lv_at hl 0 rfl) ?_
    refine lv_iconst (v := (1 : Int32)) hx hb dL_law_533 (by decide) ?_
    refine lv_iadd hx hb dL_law_534 ?_
    refine x_eqi (show (0 : Int32) + (1 : Int32) = (1 : Int32) from by decide +kernel) ?_
    refine va_sld hx hb hX hbl hbA X.2.2.1 (i := (1 : Int32)) (vp_in_nI (n := 1) (by omega) (by omega)) dL_law_535 ?_
    refine x_eqi (show xs ((1 : Int32).toNatClampNeg) = xs 1 from rfl) ?_
    refine x_cV (own := RL) (wr := []) (As := [.int (xs 1)]) C X hl.1 (cm_law l D cI cJ cZ cB cO v (xs 1)) [0, 1, 2, 3, 4, 5, 6, 7, 8, 9, 10, 11, 12, 13, 14, 15, 16, 17, 18, 19, 20, 21, 22, 23] [] ⟨rfl, rfl, by decide, by decide, by decide⟩ (qb := 0) rfl rfl k_25_13 k_25_14 k_25_15 k_1_5 k_25_16 (n := 1) (by decide +kernel) ⟨Nat.le_of_ble_eq_true rfl, Nat.le_of_ble_eq_true rfl⟩ rfl rfl (Nat.le_of_ble_eq_true rfl) dL_law_536 ⟨Nat.le_of_ble_eq_true rfl, Nat.le_of_ble_eq_true rfl⟩ (fun r_5 u_4 H locs w_6 X => ?_)
    have X : Wd D (fun q : Nat => s.heap.size ≤ q) s [] H locs := X
    refine W.widen (k := 150) (n := 141288) (Nat.le_of_ble_eq_true rfl) (Nat.le_of_ble_eq_true rfl) ?_
    obtain ⟨rfl, fw_6⟩ | ⟨rfl, fw_6⟩ : (r_5 = (0 : Int32) ∧ (xs 1).toInt = 0) ∨ (r_5 = (-2 : Int32) ∧ (xs 1).toInt ≠ 0) := w_6
    · refine lv_icmp_eq (tgt := 1721) hx hb dL_law_539 (by decide) (fun _ => ?_) (fun c0 => absurd (by decide) c0)
      exact law_tail K0 X hl (Nat.le_of_ble_eq_true rfl) (Nat.le_of_ble_eq_true rfl)
    · exfalso; omega
  · refine lv_aload_n hx hb dL_law_530 rfl (lv_at hl 1 rfl) ?_
    refine lv_aload_n hx hb dL_law_531 rfl (lv_at hl 3 rfl) ?_
    refine lv_iload_n hx hb dL_law_532 rfl (lv_at hl 0 rfl) ?_
    refine lv_iconst (v := (1 : Int32)) hx hb dL_law_533 (by decide) ?_
    refine lv_iadd hx hb dL_law_534 ?_
    refine x_eqi (show (0 : Int32) + (1 : Int32) = (1 : Int32) from by decide +kernel) ?_
    refine va_sld hx hb hX hbl hbA X.2.2.1 (i := (1 : Int32)) (vp_in_nI (n := 1) (by omega) (by omega)) dL_law_535 ?_
    refine x_eqi (show xs ((1 : Int32).toNatClampNeg) = xs 1 from rfl) ?_
    refine x_cV (own := RL) (wr := []) (As := [.int (xs 1)]) C X hl.1 (cm_law l D cI cJ cZ cB cO v (xs 1)) [0, 1, 2, 3, 4, 5, 6, 7, 8, 9, 10, 11, 12, 13, 14, 15, 16, 17, 18, 19, 20, 21, 22, 23] [] ⟨rfl, rfl, by decide, by decide, by decide⟩ (qb := 0) rfl rfl k_25_13 k_25_14 k_25_15 k_1_5 k_25_16 (n := 1) (by decide +kernel) ⟨Nat.le_of_ble_eq_true rfl, Nat.le_of_ble_eq_true rfl⟩ rfl rfl (Nat.le_of_ble_eq_true rfl) dL_law_536 ⟨Nat.le_of_ble_eq_true rfl, Nat.le_of_ble_eq_true rfl⟩ (fun r_8 u_7 H locs w_9 X => ?_)
    have X : Wd D (fun q : Nat => s.heap.size ≤ q) s [] H locs := X
    refine W.widen (k := 150) (n := 141288) (Nat.le_of_ble_eq_true rfl) (Nat.le_of_ble_eq_true rfl) ?_
    obtain ⟨rfl, fw_9⟩ | ⟨rfl, fw_9⟩ : (r_8 = (0 : Int32) ∧ (xs 1).toInt = 0) ∨ (r_8 = (-2 : Int32) ∧ (xs 1).toInt ≠ 0) := w_9
    · exfalso; omega
    · refine lv_icmp_eq (tgt := 1721) hx hb dL_law_539 (by decide) (fun _ => ?_) (fun c0 => absurd (by decide) c0)
      exact law_tail K0 X hl (Nat.le_of_ble_eq_true rfl) (Nat.le_of_ble_eq_true rfl)
set_option maxHeartbeats 4000000 in
set_option maxRecDepth 100000 in
theorem law_c8 {p : Program} {e : Env} {s : State} {m : MethodId} {below : List Frame} {meth : Method} {c : Code} {l : Launch} {b : Nat} {xs : Nat → Int32} {D : va_G} {cI cJ cZ cB cO : ClassId} (K0 : LwC p s m meth c b xs D [(cI, .int), (cJ, .long), (cZ, .boolean), (cB, .byte), (cO, .object "LuckLinks$World")]) {u v : Nat → Nat} {H : Heap} {locs : List Loc} {ls : Array Slot} (X : Wd D (fun q : Nat => s.heap.size ≤ q) s (xW cI cJ cZ cB cO u ++ mW cI cJ cZ cB cO v) H locs) (hl : lv_has ls 4 [(3, .int (0 : Int32)), (2, .ref (v 0)), (1, .ref (u 0)), (0, .ref b)]) :
    W p l e room_1 s m #[Value.ref b] below meth c H locs 150 141288 (lw_Z below #[Value.ref b] s) (F0 m 544 ls []) := by
  have C := K0.1
  have hx := C.1
  have hb := C.2.1
  have hX := K0.2.2.2.1
  have hbl := K0.2.2.2.2
  have hbA : ¬ (fun q : Nat => s.heap.size ≤ q) b := Nat.not_le.mpr hbl
  refine lv_aload_n hx hb dL_law_544 rfl (lv_at hl 2 rfl) ?_
  refine x_cV (own := RL) (wr := [((v 0), .inr (12, (mF v)))]) (As := []) C X hl.1 (cx_fault l D cI cJ cZ cB cO u) [0] [98] ⟨rfl, rfl, by decide, by decide, by decide⟩ (qb := 0) rfl rfl k_30_1 k_30_2 k_30_3 k_1_2 k_30_4 (n := 0) (by decide +kernel) ⟨Nat.le_of_ble_eq_true rfl, Nat.le_of_ble_eq_true rfl⟩ rfl rfl (Nat.le_of_ble_eq_true rfl) dL_law_545 ⟨Nat.le_of_ble_eq_true rfl, Nat.le_of_ble_eq_true rfl⟩ (fun r_2 u_1 H locs w_3 X => ?_)
  have X : Wd D (fun q : Nat => s.heap.size ≤ q) s [((v 0), .inr (12, (mF v)))] H locs := X
  refine W.widen (k := 150) (n := 141288) (Nat.le_of_ble_eq_true rfl) (Nat.le_of_ble_eq_true rfl) ?_
  obtain ⟨rfl, fw_3⟩ : r_2 = (-1 : Int32) ∧ True := w_3
  refine lv_aload_n hx hb dL_law_548 rfl (lv_at hl 1 rfl) ?_
  refine x_cV (own := RL) (wr := []) (As := []) C X hl.1 (cm_fault l D cI cJ cZ cB cO v) [0] [] ⟨rfl, rfl, by decide, by decide, by decide⟩ (qb := 0) rfl rfl k_30_5 k_30_6 k_30_7 k_1_5 k_30_8 (n := 0) (by decide +kernel) ⟨Nat.le_of_ble_eq_true rfl, Nat.le_of_ble_eq_true rfl⟩ rfl rfl (Nat.le_of_ble_eq_true rfl) dL_law_549 ⟨Nat.le_of_ble_eq_true rfl, Nat.le_of_ble_eq_true rfl⟩ (fun r_5 u_4 H locs w_6 X => ?_)
  have X : Wd D (fun q : Nat => s.heap.size ≤ q) s [] H locs := X
  refine W.widen (k := 150) (n := 141288) (Nat.le_of_ble_eq_true rfl) (Nat.le_of_ble_eq_true rfl) ?_
  obtain ⟨rfl, fw_6⟩ : r_5 = (-1 : Int32) ∧ True := w_6
  refine lv_icmp_eq (tgt := 1721) hx hb dL_law_552 (by decide) (fun _ => ?_) (fun c0 => absurd (by decide) c0)
  exact law_tail K0 X hl (Nat.le_of_ble_eq_true rfl) (Nat.le_of_ble_eq_true rfl)
set_option maxHeartbeats 4000000 in
set_option maxRecDepth 100000 in
theorem law_c9 {p : Program} {e : Env} {s : State} {m : MethodId} {below : List Frame} {meth : Method} {c : Code} {l : Launch} {b : Nat} {xs : Nat → Int32} {D : va_G} {cI cJ cZ cB cO : ClassId} (K0 : LwC p s m meth c b xs D [(cI, .int), (cJ, .long), (cZ, .boolean), (cB, .byte), (cO, .object "LuckLinks$World")]) {u v : Nat → Nat} {H : Heap} {locs : List Loc} {ls : Array Slot} (X : Wd D (fun q : Nat => s.heap.size ≤ q) s (xW cI cJ cZ cB cO u ++ mW cI cJ cZ cB cO v) H locs) (hl : lv_has ls 4 [(3, .int (0 : Int32)), (2, .ref (v 0)), (1, .ref (u 0)), (0, .ref b)]) :
    W p l e room_1 s m #[Value.ref b] below meth c H locs 150 141288 (lw_Z below #[Value.ref b] s) (F0 m 557 ls []) := by
  have C := K0.1
  have hx := C.1
  have hb := C.2.1
  have hX := K0.2.2.2.1
  have hbl := K0.2.2.2.2
  have hbA : ¬ (fun q : Nat => s.heap.size ≤ q) b := Nat.not_le.mpr hbl
  refine lv_aload_n hx hb dL_law_557 rfl (lv_at hl 2 rfl) ?_
  refine lv_aload_n hx hb dL_law_558 rfl (lv_at hl 3 rfl) ?_
  refine lv_iload_n hx hb dL_law_559 rfl (lv_at hl 0 rfl) ?_
  refine lv_iconst (v := (1 : Int32)) hx hb dL_law_560 (by decide) ?_
  refine lv_iadd hx hb dL_law_561 ?_
  refine x_eqi (show (0 : Int32) + (1 : Int32) = (1 : Int32) from by decide +kernel) ?_
  refine va_sld hx hb hX hbl hbA X.2.2.1 (i := (1 : Int32)) (vp_in_nI (n := 1) (by omega) (by omega)) dL_law_562 ?_
  refine x_eqi (show xs ((1 : Int32).toNatClampNeg) = xs 1 from rfl) ?_
  refine x_cV (own := RL) (wr := [((v 0), .inr (12, (mF v))), ((v 14), .inl (cI, 2, .inl (fun _ => (0 : Int32)))), ((v 17), .inl (cI, 8, .inl (fun _ => (0 : Int32)))), ((v 18), .inl (cI, 8, .inl (fun _ => (0 : Int32)))), ((v 19), .inl (cI, 6, .inl (fun _ => (0 : Int32)))), ((v 20), .inl (cI, 42, .inl (fun _ => (0 : Int32)))), ((v 21), .inl (cI, 42, .inl (fun _ => (0 : Int32)))), ((v 22), .inl (cI, 80, .inl (fun _ => (0 : Int32)))), ((v 23), .inl (cZ, 80, .inl (fun _ => (0 : Int32))))]) (As := [.int (xs 1)]) C X hl.1 (cx_rule l D cI cJ cZ cB cO u (xs 1)) [0, 34, 35, 36, 37, 38, 39, 41] [98, 112, 115, 116, 117, 118, 119, 120, 121] ⟨rfl, rfl, by decide, by decide, by decide⟩ (qb := 0) rfl rfl k_30_9 k_30_10 k_30_11 k_1_2 k_30_12 (n := 1) (by decide +kernel) ⟨Nat.le_of_ble_eq_true rfl, Nat.le_of_ble_eq_true rfl⟩ rfl rfl (Nat.le_of_ble_eq_true rfl) dL_law_563 ⟨Nat.le_of_ble_eq_true rfl, Nat.le_of_ble_eq_true rfl⟩ (fun r_2 u_1 H locs w_3 X => ?_)
  have X : Wd D (fun q : Nat => s.heap.size ≤ q) s [((v 0), .inr (12, (mF v))), ((v 14), .inl (cI, 2, .inl (fun _ => (0 : Int32)))), ((v 17), .inl (cI, 8, .inl (fun _ => (0 : Int32)))), ((v 18), .inl (cI, 8, .inl (fun _ => (0 : Int32)))), ((v 19), .inl (cI, 6, .inl (fun _ => (0 : Int32)))), ((v 20), .inl (cI, 42, .inl (fun _ => (0 : Int32)))), ((v 21), .inl (cI, 42, .inl (fun _ => (0 : Int32)))), ((v 22), .inl (cI, 80, .inl (fun _ => (0 : Int32)))), ((v 23), .inl (cZ, 80, .inl (fun _ => (0 : Int32))))] H locs := X
  refine W.widen (k := 150) (n := 141288) (Nat.le_of_ble_eq_true rfl) (Nat.le_of_ble_eq_true rfl) ?_
  obtain ⟨rfl, fw_3⟩ | ⟨rfl, fw_3⟩ | ⟨rfl, fw_3⟩ : (r_2 = (0 : Int32) ∧ (0 ≤ (xs 1).toInt ∧ (xs 1).toInt ≤ 3 ∨ 10 ≤ (xs 1).toInt ∧ (xs 1).toInt ≤ 13 ∨ 20 ≤ (xs 1).toInt ∧ (xs 1).toInt ≤ 22 ∨ 31 ≤ (xs 1).toInt ∧ (xs 1).toInt ≤ 50 ∨ 61 ≤ (xs 1).toInt ∧ (xs 1).toInt ≤ 80 ∨ (xs 1).toInt = 200)) ∨ (r_2 = (1 : Int32) ∧ (100 ≤ (xs 1).toInt ∧ (xs 1).toInt ≤ 139)) ∨ (r_2 = (-1 : Int32) ∧ ¬ (0 ≤ (xs 1).toInt ∧ (xs 1).toInt ≤ 3 ∨ 10 ≤ (xs 1).toInt ∧ (xs 1).toInt ≤ 13 ∨ 20 ≤ (xs 1).toInt ∧ (xs 1).toInt ≤ 22 ∨ 31 ≤ (xs 1).toInt ∧ (xs 1).toInt ≤ 50 ∨ 61 ≤ (xs 1).toInt ∧ (xs 1).toInt ≤ 80 ∨ (xs 1).toInt = 200 ∨ 100 ≤ (xs 1).toInt ∧ (xs 1).toInt ≤ 139)) := w_3
  · refine lv_aload_n hx hb dL_law_566 rfl (lv_at hl 1 rfl) ?_
    refine lv_aload_n hx hb dL_law_567 rfl (lv_at hl 3 rfl) ?_
    refine lv_iload_n hx hb dL_law_568 rfl (lv_at hl 0 rfl) ?_
    refine lv_iconst (v := (1 : Int32)) hx hb dL_law_569 (by decide) ?_
    refine lv_iadd hx hb dL_law_570 ?_
    refine x_eqi (show (0 : Int32) + (1 : Int32) = (1 : Int32) from by decide +kernel) ?_
    refine va_sld hx hb hX hbl hbA X.2.2.1 (i := (1 : Int32)) (vp_in_nI (n := 1) (by omega) (by omega)) dL_law_571 ?_
    refine x_eqi (show xs ((1 : Int32).toNatClampNeg) = xs 1 from rfl) ?_
    refine x_cV (own := RL) (wr := []) (As := [.int (xs 1)]) C X hl.1 (cm_rule l D cI cJ cZ cB cO v (xs 1)) [0, 1, 2, 3, 4, 5, 6, 7, 8] [] ⟨rfl, rfl, by decide, by decide, by decide⟩ (qb := 0) rfl rfl k_30_22 k_30_23 k_31_0 k_1_5 k_31_1 (n := 1) (by decide +kernel) ⟨Nat.le_of_ble_eq_true rfl, Nat.le_of_ble_eq_true rfl⟩ rfl rfl (Nat.le_of_ble_eq_true rfl) dL_law_572 ⟨Nat.le_of_ble_eq_true rfl, Nat.le_of_ble_eq_true rfl⟩ (fun r_5 u_4 H locs w_6 X => ?_)
    have X : Wd D (fun q : Nat => s.heap.size ≤ q) s [] H locs := X
    refine W.widen (k := 150) (n := 141288) (Nat.le_of_ble_eq_true rfl) (Nat.le_of_ble_eq_true rfl) ?_
    obtain ⟨rfl, fw_6⟩ | ⟨rfl, fw_6⟩ | ⟨rfl, fw_6⟩ : (r_5 = (0 : Int32) ∧ (0 ≤ (xs 1).toInt ∧ (xs 1).toInt ≤ 3 ∨ 10 ≤ (xs 1).toInt ∧ (xs 1).toInt ≤ 13 ∨ 20 ≤ (xs 1).toInt ∧ (xs 1).toInt ≤ 22 ∨ 31 ≤ (xs 1).toInt ∧ (xs 1).toInt ≤ 50 ∨ 61 ≤ (xs 1).toInt ∧ (xs 1).toInt ≤ 80 ∨ (xs 1).toInt = 200)) ∨ (r_5 = (1 : Int32) ∧ (100 ≤ (xs 1).toInt ∧ (xs 1).toInt ≤ 139)) ∨ (r_5 = (-1 : Int32) ∧ ¬ (0 ≤ (xs 1).toInt ∧ (xs 1).toInt ≤ 3 ∨ 10 ≤ (xs 1).toInt ∧ (xs 1).toInt ≤ 13 ∨ 20 ≤ (xs 1).toInt ∧ (xs 1).toInt ≤ 22 ∨ 31 ≤ (xs 1).toInt ∧ (xs 1).toInt ≤ 50 ∨ 61 ≤ (xs 1).toInt ∧ (xs 1).toInt ≤ 80 ∨ (xs 1).toInt = 200 ∨ 100 ≤ (xs 1).toInt ∧ (xs 1).toInt ≤ 139)) := w_6
    · refine lv_icmp_eq (tgt := 1721) hx hb dL_law_575 (by decide) (fun _ => ?_) (fun c0 => absurd (by decide) c0)
      exact law_tail K0 X hl (Nat.le_of_ble_eq_true rfl) (Nat.le_of_ble_eq_true rfl)
    · exfalso; omega
    · exfalso; omega
  · refine lv_aload_n hx hb dL_law_566 rfl (lv_at hl 1 rfl) ?_
    refine lv_aload_n hx hb dL_law_567 rfl (lv_at hl 3 rfl) ?_
    refine lv_iload_n hx hb dL_law_568 rfl (lv_at hl 0 rfl) ?_
    refine lv_iconst (v := (1 : Int32)) hx hb dL_law_569 (by decide) ?_
    refine lv_iadd hx hb dL_law_570 ?_
    refine x_eqi (show (0 : Int32) + (1 : Int32) = (1 : Int32) from by decide +kernel) ?_
    refine va_sld hx hb hX hbl hbA X.2.2.1 (i := (1 : Int32)) (vp_in_nI (n := 1) (by omega) (by omega)) dL_law_571 ?_
    refine x_eqi (show xs ((1 : Int32).toNatClampNeg) = xs 1 from rfl) ?_
    refine x_cV (own := RL) (wr := []) (As := [.int (xs 1)]) C X hl.1 (cm_rule l D cI cJ cZ cB cO v (xs 1)) [0, 1, 2, 3, 4, 5, 6, 7, 8] [] ⟨rfl, rfl, by decide, by decide, by decide⟩ (qb := 0) rfl rfl k_30_22 k_30_23 k_31_0 k_1_5 k_31_1 (n := 1) (by decide +kernel) ⟨Nat.le_of_ble_eq_true rfl, Nat.le_of_ble_eq_true rfl⟩ rfl rfl (Nat.le_of_ble_eq_true rfl) dL_law_572 ⟨Nat.le_of_ble_eq_true rfl, Nat.le_of_ble_eq_true rfl⟩ (fun r_8 u_7 H locs w_9 X => ?_)
    have X : Wd D (fun q : Nat => s.heap.size ≤ q) s [] H locs := X
    refine W.widen (k := 150) (n := 141288) (Nat.le_of_ble_eq_true rfl) (Nat.le_of_ble_eq_true rfl) ?_
    obtain ⟨rfl, fw_9⟩ | ⟨rfl, fw_9⟩ | ⟨rfl, fw_9⟩ : (r_8 = (0 : Int32) ∧ (0 ≤ (xs 1).toInt ∧ (xs 1).toInt ≤ 3 ∨ 10 ≤ (xs 1).toInt ∧ (xs 1).toInt ≤ 13 ∨ 20 ≤ (xs 1).toInt ∧ (xs 1).toInt ≤ 22 ∨ 31 ≤ (xs 1).toInt ∧ (xs 1).toInt ≤ 50 ∨ 61 ≤ (xs 1).toInt ∧ (xs 1).toInt ≤ 80 ∨ (xs 1).toInt = 200)) ∨ (r_8 = (1 : Int32) ∧ (100 ≤ (xs 1).toInt ∧ (xs 1).toInt ≤ 139)) ∨ (r_8 = (-1 : Int32) ∧ ¬ (0 ≤ (xs 1).toInt ∧ (xs 1).toInt ≤ 3 ∨ 10 ≤ (xs 1).toInt ∧ (xs 1).toInt ≤ 13 ∨ 20 ≤ (xs 1).toInt ∧ (xs 1).toInt ≤ 22 ∨ 31 ≤ (xs 1).toInt ∧ (xs 1).toInt ≤ 50 ∨ 61 ≤ (xs 1).toInt ∧ (xs 1).toInt ≤ 80 ∨ (xs 1).toInt = 200 ∨ 100 ≤ (xs 1).toInt ∧ (xs 1).toInt ≤ 139)) := w_9
    · exfalso; omega
    · refine lv_icmp_eq (tgt := 1721) hx hb dL_law_575 (by decide) (fun _ => ?_) (fun c0 => absurd (by decide) c0)
      exact law_tail K0 X hl (Nat.le_of_ble_eq_true rfl) (Nat.le_of_ble_eq_true rfl)
    · exfalso; omega
  · refine lv_aload_n hx hb dL_law_566 rfl (lv_at hl 1 rfl) ?_
    refine lv_aload_n hx hb dL_law_567 rfl (lv_at hl 3 rfl) ?_
    refine lv_iload_n hx hb dL_law_568 rfl (lv_at hl 0 rfl) ?_
    refine lv_iconst (v := (1 : Int32)) hx hb dL_law_569 (by decide) ?_
    refine lv_iadd hx hb dL_law_570 ?_
    refine x_eqi (show (0 : Int32) + (1 : Int32) = (1 : Int32) from by decide +kernel) ?_
    refine va_sld hx hb hX hbl hbA X.2.2.1 (i := (1 : Int32)) (vp_in_nI (n := 1) (by omega) (by omega)) dL_law_571 ?_
    refine x_eqi (show xs ((1 : Int32).toNatClampNeg) = xs 1 from rfl) ?_
    refine x_cV (own := RL) (wr := []) (As := [.int (xs 1)]) C X hl.1 (cm_rule l D cI cJ cZ cB cO v (xs 1)) [0, 1, 2, 3, 4, 5, 6, 7, 8] [] ⟨rfl, rfl, by decide, by decide, by decide⟩ (qb := 0) rfl rfl k_30_22 k_30_23 k_31_0 k_1_5 k_31_1 (n := 1) (by decide +kernel) ⟨Nat.le_of_ble_eq_true rfl, Nat.le_of_ble_eq_true rfl⟩ rfl rfl (Nat.le_of_ble_eq_true rfl) dL_law_572 ⟨Nat.le_of_ble_eq_true rfl, Nat.le_of_ble_eq_true rfl⟩ (fun r_11 u_10 H locs w_12 X => ?_)
    have X : Wd D (fun q : Nat => s.heap.size ≤ q) s [] H locs := X
    refine W.widen (k := 150) (n := 141288) (Nat.le_of_ble_eq_true rfl) (Nat.le_of_ble_eq_true rfl) ?_
    obtain ⟨rfl, fw_12⟩ | ⟨rfl, fw_12⟩ | ⟨rfl, fw_12⟩ : (r_11 = (0 : Int32) ∧ (0 ≤ (xs 1).toInt ∧ (xs 1).toInt ≤ 3 ∨ 10 ≤ (xs 1).toInt ∧ (xs 1).toInt ≤ 13 ∨ 20 ≤ (xs 1).toInt ∧ (xs 1).toInt ≤ 22 ∨ 31 ≤ (xs 1).toInt ∧ (xs 1).toInt ≤ 50 ∨ 61 ≤ (xs 1).toInt ∧ (xs 1).toInt ≤ 80 ∨ (xs 1).toInt = 200)) ∨ (r_11 = (1 : Int32) ∧ (100 ≤ (xs 1).toInt ∧ (xs 1).toInt ≤ 139)) ∨ (r_11 = (-1 : Int32) ∧ ¬ (0 ≤ (xs 1).toInt ∧ (xs 1).toInt ≤ 3 ∨ 10 ≤ (xs 1).toInt ∧ (xs 1).toInt ≤ 13 ∨ 20 ≤ (xs 1).toInt ∧ (xs 1).toInt ≤ 22 ∨ 31 ≤ (xs 1).toInt ∧ (xs 1).toInt ≤ 50 ∨ 61 ≤ (xs 1).toInt ∧ (xs 1).toInt ≤ 80 ∨ (xs 1).toInt = 200 ∨ 100 ≤ (xs 1).toInt ∧ (xs 1).toInt ≤ 139)) := w_12
    · exfalso; omega
    · exfalso; omega
    · refine lv_icmp_eq (tgt := 1721) hx hb dL_law_575 (by decide) (fun _ => ?_) (fun c0 => absurd (by decide) c0)
      exact law_tail K0 X hl (Nat.le_of_ble_eq_true rfl) (Nat.le_of_ble_eq_true rfl)
