theorem k_14_3 : Cond.methodLink RX11 135 yX10_courseOf ∈ wsL_law := mr_14 _ (List.mem_of_getElem? (i := 3) rfl)
theorem k_14_4 : Cond.instanceMethod yX10_courseOf ∈ wsL_law := mr_14 _ (List.mem_of_getElem? (i := 4) rfl)
theorem k_14_5 : Cond.selects RX10 yX10_courseOf yX10_courseOf ∈ wsL_law := mr_14 _ (List.mem_of_getElem? (i := 5) rfl)
theorem k_14_6 : Cond.code yX10_courseOf cX10_courseOf 2 (some .int) ∈ wsL_law := mr_14 _ (List.mem_of_getElem? (i := 6) rfl)
theorem k_30_15 : Cond.fieldLink RX11 180 "LuckLinks$Law" "keeps" "[I" ∈ wsL_law := mr_30 _ (List.mem_of_getElem? (i := 15) rfl)
theorem k_38_10 : Cond.methodLink RX11 211 yX10_hasRound ∈ wsL_law := mr_38 _ (List.mem_of_getElem? (i := 10) rfl)
theorem k_43_4 : Cond.constantLong RX11 238 (-1) ∈ wsL_law := mr_43 _ (List.mem_of_getElem? (i := 4) rfl)
theorem k_46_17 : Cond.constantLong RX11 252 (-1000000000000) ∈ wsL_law := mr_46 _ (List.mem_of_getElem? (i := 17) rfl)
theorem k_49_5 : Cond.constant RX11 266 (-1000000) ∈ wsL_law := mr_49 _ (List.mem_of_getElem? (i := 5) rfl)
theorem k_61_21 : Cond.constantLong RX11 326 (-1000000000) ∈ wsL_law := mr_61 _ (List.mem_of_getElem? (i := 21) rfl)
theorem dX11_beside_0 : decode cX11_beside 0 = .ok (.aload_n 0, 1) := by decide +kernel
theorem dX11_beside_1 : decode cX11_beside 1 = .ok (.getfield 10, 3) := by decide +kernel
theorem dX11_beside_4 : decode cX11_beside 4 = .ok (.iload_n 1, 1) := by decide +kernel
theorem dX11_beside_5 : decode cX11_beside 5 = .ok (.invokevirtual 151, 3) := by decide +kernel
theorem dX11_beside_8 : decode cX11_beside 8 = .ok (.ifCond .ne 7, 3) := by decide +kernel
theorem dX11_beside_11 : decode cX11_beside 11 = .ok (.ldc2_w 252, 3) := by decide +kernel
theorem dX11_beside_14 : decode cX11_beside 14 = .ok (.lreturn, 1) := by decide +kernel
theorem dX11_cost_0 : decode cX11_cost 0 = .ok (.aload_n 0, 1) := by decide +kernel
theorem dX11_cost_1 : decode cX11_cost 1 = .ok (.getfield 10, 3) := by decide +kernel
theorem dX11_cost_4 : decode cX11_cost 4 = .ok (.iload_n 1, 1) := by decide +kernel
theorem dX11_cost_5 : decode cX11_cost 5 = .ok (.invokevirtual 151, 3) := by decide +kernel
theorem dX11_cost_8 : decode cX11_cost 8 = .ok (.ifCond .eq 22, 3) := by decide +kernel
theorem dX11_cost_30 : decode cX11_cost 30 = .ok (.ldc2_w 326, 3) := by decide +kernel
theorem dX11_cost_33 : decode cX11_cost 33 = .ok (.lreturn, 1) := by decide +kernel
theorem dX11_cut_0 : decode cX11_cut 0 = .ok (.iload_n 1, 1) := by decide +kernel
theorem dX11_cut_1 : decode cX11_cut 1 = .ok (.invokestatic 127, 3) := by decide +kernel
theorem dX11_cut_4 : decode cX11_cut 4 = .ok (.ifCond .eq 21, 3) := by decide +kernel
theorem dX11_cut_7 : decode cX11_cut 7 = .ok (.iload_n 2, 1) := by decide +kernel
theorem dX11_cut_8 : decode cX11_cut 8 = .ok (.iconst 0, 1) := by decide +kernel
theorem dX11_cut_9 : decode cX11_cut 9 = .ok (.iconst 2, 1) := by decide +kernel
theorem dX11_cut_10 : decode cX11_cut 10 = .ok (.invokestatic 131, 3) := by decide +kernel
theorem dX11_cut_13 : decode cX11_cut 13 = .ok (.ifCond .eq 12, 3) := by decide +kernel
theorem dX11_cut_16 : decode cX11_cut 16 = .ok (.iload_n 3, 1) := by decide +kernel
theorem dX11_cut_17 : decode cX11_cut 17 = .ok (.iconst 0, 1) := by decide +kernel
theorem dX11_cut_18 : decode cX11_cut 18 = .ok (.iconst 3, 1) := by decide +kernel
theorem dX11_cut_19 : decode cX11_cut 19 = .ok (.invokestatic 131, 3) := by decide +kernel
theorem dX11_cut_22 : decode cX11_cut 22 = .ok (.ifCond .ne 5, 3) := by decide +kernel
theorem dX11_cut_25 : decode cX11_cut 25 = .ok (.iconst (-1), 1) := by decide +kernel
theorem dX11_cut_26 : decode cX11_cut 26 = .ok (.ireturn, 1) := by decide +kernel
theorem dX11_cut_27 : decode cX11_cut 27 = .ok (.aload_n 0, 1) := by decide +kernel
theorem dX11_cut_28 : decode cX11_cut 28 = .ok (.getfield 41, 3) := by decide +kernel
theorem dX11_cut_31 : decode cX11_cut 31 = .ok (.getfield 180, 3) := by decide +kernel
theorem dX11_cut_34 : decode cX11_cut 34 = .ok (.iload_n 2, 1) := by decide +kernel
theorem dX11_cut_35 : decode cX11_cut 35 = .ok (.iaload, 1) := by decide +kernel
theorem dX11_cut_36 : decode cX11_cut 36 = .ok (.ifCond .eq 15, 3) := by decide +kernel
theorem dX11_cut_51 : decode cX11_cut 51 = .ok (.iconst (-1), 1) := by decide +kernel
theorem dX11_cut_52 : decode cX11_cut 52 = .ok (.ireturn, 1) := by decide +kernel
theorem dX11_fault_0 : decode cX11_fault 0 = .ok (.aload_n 0, 1) := by decide +kernel
theorem dX11_fault_1 : decode cX11_fault 1 = .ok (.getfield 48, 3) := by decide +kernel
theorem dX11_fault_4 : decode cX11_fault 4 = .ok (.ireturn, 1) := by decide +kernel
theorem dX11_gift_0 : decode cX11_gift 0 = .ok (.aload_n 0, 1) := by decide +kernel
theorem dX11_gift_1 : decode cX11_gift 1 = .ok (.getfield 10, 3) := by decide +kernel
theorem dX11_gift_4 : decode cX11_gift 4 = .ok (.iload_n 1, 1) := by decide +kernel
theorem dX11_gift_5 : decode cX11_gift 5 = .ok (.invokevirtual 151, 3) := by decide +kernel
theorem dX11_gift_8 : decode cX11_gift 8 = .ok (.ifCond .eq 12, 3) := by decide +kernel
theorem dX11_gift_20 : decode cX11_gift 20 = .ok (.bipush (-100), 2) := by decide +kernel
theorem dX11_gift_22 : decode cX11_gift 22 = .ok (.ireturn, 1) := by decide +kernel
theorem dX11_listed_0 : decode cX11_listed 0 = .ok (.iload_n 1, 1) := by decide +kernel
theorem dX11_listed_1 : decode cX11_listed 1 = .ok (.iload_n 2, 1) := by decide +kernel
theorem dX11_listed_2 : decode cX11_listed 2 = .ok (.invokestatic 227, 3) := by decide +kernel
theorem dX11_listed_5 : decode cX11_listed 5 = .ok (.ifCond .eq 20, 3) := by decide +kernel
theorem dX11_listed_8 : decode cX11_listed 8 = .ok (.iload_n 3, 1) := by decide +kernel
theorem dX11_listed_9 : decode cX11_listed 9 = .ok (.iconst 0, 1) := by decide +kernel
theorem dX11_listed_10 : decode cX11_listed 10 = .ok (.aload_n 0, 1) := by decide +kernel
theorem dX11_listed_11 : decode cX11_listed 11 = .ok (.getfield 10, 3) := by decide +kernel
theorem dX11_listed_14 : decode cX11_listed 14 = .ok (.getfield 114, 3) := by decide +kernel
theorem dX11_listed_17 : decode cX11_listed 17 = .ok (.iconst 1, 1) := by decide +kernel
theorem dX11_listed_18 : decode cX11_listed 18 = .ok (.isub, 1) := by decide +kernel
theorem dX11_listed_19 : decode cX11_listed 19 = .ok (.invokestatic 131, 3) := by decide +kernel
theorem dX11_listed_22 : decode cX11_listed 22 = .ok (.ifCond .ne 5, 3) := by decide +kernel
theorem dX11_listed_25 : decode cX11_listed 25 = .ok (.iconst (-1), 1) := by decide +kernel
theorem dX11_listed_26 : decode cX11_listed 26 = .ok (.ireturn, 1) := by decide +kernel
theorem dX11_odds_0 : decode cX11_odds 0 = .ok (.aload_n 0, 1) := by decide +kernel
theorem dX11_odds_1 : decode cX11_odds 1 = .ok (.getfield 10, 3) := by decide +kernel
theorem dX11_odds_4 : decode cX11_odds 4 = .ok (.iload_n 1, 1) := by decide +kernel
theorem dX11_odds_5 : decode cX11_odds 5 = .ok (.invokevirtual 151, 3) := by decide +kernel
theorem dX11_odds_8 : decode cX11_odds 8 = .ok (.ifCond .eq 27, 3) := by decide +kernel
theorem dX11_odds_35 : decode cX11_odds 35 = .ok (.iconst 0, 1) := by decide +kernel
theorem dX11_odds_36 : decode cX11_odds 36 = .ok (.istore 4, 2) := by decide +kernel
theorem dX11_odds_38 : decode cX11_odds 38 = .ok (.iload 4, 2) := by decide +kernel
theorem dX11_odds_40 : decode cX11_odds 40 = .ok (.ifCond .eq 13, 3) := by decide +kernel
theorem dX11_odds_53 : decode cX11_odds 53 = .ok (.iconst (-1), 1) := by decide +kernel
theorem dX11_odds_54 : decode cX11_odds 54 = .ok (.ireturn, 1) := by decide +kernel
theorem dX11_place_0 : decode cX11_place 0 = .ok (.aload_n 0, 1) := by decide +kernel
theorem dX11_place_1 : decode cX11_place 1 = .ok (.getfield 10, 3) := by decide +kernel
theorem dX11_place_4 : decode cX11_place 4 = .ok (.iload_n 1, 1) := by decide +kernel
theorem dX11_place_5 : decode cX11_place 5 = .ok (.invokevirtual 151, 3) := by decide +kernel
theorem dX11_place_8 : decode cX11_place 8 = .ok (.ifCond .eq 22, 3) := by decide +kernel
theorem dX11_place_30 : decode cX11_place 30 = .ok (.iconst (-1), 1) := by decide +kernel
theorem dX11_place_31 : decode cX11_place 31 = .ok (.ireturn, 1) := by decide +kernel
theorem dX11_pressed_0 : decode cX11_pressed 0 = .ok (.aload_n 0, 1) := by decide +kernel
theorem dX11_pressed_1 : decode cX11_pressed 1 = .ok (.getfield 10, 3) := by decide +kernel
theorem dX11_pressed_4 : decode cX11_pressed 4 = .ok (.iload_n 1, 1) := by decide +kernel
theorem dX11_pressed_5 : decode cX11_pressed 5 = .ok (.invokevirtual 151, 3) := by decide +kernel
theorem dX11_pressed_8 : decode cX11_pressed 8 = .ok (.ifCond .eq 12, 3) := by decide +kernel
theorem dX11_pressed_20 : decode cX11_pressed 20 = .ok (.ldc2_w 238, 3) := by decide +kernel
theorem dX11_pressed_23 : decode cX11_pressed 23 = .ok (.lreturn, 1) := by decide +kernel
theorem dX11_run_0 : decode cX11_run 0 = .ok (.iload_n 1, 1) := by decide +kernel
theorem dX11_run_1 : decode cX11_run 1 = .ok (.invokestatic 127, 3) := by decide +kernel
theorem dX11_run_4 : decode cX11_run 4 = .ok (.ifCond .eq 42, 3) := by decide +kernel
theorem dX11_run_7 : decode cX11_run 7 = .ok (.aload_n 0, 1) := by decide +kernel
theorem dX11_run_8 : decode cX11_run 8 = .ok (.getfield 10, 3) := by decide +kernel
theorem dX11_run_11 : decode cX11_run 11 = .ok (.iload_n 1, 1) := by decide +kernel
theorem dX11_run_12 : decode cX11_run 12 = .ok (.invokevirtual 135, 3) := by decide +kernel
theorem dX11_run_15 : decode cX11_run 15 = .ok (.iconst (-1), 1) := by decide +kernel
theorem dX11_run_16 : decode cX11_run 16 = .ok (.if_icmp .eq 30, 3) := by decide +kernel
theorem dX11_run_46 : decode cX11_run 46 = .ok (.aload_n 0, 1) := by decide +kernel
theorem dX11_run_47 : decode cX11_run 47 = .ok (.iconst 0, 1) := by decide +kernel
theorem dX11_run_48 : decode cX11_run 48 = .ok (.invokevirtual 110, 3) := by decide +kernel
theorem dX11_run_51 : decode cX11_run 51 = .ok (.ireturn, 1) := by decide +kernel
theorem dX11_score_0 : decode cX11_score 0 = .ok (.aload_n 0, 1) := by decide +kernel
theorem dX11_score_1 : decode cX11_score 1 = .ok (.getfield 10, 3) := by decide +kernel
theorem dX11_score_4 : decode cX11_score 4 = .ok (.iload_n 1, 1) := by decide +kernel
theorem dX11_score_5 : decode cX11_score 5 = .ok (.iload_n 2, 1) := by decide +kernel
theorem dX11_score_6 : decode cX11_score 6 = .ok (.iload_n 3, 1) := by decide +kernel
theorem dX11_score_7 : decode cX11_score 7 = .ok (.invokevirtual 211, 3) := by decide +kernel
theorem dX11_score_10 : decode cX11_score 10 = .ok (.ifCond .ne 5, 3) := by decide +kernel
theorem dX11_score_13 : decode cX11_score 13 = .ok (.iconst (-1), 1) := by decide +kernel
theorem dX11_score_14 : decode cX11_score 14 = .ok (.ireturn, 1) := by decide +kernel
theorem dX11_skill_0 : decode cX11_skill 0 = .ok (.aload_n 0, 1) := by decide +kernel
theorem dX11_skill_1 : decode cX11_skill 1 = .ok (.getfield 10, 3) := by decide +kernel
theorem dX11_skill_4 : decode cX11_skill 4 = .ok (.iload_n 1, 1) := by decide +kernel
theorem dX11_skill_5 : decode cX11_skill 5 = .ok (.invokevirtual 151, 3) := by decide +kernel
theorem dX11_skill_8 : decode cX11_skill 8 = .ok (.ifCond .eq 20, 3) := by decide +kernel
theorem dX11_skill_28 : decode cX11_skill 28 = .ok (.ldc2_w 252, 3) := by decide +kernel
theorem dX11_skill_31 : decode cX11_skill 31 = .ok (.lreturn, 1) := by decide +kernel
theorem dX11_span_0 : decode cX11_span 0 = .ok (.aload_n 0, 1) := by decide +kernel
theorem dX11_span_1 : decode cX11_span 1 = .ok (.getfield 10, 3) := by decide +kernel
theorem dX11_span_4 : decode cX11_span 4 = .ok (.iload_n 1, 1) := by decide +kernel
theorem dX11_span_5 : decode cX11_span 5 = .ok (.invokevirtual 151, 3) := by decide +kernel
theorem dX11_span_8 : decode cX11_span 8 = .ok (.ifCond .eq 30, 3) := by decide +kernel
theorem dX11_span_38 : decode cX11_span 38 = .ok (.ldc_w 266, 3) := by decide +kernel
theorem dX11_span_41 : decode cX11_span 41 = .ok (.ireturn, 1) := by decide +kernel
theorem dX11_won_0 : decode cX11_won 0 = .ok (.aload_n 0, 1) := by decide +kernel
theorem dX11_won_1 : decode cX11_won 1 = .ok (.getfield 10, 3) := by decide +kernel
theorem dX11_won_4 : decode cX11_won 4 = .ok (.iload_n 1, 1) := by decide +kernel
theorem dX11_won_5 : decode cX11_won 5 = .ok (.invokevirtual 151, 3) := by decide +kernel
theorem dX11_won_8 : decode cX11_won 8 = .ok (.ifCond .eq 21, 3) := by decide +kernel
theorem dX11_won_29 : decode cX11_won 29 = .ok (.iconst (-1), 1) := by decide +kernel
theorem dX11_won_30 : decode cX11_won 30 = .ok (.ireturn, 1) := by decide +kernel
theorem dX11_years_0 : decode cX11_years 0 = .ok (.aload_n 0, 1) := by decide +kernel
theorem dX11_years_1 : decode cX11_years 1 = .ok (.getfield 10, 3) := by decide +kernel
theorem dX11_years_4 : decode cX11_years 4 = .ok (.iload_n 1, 1) := by decide +kernel
theorem dX11_years_5 : decode cX11_years 5 = .ok (.invokevirtual 151, 3) := by decide +kernel
theorem dX11_years_8 : decode cX11_years 8 = .ok (.ifCond .ne 5, 3) := by decide +kernel
theorem dX11_years_11 : decode cX11_years 11 = .ok (.iconst (-1), 1) := by decide +kernel
theorem dX11_years_12 : decode cX11_years 12 = .ok (.ireturn, 1) := by decide +kernel
set_option maxHeartbeats 4000000 in
set_option maxRecDepth 100000 in
theorem cx_fault (l : Launch) (D : va_G) (cI cJ cZ cB : ClassId) (cO : ClassId) (x : Nat → Nat) :
    CI l D [(cI, .int), (cJ, .long), (cZ, .boolean), (cB, .byte), (cO, .object "LuckLinks$World")] yX11_fault cX11_fault 1 (some .int) ({ frames := 0, cells := 0, slots := 0, locals := 0 } : Room) [.ref (x 0)] [((x 0), .inr (11, [.ref (x 1), .ref (x 10), .int (0 : Int32), .ref (x 11), .int (0 : Int32), .ref (x 12), .ref (x 34), .ref (x 50), .int (-1 : Int32), .ref (x 66), .ref (x 67), .ref (x 68), .ref (x 76), .ref (x 81), .ref (x 84), .ref (x 89), .ref (x 97)]))] (fun (r : Int32) (u : Unit) => (r = (-1 : Int32) ∧ True)) (fun (_ : Unit) => []) := by
  intro sz
  refine body_of (y := yX11_fault) (cc := cX11_fault) (maxL := 1) (ret := (some .int)) (rm := ({ frames := 0, cells := 0, slots := 0, locals := 0 } : Room)) (wc := [((x 0), .inr (11, [.ref (x 1), .ref (x 10), .int (0 : Int32), .ref (x 11), .int (0 : Int32), .ref (x 12), .ref (x 34), .ref (x 50), .int (-1 : Int32), .ref (x 66), .ref (x 67), .ref (x 68), .ref (x 76), .ref (x 81), .ref (x 84), .ref (x 89), .ref (x 97)]))]) (tys := [(cI, .int), (cJ, .long), (cZ, .boolean), (cB, .byte), (cO, .object "LuckLinks$World")]) (D := D) (sz := sz) (own := RX11) (av := [.ref (x 0)]) (Qc := fun A => va_Qi (fun (r : Int32) (u : Unit) => (r = (-1 : Int32) ∧ True)) (fun u t => Aft D A ((fun (_ : Unit) => []) u) t) A) (by decide) rfl (Nat.le_of_ble_eq_true rfl) (fun p e s m below meth c A ls C hr hlk hin X hl => ?_)
  have hx := C.1
  have hb := C.2.1
  have hown := C.2.2.2.1
  have hts := C.2.2.2.2.1
  have hl : lv_has ls 1 [(0, .ref (x 0))] := hl
  show W p l e _ s m _ below meth c s.heap [] 0 0 (MQ below (va_Qi (fun (r : Int32) (u : Unit) => (r = (-1 : Int32) ∧ True)) (fun u t => Aft D A ((fun (_ : Unit) => []) u) t) A) ([.ref (x 0)] : List Value).toArray s 0 0 A) (F0 m 0 ls [])
  have X : Wd D A s [((x 0), .inr (11, [.ref (x 1), .ref (x 10), .int (0 : Int32), .ref (x 11), .int (0 : Int32), .ref (x 12), .ref (x 34), .ref (x 50), .int (-1 : Int32), .ref (x 66), .ref (x 67), .ref (x 68), .ref (x 76), .ref (x 81), .ref (x 84), .ref (x 89), .ref (x 97)]))] s.heap [] := X
  obtain ⟨H, locs, eH, eL⟩ : ∃ H locs, H = s.heap ∧ locs = ([] : List Loc) := ⟨_, _, rfl, rfl⟩
  rw [← eH, ← eL] at X ⊢
  clear eH eL
  refine lv_aload_n hx hb dX11_fault_0 rfl (lv_at hl 0 rfl) ?_
  refine x_get (own := RX11) (T := TX11) C X 0 rfl rfl 8 (by decide) k_2_6 rfl rfl (v := .int (-1 : Int32)) rfl dX11_fault_1 ?_
  exact x_iret C X hr hlk (v := (-1 : Int32)) (by first | rfl | decide) (()) [] (by decide) rfl (⟨rfl, trivial⟩) (Nat.le_of_ble_eq_true rfl) (Nat.le_of_ble_eq_true rfl) dX11_fault_4
set_option maxHeartbeats 4000000 in
set_option maxRecDepth 100000 in
theorem cx_run (l : Launch) (D : va_G) (cI cJ cZ cB : ClassId) (cO : ClassId) (x : Nat → Nat) (p1 p2 : Int32) :
    CI l D [(cI, .int), (cJ, .long), (cZ, .boolean), (cB, .byte), (cO, .object "LuckLinks$World")] yX11_run cX11_run 3 (some .int) ({ frames := 3, cells := 0, slots := 0, locals := 63 } : Room) [.ref (x 0), .int p1, .int p2] [((x 0), .inr (11, [.ref (x 1), .ref (x 10), .int (0 : Int32), .ref (x 11), .int (0 : Int32), .ref (x 12), .ref (x 34), .ref (x 50), .int (-1 : Int32), .ref (x 66), .ref (x 67), .ref (x 68), .ref (x 76), .ref (x 81), .ref (x 84), .ref (x 89), .ref (x 97)])), ((x 1), .inr (10, [.int (0 : Int32), .ref (x 2), .int (0 : Int32), .ref (x 3), .ref (x 4), .int (0 : Int32), .ref (x 5), .ref (x 6), .ref (x 7), .ref (x 8), .ref (x 9), .long (1 : Int64)])), ((x 4), .inl (cI, 40, .inl (fun _ => (-1 : Int32)))), ((x 66), .inl (cI, 3, .inl (fun _ => (0 : Int32))))] (fun (r : Int32) (u : Unit) => (r = (-1 : Int32) ∧ True)) (fun (_ : Unit) => []) := by
  intro sz
  refine body_of (y := yX11_run) (cc := cX11_run) (maxL := 3) (ret := (some .int)) (rm := ({ frames := 3, cells := 0, slots := 0, locals := 63 } : Room)) (wc := [((x 0), .inr (11, [.ref (x 1), .ref (x 10), .int (0 : Int32), .ref (x 11), .int (0 : Int32), .ref (x 12), .ref (x 34), .ref (x 50), .int (-1 : Int32), .ref (x 66), .ref (x 67), .ref (x 68), .ref (x 76), .ref (x 81), .ref (x 84), .ref (x 89), .ref (x 97)])), ((x 1), .inr (10, [.int (0 : Int32), .ref (x 2), .int (0 : Int32), .ref (x 3), .ref (x 4), .int (0 : Int32), .ref (x 5), .ref (x 6), .ref (x 7), .ref (x 8), .ref (x 9), .long (1 : Int64)])), ((x 4), .inl (cI, 40, .inl (fun _ => (-1 : Int32)))), ((x 66), .inl (cI, 3, .inl (fun _ => (0 : Int32))))]) (tys := [(cI, .int), (cJ, .long), (cZ, .boolean), (cB, .byte), (cO, .object "LuckLinks$World")]) (D := D) (sz := sz) (own := RX11) (av := [.ref (x 0), .int p1, .int p2]) (Qc := fun A => va_Qi (fun (r : Int32) (u : Unit) => (r = (-1 : Int32) ∧ True)) (fun u t => Aft D A ((fun (_ : Unit) => []) u) t) A) (by decide) rfl (Nat.le_of_ble_eq_true rfl) (fun p e s m below meth c A ls C hr hlk hin X hl => ?_)
  have hx := C.1
  have hb := C.2.1
  have hown := C.2.2.2.1
  have hts := C.2.2.2.2.1
  have hl : lv_has ls 3 [(0, .ref (x 0)), (1, .int p1), (2, .int p2)] := hl
  show W p l e _ s m _ below meth c s.heap [] 0 0 (MQ below (va_Qi (fun (r : Int32) (u : Unit) => (r = (-1 : Int32) ∧ True)) (fun u t => Aft D A ((fun (_ : Unit) => []) u) t) A) ([.ref (x 0), .int p1, .int p2] : List Value).toArray s 0 0 A) (F0 m 0 ls [])
  have X : Wd D A s [((x 0), .inr (11, [.ref (x 1), .ref (x 10), .int (0 : Int32), .ref (x 11), .int (0 : Int32), .ref (x 12), .ref (x 34), .ref (x 50), .int (-1 : Int32), .ref (x 66), .ref (x 67), .ref (x 68), .ref (x 76), .ref (x 81), .ref (x 84), .ref (x 89), .ref (x 97)])), ((x 1), .inr (10, [.int (0 : Int32), .ref (x 2), .int (0 : Int32), .ref (x 3), .ref (x 4), .int (0 : Int32), .ref (x 5), .ref (x 6), .ref (x 7), .ref (x 8), .ref (x 9), .long (1 : Int64)])), ((x 4), .inl (cI, 40, .inl (fun _ => (-1 : Int32)))), ((x 66), .inl (cI, 3, .inl (fun _ => (0 : Int32))))] s.heap [] := X
  obtain ⟨H, locs, eH, eL⟩ : ∃ H locs, H = s.heap ∧ locs = ([] : List Loc) := ⟨_, _, rfl, rfl⟩
  rw [← eH, ← eL] at X ⊢
  clear eH eL
  refine lv_iload_n hx hb dX11_run_0 rfl (lv_at hl 1 rfl) ?_
  refine x_cS (own := RX11) (wr := [((x 0), .inr (11, [.ref (x 1), .ref (x 10), .int (0 : Int32), .ref (x 11), .int (0 : Int32), .ref (x 12), .ref (x 34), .ref (x 50), .int (-1 : Int32), .ref (x 66), .ref (x 67), .ref (x 68), .ref (x 76), .ref (x 81), .ref (x 84), .ref (x 89), .ref (x 97)])), ((x 1), .inr (10, [.int (0 : Int32), .ref (x 2), .int (0 : Int32), .ref (x 3), .ref (x 4), .int (0 : Int32), .ref (x 5), .ref (x 6), .ref (x 7), .ref (x 8), .ref (x 9), .long (1 : Int64)])), ((x 4), .inl (cI, 40, .inl (fun _ => (-1 : Int32)))), ((x 66), .inl (cI, 3, .inl (fun _ => (0 : Int32))))]) (As := [.int p1]) C X hl.1 (c_isWeek l D cI cJ cZ cB cO p1) [] [0, 1, 2, 3] ⟨rfl, rfl, by decide, by decide, by decide⟩ k_14_0 k_14_1 k_1_2 k_14_2 (n := 1) (by decide +kernel) ⟨Nat.le_of_ble_eq_true rfl, Nat.le_of_ble_eq_true rfl⟩ rfl rfl (Nat.le_of_ble_eq_true rfl) dX11_run_1 ⟨Nat.le_of_ble_eq_true rfl, Nat.le_of_ble_eq_true rfl⟩ (fun r_2 u_1 H locs w_3 X => ?_)
  have X : Wd D A s [((x 0), .inr (11, [.ref (x 1), .ref (x 10), .int (0 : Int32), .ref (x 11), .int (0 : Int32), .ref (x 12), .ref (x 34), .ref (x 50), .int (-1 : Int32), .ref (x 66), .ref (x 67), .ref (x 68), .ref (x 76), .ref (x 81), .ref (x 84), .ref (x 89), .ref (x 97)])), ((x 1), .inr (10, [.int (0 : Int32), .ref (x 2), .int (0 : Int32), .ref (x 3), .ref (x 4), .int (0 : Int32), .ref (x 5), .ref (x 6), .ref (x 7), .ref (x 8), .ref (x 9), .long (1 : Int64)])), ((x 4), .inl (cI, 40, .inl (fun _ => (-1 : Int32)))), ((x 66), .inl (cI, 3, .inl (fun _ => (0 : Int32))))] H locs := X
  refine W.widen (k := 0) (n := 0) (Nat.le_of_ble_eq_true rfl) (Nat.le_of_ble_eq_true rfl) ?_
  obtain ⟨rfl, fw_3⟩ | ⟨rfl, fw_3⟩ : (r_2 = (1 : Int32) ∧ (0 ≤ (p1).toInt ∧ (p1).toInt ≤ 39)) ∨ (r_2 = (0 : Int32) ∧ ((p1).toInt < 0 ∨ 39 < (p1).toInt)) := w_3
  · refine lv_if_eq (tgt := 46) hx hb dX11_run_4 (by decide) (fun c0 => absurd c0 (by decide)) (fun _ => ?_)
    refine lv_aload_n hx hb dX11_run_7 rfl (lv_at hl 0 rfl) ?_
    refine x_get (own := RX11) (T := TX11) C X 0 rfl rfl 0 (by decide) k_1_15 rfl rfl (v := .ref (x 1)) rfl dX11_run_8 ?_
    refine lv_iload_n hx hb dX11_run_11 rfl (lv_at hl 1 rfl) ?_
    refine x_cV (own := RX11) (wr := [((x 0), .inr (11, [.ref (x 1), .ref (x 10), .int (0 : Int32), .ref (x 11), .int (0 : Int32), .ref (x 12), .ref (x 34), .ref (x 50), .int (-1 : Int32), .ref (x 66), .ref (x 67), .ref (x 68), .ref (x 76), .ref (x 81), .ref (x 84), .ref (x 89), .ref (x 97)])), ((x 66), .inl (cI, 3, .inl (fun _ => (0 : Int32))))]) (As := [.int p1]) C X hl.1 (c_courseOf l D cI cJ cZ cB cO (fun k => x (k + 1)) p1) [1, 2] [0, 3] ⟨rfl, rfl, by decide, by decide, by decide⟩ (qb := 0) rfl rfl k_14_3 k_14_4 k_14_5 k_1_14 k_14_6 (n := 1) (by decide +kernel) ⟨Nat.le_of_ble_eq_true rfl, Nat.le_of_ble_eq_true rfl⟩ rfl rfl (Nat.le_of_ble_eq_true rfl) dX11_run_12 ⟨Nat.le_of_ble_eq_true rfl, Nat.le_of_ble_eq_true rfl⟩ (fun r_5 u_4 H locs w_6 X => ?_)
    have X : Wd D A s [((x 0), .inr (11, [.ref (x 1), .ref (x 10), .int (0 : Int32), .ref (x 11), .int (0 : Int32), .ref (x 12), .ref (x 34), .ref (x 50), .int (-1 : Int32), .ref (x 66), .ref (x 67), .ref (x 68), .ref (x 76), .ref (x 81), .ref (x 84), .ref (x 89), .ref (x 97)])), ((x 66), .inl (cI, 3, .inl (fun _ => (0 : Int32)))), ((x 1), .inr (10, [.int (0 : Int32), .ref (x 2), .int (0 : Int32), .ref (x 3), .ref (x 4), .int (0 : Int32), .ref (x 5), .ref (x 6), .ref (x 7), .ref (x 8), .ref (x 9), .long (1 : Int64)])), ((x 4), .inl (cI, 40, .inl (fun _ => (-1 : Int32))))] H locs := X
    refine W.widen (k := 0) (n := 0) (Nat.le_of_ble_eq_true rfl) (Nat.le_of_ble_eq_true rfl) ?_
    obtain ⟨rfl, fw_6⟩ : r_5 = (-1 : Int32) ∧ True := w_6
    refine lv_iconst (v := (-1 : Int32)) hx hb dX11_run_15 (by decide) ?_
    refine lv_icmp_eq (tgt := 46) hx hb dX11_run_16 (by decide) (fun _ => ?_) (fun c0 => absurd (by decide) c0)
    refine lv_aload_n hx hb dX11_run_46 rfl (lv_at hl 0 rfl) ?_
    refine lv_iconst (v := (0 : Int32)) hx hb dX11_run_47 (by decide) ?_
    refine x_cV (own := RX11) (wr := [((x 1), .inr (10, [.int (0 : Int32), .ref (x 2), .int (0 : Int32), .ref (x 3), .ref (x 4), .int (0 : Int32), .ref (x 5), .ref (x 6), .ref (x 7), .ref (x 8), .ref (x 9), .long (1 : Int64)])), ((x 4), .inl (cI, 40, .inl (fun _ => (-1 : Int32))))]) (As := [.int (0 : Int32)]) C X hl.1 (c_refuse l D cI cJ cZ cB cO x) [0, 1] [2, 3] ⟨rfl, rfl, by decide, by decide, by decide⟩ (qb := 0) rfl rfl k_12_8 k_12_9 k_12_10 k_1_2 k_12_11 (n := 1) (by decide +kernel) ⟨Nat.le_of_ble_eq_true rfl, Nat.le_of_ble_eq_true rfl⟩ rfl rfl (Nat.le_of_ble_eq_true rfl) dX11_run_48 ⟨Nat.le_of_ble_eq_true rfl, Nat.le_of_ble_eq_true rfl⟩ (fun r_8 u_7 H locs w_9 X => ?_)
    have X : Wd D A s [((x 1), .inr (10, [.int (0 : Int32), .ref (x 2), .int (0 : Int32), .ref (x 3), .ref (x 4), .int (0 : Int32), .ref (x 5), .ref (x 6), .ref (x 7), .ref (x 8), .ref (x 9), .long (1 : Int64)])), ((x 4), .inl (cI, 40, .inl (fun _ => (-1 : Int32))))] H locs := X
    refine W.widen (k := 0) (n := 0) (Nat.le_of_ble_eq_true rfl) (Nat.le_of_ble_eq_true rfl) ?_
    obtain ⟨rfl, fw_9⟩ : r_8 = (-1 : Int32) ∧ True := w_9
    exact x_iret C X hr hlk (v := (-1 : Int32)) (by first | rfl | decide) (()) [] (by decide) rfl (⟨rfl, trivial⟩) (Nat.le_of_ble_eq_true rfl) (Nat.le_of_ble_eq_true rfl) dX11_run_51
  · refine lv_if_eq (tgt := 46) hx hb dX11_run_4 (by decide) (fun _ => ?_) (fun c0 => absurd (by decide) c0)
    refine lv_aload_n hx hb dX11_run_46 rfl (lv_at hl 0 rfl) ?_
    refine lv_iconst (v := (0 : Int32)) hx hb dX11_run_47 (by decide) ?_
    refine x_cV (own := RX11) (wr := [((x 1), .inr (10, [.int (0 : Int32), .ref (x 2), .int (0 : Int32), .ref (x 3), .ref (x 4), .int (0 : Int32), .ref (x 5), .ref (x 6), .ref (x 7), .ref (x 8), .ref (x 9), .long (1 : Int64)])), ((x 4), .inl (cI, 40, .inl (fun _ => (-1 : Int32))))]) (As := [.int (0 : Int32)]) C X hl.1 (c_refuse l D cI cJ cZ cB cO x) [0, 3] [1, 2] ⟨rfl, rfl, by decide, by decide, by decide⟩ (qb := 0) rfl rfl k_12_8 k_12_9 k_12_10 k_1_2 k_12_11 (n := 1) (by decide +kernel) ⟨Nat.le_of_ble_eq_true rfl, Nat.le_of_ble_eq_true rfl⟩ rfl rfl (Nat.le_of_ble_eq_true rfl) dX11_run_48 ⟨Nat.le_of_ble_eq_true rfl, Nat.le_of_ble_eq_true rfl⟩ (fun r_11 u_10 H locs w_12 X => ?_)
    have X : Wd D A s [((x 1), .inr (10, [.int (0 : Int32), .ref (x 2), .int (0 : Int32), .ref (x 3), .ref (x 4), .int (0 : Int32), .ref (x 5), .ref (x 6), .ref (x 7), .ref (x 8), .ref (x 9), .long (1 : Int64)])), ((x 4), .inl (cI, 40, .inl (fun _ => (-1 : Int32))))] H locs := X
    refine W.widen (k := 0) (n := 0) (Nat.le_of_ble_eq_true rfl) (Nat.le_of_ble_eq_true rfl) ?_
    obtain ⟨rfl, fw_12⟩ : r_11 = (-1 : Int32) ∧ True := w_12
    exact x_iret C X hr hlk (v := (-1 : Int32)) (by first | rfl | decide) (()) [] (by decide) rfl (⟨rfl, trivial⟩) (Nat.le_of_ble_eq_true rfl) (Nat.le_of_ble_eq_true rfl) dX11_run_51
set_option maxHeartbeats 4000000 in
set_option maxRecDepth 100000 in
theorem cx_gift (l : Launch) (D : va_G) (cI cJ cZ cB : ClassId) (cO : ClassId) (x : Nat → Nat) (p1 p2 : Int32) :
    CI l D [(cI, .int), (cJ, .long), (cZ, .boolean), (cB, .byte), (cO, .object "LuckLinks$World")] yX11_gift cX11_gift 3 (some .int) ({ frames := 1, cells := 0, slots := 0, locals := 21 } : Room) [.ref (x 0), .int p1, .int p2] [((x 0), .inr (11, [.ref (x 1), .ref (x 10), .int (0 : Int32), .ref (x 11), .int (0 : Int32), .ref (x 12), .ref (x 34), .ref (x 50), .int (-1 : Int32), .ref (x 66), .ref (x 67), .ref (x 68), .ref (x 76), .ref (x 81), .ref (x 84), .ref (x 89), .ref (x 97)])), ((x 1), .inr (10, [.int (0 : Int32), .ref (x 2), .int (0 : Int32), .ref (x 3), .ref (x 4), .int (0 : Int32), .ref (x 5), .ref (x 6), .ref (x 7), .ref (x 8), .ref (x 9), .long (1 : Int64)]))] (fun (r : Int32) (u : Unit) => (r = (-100 : Int32) ∧ True)) (fun (_ : Unit) => []) := by
  intro sz
  refine body_of (y := yX11_gift) (cc := cX11_gift) (maxL := 3) (ret := (some .int)) (rm := ({ frames := 1, cells := 0, slots := 0, locals := 21 } : Room)) (wc := [((x 0), .inr (11, [.ref (x 1), .ref (x 10), .int (0 : Int32), .ref (x 11), .int (0 : Int32), .ref (x 12), .ref (x 34), .ref (x 50), .int (-1 : Int32), .ref (x 66), .ref (x 67), .ref (x 68), .ref (x 76), .ref (x 81), .ref (x 84), .ref (x 89), .ref (x 97)])), ((x 1), .inr (10, [.int (0 : Int32), .ref (x 2), .int (0 : Int32), .ref (x 3), .ref (x 4), .int (0 : Int32), .ref (x 5), .ref (x 6), .ref (x 7), .ref (x 8), .ref (x 9), .long (1 : Int64)]))]) (tys := [(cI, .int), (cJ, .long), (cZ, .boolean), (cB, .byte), (cO, .object "LuckLinks$World")]) (D := D) (sz := sz) (own := RX11) (av := [.ref (x 0), .int p1, .int p2]) (Qc := fun A => va_Qi (fun (r : Int32) (u : Unit) => (r = (-100 : Int32) ∧ True)) (fun u t => Aft D A ((fun (_ : Unit) => []) u) t) A) (by decide) rfl (Nat.le_of_ble_eq_true rfl) (fun p e s m below meth c A ls C hr hlk hin X hl => ?_)
  have hx := C.1
  have hb := C.2.1
  have hown := C.2.2.2.1
  have hts := C.2.2.2.2.1
  have hl : lv_has ls 3 [(0, .ref (x 0)), (1, .int p1), (2, .int p2)] := hl
  show W p l e _ s m _ below meth c s.heap [] 0 0 (MQ below (va_Qi (fun (r : Int32) (u : Unit) => (r = (-100 : Int32) ∧ True)) (fun u t => Aft D A ((fun (_ : Unit) => []) u) t) A) ([.ref (x 0), .int p1, .int p2] : List Value).toArray s 0 0 A) (F0 m 0 ls [])
  have X : Wd D A s [((x 0), .inr (11, [.ref (x 1), .ref (x 10), .int (0 : Int32), .ref (x 11), .int (0 : Int32), .ref (x 12), .ref (x 34), .ref (x 50), .int (-1 : Int32), .ref (x 66), .ref (x 67), .ref (x 68), .ref (x 76), .ref (x 81), .ref (x 84), .ref (x 89), .ref (x 97)])), ((x 1), .inr (10, [.int (0 : Int32), .ref (x 2), .int (0 : Int32), .ref (x 3), .ref (x 4), .int (0 : Int32), .ref (x 5), .ref (x 6), .ref (x 7), .ref (x 8), .ref (x 9), .long (1 : Int64)]))] s.heap [] := X
  obtain ⟨H, locs, eH, eL⟩ : ∃ H locs, H = s.heap ∧ locs = ([] : List Loc) := ⟨_, _, rfl, rfl⟩
  rw [← eH, ← eL] at X ⊢
  clear eH eL
  refine lv_aload_n hx hb dX11_gift_0 rfl (lv_at hl 0 rfl) ?_
  refine x_get (own := RX11) (T := TX11) C X 0 rfl rfl 0 (by decide) k_1_15 rfl rfl (v := .ref (x 1)) rfl dX11_gift_1 ?_
  refine lv_iload_n hx hb dX11_gift_4 rfl (lv_at hl 1 rfl) ?_
  refine x_cV (own := RX11) (wr := [((x 0), .inr (11, [.ref (x 1), .ref (x 10), .int (0 : Int32), .ref (x 11), .int (0 : Int32), .ref (x 12), .ref (x 34), .ref (x 50), .int (-1 : Int32), .ref (x 66), .ref (x 67), .ref (x 68), .ref (x 76), .ref (x 81), .ref (x 84), .ref (x 89), .ref (x 97)]))]) (As := [.int p1]) C X hl.1 (c_isPlayer l D cI cJ cZ cB cO (fun k => x (k + 1)) p1) [1] [0] ⟨rfl, rfl, by decide, by decide, by decide⟩ (qb := 0) rfl rfl k_17_3 k_15_5 k_15_6 k_1_14 k_15_7 (n := 1) (by decide +kernel) ⟨Nat.le_of_ble_eq_true rfl, Nat.le_of_ble_eq_true rfl⟩ rfl rfl (Nat.le_of_ble_eq_true rfl) dX11_gift_5 ⟨Nat.le_of_ble_eq_true rfl, Nat.le_of_ble_eq_true rfl⟩ (fun r_2 u_1 H locs w_3 X => ?_)
  have X : Wd D A s [((x 0), .inr (11, [.ref (x 1), .ref (x 10), .int (0 : Int32), .ref (x 11), .int (0 : Int32), .ref (x 12), .ref (x 34), .ref (x 50), .int (-1 : Int32), .ref (x 66), .ref (x 67), .ref (x 68), .ref (x 76), .ref (x 81), .ref (x 84), .ref (x 89), .ref (x 97)])), ((x 1), .inr (10, [.int (0 : Int32), .ref (x 2), .int (0 : Int32), .ref (x 3), .ref (x 4), .int (0 : Int32), .ref (x 5), .ref (x 6), .ref (x 7), .ref (x 8), .ref (x 9), .long (1 : Int64)]))] H locs := X
  refine W.widen (k := 0) (n := 0) (Nat.le_of_ble_eq_true rfl) (Nat.le_of_ble_eq_true rfl) ?_
  obtain ⟨rfl, fw_3⟩ : r_2 = (0 : Int32) ∧ True := w_3
  refine lv_if_eq (tgt := 20) hx hb dX11_gift_8 (by decide) (fun _ => ?_) (fun c0 => absurd (by decide) c0)
  refine lv_bipush (v := (-100 : Int32)) hx hb dX11_gift_20 (by decide) ?_
  exact x_iret C X hr hlk (v := (-100 : Int32)) (by first | rfl | decide) (()) [] (by decide) rfl (⟨rfl, trivial⟩) (Nat.le_of_ble_eq_true rfl) (Nat.le_of_ble_eq_true rfl) dX11_gift_22
set_option maxHeartbeats 4000000 in
set_option maxRecDepth 100000 in
theorem cx_score (l : Launch) (D : va_G) (cI cJ cZ cB : ClassId) (cO : ClassId) (x : Nat → Nat) (p1 p2 p3 p4 : Int32) :
    CI l D [(cI, .int), (cJ, .long), (cZ, .boolean), (cB, .byte), (cO, .object "LuckLinks$World")] yX11_score cX11_score 5 (some .int) ({ frames := 2, cells := 0, slots := 0, locals := 47 } : Room) [.ref (x 0), .int p1, .int p2, .int p3, .int p4] [((x 0), .inr (11, [.ref (x 1), .ref (x 10), .int (0 : Int32), .ref (x 11), .int (0 : Int32), .ref (x 12), .ref (x 34), .ref (x 50), .int (-1 : Int32), .ref (x 66), .ref (x 67), .ref (x 68), .ref (x 76), .ref (x 81), .ref (x 84), .ref (x 89), .ref (x 97)])), ((x 1), .inr (10, [.int (0 : Int32), .ref (x 2), .int (0 : Int32), .ref (x 3), .ref (x 4), .int (0 : Int32), .ref (x 5), .ref (x 6), .ref (x 7), .ref (x 8), .ref (x 9), .long (1 : Int64)])), ((x 5), .inl (cI, 3200, .inl (fun _ => (-1 : Int32))))] (fun (r : Int32) (u : Unit) => (r = (-1 : Int32) ∧ True)) (fun (_ : Unit) => []) := by
  intro sz
  refine body_of (y := yX11_score) (cc := cX11_score) (maxL := 5) (ret := (some .int)) (rm := ({ frames := 2, cells := 0, slots := 0, locals := 47 } : Room)) (wc := [((x 0), .inr (11, [.ref (x 1), .ref (x 10), .int (0 : Int32), .ref (x 11), .int (0 : Int32), .ref (x 12), .ref (x 34), .ref (x 50), .int (-1 : Int32), .ref (x 66), .ref (x 67), .ref (x 68), .ref (x 76), .ref (x 81), .ref (x 84), .ref (x 89), .ref (x 97)])), ((x 1), .inr (10, [.int (0 : Int32), .ref (x 2), .int (0 : Int32), .ref (x 3), .ref (x 4), .int (0 : Int32), .ref (x 5), .ref (x 6), .ref (x 7), .ref (x 8), .ref (x 9), .long (1 : Int64)])), ((x 5), .inl (cI, 3200, .inl (fun _ => (-1 : Int32))))]) (tys := [(cI, .int), (cJ, .long), (cZ, .boolean), (cB, .byte), (cO, .object "LuckLinks$World")]) (D := D) (sz := sz) (own := RX11) (av := [.ref (x 0), .int p1, .int p2, .int p3, .int p4]) (Qc := fun A => va_Qi (fun (r : Int32) (u : Unit) => (r = (-1 : Int32) ∧ True)) (fun u t => Aft D A ((fun (_ : Unit) => []) u) t) A) (by decide) rfl (Nat.le_of_ble_eq_true rfl) (fun p e s m below meth c A ls C hr hlk hin X hl => ?_)
  have hx := C.1
  have hb := C.2.1
  have hown := C.2.2.2.1
  have hts := C.2.2.2.2.1
  have hl : lv_has ls 5 [(0, .ref (x 0)), (1, .int p1), (2, .int p2), (3, .int p3), (4, .int p4)] := hl
  show W p l e _ s m _ below meth c s.heap [] 0 0 (MQ below (va_Qi (fun (r : Int32) (u : Unit) => (r = (-1 : Int32) ∧ True)) (fun u t => Aft D A ((fun (_ : Unit) => []) u) t) A) ([.ref (x 0), .int p1, .int p2, .int p3, .int p4] : List Value).toArray s 0 0 A) (F0 m 0 ls [])
  have X : Wd D A s [((x 0), .inr (11, [.ref (x 1), .ref (x 10), .int (0 : Int32), .ref (x 11), .int (0 : Int32), .ref (x 12), .ref (x 34), .ref (x 50), .int (-1 : Int32), .ref (x 66), .ref (x 67), .ref (x 68), .ref (x 76), .ref (x 81), .ref (x 84), .ref (x 89), .ref (x 97)])), ((x 1), .inr (10, [.int (0 : Int32), .ref (x 2), .int (0 : Int32), .ref (x 3), .ref (x 4), .int (0 : Int32), .ref (x 5), .ref (x 6), .ref (x 7), .ref (x 8), .ref (x 9), .long (1 : Int64)])), ((x 5), .inl (cI, 3200, .inl (fun _ => (-1 : Int32))))] s.heap [] := X
  obtain ⟨H, locs, eH, eL⟩ : ∃ H locs, H = s.heap ∧ locs = ([] : List Loc) := ⟨_, _, rfl, rfl⟩
  rw [← eH, ← eL] at X ⊢
  clear eH eL
  refine lv_aload_n hx hb dX11_score_0 rfl (lv_at hl 0 rfl) ?_
  refine x_get (own := RX11) (T := TX11) C X 0 rfl rfl 0 (by decide) k_1_15 rfl rfl (v := .ref (x 1)) rfl dX11_score_1 ?_
  refine lv_iload_n hx hb dX11_score_4 rfl (lv_at hl 1 rfl) ?_
  refine lv_iload_n hx hb dX11_score_5 rfl (lv_at hl 2 rfl) ?_
  refine lv_iload_n hx hb dX11_score_6 rfl (lv_at hl 3 rfl) ?_
  refine x_cV (own := RX11) (wr := [((x 0), .inr (11, [.ref (x 1), .ref (x 10), .int (0 : Int32), .ref (x 11), .int (0 : Int32), .ref (x 12), .ref (x 34), .ref (x 50), .int (-1 : Int32), .ref (x 66), .ref (x 67), .ref (x 68), .ref (x 76), .ref (x 81), .ref (x 84), .ref (x 89), .ref (x 97)]))]) (As := [.int p1, .int p2, .int p3]) C X hl.1 (c_hasRound l D cI cJ cZ cB cO (fun k => x (k + 1)) p1 p2 p3) [1, 2] [0] ⟨rfl, rfl, by decide, by decide, by decide⟩ (qb := 0) rfl rfl k_38_10 k_15_10 k_15_11 k_1_14 k_15_12 (n := 3) (by decide +kernel) ⟨Nat.le_of_ble_eq_true rfl, Nat.le_of_ble_eq_true rfl⟩ rfl rfl (Nat.le_of_ble_eq_true rfl) dX11_score_7 ⟨Nat.le_of_ble_eq_true rfl, Nat.le_of_ble_eq_true rfl⟩ (fun r_2 u_1 H locs w_3 X => ?_)
  have X : Wd D A s [((x 0), .inr (11, [.ref (x 1), .ref (x 10), .int (0 : Int32), .ref (x 11), .int (0 : Int32), .ref (x 12), .ref (x 34), .ref (x 50), .int (-1 : Int32), .ref (x 66), .ref (x 67), .ref (x 68), .ref (x 76), .ref (x 81), .ref (x 84), .ref (x 89), .ref (x 97)])), ((x 1), .inr (10, [.int (0 : Int32), .ref (x 2), .int (0 : Int32), .ref (x 3), .ref (x 4), .int (0 : Int32), .ref (x 5), .ref (x 6), .ref (x 7), .ref (x 8), .ref (x 9), .long (1 : Int64)])), ((x 5), .inl (cI, 3200, .inl (fun _ => (-1 : Int32))))] H locs := X
  refine W.widen (k := 0) (n := 0) (Nat.le_of_ble_eq_true rfl) (Nat.le_of_ble_eq_true rfl) ?_
  obtain ⟨rfl, fw_3⟩ : r_2 = (0 : Int32) ∧ True := w_3
  refine lv_if_ne (tgt := 15) hx hb dX11_score_10 (by decide) (fun c0 => absurd (by decide) c0) (fun _ => ?_)
  refine lv_iconst (v := (-1 : Int32)) hx hb dX11_score_13 (by decide) ?_
  exact x_iret C X hr hlk (v := (-1 : Int32)) (by first | rfl | decide) (()) [] (by decide) rfl (⟨rfl, trivial⟩) (Nat.le_of_ble_eq_true rfl) (Nat.le_of_ble_eq_true rfl) dX11_score_14
set_option maxHeartbeats 4000000 in
set_option maxRecDepth 100000 in
theorem cx_place (l : Launch) (D : va_G) (cI cJ cZ cB : ClassId) (cO : ClassId) (x : Nat → Nat) (p1 p2 : Int32) :
    CI l D [(cI, .int), (cJ, .long), (cZ, .boolean), (cB, .byte), (cO, .object "LuckLinks$World")] yX11_place cX11_place 3 (some .int) ({ frames := 1, cells := 0, slots := 0, locals := 21 } : Room) [.ref (x 0), .int p1, .int p2] [((x 0), .inr (11, [.ref (x 1), .ref (x 10), .int (0 : Int32), .ref (x 11), .int (0 : Int32), .ref (x 12), .ref (x 34), .ref (x 50), .int (-1 : Int32), .ref (x 66), .ref (x 67), .ref (x 68), .ref (x 76), .ref (x 81), .ref (x 84), .ref (x 89), .ref (x 97)])), ((x 1), .inr (10, [.int (0 : Int32), .ref (x 2), .int (0 : Int32), .ref (x 3), .ref (x 4), .int (0 : Int32), .ref (x 5), .ref (x 6), .ref (x 7), .ref (x 8), .ref (x 9), .long (1 : Int64)]))] (fun (r : Int32) (u : Unit) => (r = (-1 : Int32) ∧ True)) (fun (_ : Unit) => []) := by
  intro sz
  refine body_of (y := yX11_place) (cc := cX11_place) (maxL := 3) (ret := (some .int)) (rm := ({ frames := 1, cells := 0, slots := 0, locals := 21 } : Room)) (wc := [((x 0), .inr (11, [.ref (x 1), .ref (x 10), .int (0 : Int32), .ref (x 11), .int (0 : Int32), .ref (x 12), .ref (x 34), .ref (x 50), .int (-1 : Int32), .ref (x 66), .ref (x 67), .ref (x 68), .ref (x 76), .ref (x 81), .ref (x 84), .ref (x 89), .ref (x 97)])), ((x 1), .inr (10, [.int (0 : Int32), .ref (x 2), .int (0 : Int32), .ref (x 3), .ref (x 4), .int (0 : Int32), .ref (x 5), .ref (x 6), .ref (x 7), .ref (x 8), .ref (x 9), .long (1 : Int64)]))]) (tys := [(cI, .int), (cJ, .long), (cZ, .boolean), (cB, .byte), (cO, .object "LuckLinks$World")]) (D := D) (sz := sz) (own := RX11) (av := [.ref (x 0), .int p1, .int p2]) (Qc := fun A => va_Qi (fun (r : Int32) (u : Unit) => (r = (-1 : Int32) ∧ True)) (fun u t => Aft D A ((fun (_ : Unit) => []) u) t) A) (by decide) rfl (Nat.le_of_ble_eq_true rfl) (fun p e s m below meth c A ls C hr hlk hin X hl => ?_)
  have hx := C.1
  have hb := C.2.1
  have hown := C.2.2.2.1
  have hts := C.2.2.2.2.1
  have hl : lv_has ls 3 [(0, .ref (x 0)), (1, .int p1), (2, .int p2)] := hl
  show W p l e _ s m _ below meth c s.heap [] 0 0 (MQ below (va_Qi (fun (r : Int32) (u : Unit) => (r = (-1 : Int32) ∧ True)) (fun u t => Aft D A ((fun (_ : Unit) => []) u) t) A) ([.ref (x 0), .int p1, .int p2] : List Value).toArray s 0 0 A) (F0 m 0 ls [])
  have X : Wd D A s [((x 0), .inr (11, [.ref (x 1), .ref (x 10), .int (0 : Int32), .ref (x 11), .int (0 : Int32), .ref (x 12), .ref (x 34), .ref (x 50), .int (-1 : Int32), .ref (x 66), .ref (x 67), .ref (x 68), .ref (x 76), .ref (x 81), .ref (x 84), .ref (x 89), .ref (x 97)])), ((x 1), .inr (10, [.int (0 : Int32), .ref (x 2), .int (0 : Int32), .ref (x 3), .ref (x 4), .int (0 : Int32), .ref (x 5), .ref (x 6), .ref (x 7), .ref (x 8), .ref (x 9), .long (1 : Int64)]))] s.heap [] := X
  obtain ⟨H, locs, eH, eL⟩ : ∃ H locs, H = s.heap ∧ locs = ([] : List Loc) := ⟨_, _, rfl, rfl⟩
  rw [← eH, ← eL] at X ⊢
  clear eH eL
  refine lv_aload_n hx hb dX11_place_0 rfl (lv_at hl 0 rfl) ?_
  refine x_get (own := RX11) (T := TX11) C X 0 rfl rfl 0 (by decide) k_1_15 rfl rfl (v := .ref (x 1)) rfl dX11_place_1 ?_
  refine lv_iload_n hx hb dX11_place_4 rfl (lv_at hl 1 rfl) ?_
  refine x_cV (own := RX11) (wr := [((x 0), .inr (11, [.ref (x 1), .ref (x 10), .int (0 : Int32), .ref (x 11), .int (0 : Int32), .ref (x 12), .ref (x 34), .ref (x 50), .int (-1 : Int32), .ref (x 66), .ref (x 67), .ref (x 68), .ref (x 76), .ref (x 81), .ref (x 84), .ref (x 89), .ref (x 97)]))]) (As := [.int p1]) C X hl.1 (c_isPlayer l D cI cJ cZ cB cO (fun k => x (k + 1)) p1) [1] [0] ⟨rfl, rfl, by decide, by decide, by decide⟩ (qb := 0) rfl rfl k_17_3 k_15_5 k_15_6 k_1_14 k_15_7 (n := 1) (by decide +kernel) ⟨Nat.le_of_ble_eq_true rfl, Nat.le_of_ble_eq_true rfl⟩ rfl rfl (Nat.le_of_ble_eq_true rfl) dX11_place_5 ⟨Nat.le_of_ble_eq_true rfl, Nat.le_of_ble_eq_true rfl⟩ (fun r_2 u_1 H locs w_3 X => ?_)
  have X : Wd D A s [((x 0), .inr (11, [.ref (x 1), .ref (x 10), .int (0 : Int32), .ref (x 11), .int (0 : Int32), .ref (x 12), .ref (x 34), .ref (x 50), .int (-1 : Int32), .ref (x 66), .ref (x 67), .ref (x 68), .ref (x 76), .ref (x 81), .ref (x 84), .ref (x 89), .ref (x 97)])), ((x 1), .inr (10, [.int (0 : Int32), .ref (x 2), .int (0 : Int32), .ref (x 3), .ref (x 4), .int (0 : Int32), .ref (x 5), .ref (x 6), .ref (x 7), .ref (x 8), .ref (x 9), .long (1 : Int64)]))] H locs := X
  refine W.widen (k := 0) (n := 0) (Nat.le_of_ble_eq_true rfl) (Nat.le_of_ble_eq_true rfl) ?_
  obtain ⟨rfl, fw_3⟩ : r_2 = (0 : Int32) ∧ True := w_3
  refine lv_if_eq (tgt := 30) hx hb dX11_place_8 (by decide) (fun _ => ?_) (fun c0 => absurd (by decide) c0)
  refine lv_iconst (v := (-1 : Int32)) hx hb dX11_place_30 (by decide) ?_
  exact x_iret C X hr hlk (v := (-1 : Int32)) (by first | rfl | decide) (()) [] (by decide) rfl (⟨rfl, trivial⟩) (Nat.le_of_ble_eq_true rfl) (Nat.le_of_ble_eq_true rfl) dX11_place_31
set_option maxHeartbeats 4000000 in
set_option maxRecDepth 100000 in
theorem cx_won (l : Launch) (D : va_G) (cI cJ cZ cB : ClassId) (cO : ClassId) (x : Nat → Nat) (p1 p2 p3 p4 : Int32) :
    CI l D [(cI, .int), (cJ, .long), (cZ, .boolean), (cB, .byte), (cO, .object "LuckLinks$World")] yX11_won cX11_won 5 (some .int) ({ frames := 1, cells := 0, slots := 0, locals := 21 } : Room) [.ref (x 0), .int p1, .int p2, .int p3, .int p4] [((x 0), .inr (11, [.ref (x 1), .ref (x 10), .int (0 : Int32), .ref (x 11), .int (0 : Int32), .ref (x 12), .ref (x 34), .ref (x 50), .int (-1 : Int32), .ref (x 66), .ref (x 67), .ref (x 68), .ref (x 76), .ref (x 81), .ref (x 84), .ref (x 89), .ref (x 97)])), ((x 1), .inr (10, [.int (0 : Int32), .ref (x 2), .int (0 : Int32), .ref (x 3), .ref (x 4), .int (0 : Int32), .ref (x 5), .ref (x 6), .ref (x 7), .ref (x 8), .ref (x 9), .long (1 : Int64)]))] (fun (r : Int32) (u : Unit) => (r = (-1 : Int32) ∧ True)) (fun (_ : Unit) => []) := by
  intro sz
  refine body_of (y := yX11_won) (cc := cX11_won) (maxL := 5) (ret := (some .int)) (rm := ({ frames := 1, cells := 0, slots := 0, locals := 21 } : Room)) (wc := [((x 0), .inr (11, [.ref (x 1), .ref (x 10), .int (0 : Int32), .ref (x 11), .int (0 : Int32), .ref (x 12), .ref (x 34), .ref (x 50), .int (-1 : Int32), .ref (x 66), .ref (x 67), .ref (x 68), .ref (x 76), .ref (x 81), .ref (x 84), .ref (x 89), .ref (x 97)])), ((x 1), .inr (10, [.int (0 : Int32), .ref (x 2), .int (0 : Int32), .ref (x 3), .ref (x 4), .int (0 : Int32), .ref (x 5), .ref (x 6), .ref (x 7), .ref (x 8), .ref (x 9), .long (1 : Int64)]))]) (tys := [(cI, .int), (cJ, .long), (cZ, .boolean), (cB, .byte), (cO, .object "LuckLinks$World")]) (D := D) (sz := sz) (own := RX11) (av := [.ref (x 0), .int p1, .int p2, .int p3, .int p4]) (Qc := fun A => va_Qi (fun (r : Int32) (u : Unit) => (r = (-1 : Int32) ∧ True)) (fun u t => Aft D A ((fun (_ : Unit) => []) u) t) A) (by decide) rfl (Nat.le_of_ble_eq_true rfl) (fun p e s m below meth c A ls C hr hlk hin X hl => ?_)
  have hx := C.1
  have hb := C.2.1
  have hown := C.2.2.2.1
  have hts := C.2.2.2.2.1
  have hl : lv_has ls 5 [(0, .ref (x 0)), (1, .int p1), (2, .int p2), (3, .int p3), (4, .int p4)] := hl
  show W p l e _ s m _ below meth c s.heap [] 0 0 (MQ below (va_Qi (fun (r : Int32) (u : Unit) => (r = (-1 : Int32) ∧ True)) (fun u t => Aft D A ((fun (_ : Unit) => []) u) t) A) ([.ref (x 0), .int p1, .int p2, .int p3, .int p4] : List Value).toArray s 0 0 A) (F0 m 0 ls [])
  have X : Wd D A s [((x 0), .inr (11, [.ref (x 1), .ref (x 10), .int (0 : Int32), .ref (x 11), .int (0 : Int32), .ref (x 12), .ref (x 34), .ref (x 50), .int (-1 : Int32), .ref (x 66), .ref (x 67), .ref (x 68), .ref (x 76), .ref (x 81), .ref (x 84), .ref (x 89), .ref (x 97)])), ((x 1), .inr (10, [.int (0 : Int32), .ref (x 2), .int (0 : Int32), .ref (x 3), .ref (x 4), .int (0 : Int32), .ref (x 5), .ref (x 6), .ref (x 7), .ref (x 8), .ref (x 9), .long (1 : Int64)]))] s.heap [] := X
  obtain ⟨H, locs, eH, eL⟩ : ∃ H locs, H = s.heap ∧ locs = ([] : List Loc) := ⟨_, _, rfl, rfl⟩
  rw [← eH, ← eL] at X ⊢
  clear eH eL
  refine lv_aload_n hx hb dX11_won_0 rfl (lv_at hl 0 rfl) ?_
  refine x_get (own := RX11) (T := TX11) C X 0 rfl rfl 0 (by decide) k_1_15 rfl rfl (v := .ref (x 1)) rfl dX11_won_1 ?_
  refine lv_iload_n hx hb dX11_won_4 rfl (lv_at hl 1 rfl) ?_
  refine x_cV (own := RX11) (wr := [((x 0), .inr (11, [.ref (x 1), .ref (x 10), .int (0 : Int32), .ref (x 11), .int (0 : Int32), .ref (x 12), .ref (x 34), .ref (x 50), .int (-1 : Int32), .ref (x 66), .ref (x 67), .ref (x 68), .ref (x 76), .ref (x 81), .ref (x 84), .ref (x 89), .ref (x 97)]))]) (As := [.int p1]) C X hl.1 (c_isPlayer l D cI cJ cZ cB cO (fun k => x (k + 1)) p1) [1] [0] ⟨rfl, rfl, by decide, by decide, by decide⟩ (qb := 0) rfl rfl k_17_3 k_15_5 k_15_6 k_1_14 k_15_7 (n := 1) (by decide +kernel) ⟨Nat.le_of_ble_eq_true rfl, Nat.le_of_ble_eq_true rfl⟩ rfl rfl (Nat.le_of_ble_eq_true rfl) dX11_won_5 ⟨Nat.le_of_ble_eq_true rfl, Nat.le_of_ble_eq_true rfl⟩ (fun r_2 u_1 H locs w_3 X => ?_)
  have X : Wd D A s [((x 0), .inr (11, [.ref (x 1), .ref (x 10), .int (0 : Int32), .ref (x 11), .int (0 : Int32), .ref (x 12), .ref (x 34), .ref (x 50), .int (-1 : Int32), .ref (x 66), .ref (x 67), .ref (x 68), .ref (x 76), .ref (x 81), .ref (x 84), .ref (x 89), .ref (x 97)])), ((x 1), .inr (10, [.int (0 : Int32), .ref (x 2), .int (0 : Int32), .ref (x 3), .ref (x 4), .int (0 : Int32), .ref (x 5), .ref (x 6), .ref (x 7), .ref (x 8), .ref (x 9), .long (1 : Int64)]))] H locs := X
  refine W.widen (k := 0) (n := 0) (Nat.le_of_ble_eq_true rfl) (Nat.le_of_ble_eq_true rfl) ?_
  obtain ⟨rfl, fw_3⟩ : r_2 = (0 : Int32) ∧ True := w_3
  refine lv_if_eq (tgt := 29) hx hb dX11_won_8 (by decide) (fun _ => ?_) (fun c0 => absurd (by decide) c0)
  refine lv_iconst (v := (-1 : Int32)) hx hb dX11_won_29 (by decide) ?_
  exact x_iret C X hr hlk (v := (-1 : Int32)) (by first | rfl | decide) (()) [] (by decide) rfl (⟨rfl, trivial⟩) (Nat.le_of_ble_eq_true rfl) (Nat.le_of_ble_eq_true rfl) dX11_won_30
set_option maxHeartbeats 4000000 in
set_option maxRecDepth 100000 in
theorem cx_cut (l : Launch) (D : va_G) (cI cJ cZ cB : ClassId) (cO : ClassId) (x : Nat → Nat) (p1 p2 p3 : Int32) :
    CI l D [(cI, .int), (cJ, .long), (cZ, .boolean), (cB, .byte), (cO, .object "LuckLinks$World")] yX11_cut cX11_cut 4 (some .int) ({ frames := 2, cells := 0, slots := 0, locals := 42 } : Room) [.ref (x 0), .int p1, .int p2, .int p3] [((x 0), .inr (11, [.ref (x 1), .ref (x 10), .int (0 : Int32), .ref (x 11), .int (0 : Int32), .ref (x 12), .ref (x 34), .ref (x 50), .int (-1 : Int32), .ref (x 66), .ref (x 67), .ref (x 68), .ref (x 76), .ref (x 81), .ref (x 84), .ref (x 89), .ref (x 97)])), ((x 34), .inr (3, [.int (0 : Int32), .ref (x 35), .ref (x 36), .ref (x 37), .ref (x 38), .ref (x 39), .ref (x 40), .ref (x 41), .int (0 : Int32), .ref (x 42), .ref (x 43), .ref (x 44), .int (0 : Int32), .ref (x 45), .ref (x 46), .ref (x 47), .ref (x 48), .int (0 : Int32), .ref (x 49)])), ((x 37), .inl (cI, 3, .inl (fun _ => (0 : Int32))))] (fun (r : Int32) (u : Unit) => (r = (-1 : Int32) ∧ True)) (fun (_ : Unit) => []) := by
  intro sz
  refine body_of (y := yX11_cut) (cc := cX11_cut) (maxL := 4) (ret := (some .int)) (rm := ({ frames := 2, cells := 0, slots := 0, locals := 42 } : Room)) (wc := [((x 0), .inr (11, [.ref (x 1), .ref (x 10), .int (0 : Int32), .ref (x 11), .int (0 : Int32), .ref (x 12), .ref (x 34), .ref (x 50), .int (-1 : Int32), .ref (x 66), .ref (x 67), .ref (x 68), .ref (x 76), .ref (x 81), .ref (x 84), .ref (x 89), .ref (x 97)])), ((x 34), .inr (3, [.int (0 : Int32), .ref (x 35), .ref (x 36), .ref (x 37), .ref (x 38), .ref (x 39), .ref (x 40), .ref (x 41), .int (0 : Int32), .ref (x 42), .ref (x 43), .ref (x 44), .int (0 : Int32), .ref (x 45), .ref (x 46), .ref (x 47), .ref (x 48), .int (0 : Int32), .ref (x 49)])), ((x 37), .inl (cI, 3, .inl (fun _ => (0 : Int32))))]) (tys := [(cI, .int), (cJ, .long), (cZ, .boolean), (cB, .byte), (cO, .object "LuckLinks$World")]) (D := D) (sz := sz) (own := RX11) (av := [.ref (x 0), .int p1, .int p2, .int p3]) (Qc := fun A => va_Qi (fun (r : Int32) (u : Unit) => (r = (-1 : Int32) ∧ True)) (fun u t => Aft D A ((fun (_ : Unit) => []) u) t) A) (by decide) rfl (Nat.le_of_ble_eq_true rfl) (fun p e s m below meth c A ls C hr hlk hin X hl => ?_)
  have hx := C.1
  have hb := C.2.1
  have hown := C.2.2.2.1
  have hts := C.2.2.2.2.1
  have hl : lv_has ls 4 [(0, .ref (x 0)), (1, .int p1), (2, .int p2), (3, .int p3)] := hl
  show W p l e _ s m _ below meth c s.heap [] 0 0 (MQ below (va_Qi (fun (r : Int32) (u : Unit) => (r = (-1 : Int32) ∧ True)) (fun u t => Aft D A ((fun (_ : Unit) => []) u) t) A) ([.ref (x 0), .int p1, .int p2, .int p3] : List Value).toArray s 0 0 A) (F0 m 0 ls [])
  have X : Wd D A s [((x 0), .inr (11, [.ref (x 1), .ref (x 10), .int (0 : Int32), .ref (x 11), .int (0 : Int32), .ref (x 12), .ref (x 34), .ref (x 50), .int (-1 : Int32), .ref (x 66), .ref (x 67), .ref (x 68), .ref (x 76), .ref (x 81), .ref (x 84), .ref (x 89), .ref (x 97)])), ((x 34), .inr (3, [.int (0 : Int32), .ref (x 35), .ref (x 36), .ref (x 37), .ref (x 38), .ref (x 39), .ref (x 40), .ref (x 41), .int (0 : Int32), .ref (x 42), .ref (x 43), .ref (x 44), .int (0 : Int32), .ref (x 45), .ref (x 46), .ref (x 47), .ref (x 48), .int (0 : Int32), .ref (x 49)])), ((x 37), .inl (cI, 3, .inl (fun _ => (0 : Int32))))] s.heap [] := X
  obtain ⟨H, locs, eH, eL⟩ : ∃ H locs, H = s.heap ∧ locs = ([] : List Loc) := ⟨_, _, rfl, rfl⟩
  rw [← eH, ← eL] at X ⊢
  clear eH eL
  refine lv_iload_n hx hb dX11_cut_0 rfl (lv_at hl 1 rfl) ?_
  refine x_cS (own := RX11) (wr := [((x 0), .inr (11, [.ref (x 1), .ref (x 10), .int (0 : Int32), .ref (x 11), .int (0 : Int32), .ref (x 12), .ref (x 34), .ref (x 50), .int (-1 : Int32), .ref (x 66), .ref (x 67), .ref (x 68), .ref (x 76), .ref (x 81), .ref (x 84), .ref (x 89), .ref (x 97)])), ((x 34), .inr (3, [.int (0 : Int32), .ref (x 35), .ref (x 36), .ref (x 37), .ref (x 38), .ref (x 39), .ref (x 40), .ref (x 41), .int (0 : Int32), .ref (x 42), .ref (x 43), .ref (x 44), .int (0 : Int32), .ref (x 45), .ref (x 46), .ref (x 47), .ref (x 48), .int (0 : Int32), .ref (x 49)])), ((x 37), .inl (cI, 3, .inl (fun _ => (0 : Int32))))]) (As := [.int p1]) C X hl.1 (c_isWeek l D cI cJ cZ cB cO p1) [] [0, 1, 2] ⟨rfl, rfl, by decide, by decide, by decide⟩ k_14_0 k_14_1 k_1_2 k_14_2 (n := 1) (by decide +kernel) ⟨Nat.le_of_ble_eq_true rfl, Nat.le_of_ble_eq_true rfl⟩ rfl rfl (Nat.le_of_ble_eq_true rfl) dX11_cut_1 ⟨Nat.le_of_ble_eq_true rfl, Nat.le_of_ble_eq_true rfl⟩ (fun r_2 u_1 H locs w_3 X => ?_)
  have X : Wd D A s [((x 0), .inr (11, [.ref (x 1), .ref (x 10), .int (0 : Int32), .ref (x 11), .int (0 : Int32), .ref (x 12), .ref (x 34), .ref (x 50), .int (-1 : Int32), .ref (x 66), .ref (x 67), .ref (x 68), .ref (x 76), .ref (x 81), .ref (x 84), .ref (x 89), .ref (x 97)])), ((x 34), .inr (3, [.int (0 : Int32), .ref (x 35), .ref (x 36), .ref (x 37), .ref (x 38), .ref (x 39), .ref (x 40), .ref (x 41), .int (0 : Int32), .ref (x 42), .ref (x 43), .ref (x 44), .int (0 : Int32), .ref (x 45), .ref (x 46), .ref (x 47), .ref (x 48), .int (0 : Int32), .ref (x 49)])), ((x 37), .inl (cI, 3, .inl (fun _ => (0 : Int32))))] H locs := X
  refine W.widen (k := 0) (n := 0) (Nat.le_of_ble_eq_true rfl) (Nat.le_of_ble_eq_true rfl) ?_
  obtain ⟨rfl, fw_3⟩ | ⟨rfl, fw_3⟩ : (r_2 = (1 : Int32) ∧ (0 ≤ (p1).toInt ∧ (p1).toInt ≤ 39)) ∨ (r_2 = (0 : Int32) ∧ ((p1).toInt < 0 ∨ 39 < (p1).toInt)) := w_3
  · refine lv_if_eq (tgt := 25) hx hb dX11_cut_4 (by decide) (fun c0 => absurd c0 (by decide)) (fun _ => ?_)
    refine lv_iload_n hx hb dX11_cut_7 rfl (lv_at hl 2 rfl) ?_
    refine lv_iconst (v := (0 : Int32)) hx hb dX11_cut_8 (by decide) ?_
    refine lv_iconst (v := (2 : Int32)) hx hb dX11_cut_9 (by decide) ?_
    refine x_cS (own := RX11) (wr := [((x 0), .inr (11, [.ref (x 1), .ref (x 10), .int (0 : Int32), .ref (x 11), .int (0 : Int32), .ref (x 12), .ref (x 34), .ref (x 50), .int (-1 : Int32), .ref (x 66), .ref (x 67), .ref (x 68), .ref (x 76), .ref (x 81), .ref (x 84), .ref (x 89), .ref (x 97)])), ((x 34), .inr (3, [.int (0 : Int32), .ref (x 35), .ref (x 36), .ref (x 37), .ref (x 38), .ref (x 39), .ref (x 40), .ref (x 41), .int (0 : Int32), .ref (x 42), .ref (x 43), .ref (x 44), .int (0 : Int32), .ref (x 45), .ref (x 46), .ref (x 47), .ref (x 48), .int (0 : Int32), .ref (x 49)])), ((x 37), .inl (cI, 3, .inl (fun _ => (0 : Int32))))]) (As := [.int p2, .int (0 : Int32), .int (2 : Int32)]) C X hl.1 (c_isBetween l D cI cJ cZ cB cO p2 (0 : Int32) (2 : Int32)) [] [0, 1, 2] ⟨rfl, rfl, by decide, by decide, by decide⟩ k_12_5 k_12_6 k_1_2 k_12_7 (n := 3) (by decide +kernel) ⟨Nat.le_of_ble_eq_true rfl, Nat.le_of_ble_eq_true rfl⟩ rfl rfl (Nat.le_of_ble_eq_true rfl) dX11_cut_10 ⟨Nat.le_of_ble_eq_true rfl, Nat.le_of_ble_eq_true rfl⟩ (fun r_5 u_4 H locs w_6 X => ?_)
    have X : Wd D A s [((x 0), .inr (11, [.ref (x 1), .ref (x 10), .int (0 : Int32), .ref (x 11), .int (0 : Int32), .ref (x 12), .ref (x 34), .ref (x 50), .int (-1 : Int32), .ref (x 66), .ref (x 67), .ref (x 68), .ref (x 76), .ref (x 81), .ref (x 84), .ref (x 89), .ref (x 97)])), ((x 34), .inr (3, [.int (0 : Int32), .ref (x 35), .ref (x 36), .ref (x 37), .ref (x 38), .ref (x 39), .ref (x 40), .ref (x 41), .int (0 : Int32), .ref (x 42), .ref (x 43), .ref (x 44), .int (0 : Int32), .ref (x 45), .ref (x 46), .ref (x 47), .ref (x 48), .int (0 : Int32), .ref (x 49)])), ((x 37), .inl (cI, 3, .inl (fun _ => (0 : Int32))))] H locs := X
    refine W.widen (k := 0) (n := 0) (Nat.le_of_ble_eq_true rfl) (Nat.le_of_ble_eq_true rfl) ?_
    obtain ⟨rfl, fw_6⟩ | ⟨rfl, fw_6⟩ : (r_5 = (1 : Int32) ∧ ((0 : Int) ≤ (p2).toInt ∧ (p2).toInt ≤ (2 : Int))) ∨ (r_5 = (0 : Int32) ∧ ((p2).toInt < (0 : Int) ∨ (2 : Int) < (p2).toInt)) := w_6
    · refine lv_if_eq (tgt := 25) hx hb dX11_cut_13 (by decide) (fun c0 => absurd c0 (by decide)) (fun _ => ?_)
      refine lv_iload_n hx hb dX11_cut_16 rfl (lv_at hl 3 rfl) ?_
      refine lv_iconst (v := (0 : Int32)) hx hb dX11_cut_17 (by decide) ?_
      refine lv_iconst (v := (3 : Int32)) hx hb dX11_cut_18 (by decide) ?_
      refine x_cS (own := RX11) (wr := [((x 0), .inr (11, [.ref (x 1), .ref (x 10), .int (0 : Int32), .ref (x 11), .int (0 : Int32), .ref (x 12), .ref (x 34), .ref (x 50), .int (-1 : Int32), .ref (x 66), .ref (x 67), .ref (x 68), .ref (x 76), .ref (x 81), .ref (x 84), .ref (x 89), .ref (x 97)])), ((x 34), .inr (3, [.int (0 : Int32), .ref (x 35), .ref (x 36), .ref (x 37), .ref (x 38), .ref (x 39), .ref (x 40), .ref (x 41), .int (0 : Int32), .ref (x 42), .ref (x 43), .ref (x 44), .int (0 : Int32), .ref (x 45), .ref (x 46), .ref (x 47), .ref (x 48), .int (0 : Int32), .ref (x 49)])), ((x 37), .inl (cI, 3, .inl (fun _ => (0 : Int32))))]) (As := [.int p3, .int (0 : Int32), .int (3 : Int32)]) C X hl.1 (c_isBetween l D cI cJ cZ cB cO p3 (0 : Int32) (3 : Int32)) [] [0, 1, 2] ⟨rfl, rfl, by decide, by decide, by decide⟩ k_12_5 k_12_6 k_1_2 k_12_7 (n := 3) (by decide +kernel) ⟨Nat.le_of_ble_eq_true rfl, Nat.le_of_ble_eq_true rfl⟩ rfl rfl (Nat.le_of_ble_eq_true rfl) dX11_cut_19 ⟨Nat.le_of_ble_eq_true rfl, Nat.le_of_ble_eq_true rfl⟩ (fun r_8 u_7 H locs w_9 X => ?_)
      have X : Wd D A s [((x 0), .inr (11, [.ref (x 1), .ref (x 10), .int (0 : Int32), .ref (x 11), .int (0 : Int32), .ref (x 12), .ref (x 34), .ref (x 50), .int (-1 : Int32), .ref (x 66), .ref (x 67), .ref (x 68), .ref (x 76), .ref (x 81), .ref (x 84), .ref (x 89), .ref (x 97)])), ((x 34), .inr (3, [.int (0 : Int32), .ref (x 35), .ref (x 36), .ref (x 37), .ref (x 38), .ref (x 39), .ref (x 40), .ref (x 41), .int (0 : Int32), .ref (x 42), .ref (x 43), .ref (x 44), .int (0 : Int32), .ref (x 45), .ref (x 46), .ref (x 47), .ref (x 48), .int (0 : Int32), .ref (x 49)])), ((x 37), .inl (cI, 3, .inl (fun _ => (0 : Int32))))] H locs := X
      refine W.widen (k := 0) (n := 0) (Nat.le_of_ble_eq_true rfl) (Nat.le_of_ble_eq_true rfl) ?_
      obtain ⟨rfl, fw_9⟩ | ⟨rfl, fw_9⟩ : (r_8 = (1 : Int32) ∧ ((0 : Int) ≤ (p3).toInt ∧ (p3).toInt ≤ (3 : Int))) ∨ (r_8 = (0 : Int32) ∧ ((p3).toInt < (0 : Int) ∨ (3 : Int) < (p3).toInt)) := w_9
      · refine lv_if_ne (tgt := 27) hx hb dX11_cut_22 (by decide) (fun _ => ?_) (fun c0 => absurd c0 (by decide))
        refine lv_aload_n hx hb dX11_cut_27 rfl (lv_at hl 0 rfl) ?_
        refine x_get (own := RX11) (T := TX11) C X 0 rfl rfl 6 (by decide) k_2_4 rfl rfl (v := .ref (x 34)) rfl dX11_cut_28 ?_
        refine x_get (own := RX11) (T := TX3) C X 1 rfl rfl 3 (by decide) k_30_15 rfl rfl (v := .ref (x 37)) rfl dX11_cut_31 ?_
        refine lv_iload_n hx hb dX11_cut_34 rfl (lv_at hl 2 rfl) ?_
        refine x_iald C X 2 0 rfl rfl (j := (p2).toInt.toNat) rfl (vp_in_iff.mpr ⟨by omega, by omega⟩) (v := (0 : Int32)) (rfl) dX11_cut_35 ?_
        refine lv_if_eq (tgt := 51) hx hb dX11_cut_36 (by decide) (fun _ => ?_) (fun c0 => absurd (by decide) c0)
        refine lv_iconst (v := (-1 : Int32)) hx hb dX11_cut_51 (by decide) ?_
        exact x_iret C X hr hlk (v := (-1 : Int32)) (by first | rfl | decide) (()) [] (by decide) rfl (⟨rfl, trivial⟩) (Nat.le_of_ble_eq_true rfl) (Nat.le_of_ble_eq_true rfl) dX11_cut_52
      · refine lv_if_ne (tgt := 27) hx hb dX11_cut_22 (by decide) (fun c0 => absurd (by decide) c0) (fun _ => ?_)
        refine lv_iconst (v := (-1 : Int32)) hx hb dX11_cut_25 (by decide) ?_
        exact x_iret C X hr hlk (v := (-1 : Int32)) (by first | rfl | decide) (()) [] (by decide) rfl (⟨rfl, trivial⟩) (Nat.le_of_ble_eq_true rfl) (Nat.le_of_ble_eq_true rfl) dX11_cut_26
    · refine lv_if_eq (tgt := 25) hx hb dX11_cut_13 (by decide) (fun _ => ?_) (fun c0 => absurd (by decide) c0)
      refine lv_iconst (v := (-1 : Int32)) hx hb dX11_cut_25 (by decide) ?_
      exact x_iret C X hr hlk (v := (-1 : Int32)) (by first | rfl | decide) (()) [] (by decide) rfl (⟨rfl, trivial⟩) (Nat.le_of_ble_eq_true rfl) (Nat.le_of_ble_eq_true rfl) dX11_cut_26
  · refine lv_if_eq (tgt := 25) hx hb dX11_cut_4 (by decide) (fun _ => ?_) (fun c0 => absurd (by decide) c0)
    refine lv_iconst (v := (-1 : Int32)) hx hb dX11_cut_25 (by decide) ?_
    exact x_iret C X hr hlk (v := (-1 : Int32)) (by first | rfl | decide) (()) [] (by decide) rfl (⟨rfl, trivial⟩) (Nat.le_of_ble_eq_true rfl) (Nat.le_of_ble_eq_true rfl) dX11_cut_26
set_option maxHeartbeats 4000000 in
set_option maxRecDepth 100000 in
theorem cx_skill (l : Launch) (D : va_G) (cI cJ cZ cB : ClassId) (cO : ClassId) (x : Nat → Nat) (p1 p2 p3 p4 : Int32) :
    CL l D [(cI, .int), (cJ, .long), (cZ, .boolean), (cB, .byte), (cO, .object "LuckLinks$World")] yX11_skill cX11_skill 5 ({ frames := 1, cells := 0, slots := 0, locals := 21 } : Room) [.ref (x 0), .int p1, .int p2, .int p3, .int p4] [((x 0), .inr (11, [.ref (x 1), .ref (x 10), .int (0 : Int32), .ref (x 11), .int (0 : Int32), .ref (x 12), .ref (x 34), .ref (x 50), .int (-1 : Int32), .ref (x 66), .ref (x 67), .ref (x 68), .ref (x 76), .ref (x 81), .ref (x 84), .ref (x 89), .ref (x 97)])), ((x 1), .inr (10, [.int (0 : Int32), .ref (x 2), .int (0 : Int32), .ref (x 3), .ref (x 4), .int (0 : Int32), .ref (x 5), .ref (x 6), .ref (x 7), .ref (x 8), .ref (x 9), .long (1 : Int64)]))] (fun (r : Int64) (u : Unit) => (r = (-1000000000000 : Int64) ∧ True)) (fun (_ : Unit) => []) := by
  intro sz
  refine body_of (y := yX11_skill) (cc := cX11_skill) (maxL := 5) (ret := (some .long)) (rm := ({ frames := 1, cells := 0, slots := 0, locals := 21 } : Room)) (wc := [((x 0), .inr (11, [.ref (x 1), .ref (x 10), .int (0 : Int32), .ref (x 11), .int (0 : Int32), .ref (x 12), .ref (x 34), .ref (x 50), .int (-1 : Int32), .ref (x 66), .ref (x 67), .ref (x 68), .ref (x 76), .ref (x 81), .ref (x 84), .ref (x 89), .ref (x 97)])), ((x 1), .inr (10, [.int (0 : Int32), .ref (x 2), .int (0 : Int32), .ref (x 3), .ref (x 4), .int (0 : Int32), .ref (x 5), .ref (x 6), .ref (x 7), .ref (x 8), .ref (x 9), .long (1 : Int64)]))]) (tys := [(cI, .int), (cJ, .long), (cZ, .boolean), (cB, .byte), (cO, .object "LuckLinks$World")]) (D := D) (sz := sz) (own := RX11) (av := [.ref (x 0), .int p1, .int p2, .int p3, .int p4]) (Qc := fun A => va_Ql (fun (r : Int64) (u : Unit) => (r = (-1000000000000 : Int64) ∧ True)) (fun u t => Aft D A ((fun (_ : Unit) => []) u) t) A) (by decide) rfl (Nat.le_of_ble_eq_true rfl) (fun p e s m below meth c A ls C hr hlk hin X hl => ?_)
  have hx := C.1
  have hb := C.2.1
  have hown := C.2.2.2.1
  have hts := C.2.2.2.2.1
  have hl : lv_has ls 5 [(0, .ref (x 0)), (1, .int p1), (2, .int p2), (3, .int p3), (4, .int p4)] := hl
  show W p l e _ s m _ below meth c s.heap [] 0 0 (MQ below (va_Ql (fun (r : Int64) (u : Unit) => (r = (-1000000000000 : Int64) ∧ True)) (fun u t => Aft D A ((fun (_ : Unit) => []) u) t) A) ([.ref (x 0), .int p1, .int p2, .int p3, .int p4] : List Value).toArray s 0 0 A) (F0 m 0 ls [])
  have X : Wd D A s [((x 0), .inr (11, [.ref (x 1), .ref (x 10), .int (0 : Int32), .ref (x 11), .int (0 : Int32), .ref (x 12), .ref (x 34), .ref (x 50), .int (-1 : Int32), .ref (x 66), .ref (x 67), .ref (x 68), .ref (x 76), .ref (x 81), .ref (x 84), .ref (x 89), .ref (x 97)])), ((x 1), .inr (10, [.int (0 : Int32), .ref (x 2), .int (0 : Int32), .ref (x 3), .ref (x 4), .int (0 : Int32), .ref (x 5), .ref (x 6), .ref (x 7), .ref (x 8), .ref (x 9), .long (1 : Int64)]))] s.heap [] := X
  obtain ⟨H, locs, eH, eL⟩ : ∃ H locs, H = s.heap ∧ locs = ([] : List Loc) := ⟨_, _, rfl, rfl⟩
  rw [← eH, ← eL] at X ⊢
  clear eH eL
  refine lv_aload_n hx hb dX11_skill_0 rfl (lv_at hl 0 rfl) ?_
  refine x_get (own := RX11) (T := TX11) C X 0 rfl rfl 0 (by decide) k_1_15 rfl rfl (v := .ref (x 1)) rfl dX11_skill_1 ?_
  refine lv_iload_n hx hb dX11_skill_4 rfl (lv_at hl 1 rfl) ?_
  refine x_cV (own := RX11) (wr := [((x 0), .inr (11, [.ref (x 1), .ref (x 10), .int (0 : Int32), .ref (x 11), .int (0 : Int32), .ref (x 12), .ref (x 34), .ref (x 50), .int (-1 : Int32), .ref (x 66), .ref (x 67), .ref (x 68), .ref (x 76), .ref (x 81), .ref (x 84), .ref (x 89), .ref (x 97)]))]) (As := [.int p1]) C X hl.1 (c_isPlayer l D cI cJ cZ cB cO (fun k => x (k + 1)) p1) [1] [0] ⟨rfl, rfl, by decide, by decide, by decide⟩ (qb := 0) rfl rfl k_17_3 k_15_5 k_15_6 k_1_14 k_15_7 (n := 1) (by decide +kernel) ⟨Nat.le_of_ble_eq_true rfl, Nat.le_of_ble_eq_true rfl⟩ rfl rfl (Nat.le_of_ble_eq_true rfl) dX11_skill_5 ⟨Nat.le_of_ble_eq_true rfl, Nat.le_of_ble_eq_true rfl⟩ (fun r_2 u_1 H locs w_3 X => ?_)
  have X : Wd D A s [((x 0), .inr (11, [.ref (x 1), .ref (x 10), .int (0 : Int32), .ref (x 11), .int (0 : Int32), .ref (x 12), .ref (x 34), .ref (x 50), .int (-1 : Int32), .ref (x 66), .ref (x 67), .ref (x 68), .ref (x 76), .ref (x 81), .ref (x 84), .ref (x 89), .ref (x 97)])), ((x 1), .inr (10, [.int (0 : Int32), .ref (x 2), .int (0 : Int32), .ref (x 3), .ref (x 4), .int (0 : Int32), .ref (x 5), .ref (x 6), .ref (x 7), .ref (x 8), .ref (x 9), .long (1 : Int64)]))] H locs := X
  refine W.widen (k := 0) (n := 0) (Nat.le_of_ble_eq_true rfl) (Nat.le_of_ble_eq_true rfl) ?_
  obtain ⟨rfl, fw_3⟩ : r_2 = (0 : Int32) ∧ True := w_3
  refine lv_if_eq (tgt := 28) hx hb dX11_skill_8 (by decide) (fun _ => ?_) (fun c0 => absurd (by decide) c0)
  refine lv_ldc2 (own := RX11) (v := (-1000000000000 : Int64)) hx hb hown (hts _ k_46_17) dX11_skill_28 ?_
  exact x_lret C X hr hlk (v := (-1000000000000 : Int64)) (()) [] (by decide) rfl (⟨rfl, trivial⟩) (Nat.le_of_ble_eq_true rfl) (Nat.le_of_ble_eq_true rfl) dX11_skill_31
set_option maxHeartbeats 4000000 in
set_option maxRecDepth 100000 in
theorem cx_span (l : Launch) (D : va_G) (cI cJ cZ cB : ClassId) (cO : ClassId) (x : Nat → Nat) (p1 p2 p3 p4 : Int32) :
    CI l D [(cI, .int), (cJ, .long), (cZ, .boolean), (cB, .byte), (cO, .object "LuckLinks$World")] yX11_span cX11_span 5 (some .int) ({ frames := 1, cells := 0, slots := 0, locals := 21 } : Room) [.ref (x 0), .int p1, .int p2, .int p3, .int p4] [((x 0), .inr (11, [.ref (x 1), .ref (x 10), .int (0 : Int32), .ref (x 11), .int (0 : Int32), .ref (x 12), .ref (x 34), .ref (x 50), .int (-1 : Int32), .ref (x 66), .ref (x 67), .ref (x 68), .ref (x 76), .ref (x 81), .ref (x 84), .ref (x 89), .ref (x 97)])), ((x 1), .inr (10, [.int (0 : Int32), .ref (x 2), .int (0 : Int32), .ref (x 3), .ref (x 4), .int (0 : Int32), .ref (x 5), .ref (x 6), .ref (x 7), .ref (x 8), .ref (x 9), .long (1 : Int64)]))] (fun (r : Int32) (u : Unit) => (r = (-1000000 : Int32) ∧ True)) (fun (_ : Unit) => []) := by
  intro sz
  refine body_of (y := yX11_span) (cc := cX11_span) (maxL := 5) (ret := (some .int)) (rm := ({ frames := 1, cells := 0, slots := 0, locals := 21 } : Room)) (wc := [((x 0), .inr (11, [.ref (x 1), .ref (x 10), .int (0 : Int32), .ref (x 11), .int (0 : Int32), .ref (x 12), .ref (x 34), .ref (x 50), .int (-1 : Int32), .ref (x 66), .ref (x 67), .ref (x 68), .ref (x 76), .ref (x 81), .ref (x 84), .ref (x 89), .ref (x 97)])), ((x 1), .inr (10, [.int (0 : Int32), .ref (x 2), .int (0 : Int32), .ref (x 3), .ref (x 4), .int (0 : Int32), .ref (x 5), .ref (x 6), .ref (x 7), .ref (x 8), .ref (x 9), .long (1 : Int64)]))]) (tys := [(cI, .int), (cJ, .long), (cZ, .boolean), (cB, .byte), (cO, .object "LuckLinks$World")]) (D := D) (sz := sz) (own := RX11) (av := [.ref (x 0), .int p1, .int p2, .int p3, .int p4]) (Qc := fun A => va_Qi (fun (r : Int32) (u : Unit) => (r = (-1000000 : Int32) ∧ True)) (fun u t => Aft D A ((fun (_ : Unit) => []) u) t) A) (by decide) rfl (Nat.le_of_ble_eq_true rfl) (fun p e s m below meth c A ls C hr hlk hin X hl => ?_)
  have hx := C.1
  have hb := C.2.1
  have hown := C.2.2.2.1
  have hts := C.2.2.2.2.1
  have hl : lv_has ls 5 [(0, .ref (x 0)), (1, .int p1), (2, .int p2), (3, .int p3), (4, .int p4)] := hl
  show W p l e _ s m _ below meth c s.heap [] 0 0 (MQ below (va_Qi (fun (r : Int32) (u : Unit) => (r = (-1000000 : Int32) ∧ True)) (fun u t => Aft D A ((fun (_ : Unit) => []) u) t) A) ([.ref (x 0), .int p1, .int p2, .int p3, .int p4] : List Value).toArray s 0 0 A) (F0 m 0 ls [])
  have X : Wd D A s [((x 0), .inr (11, [.ref (x 1), .ref (x 10), .int (0 : Int32), .ref (x 11), .int (0 : Int32), .ref (x 12), .ref (x 34), .ref (x 50), .int (-1 : Int32), .ref (x 66), .ref (x 67), .ref (x 68), .ref (x 76), .ref (x 81), .ref (x 84), .ref (x 89), .ref (x 97)])), ((x 1), .inr (10, [.int (0 : Int32), .ref (x 2), .int (0 : Int32), .ref (x 3), .ref (x 4), .int (0 : Int32), .ref (x 5), .ref (x 6), .ref (x 7), .ref (x 8), .ref (x 9), .long (1 : Int64)]))] s.heap [] := X
  obtain ⟨H, locs, eH, eL⟩ : ∃ H locs, H = s.heap ∧ locs = ([] : List Loc) := ⟨_, _, rfl, rfl⟩
  rw [← eH, ← eL] at X ⊢
  clear eH eL
  refine lv_aload_n hx hb dX11_span_0 rfl (lv_at hl 0 rfl) ?_
  refine x_get (own := RX11) (T := TX11) C X 0 rfl rfl 0 (by decide) k_1_15 rfl rfl (v := .ref (x 1)) rfl dX11_span_1 ?_
  refine lv_iload_n hx hb dX11_span_4 rfl (lv_at hl 1 rfl) ?_
  refine x_cV (own := RX11) (wr := [((x 0), .inr (11, [.ref (x 1), .ref (x 10), .int (0 : Int32), .ref (x 11), .int (0 : Int32), .ref (x 12), .ref (x 34), .ref (x 50), .int (-1 : Int32), .ref (x 66), .ref (x 67), .ref (x 68), .ref (x 76), .ref (x 81), .ref (x 84), .ref (x 89), .ref (x 97)]))]) (As := [.int p1]) C X hl.1 (c_isPlayer l D cI cJ cZ cB cO (fun k => x (k + 1)) p1) [1] [0] ⟨rfl, rfl, by decide, by decide, by decide⟩ (qb := 0) rfl rfl k_17_3 k_15_5 k_15_6 k_1_14 k_15_7 (n := 1) (by decide +kernel) ⟨Nat.le_of_ble_eq_true rfl, Nat.le_of_ble_eq_true rfl⟩ rfl rfl (Nat.le_of_ble_eq_true rfl) dX11_span_5 ⟨Nat.le_of_ble_eq_true rfl, Nat.le_of_ble_eq_true rfl⟩ (fun r_2 u_1 H locs w_3 X => ?_)
  have X : Wd D A s [((x 0), .inr (11, [.ref (x 1), .ref (x 10), .int (0 : Int32), .ref (x 11), .int (0 : Int32), .ref (x 12), .ref (x 34), .ref (x 50), .int (-1 : Int32), .ref (x 66), .ref (x 67), .ref (x 68), .ref (x 76), .ref (x 81), .ref (x 84), .ref (x 89), .ref (x 97)])), ((x 1), .inr (10, [.int (0 : Int32), .ref (x 2), .int (0 : Int32), .ref (x 3), .ref (x 4), .int (0 : Int32), .ref (x 5), .ref (x 6), .ref (x 7), .ref (x 8), .ref (x 9), .long (1 : Int64)]))] H locs := X
  refine W.widen (k := 0) (n := 0) (Nat.le_of_ble_eq_true rfl) (Nat.le_of_ble_eq_true rfl) ?_
  obtain ⟨rfl, fw_3⟩ : r_2 = (0 : Int32) ∧ True := w_3
  refine lv_if_eq (tgt := 38) hx hb dX11_span_8 (by decide) (fun _ => ?_) (fun c0 => absurd (by decide) c0)
  refine lv_ldcw (own := RX11) (v := (-1000000 : Int32)) hx hb hown (hts _ k_49_5) dX11_span_38 ?_
  exact x_iret C X hr hlk (v := (-1000000 : Int32)) (by first | rfl | decide) (()) [] (by decide) rfl (⟨rfl, trivial⟩) (Nat.le_of_ble_eq_true rfl) (Nat.le_of_ble_eq_true rfl) dX11_span_41
set_option maxHeartbeats 4000000 in
set_option maxRecDepth 100000 in
theorem cx_years (l : Launch) (D : va_G) (cI cJ cZ cB : ClassId) (cO : ClassId) (x : Nat → Nat) (p1 : Int32) :
    CI l D [(cI, .int), (cJ, .long), (cZ, .boolean), (cB, .byte), (cO, .object "LuckLinks$World")] yX11_years cX11_years 2 (some .int) ({ frames := 1, cells := 0, slots := 0, locals := 21 } : Room) [.ref (x 0), .int p1] [((x 0), .inr (11, [.ref (x 1), .ref (x 10), .int (0 : Int32), .ref (x 11), .int (0 : Int32), .ref (x 12), .ref (x 34), .ref (x 50), .int (-1 : Int32), .ref (x 66), .ref (x 67), .ref (x 68), .ref (x 76), .ref (x 81), .ref (x 84), .ref (x 89), .ref (x 97)])), ((x 1), .inr (10, [.int (0 : Int32), .ref (x 2), .int (0 : Int32), .ref (x 3), .ref (x 4), .int (0 : Int32), .ref (x 5), .ref (x 6), .ref (x 7), .ref (x 8), .ref (x 9), .long (1 : Int64)]))] (fun (r : Int32) (u : Unit) => (r = (-1 : Int32) ∧ True)) (fun (_ : Unit) => []) := by
  intro sz
  refine body_of (y := yX11_years) (cc := cX11_years) (maxL := 2) (ret := (some .int)) (rm := ({ frames := 1, cells := 0, slots := 0, locals := 21 } : Room)) (wc := [((x 0), .inr (11, [.ref (x 1), .ref (x 10), .int (0 : Int32), .ref (x 11), .int (0 : Int32), .ref (x 12), .ref (x 34), .ref (x 50), .int (-1 : Int32), .ref (x 66), .ref (x 67), .ref (x 68), .ref (x 76), .ref (x 81), .ref (x 84), .ref (x 89), .ref (x 97)])), ((x 1), .inr (10, [.int (0 : Int32), .ref (x 2), .int (0 : Int32), .ref (x 3), .ref (x 4), .int (0 : Int32), .ref (x 5), .ref (x 6), .ref (x 7), .ref (x 8), .ref (x 9), .long (1 : Int64)]))]) (tys := [(cI, .int), (cJ, .long), (cZ, .boolean), (cB, .byte), (cO, .object "LuckLinks$World")]) (D := D) (sz := sz) (own := RX11) (av := [.ref (x 0), .int p1]) (Qc := fun A => va_Qi (fun (r : Int32) (u : Unit) => (r = (-1 : Int32) ∧ True)) (fun u t => Aft D A ((fun (_ : Unit) => []) u) t) A) (by decide) rfl (Nat.le_of_ble_eq_true rfl) (fun p e s m below meth c A ls C hr hlk hin X hl => ?_)
  have hx := C.1
  have hb := C.2.1
  have hown := C.2.2.2.1
  have hts := C.2.2.2.2.1
  have hl : lv_has ls 2 [(0, .ref (x 0)), (1, .int p1)] := hl
  show W p l e _ s m _ below meth c s.heap [] 0 0 (MQ below (va_Qi (fun (r : Int32) (u : Unit) => (r = (-1 : Int32) ∧ True)) (fun u t => Aft D A ((fun (_ : Unit) => []) u) t) A) ([.ref (x 0), .int p1] : List Value).toArray s 0 0 A) (F0 m 0 ls [])
  have X : Wd D A s [((x 0), .inr (11, [.ref (x 1), .ref (x 10), .int (0 : Int32), .ref (x 11), .int (0 : Int32), .ref (x 12), .ref (x 34), .ref (x 50), .int (-1 : Int32), .ref (x 66), .ref (x 67), .ref (x 68), .ref (x 76), .ref (x 81), .ref (x 84), .ref (x 89), .ref (x 97)])), ((x 1), .inr (10, [.int (0 : Int32), .ref (x 2), .int (0 : Int32), .ref (x 3), .ref (x 4), .int (0 : Int32), .ref (x 5), .ref (x 6), .ref (x 7), .ref (x 8), .ref (x 9), .long (1 : Int64)]))] s.heap [] := X
  obtain ⟨H, locs, eH, eL⟩ : ∃ H locs, H = s.heap ∧ locs = ([] : List Loc) := ⟨_, _, rfl, rfl⟩
  rw [← eH, ← eL] at X ⊢
  clear eH eL
  refine lv_aload_n hx hb dX11_years_0 rfl (lv_at hl 0 rfl) ?_
  refine x_get (own := RX11) (T := TX11) C X 0 rfl rfl 0 (by decide) k_1_15 rfl rfl (v := .ref (x 1)) rfl dX11_years_1 ?_
  refine lv_iload_n hx hb dX11_years_4 rfl (lv_at hl 1 rfl) ?_
  refine x_cV (own := RX11) (wr := [((x 0), .inr (11, [.ref (x 1), .ref (x 10), .int (0 : Int32), .ref (x 11), .int (0 : Int32), .ref (x 12), .ref (x 34), .ref (x 50), .int (-1 : Int32), .ref (x 66), .ref (x 67), .ref (x 68), .ref (x 76), .ref (x 81), .ref (x 84), .ref (x 89), .ref (x 97)]))]) (As := [.int p1]) C X hl.1 (c_isPlayer l D cI cJ cZ cB cO (fun k => x (k + 1)) p1) [1] [0] ⟨rfl, rfl, by decide, by decide, by decide⟩ (qb := 0) rfl rfl k_17_3 k_15_5 k_15_6 k_1_14 k_15_7 (n := 1) (by decide +kernel) ⟨Nat.le_of_ble_eq_true rfl, Nat.le_of_ble_eq_true rfl⟩ rfl rfl (Nat.le_of_ble_eq_true rfl) dX11_years_5 ⟨Nat.le_of_ble_eq_true rfl, Nat.le_of_ble_eq_true rfl⟩ (fun r_2 u_1 H locs w_3 X => ?_)
  have X : Wd D A s [((x 0), .inr (11, [.ref (x 1), .ref (x 10), .int (0 : Int32), .ref (x 11), .int (0 : Int32), .ref (x 12), .ref (x 34), .ref (x 50), .int (-1 : Int32), .ref (x 66), .ref (x 67), .ref (x 68), .ref (x 76), .ref (x 81), .ref (x 84), .ref (x 89), .ref (x 97)])), ((x 1), .inr (10, [.int (0 : Int32), .ref (x 2), .int (0 : Int32), .ref (x 3), .ref (x 4), .int (0 : Int32), .ref (x 5), .ref (x 6), .ref (x 7), .ref (x 8), .ref (x 9), .long (1 : Int64)]))] H locs := X
  refine W.widen (k := 0) (n := 0) (Nat.le_of_ble_eq_true rfl) (Nat.le_of_ble_eq_true rfl) ?_
  obtain ⟨rfl, fw_3⟩ : r_2 = (0 : Int32) ∧ True := w_3
  refine lv_if_ne (tgt := 13) hx hb dX11_years_8 (by decide) (fun c0 => absurd (by decide) c0) (fun _ => ?_)
  refine lv_iconst (v := (-1 : Int32)) hx hb dX11_years_11 (by decide) ?_
  exact x_iret C X hr hlk (v := (-1 : Int32)) (by first | rfl | decide) (()) [] (by decide) rfl (⟨rfl, trivial⟩) (Nat.le_of_ble_eq_true rfl) (Nat.le_of_ble_eq_true rfl) dX11_years_12
set_option maxHeartbeats 4000000 in
set_option maxRecDepth 100000 in
theorem cx_odds (l : Launch) (D : va_G) (cI cJ cZ cB : ClassId) (cO : ClassId) (x : Nat → Nat) (p1 p2 p3 : Int32) :
    CI l D [(cI, .int), (cJ, .long), (cZ, .boolean), (cB, .byte), (cO, .object "LuckLinks$World")] yX11_odds cX11_odds 6 (some .int) ({ frames := 1, cells := 0, slots := 0, locals := 21 } : Room) [.ref (x 0), .int p1, .int p2, .int p3] [((x 0), .inr (11, [.ref (x 1), .ref (x 10), .int (0 : Int32), .ref (x 11), .int (0 : Int32), .ref (x 12), .ref (x 34), .ref (x 50), .int (-1 : Int32), .ref (x 66), .ref (x 67), .ref (x 68), .ref (x 76), .ref (x 81), .ref (x 84), .ref (x 89), .ref (x 97)])), ((x 1), .inr (10, [.int (0 : Int32), .ref (x 2), .int (0 : Int32), .ref (x 3), .ref (x 4), .int (0 : Int32), .ref (x 5), .ref (x 6), .ref (x 7), .ref (x 8), .ref (x 9), .long (1 : Int64)]))] (fun (r : Int32) (u : Unit) => (r = (-1 : Int32) ∧ True)) (fun (_ : Unit) => []) := by
  intro sz
  refine body_of (y := yX11_odds) (cc := cX11_odds) (maxL := 6) (ret := (some .int)) (rm := ({ frames := 1, cells := 0, slots := 0, locals := 21 } : Room)) (wc := [((x 0), .inr (11, [.ref (x 1), .ref (x 10), .int (0 : Int32), .ref (x 11), .int (0 : Int32), .ref (x 12), .ref (x 34), .ref (x 50), .int (-1 : Int32), .ref (x 66), .ref (x 67), .ref (x 68), .ref (x 76), .ref (x 81), .ref (x 84), .ref (x 89), .ref (x 97)])), ((x 1), .inr (10, [.int (0 : Int32), .ref (x 2), .int (0 : Int32), .ref (x 3), .ref (x 4), .int (0 : Int32), .ref (x 5), .ref (x 6), .ref (x 7), .ref (x 8), .ref (x 9), .long (1 : Int64)]))]) (tys := [(cI, .int), (cJ, .long), (cZ, .boolean), (cB, .byte), (cO, .object "LuckLinks$World")]) (D := D) (sz := sz) (own := RX11) (av := [.ref (x 0), .int p1, .int p2, .int p3]) (Qc := fun A => va_Qi (fun (r : Int32) (u : Unit) => (r = (-1 : Int32) ∧ True)) (fun u t => Aft D A ((fun (_ : Unit) => []) u) t) A) (by decide) rfl (Nat.le_of_ble_eq_true rfl) (fun p e s m below meth c A ls C hr hlk hin X hl => ?_)
  have hx := C.1
  have hb := C.2.1
  have hown := C.2.2.2.1
  have hts := C.2.2.2.2.1
  have hl : lv_has ls 6 [(0, .ref (x 0)), (1, .int p1), (2, .int p2), (3, .int p3)] := hl
  show W p l e _ s m _ below meth c s.heap [] 0 0 (MQ below (va_Qi (fun (r : Int32) (u : Unit) => (r = (-1 : Int32) ∧ True)) (fun u t => Aft D A ((fun (_ : Unit) => []) u) t) A) ([.ref (x 0), .int p1, .int p2, .int p3] : List Value).toArray s 0 0 A) (F0 m 0 ls [])
  have X : Wd D A s [((x 0), .inr (11, [.ref (x 1), .ref (x 10), .int (0 : Int32), .ref (x 11), .int (0 : Int32), .ref (x 12), .ref (x 34), .ref (x 50), .int (-1 : Int32), .ref (x 66), .ref (x 67), .ref (x 68), .ref (x 76), .ref (x 81), .ref (x 84), .ref (x 89), .ref (x 97)])), ((x 1), .inr (10, [.int (0 : Int32), .ref (x 2), .int (0 : Int32), .ref (x 3), .ref (x 4), .int (0 : Int32), .ref (x 5), .ref (x 6), .ref (x 7), .ref (x 8), .ref (x 9), .long (1 : Int64)]))] s.heap [] := X
  obtain ⟨H, locs, eH, eL⟩ : ∃ H locs, H = s.heap ∧ locs = ([] : List Loc) := ⟨_, _, rfl, rfl⟩
  rw [← eH, ← eL] at X ⊢
  clear eH eL
  refine lv_aload_n hx hb dX11_odds_0 rfl (lv_at hl 0 rfl) ?_
  refine x_get (own := RX11) (T := TX11) C X 0 rfl rfl 0 (by decide) k_1_15 rfl rfl (v := .ref (x 1)) rfl dX11_odds_1 ?_
  refine lv_iload_n hx hb dX11_odds_4 rfl (lv_at hl 1 rfl) ?_
  refine x_cV (own := RX11) (wr := [((x 0), .inr (11, [.ref (x 1), .ref (x 10), .int (0 : Int32), .ref (x 11), .int (0 : Int32), .ref (x 12), .ref (x 34), .ref (x 50), .int (-1 : Int32), .ref (x 66), .ref (x 67), .ref (x 68), .ref (x 76), .ref (x 81), .ref (x 84), .ref (x 89), .ref (x 97)]))]) (As := [.int p1]) C X hl.1 (c_isPlayer l D cI cJ cZ cB cO (fun k => x (k + 1)) p1) [1] [0] ⟨rfl, rfl, by decide, by decide, by decide⟩ (qb := 0) rfl rfl k_17_3 k_15_5 k_15_6 k_1_14 k_15_7 (n := 1) (by decide +kernel) ⟨Nat.le_of_ble_eq_true rfl, Nat.le_of_ble_eq_true rfl⟩ rfl rfl (Nat.le_of_ble_eq_true rfl) dX11_odds_5 ⟨Nat.le_of_ble_eq_true rfl, Nat.le_of_ble_eq_true rfl⟩ (fun r_2 u_1 H locs w_3 X => ?_)
  have X : Wd D A s [((x 0), .inr (11, [.ref (x 1), .ref (x 10), .int (0 : Int32), .ref (x 11), .int (0 : Int32), .ref (x 12), .ref (x 34), .ref (x 50), .int (-1 : Int32), .ref (x 66), .ref (x 67), .ref (x 68), .ref (x 76), .ref (x 81), .ref (x 84), .ref (x 89), .ref (x 97)])), ((x 1), .inr (10, [.int (0 : Int32), .ref (x 2), .int (0 : Int32), .ref (x 3), .ref (x 4), .int (0 : Int32), .ref (x 5), .ref (x 6), .ref (x 7), .ref (x 8), .ref (x 9), .long (1 : Int64)]))] H locs := X
  refine W.widen (k := 0) (n := 0) (Nat.le_of_ble_eq_true rfl) (Nat.le_of_ble_eq_true rfl) ?_
  obtain ⟨rfl, fw_3⟩ : r_2 = (0 : Int32) ∧ True := w_3
  refine lv_if_eq (tgt := 35) hx hb dX11_odds_8 (by decide) (fun _ => ?_) (fun c0 => absurd (by decide) c0)
  refine lv_iconst (v := (0 : Int32)) hx hb dX11_odds_35 (by decide) ?_
  refine lv_istore (lv' := [(4, .int (0 : Int32)), (0, .ref (x 0)), (1, .int p1), (2, .int p2), (3, .int p3)]) hx hb dX11_odds_36 hl (by decide) rfl (fun ls hl => ?_)
  refine lv_iload hx hb dX11_odds_38 (lv_at hl 0 rfl) ?_
  refine lv_if_eq (tgt := 53) hx hb dX11_odds_40 (by decide) (fun _ => ?_) (fun c0 => absurd (by decide) c0)
  refine lv_iconst (v := (-1 : Int32)) hx hb dX11_odds_53 (by decide) ?_
  exact x_iret C X hr hlk (v := (-1 : Int32)) (by first | rfl | decide) (()) [] (by decide) rfl (⟨rfl, trivial⟩) (Nat.le_of_ble_eq_true rfl) (Nat.le_of_ble_eq_true rfl) dX11_odds_54
set_option maxHeartbeats 4000000 in
set_option maxRecDepth 100000 in
theorem cx_listed (l : Launch) (D : va_G) (cI cJ cZ cB : ClassId) (cO : ClassId) (x : Nat → Nat) (p1 p2 p3 : Int32) :
    CI l D [(cI, .int), (cJ, .long), (cZ, .boolean), (cB, .byte), (cO, .object "LuckLinks$World")] yX11_listed cX11_listed 4 (some .int) ({ frames := 3, cells := 0, slots := 0, locals := 63 } : Room) [.ref (x 0), .int p1, .int p2, .int p3] [((x 0), .inr (11, [.ref (x 1), .ref (x 10), .int (0 : Int32), .ref (x 11), .int (0 : Int32), .ref (x 12), .ref (x 34), .ref (x 50), .int (-1 : Int32), .ref (x 66), .ref (x 67), .ref (x 68), .ref (x 76), .ref (x 81), .ref (x 84), .ref (x 89), .ref (x 97)])), ((x 1), .inr (10, [.int (0 : Int32), .ref (x 2), .int (0 : Int32), .ref (x 3), .ref (x 4), .int (0 : Int32), .ref (x 5), .ref (x 6), .ref (x 7), .ref (x 8), .ref (x 9), .long (1 : Int64)]))] (fun (r : Int32) (u : Unit) => (r = (-1 : Int32) ∧ True)) (fun (_ : Unit) => []) := by
  intro sz
  refine body_of (y := yX11_listed) (cc := cX11_listed) (maxL := 4) (ret := (some .int)) (rm := ({ frames := 3, cells := 0, slots := 0, locals := 63 } : Room)) (wc := [((x 0), .inr (11, [.ref (x 1), .ref (x 10), .int (0 : Int32), .ref (x 11), .int (0 : Int32), .ref (x 12), .ref (x 34), .ref (x 50), .int (-1 : Int32), .ref (x 66), .ref (x 67), .ref (x 68), .ref (x 76), .ref (x 81), .ref (x 84), .ref (x 89), .ref (x 97)])), ((x 1), .inr (10, [.int (0 : Int32), .ref (x 2), .int (0 : Int32), .ref (x 3), .ref (x 4), .int (0 : Int32), .ref (x 5), .ref (x 6), .ref (x 7), .ref (x 8), .ref (x 9), .long (1 : Int64)]))]) (tys := [(cI, .int), (cJ, .long), (cZ, .boolean), (cB, .byte), (cO, .object "LuckLinks$World")]) (D := D) (sz := sz) (own := RX11) (av := [.ref (x 0), .int p1, .int p2, .int p3]) (Qc := fun A => va_Qi (fun (r : Int32) (u : Unit) => (r = (-1 : Int32) ∧ True)) (fun u t => Aft D A ((fun (_ : Unit) => []) u) t) A) (by decide) rfl (Nat.le_of_ble_eq_true rfl) (fun p e s m below meth c A ls C hr hlk hin X hl => ?_)
  have hx := C.1
  have hb := C.2.1
  have hown := C.2.2.2.1
  have hts := C.2.2.2.2.1
  have hl : lv_has ls 4 [(0, .ref (x 0)), (1, .int p1), (2, .int p2), (3, .int p3)] := hl
  show W p l e _ s m _ below meth c s.heap [] 0 0 (MQ below (va_Qi (fun (r : Int32) (u : Unit) => (r = (-1 : Int32) ∧ True)) (fun u t => Aft D A ((fun (_ : Unit) => []) u) t) A) ([.ref (x 0), .int p1, .int p2, .int p3] : List Value).toArray s 0 0 A) (F0 m 0 ls [])
  have X : Wd D A s [((x 0), .inr (11, [.ref (x 1), .ref (x 10), .int (0 : Int32), .ref (x 11), .int (0 : Int32), .ref (x 12), .ref (x 34), .ref (x 50), .int (-1 : Int32), .ref (x 66), .ref (x 67), .ref (x 68), .ref (x 76), .ref (x 81), .ref (x 84), .ref (x 89), .ref (x 97)])), ((x 1), .inr (10, [.int (0 : Int32), .ref (x 2), .int (0 : Int32), .ref (x 3), .ref (x 4), .int (0 : Int32), .ref (x 5), .ref (x 6), .ref (x 7), .ref (x 8), .ref (x 9), .long (1 : Int64)]))] s.heap [] := X
  obtain ⟨H, locs, eH, eL⟩ : ∃ H locs, H = s.heap ∧ locs = ([] : List Loc) := ⟨_, _, rfl, rfl⟩
  rw [← eH, ← eL] at X ⊢
  clear eH eL
  refine lv_iload_n hx hb dX11_listed_0 rfl (lv_at hl 1 rfl) ?_
  refine lv_iload_n hx hb dX11_listed_1 rfl (lv_at hl 2 rfl) ?_
  refine x_cS (own := RX11) (wr := [((x 0), .inr (11, [.ref (x 1), .ref (x 10), .int (0 : Int32), .ref (x 11), .int (0 : Int32), .ref (x 12), .ref (x 34), .ref (x 50), .int (-1 : Int32), .ref (x 66), .ref (x 67), .ref (x 68), .ref (x 76), .ref (x 81), .ref (x 84), .ref (x 89), .ref (x 97)])), ((x 1), .inr (10, [.int (0 : Int32), .ref (x 2), .int (0 : Int32), .ref (x 3), .ref (x 4), .int (0 : Int32), .ref (x 5), .ref (x 6), .ref (x 7), .ref (x 8), .ref (x 9), .long (1 : Int64)]))]) (As := [.int p1, .int p2]) C X hl.1 (c_areWeeks l D cI cJ cZ cB cO p1 p2) [] [0, 1] ⟨rfl, rfl, by decide, by decide, by decide⟩ k_41_2 k_41_3 k_1_2 k_41_4 (n := 2) (by decide +kernel) ⟨Nat.le_of_ble_eq_true rfl, Nat.le_of_ble_eq_true rfl⟩ rfl rfl (Nat.le_of_ble_eq_true rfl) dX11_listed_2 ⟨Nat.le_of_ble_eq_true rfl, Nat.le_of_ble_eq_true rfl⟩ (fun r_2 u_1 H locs w_3 X => ?_)
  have X : Wd D A s [((x 0), .inr (11, [.ref (x 1), .ref (x 10), .int (0 : Int32), .ref (x 11), .int (0 : Int32), .ref (x 12), .ref (x 34), .ref (x 50), .int (-1 : Int32), .ref (x 66), .ref (x 67), .ref (x 68), .ref (x 76), .ref (x 81), .ref (x 84), .ref (x 89), .ref (x 97)])), ((x 1), .inr (10, [.int (0 : Int32), .ref (x 2), .int (0 : Int32), .ref (x 3), .ref (x 4), .int (0 : Int32), .ref (x 5), .ref (x 6), .ref (x 7), .ref (x 8), .ref (x 9), .long (1 : Int64)]))] H locs := X
  refine W.widen (k := 0) (n := 0) (Nat.le_of_ble_eq_true rfl) (Nat.le_of_ble_eq_true rfl) ?_
  obtain ⟨rfl, fw_3⟩ | ⟨rfl, fw_3⟩ : (r_2 = (1 : Int32) ∧ (0 ≤ (p1).toInt ∧ (p1).toInt ≤ (p2).toInt ∧ (p2).toInt ≤ 39)) ∨ (r_2 = (0 : Int32) ∧ ((p1).toInt < 0 ∨ (p2).toInt < (p1).toInt ∨ 39 < (p2).toInt)) := w_3
  · refine lv_if_eq (tgt := 25) hx hb dX11_listed_5 (by decide) (fun c0 => absurd c0 (by decide)) (fun _ => ?_)
    refine lv_iload_n hx hb dX11_listed_8 rfl (lv_at hl 3 rfl) ?_
    refine lv_iconst (v := (0 : Int32)) hx hb dX11_listed_9 (by decide) ?_
    refine lv_aload_n hx hb dX11_listed_10 rfl (lv_at hl 0 rfl) ?_
    refine x_get (own := RX11) (T := TX11) C X 0 rfl rfl 0 (by decide) k_1_15 rfl rfl (v := .ref (x 1)) rfl dX11_listed_11 ?_
    refine x_get (own := RX11) (T := TX10) C X 1 rfl rfl 0 (by decide) k_12_1 rfl rfl (v := .int (0 : Int32)) rfl dX11_listed_14 ?_
    refine lv_iconst (v := (1 : Int32)) hx hb dX11_listed_17 (by decide) ?_
    refine lv_isub hx hb dX11_listed_18 ?_
    refine x_eqi (show (0 : Int32) - (1 : Int32) = (-1 : Int32) from by decide +kernel) ?_
    refine x_cS (own := RX11) (wr := [((x 0), .inr (11, [.ref (x 1), .ref (x 10), .int (0 : Int32), .ref (x 11), .int (0 : Int32), .ref (x 12), .ref (x 34), .ref (x 50), .int (-1 : Int32), .ref (x 66), .ref (x 67), .ref (x 68), .ref (x 76), .ref (x 81), .ref (x 84), .ref (x 89), .ref (x 97)])), ((x 1), .inr (10, [.int (0 : Int32), .ref (x 2), .int (0 : Int32), .ref (x 3), .ref (x 4), .int (0 : Int32), .ref (x 5), .ref (x 6), .ref (x 7), .ref (x 8), .ref (x 9), .long (1 : Int64)]))]) (As := [.int p3, .int (0 : Int32), .int (-1 : Int32)]) C X hl.1 (c_isBetween l D cI cJ cZ cB cO p3 (0 : Int32) (-1 : Int32)) [] [0, 1] ⟨rfl, rfl, by decide, by decide, by decide⟩ k_12_5 k_12_6 k_1_2 k_12_7 (n := 3) (by decide +kernel) ⟨Nat.le_of_ble_eq_true rfl, Nat.le_of_ble_eq_true rfl⟩ rfl rfl (Nat.le_of_ble_eq_true rfl) dX11_listed_19 ⟨Nat.le_of_ble_eq_true rfl, Nat.le_of_ble_eq_true rfl⟩ (fun r_5 u_4 H locs w_6 X => ?_)
    have X : Wd D A s [((x 0), .inr (11, [.ref (x 1), .ref (x 10), .int (0 : Int32), .ref (x 11), .int (0 : Int32), .ref (x 12), .ref (x 34), .ref (x 50), .int (-1 : Int32), .ref (x 66), .ref (x 67), .ref (x 68), .ref (x 76), .ref (x 81), .ref (x 84), .ref (x 89), .ref (x 97)])), ((x 1), .inr (10, [.int (0 : Int32), .ref (x 2), .int (0 : Int32), .ref (x 3), .ref (x 4), .int (0 : Int32), .ref (x 5), .ref (x 6), .ref (x 7), .ref (x 8), .ref (x 9), .long (1 : Int64)]))] H locs := X
    refine W.widen (k := 0) (n := 0) (Nat.le_of_ble_eq_true rfl) (Nat.le_of_ble_eq_true rfl) ?_
    obtain ⟨rfl, fw_6⟩ | ⟨rfl, fw_6⟩ : (r_5 = (1 : Int32) ∧ ((0 : Int) ≤ (p3).toInt ∧ (p3).toInt ≤ (-1 : Int))) ∨ (r_5 = (0 : Int32) ∧ ((p3).toInt < (0 : Int) ∨ (-1 : Int) < (p3).toInt)) := w_6
    · exfalso; omega
    · refine lv_if_ne (tgt := 27) hx hb dX11_listed_22 (by decide) (fun c0 => absurd (by decide) c0) (fun _ => ?_)
      refine lv_iconst (v := (-1 : Int32)) hx hb dX11_listed_25 (by decide) ?_
      exact x_iret C X hr hlk (v := (-1 : Int32)) (by first | rfl | decide) (()) [] (by decide) rfl (⟨rfl, trivial⟩) (Nat.le_of_ble_eq_true rfl) (Nat.le_of_ble_eq_true rfl) dX11_listed_26
  · refine lv_if_eq (tgt := 25) hx hb dX11_listed_5 (by decide) (fun _ => ?_) (fun c0 => absurd (by decide) c0)
    refine lv_iconst (v := (-1 : Int32)) hx hb dX11_listed_25 (by decide) ?_
    exact x_iret C X hr hlk (v := (-1 : Int32)) (by first | rfl | decide) (()) [] (by decide) rfl (⟨rfl, trivial⟩) (Nat.le_of_ble_eq_true rfl) (Nat.le_of_ble_eq_true rfl) dX11_listed_26
set_option maxHeartbeats 4000000 in
set_option maxRecDepth 100000 in
theorem cx_cost (l : Launch) (D : va_G) (cI cJ cZ cB : ClassId) (cO : ClassId) (x : Nat → Nat) (p1 p2 p3 p4 p5 : Int32) :
    CL l D [(cI, .int), (cJ, .long), (cZ, .boolean), (cB, .byte), (cO, .object "LuckLinks$World")] yX11_cost cX11_cost 6 ({ frames := 1, cells := 0, slots := 0, locals := 21 } : Room) [.ref (x 0), .int p1, .int p2, .int p3, .int p4, .int p5] [((x 0), .inr (11, [.ref (x 1), .ref (x 10), .int (0 : Int32), .ref (x 11), .int (0 : Int32), .ref (x 12), .ref (x 34), .ref (x 50), .int (-1 : Int32), .ref (x 66), .ref (x 67), .ref (x 68), .ref (x 76), .ref (x 81), .ref (x 84), .ref (x 89), .ref (x 97)])), ((x 1), .inr (10, [.int (0 : Int32), .ref (x 2), .int (0 : Int32), .ref (x 3), .ref (x 4), .int (0 : Int32), .ref (x 5), .ref (x 6), .ref (x 7), .ref (x 8), .ref (x 9), .long (1 : Int64)]))] (fun (r : Int64) (u : Unit) => (r = (-1000000000 : Int64) ∧ True)) (fun (_ : Unit) => []) := by
  intro sz
  refine body_of (y := yX11_cost) (cc := cX11_cost) (maxL := 6) (ret := (some .long)) (rm := ({ frames := 1, cells := 0, slots := 0, locals := 21 } : Room)) (wc := [((x 0), .inr (11, [.ref (x 1), .ref (x 10), .int (0 : Int32), .ref (x 11), .int (0 : Int32), .ref (x 12), .ref (x 34), .ref (x 50), .int (-1 : Int32), .ref (x 66), .ref (x 67), .ref (x 68), .ref (x 76), .ref (x 81), .ref (x 84), .ref (x 89), .ref (x 97)])), ((x 1), .inr (10, [.int (0 : Int32), .ref (x 2), .int (0 : Int32), .ref (x 3), .ref (x 4), .int (0 : Int32), .ref (x 5), .ref (x 6), .ref (x 7), .ref (x 8), .ref (x 9), .long (1 : Int64)]))]) (tys := [(cI, .int), (cJ, .long), (cZ, .boolean), (cB, .byte), (cO, .object "LuckLinks$World")]) (D := D) (sz := sz) (own := RX11) (av := [.ref (x 0), .int p1, .int p2, .int p3, .int p4, .int p5]) (Qc := fun A => va_Ql (fun (r : Int64) (u : Unit) => (r = (-1000000000 : Int64) ∧ True)) (fun u t => Aft D A ((fun (_ : Unit) => []) u) t) A) (by decide) rfl (Nat.le_of_ble_eq_true rfl) (fun p e s m below meth c A ls C hr hlk hin X hl => ?_)
  have hx := C.1
  have hb := C.2.1
  have hown := C.2.2.2.1
  have hts := C.2.2.2.2.1
  have hl : lv_has ls 6 [(0, .ref (x 0)), (1, .int p1), (2, .int p2), (3, .int p3), (4, .int p4), (5, .int p5)] := hl
  show W p l e _ s m _ below meth c s.heap [] 0 0 (MQ below (va_Ql (fun (r : Int64) (u : Unit) => (r = (-1000000000 : Int64) ∧ True)) (fun u t => Aft D A ((fun (_ : Unit) => []) u) t) A) ([.ref (x 0), .int p1, .int p2, .int p3, .int p4, .int p5] : List Value).toArray s 0 0 A) (F0 m 0 ls [])
  have X : Wd D A s [((x 0), .inr (11, [.ref (x 1), .ref (x 10), .int (0 : Int32), .ref (x 11), .int (0 : Int32), .ref (x 12), .ref (x 34), .ref (x 50), .int (-1 : Int32), .ref (x 66), .ref (x 67), .ref (x 68), .ref (x 76), .ref (x 81), .ref (x 84), .ref (x 89), .ref (x 97)])), ((x 1), .inr (10, [.int (0 : Int32), .ref (x 2), .int (0 : Int32), .ref (x 3), .ref (x 4), .int (0 : Int32), .ref (x 5), .ref (x 6), .ref (x 7), .ref (x 8), .ref (x 9), .long (1 : Int64)]))] s.heap [] := X
  obtain ⟨H, locs, eH, eL⟩ : ∃ H locs, H = s.heap ∧ locs = ([] : List Loc) := ⟨_, _, rfl, rfl⟩
  rw [← eH, ← eL] at X ⊢
  clear eH eL
  refine lv_aload_n hx hb dX11_cost_0 rfl (lv_at hl 0 rfl) ?_
  refine x_get (own := RX11) (T := TX11) C X 0 rfl rfl 0 (by decide) k_1_15 rfl rfl (v := .ref (x 1)) rfl dX11_cost_1 ?_
  refine lv_iload_n hx hb dX11_cost_4 rfl (lv_at hl 1 rfl) ?_
  refine x_cV (own := RX11) (wr := [((x 0), .inr (11, [.ref (x 1), .ref (x 10), .int (0 : Int32), .ref (x 11), .int (0 : Int32), .ref (x 12), .ref (x 34), .ref (x 50), .int (-1 : Int32), .ref (x 66), .ref (x 67), .ref (x 68), .ref (x 76), .ref (x 81), .ref (x 84), .ref (x 89), .ref (x 97)]))]) (As := [.int p1]) C X hl.1 (c_isPlayer l D cI cJ cZ cB cO (fun k => x (k + 1)) p1) [1] [0] ⟨rfl, rfl, by decide, by decide, by decide⟩ (qb := 0) rfl rfl k_17_3 k_15_5 k_15_6 k_1_14 k_15_7 (n := 1) (by decide +kernel) ⟨Nat.le_of_ble_eq_true rfl, Nat.le_of_ble_eq_true rfl⟩ rfl rfl (Nat.le_of_ble_eq_true rfl) dX11_cost_5 ⟨Nat.le_of_ble_eq_true rfl, Nat.le_of_ble_eq_true rfl⟩ (fun r_2 u_1 H locs w_3 X => ?_)
  have X : Wd D A s [((x 0), .inr (11, [.ref (x 1), .ref (x 10), .int (0 : Int32), .ref (x 11), .int (0 : Int32), .ref (x 12), .ref (x 34), .ref (x 50), .int (-1 : Int32), .ref (x 66), .ref (x 67), .ref (x 68), .ref (x 76), .ref (x 81), .ref (x 84), .ref (x 89), .ref (x 97)])), ((x 1), .inr (10, [.int (0 : Int32), .ref (x 2), .int (0 : Int32), .ref (x 3), .ref (x 4), .int (0 : Int32), .ref (x 5), .ref (x 6), .ref (x 7), .ref (x 8), .ref (x 9), .long (1 : Int64)]))] H locs := X
  refine W.widen (k := 0) (n := 0) (Nat.le_of_ble_eq_true rfl) (Nat.le_of_ble_eq_true rfl) ?_
  obtain ⟨rfl, fw_3⟩ : r_2 = (0 : Int32) ∧ True := w_3
  refine lv_if_eq (tgt := 30) hx hb dX11_cost_8 (by decide) (fun _ => ?_) (fun c0 => absurd (by decide) c0)
  refine lv_ldc2 (own := RX11) (v := (-1000000000 : Int64)) hx hb hown (hts _ k_61_21) dX11_cost_30 ?_
  exact x_lret C X hr hlk (v := (-1000000000 : Int64)) (()) [] (by decide) rfl (⟨rfl, trivial⟩) (Nat.le_of_ble_eq_true rfl) (Nat.le_of_ble_eq_true rfl) dX11_cost_33
set_option maxHeartbeats 4000000 in
set_option maxRecDepth 100000 in
theorem cx_pressed (l : Launch) (D : va_G) (cI cJ cZ cB : ClassId) (cO : ClassId) (x : Nat → Nat) (p1 p2 : Int32) :
    CL l D [(cI, .int), (cJ, .long), (cZ, .boolean), (cB, .byte), (cO, .object "LuckLinks$World")] yX11_pressed cX11_pressed 3 ({ frames := 1, cells := 0, slots := 0, locals := 21 } : Room) [.ref (x 0), .int p1, .int p2] [((x 0), .inr (11, [.ref (x 1), .ref (x 10), .int (0 : Int32), .ref (x 11), .int (0 : Int32), .ref (x 12), .ref (x 34), .ref (x 50), .int (-1 : Int32), .ref (x 66), .ref (x 67), .ref (x 68), .ref (x 76), .ref (x 81), .ref (x 84), .ref (x 89), .ref (x 97)])), ((x 1), .inr (10, [.int (0 : Int32), .ref (x 2), .int (0 : Int32), .ref (x 3), .ref (x 4), .int (0 : Int32), .ref (x 5), .ref (x 6), .ref (x 7), .ref (x 8), .ref (x 9), .long (1 : Int64)]))] (fun (r : Int64) (u : Unit) => (r = (-1 : Int64) ∧ True)) (fun (_ : Unit) => []) := by
  intro sz
  refine body_of (y := yX11_pressed) (cc := cX11_pressed) (maxL := 3) (ret := (some .long)) (rm := ({ frames := 1, cells := 0, slots := 0, locals := 21 } : Room)) (wc := [((x 0), .inr (11, [.ref (x 1), .ref (x 10), .int (0 : Int32), .ref (x 11), .int (0 : Int32), .ref (x 12), .ref (x 34), .ref (x 50), .int (-1 : Int32), .ref (x 66), .ref (x 67), .ref (x 68), .ref (x 76), .ref (x 81), .ref (x 84), .ref (x 89), .ref (x 97)])), ((x 1), .inr (10, [.int (0 : Int32), .ref (x 2), .int (0 : Int32), .ref (x 3), .ref (x 4), .int (0 : Int32), .ref (x 5), .ref (x 6), .ref (x 7), .ref (x 8), .ref (x 9), .long (1 : Int64)]))]) (tys := [(cI, .int), (cJ, .long), (cZ, .boolean), (cB, .byte), (cO, .object "LuckLinks$World")]) (D := D) (sz := sz) (own := RX11) (av := [.ref (x 0), .int p1, .int p2]) (Qc := fun A => va_Ql (fun (r : Int64) (u : Unit) => (r = (-1 : Int64) ∧ True)) (fun u t => Aft D A ((fun (_ : Unit) => []) u) t) A) (by decide) rfl (Nat.le_of_ble_eq_true rfl) (fun p e s m below meth c A ls C hr hlk hin X hl => ?_)
  have hx := C.1
  have hb := C.2.1
  have hown := C.2.2.2.1
  have hts := C.2.2.2.2.1
  have hl : lv_has ls 3 [(0, .ref (x 0)), (1, .int p1), (2, .int p2)] := hl
  show W p l e _ s m _ below meth c s.heap [] 0 0 (MQ below (va_Ql (fun (r : Int64) (u : Unit) => (r = (-1 : Int64) ∧ True)) (fun u t => Aft D A ((fun (_ : Unit) => []) u) t) A) ([.ref (x 0), .int p1, .int p2] : List Value).toArray s 0 0 A) (F0 m 0 ls [])
  have X : Wd D A s [((x 0), .inr (11, [.ref (x 1), .ref (x 10), .int (0 : Int32), .ref (x 11), .int (0 : Int32), .ref (x 12), .ref (x 34), .ref (x 50), .int (-1 : Int32), .ref (x 66), .ref (x 67), .ref (x 68), .ref (x 76), .ref (x 81), .ref (x 84), .ref (x 89), .ref (x 97)])), ((x 1), .inr (10, [.int (0 : Int32), .ref (x 2), .int (0 : Int32), .ref (x 3), .ref (x 4), .int (0 : Int32), .ref (x 5), .ref (x 6), .ref (x 7), .ref (x 8), .ref (x 9), .long (1 : Int64)]))] s.heap [] := X
  obtain ⟨H, locs, eH, eL⟩ : ∃ H locs, H = s.heap ∧ locs = ([] : List Loc) := ⟨_, _, rfl, rfl⟩
  rw [← eH, ← eL] at X ⊢
  clear eH eL
  refine lv_aload_n hx hb dX11_pressed_0 rfl (lv_at hl 0 rfl) ?_
  refine x_get (own := RX11) (T := TX11) C X 0 rfl rfl 0 (by decide) k_1_15 rfl rfl (v := .ref (x 1)) rfl dX11_pressed_1 ?_
  refine lv_iload_n hx hb dX11_pressed_4 rfl (lv_at hl 1 rfl) ?_
  refine x_cV (own := RX11) (wr := [((x 0), .inr (11, [.ref (x 1), .ref (x 10), .int (0 : Int32), .ref (x 11), .int (0 : Int32), .ref (x 12), .ref (x 34), .ref (x 50), .int (-1 : Int32), .ref (x 66), .ref (x 67), .ref (x 68), .ref (x 76), .ref (x 81), .ref (x 84), .ref (x 89), .ref (x 97)]))]) (As := [.int p1]) C X hl.1 (c_isPlayer l D cI cJ cZ cB cO (fun k => x (k + 1)) p1) [1] [0] ⟨rfl, rfl, by decide, by decide, by decide⟩ (qb := 0) rfl rfl k_17_3 k_15_5 k_15_6 k_1_14 k_15_7 (n := 1) (by decide +kernel) ⟨Nat.le_of_ble_eq_true rfl, Nat.le_of_ble_eq_true rfl⟩ rfl rfl (Nat.le_of_ble_eq_true rfl) dX11_pressed_5 ⟨Nat.le_of_ble_eq_true rfl, Nat.le_of_ble_eq_true rfl⟩ (fun r_2 u_1 H locs w_3 X => ?_)
  have X : Wd D A s [((x 0), .inr (11, [.ref (x 1), .ref (x 10), .int (0 : Int32), .ref (x 11), .int (0 : Int32), .ref (x 12), .ref (x 34), .ref (x 50), .int (-1 : Int32), .ref (x 66), .ref (x 67), .ref (x 68), .ref (x 76), .ref (x 81), .ref (x 84), .ref (x 89), .ref (x 97)])), ((x 1), .inr (10, [.int (0 : Int32), .ref (x 2), .int (0 : Int32), .ref (x 3), .ref (x 4), .int (0 : Int32), .ref (x 5), .ref (x 6), .ref (x 7), .ref (x 8), .ref (x 9), .long (1 : Int64)]))] H locs := X
  refine W.widen (k := 0) (n := 0) (Nat.le_of_ble_eq_true rfl) (Nat.le_of_ble_eq_true rfl) ?_
  obtain ⟨rfl, fw_3⟩ : r_2 = (0 : Int32) ∧ True := w_3
  refine lv_if_eq (tgt := 20) hx hb dX11_pressed_8 (by decide) (fun _ => ?_) (fun c0 => absurd (by decide) c0)
  refine lv_ldc2 (own := RX11) (v := (-1 : Int64)) hx hb hown (hts _ k_43_4) dX11_pressed_20 ?_
  exact x_lret C X hr hlk (v := (-1 : Int64)) (()) [] (by decide) rfl (⟨rfl, trivial⟩) (Nat.le_of_ble_eq_true rfl) (Nat.le_of_ble_eq_true rfl) dX11_pressed_23
set_option maxHeartbeats 4000000 in
set_option maxRecDepth 100000 in
theorem cx_beside (l : Launch) (D : va_G) (cI cJ cZ cB : ClassId) (cO : ClassId) (x : Nat → Nat) (p1 p2 : Int32) :
    CL l D [(cI, .int), (cJ, .long), (cZ, .boolean), (cB, .byte), (cO, .object "LuckLinks$World")] yX11_beside cX11_beside 3 ({ frames := 1, cells := 0, slots := 0, locals := 21 } : Room) [.ref (x 0), .int p1, .int p2] [((x 0), .inr (11, [.ref (x 1), .ref (x 10), .int (0 : Int32), .ref (x 11), .int (0 : Int32), .ref (x 12), .ref (x 34), .ref (x 50), .int (-1 : Int32), .ref (x 66), .ref (x 67), .ref (x 68), .ref (x 76), .ref (x 81), .ref (x 84), .ref (x 89), .ref (x 97)])), ((x 1), .inr (10, [.int (0 : Int32), .ref (x 2), .int (0 : Int32), .ref (x 3), .ref (x 4), .int (0 : Int32), .ref (x 5), .ref (x 6), .ref (x 7), .ref (x 8), .ref (x 9), .long (1 : Int64)]))] (fun (r : Int64) (u : Unit) => (r = (-1000000000000 : Int64) ∧ True)) (fun (_ : Unit) => []) := by
  intro sz
  refine body_of (y := yX11_beside) (cc := cX11_beside) (maxL := 3) (ret := (some .long)) (rm := ({ frames := 1, cells := 0, slots := 0, locals := 21 } : Room)) (wc := [((x 0), .inr (11, [.ref (x 1), .ref (x 10), .int (0 : Int32), .ref (x 11), .int (0 : Int32), .ref (x 12), .ref (x 34), .ref (x 50), .int (-1 : Int32), .ref (x 66), .ref (x 67), .ref (x 68), .ref (x 76), .ref (x 81), .ref (x 84), .ref (x 89), .ref (x 97)])), ((x 1), .inr (10, [.int (0 : Int32), .ref (x 2), .int (0 : Int32), .ref (x 3), .ref (x 4), .int (0 : Int32), .ref (x 5), .ref (x 6), .ref (x 7), .ref (x 8), .ref (x 9), .long (1 : Int64)]))]) (tys := [(cI, .int), (cJ, .long), (cZ, .boolean), (cB, .byte), (cO, .object "LuckLinks$World")]) (D := D) (sz := sz) (own := RX11) (av := [.ref (x 0), .int p1, .int p2]) (Qc := fun A => va_Ql (fun (r : Int64) (u : Unit) => (r = (-1000000000000 : Int64) ∧ True)) (fun u t => Aft D A ((fun (_ : Unit) => []) u) t) A) (by decide) rfl (Nat.le_of_ble_eq_true rfl) (fun p e s m below meth c A ls C hr hlk hin X hl => ?_)
  have hx := C.1
  have hb := C.2.1
  have hown := C.2.2.2.1
  have hts := C.2.2.2.2.1
  have hl : lv_has ls 3 [(0, .ref (x 0)), (1, .int p1), (2, .int p2)] := hl
  show W p l e _ s m _ below meth c s.heap [] 0 0 (MQ below (va_Ql (fun (r : Int64) (u : Unit) => (r = (-1000000000000 : Int64) ∧ True)) (fun u t => Aft D A ((fun (_ : Unit) => []) u) t) A) ([.ref (x 0), .int p1, .int p2] : List Value).toArray s 0 0 A) (F0 m 0 ls [])
  have X : Wd D A s [((x 0), .inr (11, [.ref (x 1), .ref (x 10), .int (0 : Int32), .ref (x 11), .int (0 : Int32), .ref (x 12), .ref (x 34), .ref (x 50), .int (-1 : Int32), .ref (x 66), .ref (x 67), .ref (x 68), .ref (x 76), .ref (x 81), .ref (x 84), .ref (x 89), .ref (x 97)])), ((x 1), .inr (10, [.int (0 : Int32), .ref (x 2), .int (0 : Int32), .ref (x 3), .ref (x 4), .int (0 : Int32), .ref (x 5), .ref (x 6), .ref (x 7), .ref (x 8), .ref (x 9), .long (1 : Int64)]))] s.heap [] := X
  obtain ⟨H, locs, eH, eL⟩ : ∃ H locs, H = s.heap ∧ locs = ([] : List Loc) := ⟨_, _, rfl, rfl⟩
  rw [← eH, ← eL] at X ⊢
  clear eH eL
  refine lv_aload_n hx hb dX11_beside_0 rfl (lv_at hl 0 rfl) ?_
  refine x_get (own := RX11) (T := TX11) C X 0 rfl rfl 0 (by decide) k_1_15 rfl rfl (v := .ref (x 1)) rfl dX11_beside_1 ?_
  refine lv_iload_n hx hb dX11_beside_4 rfl (lv_at hl 1 rfl) ?_
  refine x_cV (own := RX11) (wr := [((x 0), .inr (11, [.ref (x 1), .ref (x 10), .int (0 : Int32), .ref (x 11), .int (0 : Int32), .ref (x 12), .ref (x 34), .ref (x 50), .int (-1 : Int32), .ref (x 66), .ref (x 67), .ref (x 68), .ref (x 76), .ref (x 81), .ref (x 84), .ref (x 89), .ref (x 97)]))]) (As := [.int p1]) C X hl.1 (c_isPlayer l D cI cJ cZ cB cO (fun k => x (k + 1)) p1) [1] [0] ⟨rfl, rfl, by decide, by decide, by decide⟩ (qb := 0) rfl rfl k_17_3 k_15_5 k_15_6 k_1_14 k_15_7 (n := 1) (by decide +kernel) ⟨Nat.le_of_ble_eq_true rfl, Nat.le_of_ble_eq_true rfl⟩ rfl rfl (Nat.le_of_ble_eq_true rfl) dX11_beside_5 ⟨Nat.le_of_ble_eq_true rfl, Nat.le_of_ble_eq_true rfl⟩ (fun r_2 u_1 H locs w_3 X => ?_)
  have X : Wd D A s [((x 0), .inr (11, [.ref (x 1), .ref (x 10), .int (0 : Int32), .ref (x 11), .int (0 : Int32), .ref (x 12), .ref (x 34), .ref (x 50), .int (-1 : Int32), .ref (x 66), .ref (x 67), .ref (x 68), .ref (x 76), .ref (x 81), .ref (x 84), .ref (x 89), .ref (x 97)])), ((x 1), .inr (10, [.int (0 : Int32), .ref (x 2), .int (0 : Int32), .ref (x 3), .ref (x 4), .int (0 : Int32), .ref (x 5), .ref (x 6), .ref (x 7), .ref (x 8), .ref (x 9), .long (1 : Int64)]))] H locs := X
  refine W.widen (k := 0) (n := 0) (Nat.le_of_ble_eq_true rfl) (Nat.le_of_ble_eq_true rfl) ?_
  obtain ⟨rfl, fw_3⟩ : r_2 = (0 : Int32) ∧ True := w_3
  refine lv_if_ne (tgt := 15) hx hb dX11_beside_8 (by decide) (fun c0 => absurd (by decide) c0) (fun _ => ?_)
  refine lv_ldc2 (own := RX11) (v := (-1000000000000 : Int64)) hx hb hown (hts _ k_46_17) dX11_beside_11 ?_
  exact x_lret C X hr hlk (v := (-1000000000000 : Int64)) (()) [] (by decide) rfl (⟨rfl, trivial⟩) (Nat.le_of_ble_eq_true rfl) (Nat.le_of_ble_eq_true rfl) dX11_beside_14
