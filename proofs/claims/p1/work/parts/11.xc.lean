theorem k_38_15 : Cond.methodLink RX11 218 yX11_isPart ∈ wsL_law := mr_38 _ (List.mem_of_getElem? (i := 15) rfl)
theorem k_38_16 : Cond.static yX11_isPart ∈ wsL_law := mr_38 _ (List.mem_of_getElem? (i := 16) rfl)
theorem k_38_17 : Cond.code yX11_isPart cX11_isPart 1 (some .boolean) ∈ wsL_law := mr_38 _ (List.mem_of_getElem? (i := 17) rfl)
theorem k_43_5 : Cond.methodLink RX11 240 yX8_compareCouples ∈ wsL_law := mr_43 _ (List.mem_of_getElem? (i := 5) rfl)
theorem k_43_6 : Cond.instanceMethod yX8_compareCouples ∈ wsL_law := mr_43 _ (List.mem_of_getElem? (i := 6) rfl)
theorem k_43_7 : Cond.selects RX8 yX8_compareCouples yX8_compareCouples ∈ wsL_law := mr_43 _ (List.mem_of_getElem? (i := 7) rfl)
theorem k_43_8 : Cond.code yX8_compareCouples cX8_compareCouples 11 none ∈ wsL_law := mr_43 _ (List.mem_of_getElem? (i := 8) rfl)
theorem k_44_21 : Cond.methodLink RX11 244 yX6_pick ∈ wsL_law := mr_44 _ (List.mem_of_getElem? (i := 21) rfl)
theorem k_44_22 : Cond.instanceMethod yX6_pick ∈ wsL_law := mr_44 _ (List.mem_of_getElem? (i := 22) rfl)
theorem k_44_23 : Cond.selects RX6 yX6_pick yX6_pick ∈ wsL_law := mr_44 _ (List.mem_of_getElem? (i := 23) rfl)
theorem k_45_0 : Cond.code yX6_pick cX6_pick 4 (some .long) ∈ wsL_law := mr_45 _ (List.mem_of_getElem? (i := 0) rfl)
theorem k_58_2 : Cond.methodLink RX11 312 yX8_putRight ∈ wsL_law := mr_58 _ (List.mem_of_getElem? (i := 2) rfl)
theorem k_58_3 : Cond.instanceMethod yX8_putRight ∈ wsL_law := mr_58 _ (List.mem_of_getElem? (i := 3) rfl)
theorem k_58_4 : Cond.selects RX8 yX8_putRight yX8_putRight ∈ wsL_law := mr_58 _ (List.mem_of_getElem? (i := 4) rfl)
theorem k_58_5 : Cond.code yX8_putRight cX8_putRight 16 none ∈ wsL_law := mr_58 _ (List.mem_of_getElem? (i := 5) rfl)
theorem k_61_22 : Cond.methodLink RX11 328 yX8_weighHour ∈ wsL_law := mr_61 _ (List.mem_of_getElem? (i := 22) rfl)
theorem k_61_23 : Cond.instanceMethod yX8_weighHour ∈ wsL_law := mr_61 _ (List.mem_of_getElem? (i := 23) rfl)
theorem k_62_0 : Cond.selects RX8 yX8_weighHour yX8_weighHour ∈ wsL_law := mr_62 _ (List.mem_of_getElem? (i := 0) rfl)
theorem k_62_1 : Cond.code yX8_weighHour cX8_weighHour 19 none ∈ wsL_law := mr_62 _ (List.mem_of_getElem? (i := 1) rfl)
theorem k_64_18 : Cond.fieldLink RX11 351 "LuckLinks$Tallies" "otherOne" "I" ∈ wsL_law := mr_64 _ (List.mem_of_getElem? (i := 18) rfl)
theorem k_64_20 : Cond.methodLink RX11 348 yX8_findOther ∈ wsL_law := mr_64 _ (List.mem_of_getElem? (i := 20) rfl)
theorem k_64_21 : Cond.instanceMethod yX8_findOther ∈ wsL_law := mr_64 _ (List.mem_of_getElem? (i := 21) rfl)
theorem k_64_22 : Cond.selects RX8 yX8_findOther yX8_findOther ∈ wsL_law := mr_64 _ (List.mem_of_getElem? (i := 22) rfl)
theorem k_64_23 : Cond.code yX8_findOther cX8_findOther 4 none ∈ wsL_law := mr_64 _ (List.mem_of_getElem? (i := 23) rfl)
theorem dX11_luck_0 : decode cX11_luck 0 = .ok (.iload_n 1, 1) := by decide +kernel
theorem dX11_luck_1 : decode cX11_luck 1 = .ok (.invokestatic 218, 3) := by decide +kernel
theorem dX11_luck_4 : decode cX11_luck 4 = .ok (.ifCond .eq 11, 3) := by decide +kernel
theorem dX11_luck_7 : decode cX11_luck 7 = .ok (.iload_n 2, 1) := by decide +kernel
theorem dX11_luck_8 : decode cX11_luck 8 = .ok (.iload_n 3, 1) := by decide +kernel
theorem dX11_luck_9 : decode cX11_luck 9 = .ok (.invokestatic 227, 3) := by decide +kernel
theorem dX11_luck_12 : decode cX11_luck 12 = .ok (.ifCond .ne 7, 3) := by decide +kernel
theorem dX11_luck_15 : decode cX11_luck 15 = .ok (.ldc2_w 238, 3) := by decide +kernel
theorem dX11_luck_18 : decode cX11_luck 18 = .ok (.lreturn, 1) := by decide +kernel
theorem dX11_luck_19 : decode cX11_luck 19 = .ok (.aload_n 0, 1) := by decide +kernel
theorem dX11_luck_20 : decode cX11_luck 20 = .ok (.getfield 102, 3) := by decide +kernel
theorem dX11_luck_23 : decode cX11_luck 23 = .ok (.iload_n 1, 1) := by decide +kernel
theorem dX11_luck_24 : decode cX11_luck 24 = .ok (.iload_n 2, 1) := by decide +kernel
theorem dX11_luck_25 : decode cX11_luck 25 = .ok (.iload_n 3, 1) := by decide +kernel
theorem dX11_luck_26 : decode cX11_luck 26 = .ok (.aload_n 0, 1) := by decide +kernel
theorem dX11_luck_27 : decode cX11_luck 27 = .ok (.getfield 58, 3) := by decide +kernel
theorem dX11_luck_30 : decode cX11_luck 30 = .ok (.invokevirtual 240, 3) := by decide +kernel
theorem dX11_luck_33 : decode cX11_luck 33 = .ok (.aload_n 0, 1) := by decide +kernel
theorem dX11_luck_34 : decode cX11_luck 34 = .ok (.getfield 58, 3) := by decide +kernel
theorem dX11_luck_37 : decode cX11_luck 37 = .ok (.iload 4, 2) := by decide +kernel
theorem dX11_luck_39 : decode cX11_luck 39 = .ok (.ldc2_w 238, 3) := by decide +kernel
theorem dX11_luck_42 : decode cX11_luck 42 = .ok (.invokevirtual 244, 3) := by decide +kernel
theorem dX11_luck_45 : decode cX11_luck 45 = .ok (.lreturn, 1) := by decide +kernel
theorem dX11_other_0 : decode cX11_other 0 = .ok (.aload_n 0, 1) := by decide +kernel
theorem dX11_other_1 : decode cX11_other 1 = .ok (.getfield 102, 3) := by decide +kernel
theorem dX11_other_4 : decode cX11_other 4 = .ok (.invokevirtual 348, 3) := by decide +kernel
theorem dX11_other_7 : decode cX11_other 7 = .ok (.aload_n 0, 1) := by decide +kernel
theorem dX11_other_8 : decode cX11_other 8 = .ok (.getfield 102, 3) := by decide +kernel
theorem dX11_other_11 : decode cX11_other 11 = .ok (.getfield 351, 3) := by decide +kernel
theorem dX11_other_14 : decode cX11_other 14 = .ok (.iconst (-1), 1) := by decide +kernel
theorem dX11_other_15 : decode cX11_other 15 = .ok (.if_icmp .ne 5, 3) := by decide +kernel
theorem dX11_other_18 : decode cX11_other 18 = .ok (.iconst (-1), 1) := by decide +kernel
theorem dX11_other_19 : decode cX11_other 19 = .ok (.ireturn, 1) := by decide +kernel
theorem dX11_right_0 : decode cX11_right 0 = .ok (.iload_n 1, 1) := by decide +kernel
theorem dX11_right_1 : decode cX11_right 1 = .ok (.invokestatic 127, 3) := by decide +kernel
theorem dX11_right_4 : decode cX11_right 4 = .ok (.ifCond .eq 12, 3) := by decide +kernel
theorem dX11_right_7 : decode cX11_right 7 = .ok (.iload_n 2, 1) := by decide +kernel
theorem dX11_right_8 : decode cX11_right 8 = .ok (.iconst 2, 1) := by decide +kernel
theorem dX11_right_9 : decode cX11_right 9 = .ok (.iconst 3, 1) := by decide +kernel
theorem dX11_right_10 : decode cX11_right 10 = .ok (.invokestatic 131, 3) := by decide +kernel
theorem dX11_right_13 : decode cX11_right 13 = .ok (.ifCond .ne 7, 3) := by decide +kernel
theorem dX11_right_16 : decode cX11_right 16 = .ok (.ldc2_w 238, 3) := by decide +kernel
theorem dX11_right_19 : decode cX11_right 19 = .ok (.lreturn, 1) := by decide +kernel
theorem dX11_right_20 : decode cX11_right 20 = .ok (.aload_n 0, 1) := by decide +kernel
theorem dX11_right_21 : decode cX11_right 21 = .ok (.getfield 102, 3) := by decide +kernel
theorem dX11_right_24 : decode cX11_right 24 = .ok (.iload_n 1, 1) := by decide +kernel
theorem dX11_right_25 : decode cX11_right 25 = .ok (.iload_n 2, 1) := by decide +kernel
theorem dX11_right_26 : decode cX11_right 26 = .ok (.aload_n 0, 1) := by decide +kernel
theorem dX11_right_27 : decode cX11_right 27 = .ok (.getfield 58, 3) := by decide +kernel
theorem dX11_right_30 : decode cX11_right 30 = .ok (.invokevirtual 312, 3) := by decide +kernel
theorem dX11_right_33 : decode cX11_right 33 = .ok (.aload_n 0, 1) := by decide +kernel
theorem dX11_right_34 : decode cX11_right 34 = .ok (.getfield 58, 3) := by decide +kernel
theorem dX11_right_37 : decode cX11_right 37 = .ok (.iload_n 3, 1) := by decide +kernel
theorem dX11_right_38 : decode cX11_right 38 = .ok (.ldc2_w 238, 3) := by decide +kernel
theorem dX11_right_41 : decode cX11_right 41 = .ok (.invokevirtual 244, 3) := by decide +kernel
theorem dX11_right_44 : decode cX11_right 44 = .ok (.lreturn, 1) := by decide +kernel
theorem dX11_worth_0 : decode cX11_worth 0 = .ok (.iload_n 1, 1) := by decide +kernel
theorem dX11_worth_1 : decode cX11_worth 1 = .ok (.iconst 1, 1) := by decide +kernel
theorem dX11_worth_2 : decode cX11_worth 2 = .ok (.bipush 11, 2) := by decide +kernel
theorem dX11_worth_4 : decode cX11_worth 4 = .ok (.invokestatic 131, 3) := by decide +kernel
theorem dX11_worth_7 : decode cX11_worth 7 = .ok (.ifCond .eq 11, 3) := by decide +kernel
theorem dX11_worth_10 : decode cX11_worth 10 = .ok (.iload_n 2, 1) := by decide +kernel
theorem dX11_worth_11 : decode cX11_worth 11 = .ok (.iload_n 3, 1) := by decide +kernel
theorem dX11_worth_12 : decode cX11_worth 12 = .ok (.invokestatic 227, 3) := by decide +kernel
theorem dX11_worth_15 : decode cX11_worth 15 = .ok (.ifCond .ne 7, 3) := by decide +kernel
theorem dX11_worth_18 : decode cX11_worth 18 = .ok (.ldc2_w 326, 3) := by decide +kernel
theorem dX11_worth_21 : decode cX11_worth 21 = .ok (.lreturn, 1) := by decide +kernel
theorem dX11_worth_22 : decode cX11_worth 22 = .ok (.aload_n 0, 1) := by decide +kernel
theorem dX11_worth_23 : decode cX11_worth 23 = .ok (.getfield 102, 3) := by decide +kernel
theorem dX11_worth_26 : decode cX11_worth 26 = .ok (.iload_n 1, 1) := by decide +kernel
theorem dX11_worth_27 : decode cX11_worth 27 = .ok (.iload_n 2, 1) := by decide +kernel
theorem dX11_worth_28 : decode cX11_worth 28 = .ok (.iload_n 3, 1) := by decide +kernel
theorem dX11_worth_29 : decode cX11_worth 29 = .ok (.aload_n 0, 1) := by decide +kernel
theorem dX11_worth_30 : decode cX11_worth 30 = .ok (.getfield 58, 3) := by decide +kernel
theorem dX11_worth_33 : decode cX11_worth 33 = .ok (.invokevirtual 328, 3) := by decide +kernel
theorem dX11_worth_36 : decode cX11_worth 36 = .ok (.aload_n 0, 1) := by decide +kernel
theorem dX11_worth_37 : decode cX11_worth 37 = .ok (.getfield 58, 3) := by decide +kernel
theorem dX11_worth_40 : decode cX11_worth 40 = .ok (.iload 4, 2) := by decide +kernel
theorem dX11_worth_42 : decode cX11_worth 42 = .ok (.ldc2_w 326, 3) := by decide +kernel
theorem dX11_worth_45 : decode cX11_worth 45 = .ok (.invokevirtual 244, 3) := by decide +kernel
theorem dX11_worth_48 : decode cX11_worth 48 = .ok (.lreturn, 1) := by decide +kernel
set_option maxHeartbeats 4000000 in
set_option maxRecDepth 100000 in
theorem cx_other (l : Launch) (D : va_G) (cI cJ cZ cB : ClassId) (cO : ClassId) (x : Nat → Nat) (p1 : Int32) :
    CI l D [(cI, .int), (cJ, .long), (cZ, .boolean), (cB, .byte), (cO, .object "LuckLinks$World")] yX11_other cX11_other 2 (some .int) ({ frames := 1, cells := 0, slots := 0, locals := 23 } : Room) [.ref (x 0), .int p1] [((x 0), .inr (11, [.ref (x 1), .ref (x 10), .int (0 : Int32), .ref (x 11), .int (0 : Int32), .ref (x 12), .ref (x 34), .ref (x 50), .int (-1 : Int32), .ref (x 66), .ref (x 67), .ref (x 68), .ref (x 76), .ref (x 81), .ref (x 84), .ref (x 89), .ref (x 97)])), ((x 97), .inr (8, [.ref (x 1), .int (0 : Int32), .int (0 : Int32), .int (-1 : Int32), .int (0 : Int32), .long (0 : Int64), .long (0 : Int64), .long (0 : Int64)])), ((x 1), .inr (10, [.int (0 : Int32), .ref (x 2), .int (0 : Int32), .ref (x 3), .ref (x 4), .int (0 : Int32), .ref (x 5), .ref (x 6), .ref (x 7), .ref (x 8), .ref (x 9), .long (1 : Int64)]))] (fun (r : Int32) (u : Unit) => (r = (-1 : Int32) ∧ True)) (fun (_ : Unit) => []) := by
  intro sz
  refine body_of (y := yX11_other) (cc := cX11_other) (maxL := 2) (ret := (some .int)) (rm := ({ frames := 1, cells := 0, slots := 0, locals := 23 } : Room)) (wc := [((x 0), .inr (11, [.ref (x 1), .ref (x 10), .int (0 : Int32), .ref (x 11), .int (0 : Int32), .ref (x 12), .ref (x 34), .ref (x 50), .int (-1 : Int32), .ref (x 66), .ref (x 67), .ref (x 68), .ref (x 76), .ref (x 81), .ref (x 84), .ref (x 89), .ref (x 97)])), ((x 97), .inr (8, [.ref (x 1), .int (0 : Int32), .int (0 : Int32), .int (-1 : Int32), .int (0 : Int32), .long (0 : Int64), .long (0 : Int64), .long (0 : Int64)])), ((x 1), .inr (10, [.int (0 : Int32), .ref (x 2), .int (0 : Int32), .ref (x 3), .ref (x 4), .int (0 : Int32), .ref (x 5), .ref (x 6), .ref (x 7), .ref (x 8), .ref (x 9), .long (1 : Int64)]))]) (tys := [(cI, .int), (cJ, .long), (cZ, .boolean), (cB, .byte), (cO, .object "LuckLinks$World")]) (D := D) (sz := sz) (own := RX11) (av := [.ref (x 0), .int p1]) (Qc := fun A => va_Qi (fun (r : Int32) (u : Unit) => (r = (-1 : Int32) ∧ True)) (fun u t => Aft D A ((fun (_ : Unit) => []) u) t) A) (by decide) rfl (Nat.le_of_ble_eq_true rfl) (fun p e s m below meth c A ls C hr hlk hin X hl => ?_)
  have hx := C.1
  have hb := C.2.1
  have hown := C.2.2.2.1
  have hts := C.2.2.2.2.1
  have hl : lv_has ls 2 [(0, .ref (x 0)), (1, .int p1)] := hl
  show W p l e _ s m _ below meth c s.heap [] 0 0 (MQ below (va_Qi (fun (r : Int32) (u : Unit) => (r = (-1 : Int32) ∧ True)) (fun u t => Aft D A ((fun (_ : Unit) => []) u) t) A) ([.ref (x 0), .int p1] : List Value).toArray s 0 0 A) (F0 m 0 ls [])
  have X : Wd D A s [((x 0), .inr (11, [.ref (x 1), .ref (x 10), .int (0 : Int32), .ref (x 11), .int (0 : Int32), .ref (x 12), .ref (x 34), .ref (x 50), .int (-1 : Int32), .ref (x 66), .ref (x 67), .ref (x 68), .ref (x 76), .ref (x 81), .ref (x 84), .ref (x 89), .ref (x 97)])), ((x 97), .inr (8, [.ref (x 1), .int (0 : Int32), .int (0 : Int32), .int (-1 : Int32), .int (0 : Int32), .long (0 : Int64), .long (0 : Int64), .long (0 : Int64)])), ((x 1), .inr (10, [.int (0 : Int32), .ref (x 2), .int (0 : Int32), .ref (x 3), .ref (x 4), .int (0 : Int32), .ref (x 5), .ref (x 6), .ref (x 7), .ref (x 8), .ref (x 9), .long (1 : Int64)]))] s.heap [] := X
  obtain ⟨H, locs, eH, eL⟩ : ∃ H locs, H = s.heap ∧ locs = ([] : List Loc) := ⟨_, _, rfl, rfl⟩
  rw [← eH, ← eL] at X ⊢
  clear eH eL
  refine lv_aload_n hx hb dX11_other_0 rfl (lv_at hl 0 rfl) ?_
  refine x_get (own := RX11) (T := TX11) C X 0 rfl rfl 16 (by decide) k_3_12 rfl rfl (v := .ref (x 97)) rfl dX11_other_1 ?_
  refine x_cVv (own := RX11) (wr := [((x 0), .inr (11, [.ref (x 1), .ref (x 10), .int (0 : Int32), .ref (x 11), .int (0 : Int32), .ref (x 12), .ref (x 34), .ref (x 50), .int (-1 : Int32), .ref (x 66), .ref (x 67), .ref (x 68), .ref (x 76), .ref (x 81), .ref (x 84), .ref (x 89), .ref (x 97)]))]) (As := []) C X hl.1 (c_findOther l D cI cJ cZ cB cO (fun k => x (k + 97)) (fun k => x (k + 1))) [1, 2] [0] ⟨rfl, rfl, by decide, by decide, by decide⟩ (qb := 0) rfl rfl k_64_20 k_64_21 k_64_22 k_3_11 k_64_23 (n := 0) (by decide +kernel) ⟨Nat.le_of_ble_eq_true rfl, Nat.le_of_ble_eq_true rfl⟩ rfl rfl (Nat.le_of_ble_eq_true rfl) dX11_other_4 ⟨Nat.le_of_ble_eq_true rfl, Nat.le_of_ble_eq_true rfl⟩ (fun u_1 H locs w_3 X => ?_)
  have X : Wd D A s [((x 0), .inr (11, [.ref (x 1), .ref (x 10), .int (0 : Int32), .ref (x 11), .int (0 : Int32), .ref (x 12), .ref (x 34), .ref (x 50), .int (-1 : Int32), .ref (x 66), .ref (x 67), .ref (x 68), .ref (x 76), .ref (x 81), .ref (x 84), .ref (x 89), .ref (x 97)])), ((x 97), .inr (8, [.ref (x 1), .int (0 : Int32), .int (0 : Int32), .int (-1 : Int32), .int (0 : Int32), .long (0 : Int64), .long (0 : Int64), .long (0 : Int64)])), ((x 1), .inr (10, [.int (0 : Int32), .ref (x 2), .int (0 : Int32), .ref (x 3), .ref (x 4), .int (0 : Int32), .ref (x 5), .ref (x 6), .ref (x 7), .ref (x 8), .ref (x 9), .long (1 : Int64)]))] H locs := X
  refine W.widen (k := 0) (n := 0) (Nat.le_of_ble_eq_true rfl) (Nat.le_of_ble_eq_true rfl) ?_
  refine lv_aload_n hx hb dX11_other_7 rfl (lv_at hl 0 rfl) ?_
  refine x_get (own := RX11) (T := TX11) C X 0 rfl rfl 16 (by decide) k_3_12 rfl rfl (v := .ref (x 97)) rfl dX11_other_8 ?_
  refine x_get (own := RX11) (T := TX8) C X 1 rfl rfl 3 (by decide) k_64_18 rfl rfl (v := .int (-1 : Int32)) rfl dX11_other_11 ?_
  refine lv_iconst (v := (-1 : Int32)) hx hb dX11_other_14 (by decide) ?_
  refine lv_icmp_ne (tgt := 20) hx hb dX11_other_15 (by decide) (fun c0 => absurd (by decide) c0) (fun _ => ?_)
  refine lv_iconst (v := (-1 : Int32)) hx hb dX11_other_18 (by decide) ?_
  exact x_iret C X hr hlk (v := (-1 : Int32)) (by first | rfl | decide) (()) [] (by decide) rfl (⟨rfl, trivial⟩) (Nat.le_of_ble_eq_true rfl) (Nat.le_of_ble_eq_true rfl) dX11_other_19
set_option maxHeartbeats 4000000 in
set_option maxRecDepth 100000 in
theorem cx_luck (l : Launch) (D : va_G) (cI cJ cZ cB : ClassId) (cO : ClassId) (x : Nat → Nat) (p1 p2 p3 p4 : Int32) :
    CL l D [(cI, .int), (cJ, .long), (cZ, .boolean), (cB, .byte), (cO, .object "LuckLinks$World")] yX11_luck cX11_luck 5 ({ frames := 3, cells := 0, slots := 0, locals := 81 } : Room) [.ref (x 0), .int p1, .int p2, .int p3, .int p4] [((x 0), .inr (11, [.ref (x 1), .ref (x 10), .int (0 : Int32), .ref (x 11), .int (0 : Int32), .ref (x 12), .ref (x 34), .ref (x 50), .int (-1 : Int32), .ref (x 66), .ref (x 67), .ref (x 68), .ref (x 76), .ref (x 81), .ref (x 84), .ref (x 89), .ref (x 97)])), ((x 97), .inr (8, [.ref (x 1), .int (0 : Int32), .int (0 : Int32), .int (-1 : Int32), .int (0 : Int32), .long (0 : Int64), .long (0 : Int64), .long (0 : Int64)])), ((x 1), .inr (10, [.int (0 : Int32), .ref (x 2), .int (0 : Int32), .ref (x 3), .ref (x 4), .int (0 : Int32), .ref (x 5), .ref (x 6), .ref (x 7), .ref (x 8), .ref (x 9), .long (1 : Int64)])), ((x 7), .inl (cI, 160, .inl (fun _ => (0 : Int32)))), ((x 67), .inr (6, [.long (0 : Int64), .long (0 : Int64)]))] (fun (r : Int64) (u : Unit) => (r = (-1 : Int64) ∧ True)) (fun (_ : Unit) => []) := by
  intro sz
  refine body_of (y := yX11_luck) (cc := cX11_luck) (maxL := 5) (ret := (some .long)) (rm := ({ frames := 3, cells := 0, slots := 0, locals := 81 } : Room)) (wc := [((x 0), .inr (11, [.ref (x 1), .ref (x 10), .int (0 : Int32), .ref (x 11), .int (0 : Int32), .ref (x 12), .ref (x 34), .ref (x 50), .int (-1 : Int32), .ref (x 66), .ref (x 67), .ref (x 68), .ref (x 76), .ref (x 81), .ref (x 84), .ref (x 89), .ref (x 97)])), ((x 97), .inr (8, [.ref (x 1), .int (0 : Int32), .int (0 : Int32), .int (-1 : Int32), .int (0 : Int32), .long (0 : Int64), .long (0 : Int64), .long (0 : Int64)])), ((x 1), .inr (10, [.int (0 : Int32), .ref (x 2), .int (0 : Int32), .ref (x 3), .ref (x 4), .int (0 : Int32), .ref (x 5), .ref (x 6), .ref (x 7), .ref (x 8), .ref (x 9), .long (1 : Int64)])), ((x 7), .inl (cI, 160, .inl (fun _ => (0 : Int32)))), ((x 67), .inr (6, [.long (0 : Int64), .long (0 : Int64)]))]) (tys := [(cI, .int), (cJ, .long), (cZ, .boolean), (cB, .byte), (cO, .object "LuckLinks$World")]) (D := D) (sz := sz) (own := RX11) (av := [.ref (x 0), .int p1, .int p2, .int p3, .int p4]) (Qc := fun A => va_Ql (fun (r : Int64) (u : Unit) => (r = (-1 : Int64) ∧ True)) (fun u t => Aft D A ((fun (_ : Unit) => []) u) t) A) (by decide) rfl (Nat.le_of_ble_eq_true rfl) (fun p e s m below meth c A ls C hr hlk hin X hl => ?_)
  have hx := C.1
  have hb := C.2.1
  have hown := C.2.2.2.1
  have hts := C.2.2.2.2.1
  have hl : lv_has ls 5 [(0, .ref (x 0)), (1, .int p1), (2, .int p2), (3, .int p3), (4, .int p4)] := hl
  show W p l e _ s m _ below meth c s.heap [] 0 0 (MQ below (va_Ql (fun (r : Int64) (u : Unit) => (r = (-1 : Int64) ∧ True)) (fun u t => Aft D A ((fun (_ : Unit) => []) u) t) A) ([.ref (x 0), .int p1, .int p2, .int p3, .int p4] : List Value).toArray s 0 0 A) (F0 m 0 ls [])
  have X : Wd D A s [((x 0), .inr (11, [.ref (x 1), .ref (x 10), .int (0 : Int32), .ref (x 11), .int (0 : Int32), .ref (x 12), .ref (x 34), .ref (x 50), .int (-1 : Int32), .ref (x 66), .ref (x 67), .ref (x 68), .ref (x 76), .ref (x 81), .ref (x 84), .ref (x 89), .ref (x 97)])), ((x 97), .inr (8, [.ref (x 1), .int (0 : Int32), .int (0 : Int32), .int (-1 : Int32), .int (0 : Int32), .long (0 : Int64), .long (0 : Int64), .long (0 : Int64)])), ((x 1), .inr (10, [.int (0 : Int32), .ref (x 2), .int (0 : Int32), .ref (x 3), .ref (x 4), .int (0 : Int32), .ref (x 5), .ref (x 6), .ref (x 7), .ref (x 8), .ref (x 9), .long (1 : Int64)])), ((x 7), .inl (cI, 160, .inl (fun _ => (0 : Int32)))), ((x 67), .inr (6, [.long (0 : Int64), .long (0 : Int64)]))] s.heap [] := X
  obtain ⟨H, locs, eH, eL⟩ : ∃ H locs, H = s.heap ∧ locs = ([] : List Loc) := ⟨_, _, rfl, rfl⟩
  rw [← eH, ← eL] at X ⊢
  clear eH eL
  refine lv_iload_n hx hb dX11_luck_0 rfl (lv_at hl 1 rfl) ?_
  refine x_cS (own := RX11) (wr := [((x 0), .inr (11, [.ref (x 1), .ref (x 10), .int (0 : Int32), .ref (x 11), .int (0 : Int32), .ref (x 12), .ref (x 34), .ref (x 50), .int (-1 : Int32), .ref (x 66), .ref (x 67), .ref (x 68), .ref (x 76), .ref (x 81), .ref (x 84), .ref (x 89), .ref (x 97)])), ((x 97), .inr (8, [.ref (x 1), .int (0 : Int32), .int (0 : Int32), .int (-1 : Int32), .int (0 : Int32), .long (0 : Int64), .long (0 : Int64), .long (0 : Int64)])), ((x 1), .inr (10, [.int (0 : Int32), .ref (x 2), .int (0 : Int32), .ref (x 3), .ref (x 4), .int (0 : Int32), .ref (x 5), .ref (x 6), .ref (x 7), .ref (x 8), .ref (x 9), .long (1 : Int64)])), ((x 7), .inl (cI, 160, .inl (fun _ => (0 : Int32)))), ((x 67), .inr (6, [.long (0 : Int64), .long (0 : Int64)]))]) (As := [.int p1]) C X hl.1 (c_isPart l D cI cJ cZ cB cO p1) [] [0, 1, 2, 3, 4] ⟨rfl, rfl, by decide, by decide, by decide⟩ k_38_15 k_38_16 k_1_2 k_38_17 (n := 1) (by decide +kernel) ⟨Nat.le_of_ble_eq_true rfl, Nat.le_of_ble_eq_true rfl⟩ rfl rfl (Nat.le_of_ble_eq_true rfl) dX11_luck_1 ⟨Nat.le_of_ble_eq_true rfl, Nat.le_of_ble_eq_true rfl⟩ (fun r_2 u_1 H locs w_3 X => ?_)
  have X : Wd D A s [((x 0), .inr (11, [.ref (x 1), .ref (x 10), .int (0 : Int32), .ref (x 11), .int (0 : Int32), .ref (x 12), .ref (x 34), .ref (x 50), .int (-1 : Int32), .ref (x 66), .ref (x 67), .ref (x 68), .ref (x 76), .ref (x 81), .ref (x 84), .ref (x 89), .ref (x 97)])), ((x 97), .inr (8, [.ref (x 1), .int (0 : Int32), .int (0 : Int32), .int (-1 : Int32), .int (0 : Int32), .long (0 : Int64), .long (0 : Int64), .long (0 : Int64)])), ((x 1), .inr (10, [.int (0 : Int32), .ref (x 2), .int (0 : Int32), .ref (x 3), .ref (x 4), .int (0 : Int32), .ref (x 5), .ref (x 6), .ref (x 7), .ref (x 8), .ref (x 9), .long (1 : Int64)])), ((x 7), .inl (cI, 160, .inl (fun _ => (0 : Int32)))), ((x 67), .inr (6, [.long (0 : Int64), .long (0 : Int64)]))] H locs := X
  refine W.widen (k := 0) (n := 0) (Nat.le_of_ble_eq_true rfl) (Nat.le_of_ble_eq_true rfl) ?_
  obtain ⟨rfl, fw_3⟩ | ⟨rfl, fw_3⟩ : (r_2 = (1 : Int32) ∧ (-1 ≤ (p1).toInt ∧ (p1).toInt ≤ 3)) ∨ (r_2 = (0 : Int32) ∧ ((p1).toInt < -1 ∨ 3 < (p1).toInt)) := w_3
  · refine lv_if_eq (tgt := 15) hx hb dX11_luck_4 (by decide) (fun c0 => absurd c0 (by decide)) (fun _ => ?_)
    refine lv_iload_n hx hb dX11_luck_7 rfl (lv_at hl 2 rfl) ?_
    refine lv_iload_n hx hb dX11_luck_8 rfl (lv_at hl 3 rfl) ?_
    refine x_cS (own := RX11) (wr := [((x 0), .inr (11, [.ref (x 1), .ref (x 10), .int (0 : Int32), .ref (x 11), .int (0 : Int32), .ref (x 12), .ref (x 34), .ref (x 50), .int (-1 : Int32), .ref (x 66), .ref (x 67), .ref (x 68), .ref (x 76), .ref (x 81), .ref (x 84), .ref (x 89), .ref (x 97)])), ((x 97), .inr (8, [.ref (x 1), .int (0 : Int32), .int (0 : Int32), .int (-1 : Int32), .int (0 : Int32), .long (0 : Int64), .long (0 : Int64), .long (0 : Int64)])), ((x 1), .inr (10, [.int (0 : Int32), .ref (x 2), .int (0 : Int32), .ref (x 3), .ref (x 4), .int (0 : Int32), .ref (x 5), .ref (x 6), .ref (x 7), .ref (x 8), .ref (x 9), .long (1 : Int64)])), ((x 7), .inl (cI, 160, .inl (fun _ => (0 : Int32)))), ((x 67), .inr (6, [.long (0 : Int64), .long (0 : Int64)]))]) (As := [.int p2, .int p3]) C X hl.1 (c_areWeeks l D cI cJ cZ cB cO p2 p3) [] [0, 1, 2, 3, 4] ⟨rfl, rfl, by decide, by decide, by decide⟩ k_41_2 k_41_3 k_1_2 k_41_4 (n := 2) (by decide +kernel) ⟨Nat.le_of_ble_eq_true rfl, Nat.le_of_ble_eq_true rfl⟩ rfl rfl (Nat.le_of_ble_eq_true rfl) dX11_luck_9 ⟨Nat.le_of_ble_eq_true rfl, Nat.le_of_ble_eq_true rfl⟩ (fun r_5 u_4 H locs w_6 X => ?_)
    have X : Wd D A s [((x 0), .inr (11, [.ref (x 1), .ref (x 10), .int (0 : Int32), .ref (x 11), .int (0 : Int32), .ref (x 12), .ref (x 34), .ref (x 50), .int (-1 : Int32), .ref (x 66), .ref (x 67), .ref (x 68), .ref (x 76), .ref (x 81), .ref (x 84), .ref (x 89), .ref (x 97)])), ((x 97), .inr (8, [.ref (x 1), .int (0 : Int32), .int (0 : Int32), .int (-1 : Int32), .int (0 : Int32), .long (0 : Int64), .long (0 : Int64), .long (0 : Int64)])), ((x 1), .inr (10, [.int (0 : Int32), .ref (x 2), .int (0 : Int32), .ref (x 3), .ref (x 4), .int (0 : Int32), .ref (x 5), .ref (x 6), .ref (x 7), .ref (x 8), .ref (x 9), .long (1 : Int64)])), ((x 7), .inl (cI, 160, .inl (fun _ => (0 : Int32)))), ((x 67), .inr (6, [.long (0 : Int64), .long (0 : Int64)]))] H locs := X
    refine W.widen (k := 0) (n := 0) (Nat.le_of_ble_eq_true rfl) (Nat.le_of_ble_eq_true rfl) ?_
    obtain ⟨rfl, fw_6⟩ | ⟨rfl, fw_6⟩ : (r_5 = (1 : Int32) ∧ (0 ≤ (p2).toInt ∧ (p2).toInt ≤ (p3).toInt ∧ (p3).toInt ≤ 39)) ∨ (r_5 = (0 : Int32) ∧ ((p2).toInt < 0 ∨ (p3).toInt < (p2).toInt ∨ 39 < (p3).toInt)) := w_6
    · refine lv_if_ne (tgt := 19) hx hb dX11_luck_12 (by decide) (fun _ => ?_) (fun c0 => absurd c0 (by decide))
      obtain ⟨j2, hj2, hqj2⟩ := i_ex (x := p2) 40 (by omega) (by omega)
      have ej2 : p2.toInt = (j2 : Int) := by rw [hqj2]; exact nI_toInt (by omega)
      rw [hqj2] at hl
      have hl : lv_has ls 5 [(0, .ref (x 0)), (1, .int p1), (2, .int (nI (j2))), (3, .int p3), (4, .int p4)] := hl
      obtain ⟨j3, hj3, hqj3⟩ := i_ex (x := p3) 40 (by omega) (by omega)
      have ej3 : p3.toInt = (j3 : Int) := by rw [hqj3]; exact nI_toInt (by omega)
      rw [hqj3] at hl
      have hl : lv_has ls 5 [(0, .ref (x 0)), (1, .int p1), (2, .int (nI (j2))), (3, .int (nI (j3))), (4, .int p4)] := hl
      refine lv_aload_n hx hb dX11_luck_19 rfl (lv_at hl 0 rfl) ?_
      refine x_get (own := RX11) (T := TX11) C X 0 rfl rfl 16 (by decide) k_3_12 rfl rfl (v := .ref (x 97)) rfl dX11_luck_20 ?_
      refine lv_iload_n hx hb dX11_luck_23 rfl (lv_at hl 1 rfl) ?_
      refine lv_iload_n hx hb dX11_luck_24 rfl (lv_at hl 2 rfl) ?_
      refine lv_iload_n hx hb dX11_luck_25 rfl (lv_at hl 3 rfl) ?_
      refine lv_aload_n hx hb dX11_luck_26 rfl (lv_at hl 0 rfl) ?_
      refine x_get (own := RX11) (T := TX11) C X 0 rfl rfl 10 (by decide) k_2_12 rfl rfl (v := .ref (x 67)) rfl dX11_luck_27 ?_
      refine x_cVv (own := RX11) (wr := [((x 0), .inr (11, [.ref (x 1), .ref (x 10), .int (0 : Int32), .ref (x 11), .int (0 : Int32), .ref (x 12), .ref (x 34), .ref (x 50), .int (-1 : Int32), .ref (x 66), .ref (x 67), .ref (x 68), .ref (x 76), .ref (x 81), .ref (x 84), .ref (x 89), .ref (x 97)]))]) (As := [.int p1, .int (nI (j2)), .int (nI (j3)), .ref (x 67)]) C X hl.1 (c_compareCouples l D cI cJ cZ cB cO (fun k => x (k + 97)) (fun k => x (k + 1)) (fun k => x (k + 67)) p1 j2 j3 (by omega) (by omega)) [1, 2, 3, 4] [0] ⟨rfl, rfl, by decide, by decide, by decide⟩ (qb := 0) rfl rfl k_43_5 k_43_6 k_43_7 k_3_11 k_43_8 (n := 4) (by decide +kernel) ⟨Nat.le_of_ble_eq_true rfl, Nat.le_of_ble_eq_true rfl⟩ rfl rfl (Nat.le_of_ble_eq_true rfl) dX11_luck_30 ⟨Nat.le_of_ble_eq_true rfl, Nat.le_of_ble_eq_true rfl⟩ (fun u_7 H locs w_9 X => ?_)
      have X : Wd D A s [((x 0), .inr (11, [.ref (x 1), .ref (x 10), .int (0 : Int32), .ref (x 11), .int (0 : Int32), .ref (x 12), .ref (x 34), .ref (x 50), .int (-1 : Int32), .ref (x 66), .ref (x 67), .ref (x 68), .ref (x 76), .ref (x 81), .ref (x 84), .ref (x 89), .ref (x 97)])), ((x 97), .inr (8, [.ref (x 1), .int (0 : Int32), .int (0 : Int32), .int (-1 : Int32), .int (0 : Int32), .long (0 : Int64), .long (0 : Int64), .long (0 : Int64)])), ((x 1), .inr (10, [.int (0 : Int32), .ref (x 2), .int (0 : Int32), .ref (x 3), .ref (x 4), .int (0 : Int32), .ref (x 5), .ref (x 6), .ref (x 7), .ref (x 8), .ref (x 9), .long (1 : Int64)])), ((x 7), .inl (cI, 160, .inl (fun _ => (0 : Int32)))), ((x 67), .inr (6, [.long (0 : Int64), .long (0 : Int64)]))] H locs := X
      refine W.widen (k := 0) (n := 0) (Nat.le_of_ble_eq_true rfl) (Nat.le_of_ble_eq_true rfl) ?_
      refine lv_aload_n hx hb dX11_luck_33 rfl (lv_at hl 0 rfl) ?_
      refine x_get (own := RX11) (T := TX11) C X 0 rfl rfl 10 (by decide) k_2_12 rfl rfl (v := .ref (x 67)) rfl dX11_luck_34 ?_
      refine lv_iload hx hb dX11_luck_37 (lv_at hl 4 rfl) ?_
      refine lv_ldc2 (own := RX11) (v := (-1 : Int64)) hx hb hown (hts _ k_43_4) dX11_luck_39 ?_
      refine x_cVl (own := RX11) (wr := [((x 0), .inr (11, [.ref (x 1), .ref (x 10), .int (0 : Int32), .ref (x 11), .int (0 : Int32), .ref (x 12), .ref (x 34), .ref (x 50), .int (-1 : Int32), .ref (x 66), .ref (x 67), .ref (x 68), .ref (x 76), .ref (x 81), .ref (x 84), .ref (x 89), .ref (x 97)])), ((x 97), .inr (8, [.ref (x 1), .int (0 : Int32), .int (0 : Int32), .int (-1 : Int32), .int (0 : Int32), .long (0 : Int64), .long (0 : Int64), .long (0 : Int64)])), ((x 1), .inr (10, [.int (0 : Int32), .ref (x 2), .int (0 : Int32), .ref (x 3), .ref (x 4), .int (0 : Int32), .ref (x 5), .ref (x 6), .ref (x 7), .ref (x 8), .ref (x 9), .long (1 : Int64)])), ((x 7), .inl (cI, 160, .inl (fun _ => (0 : Int32))))]) (As := [.int p4, .long (-1 : Int64)]) C X hl.1 (c_pick l D cI cJ cZ cB cO (fun k => x (k + 67)) p4 (-1 : Int64)) [4] [0, 1, 2, 3] ⟨rfl, rfl, by decide, by decide, by decide⟩ (qb := 0) rfl rfl k_44_21 k_44_22 k_44_23 k_2_11 k_45_0 (n := 2) (by decide +kernel) ⟨Nat.le_of_ble_eq_true rfl, Nat.le_of_ble_eq_true rfl⟩ rfl rfl (Nat.le_of_ble_eq_true rfl) dX11_luck_42 ⟨Nat.le_of_ble_eq_true rfl, Nat.le_of_ble_eq_true rfl⟩ (fun r_11 u_10 H locs w_12 X => ?_)
      have X : Wd D A s [((x 0), .inr (11, [.ref (x 1), .ref (x 10), .int (0 : Int32), .ref (x 11), .int (0 : Int32), .ref (x 12), .ref (x 34), .ref (x 50), .int (-1 : Int32), .ref (x 66), .ref (x 67), .ref (x 68), .ref (x 76), .ref (x 81), .ref (x 84), .ref (x 89), .ref (x 97)])), ((x 97), .inr (8, [.ref (x 1), .int (0 : Int32), .int (0 : Int32), .int (-1 : Int32), .int (0 : Int32), .long (0 : Int64), .long (0 : Int64), .long (0 : Int64)])), ((x 1), .inr (10, [.int (0 : Int32), .ref (x 2), .int (0 : Int32), .ref (x 3), .ref (x 4), .int (0 : Int32), .ref (x 5), .ref (x 6), .ref (x 7), .ref (x 8), .ref (x 9), .long (1 : Int64)])), ((x 7), .inl (cI, 160, .inl (fun _ => (0 : Int32))))] H locs := X
      refine W.widen (k := 0) (n := 0) (Nat.le_of_ble_eq_true rfl) (Nat.le_of_ble_eq_true rfl) ?_
      obtain ⟨rfl, fw_12⟩ : r_11 = (-1 : Int64) ∧ True := w_12
      exact x_lret C X hr hlk (v := (-1 : Int64)) (()) [] (by decide) rfl (⟨rfl, trivial⟩) (Nat.le_of_ble_eq_true rfl) (Nat.le_of_ble_eq_true rfl) dX11_luck_45
    · refine lv_if_ne (tgt := 19) hx hb dX11_luck_12 (by decide) (fun c0 => absurd (by decide) c0) (fun _ => ?_)
      refine lv_ldc2 (own := RX11) (v := (-1 : Int64)) hx hb hown (hts _ k_43_4) dX11_luck_15 ?_
      exact x_lret C X hr hlk (v := (-1 : Int64)) (()) [] (by decide) rfl (⟨rfl, trivial⟩) (Nat.le_of_ble_eq_true rfl) (Nat.le_of_ble_eq_true rfl) dX11_luck_18
  · refine lv_if_eq (tgt := 15) hx hb dX11_luck_4 (by decide) (fun _ => ?_) (fun c0 => absurd (by decide) c0)
    refine lv_ldc2 (own := RX11) (v := (-1 : Int64)) hx hb hown (hts _ k_43_4) dX11_luck_15 ?_
    exact x_lret C X hr hlk (v := (-1 : Int64)) (()) [] (by decide) rfl (⟨rfl, trivial⟩) (Nat.le_of_ble_eq_true rfl) (Nat.le_of_ble_eq_true rfl) dX11_luck_18
set_option maxHeartbeats 4000000 in
set_option maxRecDepth 100000 in
theorem cx_worth (l : Launch) (D : va_G) (cI cJ cZ cB : ClassId) (cO : ClassId) (x : Nat → Nat) (p1 p2 p3 p4 : Int32) :
    CL l D [(cI, .int), (cJ, .long), (cZ, .boolean), (cB, .byte), (cO, .object "LuckLinks$World")] yX11_worth cX11_worth 5 ({ frames := 3, cells := 0, slots := 0, locals := 84 } : Room) [.ref (x 0), .int p1, .int p2, .int p3, .int p4] [((x 0), .inr (11, [.ref (x 1), .ref (x 10), .int (0 : Int32), .ref (x 11), .int (0 : Int32), .ref (x 12), .ref (x 34), .ref (x 50), .int (-1 : Int32), .ref (x 66), .ref (x 67), .ref (x 68), .ref (x 76), .ref (x 81), .ref (x 84), .ref (x 89), .ref (x 97)])), ((x 97), .inr (8, [.ref (x 1), .int (0 : Int32), .int (0 : Int32), .int (-1 : Int32), .int (0 : Int32), .long (0 : Int64), .long (0 : Int64), .long (0 : Int64)])), ((x 1), .inr (10, [.int (0 : Int32), .ref (x 2), .int (0 : Int32), .ref (x 3), .ref (x 4), .int (0 : Int32), .ref (x 5), .ref (x 6), .ref (x 7), .ref (x 8), .ref (x 9), .long (1 : Int64)])), ((x 7), .inl (cI, 160, .inl (fun _ => (0 : Int32)))), ((x 67), .inr (6, [.long (0 : Int64), .long (0 : Int64)]))] (fun (r : Int64) (u : Unit) => (r = (-1000000000 : Int64) ∧ True)) (fun (_ : Unit) => []) := by
  intro sz
  refine body_of (y := yX11_worth) (cc := cX11_worth) (maxL := 5) (ret := (some .long)) (rm := ({ frames := 3, cells := 0, slots := 0, locals := 84 } : Room)) (wc := [((x 0), .inr (11, [.ref (x 1), .ref (x 10), .int (0 : Int32), .ref (x 11), .int (0 : Int32), .ref (x 12), .ref (x 34), .ref (x 50), .int (-1 : Int32), .ref (x 66), .ref (x 67), .ref (x 68), .ref (x 76), .ref (x 81), .ref (x 84), .ref (x 89), .ref (x 97)])), ((x 97), .inr (8, [.ref (x 1), .int (0 : Int32), .int (0 : Int32), .int (-1 : Int32), .int (0 : Int32), .long (0 : Int64), .long (0 : Int64), .long (0 : Int64)])), ((x 1), .inr (10, [.int (0 : Int32), .ref (x 2), .int (0 : Int32), .ref (x 3), .ref (x 4), .int (0 : Int32), .ref (x 5), .ref (x 6), .ref (x 7), .ref (x 8), .ref (x 9), .long (1 : Int64)])), ((x 7), .inl (cI, 160, .inl (fun _ => (0 : Int32)))), ((x 67), .inr (6, [.long (0 : Int64), .long (0 : Int64)]))]) (tys := [(cI, .int), (cJ, .long), (cZ, .boolean), (cB, .byte), (cO, .object "LuckLinks$World")]) (D := D) (sz := sz) (own := RX11) (av := [.ref (x 0), .int p1, .int p2, .int p3, .int p4]) (Qc := fun A => va_Ql (fun (r : Int64) (u : Unit) => (r = (-1000000000 : Int64) ∧ True)) (fun u t => Aft D A ((fun (_ : Unit) => []) u) t) A) (by decide) rfl (Nat.le_of_ble_eq_true rfl) (fun p e s m below meth c A ls C hr hlk hin X hl => ?_)
  have hx := C.1
  have hb := C.2.1
  have hown := C.2.2.2.1
  have hts := C.2.2.2.2.1
  have hl : lv_has ls 5 [(0, .ref (x 0)), (1, .int p1), (2, .int p2), (3, .int p3), (4, .int p4)] := hl
  show W p l e _ s m _ below meth c s.heap [] 0 0 (MQ below (va_Ql (fun (r : Int64) (u : Unit) => (r = (-1000000000 : Int64) ∧ True)) (fun u t => Aft D A ((fun (_ : Unit) => []) u) t) A) ([.ref (x 0), .int p1, .int p2, .int p3, .int p4] : List Value).toArray s 0 0 A) (F0 m 0 ls [])
  have X : Wd D A s [((x 0), .inr (11, [.ref (x 1), .ref (x 10), .int (0 : Int32), .ref (x 11), .int (0 : Int32), .ref (x 12), .ref (x 34), .ref (x 50), .int (-1 : Int32), .ref (x 66), .ref (x 67), .ref (x 68), .ref (x 76), .ref (x 81), .ref (x 84), .ref (x 89), .ref (x 97)])), ((x 97), .inr (8, [.ref (x 1), .int (0 : Int32), .int (0 : Int32), .int (-1 : Int32), .int (0 : Int32), .long (0 : Int64), .long (0 : Int64), .long (0 : Int64)])), ((x 1), .inr (10, [.int (0 : Int32), .ref (x 2), .int (0 : Int32), .ref (x 3), .ref (x 4), .int (0 : Int32), .ref (x 5), .ref (x 6), .ref (x 7), .ref (x 8), .ref (x 9), .long (1 : Int64)])), ((x 7), .inl (cI, 160, .inl (fun _ => (0 : Int32)))), ((x 67), .inr (6, [.long (0 : Int64), .long (0 : Int64)]))] s.heap [] := X
  obtain ⟨H, locs, eH, eL⟩ : ∃ H locs, H = s.heap ∧ locs = ([] : List Loc) := ⟨_, _, rfl, rfl⟩
  rw [← eH, ← eL] at X ⊢
  clear eH eL
  refine lv_iload_n hx hb dX11_worth_0 rfl (lv_at hl 1 rfl) ?_
  refine lv_iconst (v := (1 : Int32)) hx hb dX11_worth_1 (by decide) ?_
  refine lv_bipush (v := (11 : Int32)) hx hb dX11_worth_2 (by decide) ?_
  refine x_cS (own := RX11) (wr := [((x 0), .inr (11, [.ref (x 1), .ref (x 10), .int (0 : Int32), .ref (x 11), .int (0 : Int32), .ref (x 12), .ref (x 34), .ref (x 50), .int (-1 : Int32), .ref (x 66), .ref (x 67), .ref (x 68), .ref (x 76), .ref (x 81), .ref (x 84), .ref (x 89), .ref (x 97)])), ((x 97), .inr (8, [.ref (x 1), .int (0 : Int32), .int (0 : Int32), .int (-1 : Int32), .int (0 : Int32), .long (0 : Int64), .long (0 : Int64), .long (0 : Int64)])), ((x 1), .inr (10, [.int (0 : Int32), .ref (x 2), .int (0 : Int32), .ref (x 3), .ref (x 4), .int (0 : Int32), .ref (x 5), .ref (x 6), .ref (x 7), .ref (x 8), .ref (x 9), .long (1 : Int64)])), ((x 7), .inl (cI, 160, .inl (fun _ => (0 : Int32)))), ((x 67), .inr (6, [.long (0 : Int64), .long (0 : Int64)]))]) (As := [.int p1, .int (1 : Int32), .int (11 : Int32)]) C X hl.1 (c_isBetween l D cI cJ cZ cB cO p1 (1 : Int32) (11 : Int32)) [] [0, 1, 2, 3, 4] ⟨rfl, rfl, by decide, by decide, by decide⟩ k_12_5 k_12_6 k_1_2 k_12_7 (n := 3) (by decide +kernel) ⟨Nat.le_of_ble_eq_true rfl, Nat.le_of_ble_eq_true rfl⟩ rfl rfl (Nat.le_of_ble_eq_true rfl) dX11_worth_4 ⟨Nat.le_of_ble_eq_true rfl, Nat.le_of_ble_eq_true rfl⟩ (fun r_2 u_1 H locs w_3 X => ?_)
  have X : Wd D A s [((x 0), .inr (11, [.ref (x 1), .ref (x 10), .int (0 : Int32), .ref (x 11), .int (0 : Int32), .ref (x 12), .ref (x 34), .ref (x 50), .int (-1 : Int32), .ref (x 66), .ref (x 67), .ref (x 68), .ref (x 76), .ref (x 81), .ref (x 84), .ref (x 89), .ref (x 97)])), ((x 97), .inr (8, [.ref (x 1), .int (0 : Int32), .int (0 : Int32), .int (-1 : Int32), .int (0 : Int32), .long (0 : Int64), .long (0 : Int64), .long (0 : Int64)])), ((x 1), .inr (10, [.int (0 : Int32), .ref (x 2), .int (0 : Int32), .ref (x 3), .ref (x 4), .int (0 : Int32), .ref (x 5), .ref (x 6), .ref (x 7), .ref (x 8), .ref (x 9), .long (1 : Int64)])), ((x 7), .inl (cI, 160, .inl (fun _ => (0 : Int32)))), ((x 67), .inr (6, [.long (0 : Int64), .long (0 : Int64)]))] H locs := X
  refine W.widen (k := 0) (n := 0) (Nat.le_of_ble_eq_true rfl) (Nat.le_of_ble_eq_true rfl) ?_
  obtain ⟨rfl, fw_3⟩ | ⟨rfl, fw_3⟩ : (r_2 = (1 : Int32) ∧ ((1 : Int) ≤ (p1).toInt ∧ (p1).toInt ≤ (11 : Int))) ∨ (r_2 = (0 : Int32) ∧ ((p1).toInt < (1 : Int) ∨ (11 : Int) < (p1).toInt)) := w_3
  · refine lv_if_eq (tgt := 18) hx hb dX11_worth_7 (by decide) (fun c0 => absurd c0 (by decide)) (fun _ => ?_)
    refine lv_iload_n hx hb dX11_worth_10 rfl (lv_at hl 2 rfl) ?_
    refine lv_iload_n hx hb dX11_worth_11 rfl (lv_at hl 3 rfl) ?_
    refine x_cS (own := RX11) (wr := [((x 0), .inr (11, [.ref (x 1), .ref (x 10), .int (0 : Int32), .ref (x 11), .int (0 : Int32), .ref (x 12), .ref (x 34), .ref (x 50), .int (-1 : Int32), .ref (x 66), .ref (x 67), .ref (x 68), .ref (x 76), .ref (x 81), .ref (x 84), .ref (x 89), .ref (x 97)])), ((x 97), .inr (8, [.ref (x 1), .int (0 : Int32), .int (0 : Int32), .int (-1 : Int32), .int (0 : Int32), .long (0 : Int64), .long (0 : Int64), .long (0 : Int64)])), ((x 1), .inr (10, [.int (0 : Int32), .ref (x 2), .int (0 : Int32), .ref (x 3), .ref (x 4), .int (0 : Int32), .ref (x 5), .ref (x 6), .ref (x 7), .ref (x 8), .ref (x 9), .long (1 : Int64)])), ((x 7), .inl (cI, 160, .inl (fun _ => (0 : Int32)))), ((x 67), .inr (6, [.long (0 : Int64), .long (0 : Int64)]))]) (As := [.int p2, .int p3]) C X hl.1 (c_areWeeks l D cI cJ cZ cB cO p2 p3) [] [0, 1, 2, 3, 4] ⟨rfl, rfl, by decide, by decide, by decide⟩ k_41_2 k_41_3 k_1_2 k_41_4 (n := 2) (by decide +kernel) ⟨Nat.le_of_ble_eq_true rfl, Nat.le_of_ble_eq_true rfl⟩ rfl rfl (Nat.le_of_ble_eq_true rfl) dX11_worth_12 ⟨Nat.le_of_ble_eq_true rfl, Nat.le_of_ble_eq_true rfl⟩ (fun r_5 u_4 H locs w_6 X => ?_)
    have X : Wd D A s [((x 0), .inr (11, [.ref (x 1), .ref (x 10), .int (0 : Int32), .ref (x 11), .int (0 : Int32), .ref (x 12), .ref (x 34), .ref (x 50), .int (-1 : Int32), .ref (x 66), .ref (x 67), .ref (x 68), .ref (x 76), .ref (x 81), .ref (x 84), .ref (x 89), .ref (x 97)])), ((x 97), .inr (8, [.ref (x 1), .int (0 : Int32), .int (0 : Int32), .int (-1 : Int32), .int (0 : Int32), .long (0 : Int64), .long (0 : Int64), .long (0 : Int64)])), ((x 1), .inr (10, [.int (0 : Int32), .ref (x 2), .int (0 : Int32), .ref (x 3), .ref (x 4), .int (0 : Int32), .ref (x 5), .ref (x 6), .ref (x 7), .ref (x 8), .ref (x 9), .long (1 : Int64)])), ((x 7), .inl (cI, 160, .inl (fun _ => (0 : Int32)))), ((x 67), .inr (6, [.long (0 : Int64), .long (0 : Int64)]))] H locs := X
    refine W.widen (k := 0) (n := 0) (Nat.le_of_ble_eq_true rfl) (Nat.le_of_ble_eq_true rfl) ?_
    obtain ⟨rfl, fw_6⟩ | ⟨rfl, fw_6⟩ : (r_5 = (1 : Int32) ∧ (0 ≤ (p2).toInt ∧ (p2).toInt ≤ (p3).toInt ∧ (p3).toInt ≤ 39)) ∨ (r_5 = (0 : Int32) ∧ ((p2).toInt < 0 ∨ (p3).toInt < (p2).toInt ∨ 39 < (p3).toInt)) := w_6
    · refine lv_if_ne (tgt := 22) hx hb dX11_worth_15 (by decide) (fun _ => ?_) (fun c0 => absurd c0 (by decide))
      obtain ⟨j2, hj2, hqj2⟩ := i_ex (x := p2) 40 (by omega) (by omega)
      have ej2 : p2.toInt = (j2 : Int) := by rw [hqj2]; exact nI_toInt (by omega)
      rw [hqj2] at hl
      have hl : lv_has ls 5 [(0, .ref (x 0)), (1, .int p1), (2, .int (nI (j2))), (3, .int p3), (4, .int p4)] := hl
      obtain ⟨j3, hj3, hqj3⟩ := i_ex (x := p3) 40 (by omega) (by omega)
      have ej3 : p3.toInt = (j3 : Int) := by rw [hqj3]; exact nI_toInt (by omega)
      rw [hqj3] at hl
      have hl : lv_has ls 5 [(0, .ref (x 0)), (1, .int p1), (2, .int (nI (j2))), (3, .int (nI (j3))), (4, .int p4)] := hl
      refine lv_aload_n hx hb dX11_worth_22 rfl (lv_at hl 0 rfl) ?_
      refine x_get (own := RX11) (T := TX11) C X 0 rfl rfl 16 (by decide) k_3_12 rfl rfl (v := .ref (x 97)) rfl dX11_worth_23 ?_
      refine lv_iload_n hx hb dX11_worth_26 rfl (lv_at hl 1 rfl) ?_
      refine lv_iload_n hx hb dX11_worth_27 rfl (lv_at hl 2 rfl) ?_
      refine lv_iload_n hx hb dX11_worth_28 rfl (lv_at hl 3 rfl) ?_
      refine lv_aload_n hx hb dX11_worth_29 rfl (lv_at hl 0 rfl) ?_
      refine x_get (own := RX11) (T := TX11) C X 0 rfl rfl 10 (by decide) k_2_12 rfl rfl (v := .ref (x 67)) rfl dX11_worth_30 ?_
      refine x_cVv (own := RX11) (wr := [((x 0), .inr (11, [.ref (x 1), .ref (x 10), .int (0 : Int32), .ref (x 11), .int (0 : Int32), .ref (x 12), .ref (x 34), .ref (x 50), .int (-1 : Int32), .ref (x 66), .ref (x 67), .ref (x 68), .ref (x 76), .ref (x 81), .ref (x 84), .ref (x 89), .ref (x 97)]))]) (As := [.int p1, .int (nI (j2)), .int (nI (j3)), .ref (x 67)]) C X hl.1 (c_weighHour l D cI cJ cZ cB cO (fun k => x (k + 97)) (fun k => x (k + 1)) (fun k => x (k + 67)) p1 j2 j3 (by omega) (by omega)) [1, 2, 3, 4] [0] ⟨rfl, rfl, by decide, by decide, by decide⟩ (qb := 0) rfl rfl k_61_22 k_61_23 k_62_0 k_3_11 k_62_1 (n := 4) (by decide +kernel) ⟨Nat.le_of_ble_eq_true rfl, Nat.le_of_ble_eq_true rfl⟩ rfl rfl (Nat.le_of_ble_eq_true rfl) dX11_worth_33 ⟨Nat.le_of_ble_eq_true rfl, Nat.le_of_ble_eq_true rfl⟩ (fun u_7 H locs w_9 X => ?_)
      have X : Wd D A s [((x 0), .inr (11, [.ref (x 1), .ref (x 10), .int (0 : Int32), .ref (x 11), .int (0 : Int32), .ref (x 12), .ref (x 34), .ref (x 50), .int (-1 : Int32), .ref (x 66), .ref (x 67), .ref (x 68), .ref (x 76), .ref (x 81), .ref (x 84), .ref (x 89), .ref (x 97)])), ((x 97), .inr (8, [.ref (x 1), .int (0 : Int32), .int (0 : Int32), .int (-1 : Int32), .int (0 : Int32), .long (0 : Int64), .long (0 : Int64), .long (0 : Int64)])), ((x 1), .inr (10, [.int (0 : Int32), .ref (x 2), .int (0 : Int32), .ref (x 3), .ref (x 4), .int (0 : Int32), .ref (x 5), .ref (x 6), .ref (x 7), .ref (x 8), .ref (x 9), .long (1 : Int64)])), ((x 7), .inl (cI, 160, .inl (fun _ => (0 : Int32)))), ((x 67), .inr (6, [.long (0 : Int64), .long (0 : Int64)]))] H locs := X
      refine W.widen (k := 0) (n := 0) (Nat.le_of_ble_eq_true rfl) (Nat.le_of_ble_eq_true rfl) ?_
      refine lv_aload_n hx hb dX11_worth_36 rfl (lv_at hl 0 rfl) ?_
      refine x_get (own := RX11) (T := TX11) C X 0 rfl rfl 10 (by decide) k_2_12 rfl rfl (v := .ref (x 67)) rfl dX11_worth_37 ?_
      refine lv_iload hx hb dX11_worth_40 (lv_at hl 4 rfl) ?_
      refine lv_ldc2 (own := RX11) (v := (-1000000000 : Int64)) hx hb hown (hts _ k_61_21) dX11_worth_42 ?_
      refine x_cVl (own := RX11) (wr := [((x 0), .inr (11, [.ref (x 1), .ref (x 10), .int (0 : Int32), .ref (x 11), .int (0 : Int32), .ref (x 12), .ref (x 34), .ref (x 50), .int (-1 : Int32), .ref (x 66), .ref (x 67), .ref (x 68), .ref (x 76), .ref (x 81), .ref (x 84), .ref (x 89), .ref (x 97)])), ((x 97), .inr (8, [.ref (x 1), .int (0 : Int32), .int (0 : Int32), .int (-1 : Int32), .int (0 : Int32), .long (0 : Int64), .long (0 : Int64), .long (0 : Int64)])), ((x 1), .inr (10, [.int (0 : Int32), .ref (x 2), .int (0 : Int32), .ref (x 3), .ref (x 4), .int (0 : Int32), .ref (x 5), .ref (x 6), .ref (x 7), .ref (x 8), .ref (x 9), .long (1 : Int64)])), ((x 7), .inl (cI, 160, .inl (fun _ => (0 : Int32))))]) (As := [.int p4, .long (-1000000000 : Int64)]) C X hl.1 (c_pick l D cI cJ cZ cB cO (fun k => x (k + 67)) p4 (-1000000000 : Int64)) [4] [0, 1, 2, 3] ⟨rfl, rfl, by decide, by decide, by decide⟩ (qb := 0) rfl rfl k_44_21 k_44_22 k_44_23 k_2_11 k_45_0 (n := 2) (by decide +kernel) ⟨Nat.le_of_ble_eq_true rfl, Nat.le_of_ble_eq_true rfl⟩ rfl rfl (Nat.le_of_ble_eq_true rfl) dX11_worth_45 ⟨Nat.le_of_ble_eq_true rfl, Nat.le_of_ble_eq_true rfl⟩ (fun r_11 u_10 H locs w_12 X => ?_)
      have X : Wd D A s [((x 0), .inr (11, [.ref (x 1), .ref (x 10), .int (0 : Int32), .ref (x 11), .int (0 : Int32), .ref (x 12), .ref (x 34), .ref (x 50), .int (-1 : Int32), .ref (x 66), .ref (x 67), .ref (x 68), .ref (x 76), .ref (x 81), .ref (x 84), .ref (x 89), .ref (x 97)])), ((x 97), .inr (8, [.ref (x 1), .int (0 : Int32), .int (0 : Int32), .int (-1 : Int32), .int (0 : Int32), .long (0 : Int64), .long (0 : Int64), .long (0 : Int64)])), ((x 1), .inr (10, [.int (0 : Int32), .ref (x 2), .int (0 : Int32), .ref (x 3), .ref (x 4), .int (0 : Int32), .ref (x 5), .ref (x 6), .ref (x 7), .ref (x 8), .ref (x 9), .long (1 : Int64)])), ((x 7), .inl (cI, 160, .inl (fun _ => (0 : Int32))))] H locs := X
      refine W.widen (k := 0) (n := 0) (Nat.le_of_ble_eq_true rfl) (Nat.le_of_ble_eq_true rfl) ?_
      obtain ⟨rfl, fw_12⟩ : r_11 = (-1000000000 : Int64) ∧ True := w_12
      exact x_lret C X hr hlk (v := (-1000000000 : Int64)) (()) [] (by decide) rfl (⟨rfl, trivial⟩) (Nat.le_of_ble_eq_true rfl) (Nat.le_of_ble_eq_true rfl) dX11_worth_48
    · refine lv_if_ne (tgt := 22) hx hb dX11_worth_15 (by decide) (fun c0 => absurd (by decide) c0) (fun _ => ?_)
      refine lv_ldc2 (own := RX11) (v := (-1000000000 : Int64)) hx hb hown (hts _ k_61_21) dX11_worth_18 ?_
      exact x_lret C X hr hlk (v := (-1000000000 : Int64)) (()) [] (by decide) rfl (⟨rfl, trivial⟩) (Nat.le_of_ble_eq_true rfl) (Nat.le_of_ble_eq_true rfl) dX11_worth_21
  · refine lv_if_eq (tgt := 18) hx hb dX11_worth_7 (by decide) (fun _ => ?_) (fun c0 => absurd (by decide) c0)
    refine lv_ldc2 (own := RX11) (v := (-1000000000 : Int64)) hx hb hown (hts _ k_61_21) dX11_worth_18 ?_
    exact x_lret C X hr hlk (v := (-1000000000 : Int64)) (()) [] (by decide) rfl (⟨rfl, trivial⟩) (Nat.le_of_ble_eq_true rfl) (Nat.le_of_ble_eq_true rfl) dX11_worth_21
set_option maxHeartbeats 4000000 in
set_option maxRecDepth 100000 in
theorem cx_right (l : Launch) (D : va_G) (cI cJ cZ cB : ClassId) (cO : ClassId) (x : Nat → Nat) (p1 p2 p3 : Int32) :
    CL l D [(cI, .int), (cJ, .long), (cZ, .boolean), (cB, .byte), (cO, .object "LuckLinks$World")] yX11_right cX11_right 4 ({ frames := 3, cells := 0, slots := 0, locals := 81 } : Room) [.ref (x 0), .int p1, .int p2, .int p3] [((x 0), .inr (11, [.ref (x 1), .ref (x 10), .int (0 : Int32), .ref (x 11), .int (0 : Int32), .ref (x 12), .ref (x 34), .ref (x 50), .int (-1 : Int32), .ref (x 66), .ref (x 67), .ref (x 68), .ref (x 76), .ref (x 81), .ref (x 84), .ref (x 89), .ref (x 97)])), ((x 97), .inr (8, [.ref (x 1), .int (0 : Int32), .int (0 : Int32), .int (-1 : Int32), .int (0 : Int32), .long (0 : Int64), .long (0 : Int64), .long (0 : Int64)])), ((x 1), .inr (10, [.int (0 : Int32), .ref (x 2), .int (0 : Int32), .ref (x 3), .ref (x 4), .int (0 : Int32), .ref (x 5), .ref (x 6), .ref (x 7), .ref (x 8), .ref (x 9), .long (1 : Int64)])), ((x 67), .inr (6, [.long (0 : Int64), .long (0 : Int64)]))] (fun (r : Int64) (u : Unit) => (r = (-1 : Int64) ∧ True)) (fun (_ : Unit) => []) := by
  intro sz
  refine body_of (y := yX11_right) (cc := cX11_right) (maxL := 4) (ret := (some .long)) (rm := ({ frames := 3, cells := 0, slots := 0, locals := 81 } : Room)) (wc := [((x 0), .inr (11, [.ref (x 1), .ref (x 10), .int (0 : Int32), .ref (x 11), .int (0 : Int32), .ref (x 12), .ref (x 34), .ref (x 50), .int (-1 : Int32), .ref (x 66), .ref (x 67), .ref (x 68), .ref (x 76), .ref (x 81), .ref (x 84), .ref (x 89), .ref (x 97)])), ((x 97), .inr (8, [.ref (x 1), .int (0 : Int32), .int (0 : Int32), .int (-1 : Int32), .int (0 : Int32), .long (0 : Int64), .long (0 : Int64), .long (0 : Int64)])), ((x 1), .inr (10, [.int (0 : Int32), .ref (x 2), .int (0 : Int32), .ref (x 3), .ref (x 4), .int (0 : Int32), .ref (x 5), .ref (x 6), .ref (x 7), .ref (x 8), .ref (x 9), .long (1 : Int64)])), ((x 67), .inr (6, [.long (0 : Int64), .long (0 : Int64)]))]) (tys := [(cI, .int), (cJ, .long), (cZ, .boolean), (cB, .byte), (cO, .object "LuckLinks$World")]) (D := D) (sz := sz) (own := RX11) (av := [.ref (x 0), .int p1, .int p2, .int p3]) (Qc := fun A => va_Ql (fun (r : Int64) (u : Unit) => (r = (-1 : Int64) ∧ True)) (fun u t => Aft D A ((fun (_ : Unit) => []) u) t) A) (by decide) rfl (Nat.le_of_ble_eq_true rfl) (fun p e s m below meth c A ls C hr hlk hin X hl => ?_)
  have hx := C.1
  have hb := C.2.1
  have hown := C.2.2.2.1
  have hts := C.2.2.2.2.1
  have hl : lv_has ls 4 [(0, .ref (x 0)), (1, .int p1), (2, .int p2), (3, .int p3)] := hl
  show W p l e _ s m _ below meth c s.heap [] 0 0 (MQ below (va_Ql (fun (r : Int64) (u : Unit) => (r = (-1 : Int64) ∧ True)) (fun u t => Aft D A ((fun (_ : Unit) => []) u) t) A) ([.ref (x 0), .int p1, .int p2, .int p3] : List Value).toArray s 0 0 A) (F0 m 0 ls [])
  have X : Wd D A s [((x 0), .inr (11, [.ref (x 1), .ref (x 10), .int (0 : Int32), .ref (x 11), .int (0 : Int32), .ref (x 12), .ref (x 34), .ref (x 50), .int (-1 : Int32), .ref (x 66), .ref (x 67), .ref (x 68), .ref (x 76), .ref (x 81), .ref (x 84), .ref (x 89), .ref (x 97)])), ((x 97), .inr (8, [.ref (x 1), .int (0 : Int32), .int (0 : Int32), .int (-1 : Int32), .int (0 : Int32), .long (0 : Int64), .long (0 : Int64), .long (0 : Int64)])), ((x 1), .inr (10, [.int (0 : Int32), .ref (x 2), .int (0 : Int32), .ref (x 3), .ref (x 4), .int (0 : Int32), .ref (x 5), .ref (x 6), .ref (x 7), .ref (x 8), .ref (x 9), .long (1 : Int64)])), ((x 67), .inr (6, [.long (0 : Int64), .long (0 : Int64)]))] s.heap [] := X
  obtain ⟨H, locs, eH, eL⟩ : ∃ H locs, H = s.heap ∧ locs = ([] : List Loc) := ⟨_, _, rfl, rfl⟩
  rw [← eH, ← eL] at X ⊢
  clear eH eL
  refine lv_iload_n hx hb dX11_right_0 rfl (lv_at hl 1 rfl) ?_
  refine x_cS (own := RX11) (wr := [((x 0), .inr (11, [.ref (x 1), .ref (x 10), .int (0 : Int32), .ref (x 11), .int (0 : Int32), .ref (x 12), .ref (x 34), .ref (x 50), .int (-1 : Int32), .ref (x 66), .ref (x 67), .ref (x 68), .ref (x 76), .ref (x 81), .ref (x 84), .ref (x 89), .ref (x 97)])), ((x 97), .inr (8, [.ref (x 1), .int (0 : Int32), .int (0 : Int32), .int (-1 : Int32), .int (0 : Int32), .long (0 : Int64), .long (0 : Int64), .long (0 : Int64)])), ((x 1), .inr (10, [.int (0 : Int32), .ref (x 2), .int (0 : Int32), .ref (x 3), .ref (x 4), .int (0 : Int32), .ref (x 5), .ref (x 6), .ref (x 7), .ref (x 8), .ref (x 9), .long (1 : Int64)])), ((x 67), .inr (6, [.long (0 : Int64), .long (0 : Int64)]))]) (As := [.int p1]) C X hl.1 (c_isWeek l D cI cJ cZ cB cO p1) [] [0, 1, 2, 3] ⟨rfl, rfl, by decide, by decide, by decide⟩ k_14_0 k_14_1 k_1_2 k_14_2 (n := 1) (by decide +kernel) ⟨Nat.le_of_ble_eq_true rfl, Nat.le_of_ble_eq_true rfl⟩ rfl rfl (Nat.le_of_ble_eq_true rfl) dX11_right_1 ⟨Nat.le_of_ble_eq_true rfl, Nat.le_of_ble_eq_true rfl⟩ (fun r_2 u_1 H locs w_3 X => ?_)
  have X : Wd D A s [((x 0), .inr (11, [.ref (x 1), .ref (x 10), .int (0 : Int32), .ref (x 11), .int (0 : Int32), .ref (x 12), .ref (x 34), .ref (x 50), .int (-1 : Int32), .ref (x 66), .ref (x 67), .ref (x 68), .ref (x 76), .ref (x 81), .ref (x 84), .ref (x 89), .ref (x 97)])), ((x 97), .inr (8, [.ref (x 1), .int (0 : Int32), .int (0 : Int32), .int (-1 : Int32), .int (0 : Int32), .long (0 : Int64), .long (0 : Int64), .long (0 : Int64)])), ((x 1), .inr (10, [.int (0 : Int32), .ref (x 2), .int (0 : Int32), .ref (x 3), .ref (x 4), .int (0 : Int32), .ref (x 5), .ref (x 6), .ref (x 7), .ref (x 8), .ref (x 9), .long (1 : Int64)])), ((x 67), .inr (6, [.long (0 : Int64), .long (0 : Int64)]))] H locs := X
  refine W.widen (k := 0) (n := 0) (Nat.le_of_ble_eq_true rfl) (Nat.le_of_ble_eq_true rfl) ?_
  obtain ⟨rfl, fw_3⟩ | ⟨rfl, fw_3⟩ : (r_2 = (1 : Int32) ∧ (0 ≤ (p1).toInt ∧ (p1).toInt ≤ 39)) ∨ (r_2 = (0 : Int32) ∧ ((p1).toInt < 0 ∨ 39 < (p1).toInt)) := w_3
  · refine lv_if_eq (tgt := 16) hx hb dX11_right_4 (by decide) (fun c0 => absurd c0 (by decide)) (fun _ => ?_)
    refine lv_iload_n hx hb dX11_right_7 rfl (lv_at hl 2 rfl) ?_
    refine lv_iconst (v := (2 : Int32)) hx hb dX11_right_8 (by decide) ?_
    refine lv_iconst (v := (3 : Int32)) hx hb dX11_right_9 (by decide) ?_
    refine x_cS (own := RX11) (wr := [((x 0), .inr (11, [.ref (x 1), .ref (x 10), .int (0 : Int32), .ref (x 11), .int (0 : Int32), .ref (x 12), .ref (x 34), .ref (x 50), .int (-1 : Int32), .ref (x 66), .ref (x 67), .ref (x 68), .ref (x 76), .ref (x 81), .ref (x 84), .ref (x 89), .ref (x 97)])), ((x 97), .inr (8, [.ref (x 1), .int (0 : Int32), .int (0 : Int32), .int (-1 : Int32), .int (0 : Int32), .long (0 : Int64), .long (0 : Int64), .long (0 : Int64)])), ((x 1), .inr (10, [.int (0 : Int32), .ref (x 2), .int (0 : Int32), .ref (x 3), .ref (x 4), .int (0 : Int32), .ref (x 5), .ref (x 6), .ref (x 7), .ref (x 8), .ref (x 9), .long (1 : Int64)])), ((x 67), .inr (6, [.long (0 : Int64), .long (0 : Int64)]))]) (As := [.int p2, .int (2 : Int32), .int (3 : Int32)]) C X hl.1 (c_isBetween l D cI cJ cZ cB cO p2 (2 : Int32) (3 : Int32)) [] [0, 1, 2, 3] ⟨rfl, rfl, by decide, by decide, by decide⟩ k_12_5 k_12_6 k_1_2 k_12_7 (n := 3) (by decide +kernel) ⟨Nat.le_of_ble_eq_true rfl, Nat.le_of_ble_eq_true rfl⟩ rfl rfl (Nat.le_of_ble_eq_true rfl) dX11_right_10 ⟨Nat.le_of_ble_eq_true rfl, Nat.le_of_ble_eq_true rfl⟩ (fun r_5 u_4 H locs w_6 X => ?_)
    have X : Wd D A s [((x 0), .inr (11, [.ref (x 1), .ref (x 10), .int (0 : Int32), .ref (x 11), .int (0 : Int32), .ref (x 12), .ref (x 34), .ref (x 50), .int (-1 : Int32), .ref (x 66), .ref (x 67), .ref (x 68), .ref (x 76), .ref (x 81), .ref (x 84), .ref (x 89), .ref (x 97)])), ((x 97), .inr (8, [.ref (x 1), .int (0 : Int32), .int (0 : Int32), .int (-1 : Int32), .int (0 : Int32), .long (0 : Int64), .long (0 : Int64), .long (0 : Int64)])), ((x 1), .inr (10, [.int (0 : Int32), .ref (x 2), .int (0 : Int32), .ref (x 3), .ref (x 4), .int (0 : Int32), .ref (x 5), .ref (x 6), .ref (x 7), .ref (x 8), .ref (x 9), .long (1 : Int64)])), ((x 67), .inr (6, [.long (0 : Int64), .long (0 : Int64)]))] H locs := X
    refine W.widen (k := 0) (n := 0) (Nat.le_of_ble_eq_true rfl) (Nat.le_of_ble_eq_true rfl) ?_
    obtain ⟨rfl, fw_6⟩ | ⟨rfl, fw_6⟩ : (r_5 = (1 : Int32) ∧ ((2 : Int) ≤ (p2).toInt ∧ (p2).toInt ≤ (3 : Int))) ∨ (r_5 = (0 : Int32) ∧ ((p2).toInt < (2 : Int) ∨ (3 : Int) < (p2).toInt)) := w_6
    · refine lv_if_ne (tgt := 20) hx hb dX11_right_13 (by decide) (fun _ => ?_) (fun c0 => absurd c0 (by decide))
      refine lv_aload_n hx hb dX11_right_20 rfl (lv_at hl 0 rfl) ?_
      refine x_get (own := RX11) (T := TX11) C X 0 rfl rfl 16 (by decide) k_3_12 rfl rfl (v := .ref (x 97)) rfl dX11_right_21 ?_
      refine lv_iload_n hx hb dX11_right_24 rfl (lv_at hl 1 rfl) ?_
      refine lv_iload_n hx hb dX11_right_25 rfl (lv_at hl 2 rfl) ?_
      refine lv_aload_n hx hb dX11_right_26 rfl (lv_at hl 0 rfl) ?_
      refine x_get (own := RX11) (T := TX11) C X 0 rfl rfl 10 (by decide) k_2_12 rfl rfl (v := .ref (x 67)) rfl dX11_right_27 ?_
      refine x_cVv (own := RX11) (wr := [((x 0), .inr (11, [.ref (x 1), .ref (x 10), .int (0 : Int32), .ref (x 11), .int (0 : Int32), .ref (x 12), .ref (x 34), .ref (x 50), .int (-1 : Int32), .ref (x 66), .ref (x 67), .ref (x 68), .ref (x 76), .ref (x 81), .ref (x 84), .ref (x 89), .ref (x 97)]))]) (As := [.int p1, .int p2, .ref (x 67)]) C X hl.1 (c_putRight l D cI cJ cZ cB cO (fun k => x (k + 97)) (fun k => x (k + 1)) (fun k => x (k + 67)) p1 p2) [1, 2, 3] [0] ⟨rfl, rfl, by decide, by decide, by decide⟩ (qb := 0) rfl rfl k_58_2 k_58_3 k_58_4 k_3_11 k_58_5 (n := 3) (by decide +kernel) ⟨Nat.le_of_ble_eq_true rfl, Nat.le_of_ble_eq_true rfl⟩ rfl rfl (Nat.le_of_ble_eq_true rfl) dX11_right_30 ⟨Nat.le_of_ble_eq_true rfl, Nat.le_of_ble_eq_true rfl⟩ (fun u_7 H locs w_9 X => ?_)
      have X : Wd D A s [((x 0), .inr (11, [.ref (x 1), .ref (x 10), .int (0 : Int32), .ref (x 11), .int (0 : Int32), .ref (x 12), .ref (x 34), .ref (x 50), .int (-1 : Int32), .ref (x 66), .ref (x 67), .ref (x 68), .ref (x 76), .ref (x 81), .ref (x 84), .ref (x 89), .ref (x 97)])), ((x 97), .inr (8, [.ref (x 1), .int (0 : Int32), .int (0 : Int32), .int (-1 : Int32), .int (0 : Int32), .long (0 : Int64), .long (0 : Int64), .long (0 : Int64)])), ((x 1), .inr (10, [.int (0 : Int32), .ref (x 2), .int (0 : Int32), .ref (x 3), .ref (x 4), .int (0 : Int32), .ref (x 5), .ref (x 6), .ref (x 7), .ref (x 8), .ref (x 9), .long (1 : Int64)])), ((x 67), .inr (6, [.long (0 : Int64), .long (0 : Int64)]))] H locs := X
      refine W.widen (k := 0) (n := 0) (Nat.le_of_ble_eq_true rfl) (Nat.le_of_ble_eq_true rfl) ?_
      refine lv_aload_n hx hb dX11_right_33 rfl (lv_at hl 0 rfl) ?_
      refine x_get (own := RX11) (T := TX11) C X 0 rfl rfl 10 (by decide) k_2_12 rfl rfl (v := .ref (x 67)) rfl dX11_right_34 ?_
      refine lv_iload_n hx hb dX11_right_37 rfl (lv_at hl 3 rfl) ?_
      refine lv_ldc2 (own := RX11) (v := (-1 : Int64)) hx hb hown (hts _ k_43_4) dX11_right_38 ?_
      refine x_cVl (own := RX11) (wr := [((x 0), .inr (11, [.ref (x 1), .ref (x 10), .int (0 : Int32), .ref (x 11), .int (0 : Int32), .ref (x 12), .ref (x 34), .ref (x 50), .int (-1 : Int32), .ref (x 66), .ref (x 67), .ref (x 68), .ref (x 76), .ref (x 81), .ref (x 84), .ref (x 89), .ref (x 97)])), ((x 97), .inr (8, [.ref (x 1), .int (0 : Int32), .int (0 : Int32), .int (-1 : Int32), .int (0 : Int32), .long (0 : Int64), .long (0 : Int64), .long (0 : Int64)])), ((x 1), .inr (10, [.int (0 : Int32), .ref (x 2), .int (0 : Int32), .ref (x 3), .ref (x 4), .int (0 : Int32), .ref (x 5), .ref (x 6), .ref (x 7), .ref (x 8), .ref (x 9), .long (1 : Int64)]))]) (As := [.int p3, .long (-1 : Int64)]) C X hl.1 (c_pick l D cI cJ cZ cB cO (fun k => x (k + 67)) p3 (-1 : Int64)) [3] [0, 1, 2] ⟨rfl, rfl, by decide, by decide, by decide⟩ (qb := 0) rfl rfl k_44_21 k_44_22 k_44_23 k_2_11 k_45_0 (n := 2) (by decide +kernel) ⟨Nat.le_of_ble_eq_true rfl, Nat.le_of_ble_eq_true rfl⟩ rfl rfl (Nat.le_of_ble_eq_true rfl) dX11_right_41 ⟨Nat.le_of_ble_eq_true rfl, Nat.le_of_ble_eq_true rfl⟩ (fun r_11 u_10 H locs w_12 X => ?_)
      have X : Wd D A s [((x 0), .inr (11, [.ref (x 1), .ref (x 10), .int (0 : Int32), .ref (x 11), .int (0 : Int32), .ref (x 12), .ref (x 34), .ref (x 50), .int (-1 : Int32), .ref (x 66), .ref (x 67), .ref (x 68), .ref (x 76), .ref (x 81), .ref (x 84), .ref (x 89), .ref (x 97)])), ((x 97), .inr (8, [.ref (x 1), .int (0 : Int32), .int (0 : Int32), .int (-1 : Int32), .int (0 : Int32), .long (0 : Int64), .long (0 : Int64), .long (0 : Int64)])), ((x 1), .inr (10, [.int (0 : Int32), .ref (x 2), .int (0 : Int32), .ref (x 3), .ref (x 4), .int (0 : Int32), .ref (x 5), .ref (x 6), .ref (x 7), .ref (x 8), .ref (x 9), .long (1 : Int64)]))] H locs := X
      refine W.widen (k := 0) (n := 0) (Nat.le_of_ble_eq_true rfl) (Nat.le_of_ble_eq_true rfl) ?_
      obtain ⟨rfl, fw_12⟩ : r_11 = (-1 : Int64) ∧ True := w_12
      exact x_lret C X hr hlk (v := (-1 : Int64)) (()) [] (by decide) rfl (⟨rfl, trivial⟩) (Nat.le_of_ble_eq_true rfl) (Nat.le_of_ble_eq_true rfl) dX11_right_44
    · refine lv_if_ne (tgt := 20) hx hb dX11_right_13 (by decide) (fun c0 => absurd (by decide) c0) (fun _ => ?_)
      refine lv_ldc2 (own := RX11) (v := (-1 : Int64)) hx hb hown (hts _ k_43_4) dX11_right_16 ?_
      exact x_lret C X hr hlk (v := (-1 : Int64)) (()) [] (by decide) rfl (⟨rfl, trivial⟩) (Nat.le_of_ble_eq_true rfl) (Nat.le_of_ble_eq_true rfl) dX11_right_19
  · refine lv_if_eq (tgt := 16) hx hb dX11_right_4 (by decide) (fun _ => ?_) (fun c0 => absurd (by decide) c0)
    refine lv_ldc2 (own := RX11) (v := (-1 : Int64)) hx hb hown (hts _ k_43_4) dX11_right_16 ?_
    exact x_lret C X hr hlk (v := (-1 : Int64)) (()) [] (by decide) rfl (⟨rfl, trivial⟩) (Nat.le_of_ble_eq_true rfl) (Nat.le_of_ble_eq_true rfl) dX11_right_19
