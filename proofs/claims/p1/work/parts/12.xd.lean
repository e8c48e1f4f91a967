theorem k_45_18 : Cond.constant RX11 248 (-1000000000) ∈ wsL_law := mr_45 _ (List.mem_of_getElem? (i := 18) rfl)
theorem k_45_19 : Cond.methodLink RX11 249 yX7_leadersOf ∈ wsL_law := mr_45 _ (List.mem_of_getElem? (i := 19) rfl)
theorem k_45_20 : Cond.instanceMethod yX7_leadersOf ∈ wsL_law := mr_45 _ (List.mem_of_getElem? (i := 20) rfl)
theorem k_45_21 : Cond.selects RX7 yX7_leadersOf yX7_leadersOf ∈ wsL_law := mr_45 _ (List.mem_of_getElem? (i := 21) rfl)
theorem k_45_22 : Cond.code yX7_leadersOf cX7_leadersOf 11 (some .int) ∈ wsL_law := mr_45 _ (List.mem_of_getElem? (i := 22) rfl)
theorem k_50_12 : Cond.methodLink RX11 274 yX1_bestAhead ∈ wsL_law := mr_50 _ (List.mem_of_getElem? (i := 12) rfl)
theorem k_50_13 : Cond.instanceMethod yX1_bestAhead ∈ wsL_law := mr_50 _ (List.mem_of_getElem? (i := 13) rfl)
theorem k_50_14 : Cond.selects RX1 yX1_bestAhead yX1_bestAhead ∈ wsL_law := mr_50 _ (List.mem_of_getElem? (i := 14) rfl)
theorem k_50_15 : Cond.code yX1_bestAhead cX1_bestAhead 10 (some .int) ∈ wsL_law := mr_50 _ (List.mem_of_getElem? (i := 15) rfl)
theorem k_50_6 : Cond.methodLink RX11 271 yX1_gatherAll ∈ wsL_law := mr_50 _ (List.mem_of_getElem? (i := 6) rfl)
theorem k_50_7 : Cond.instanceMethod yX1_gatherAll ∈ wsL_law := mr_50 _ (List.mem_of_getElem? (i := 7) rfl)
theorem k_50_8 : Cond.selects RX1 yX1_gatherAll yX1_gatherAll ∈ wsL_law := mr_50 _ (List.mem_of_getElem? (i := 8) rfl)
theorem k_50_9 : Cond.code yX1_gatherAll cX1_gatherAll 2 none ∈ wsL_law := mr_50 _ (List.mem_of_getElem? (i := 9) rfl)
theorem k_60_10 : Cond.selects RX1 yX1_missed yX1_missed ∈ wsL_law := mr_60 _ (List.mem_of_getElem? (i := 10) rfl)
theorem k_60_11 : Cond.code yX1_missed cX1_missed 7 (some .int) ∈ wsL_law := mr_60 _ (List.mem_of_getElem? (i := 11) rfl)
theorem k_60_8 : Cond.methodLink RX11 323 yX1_missed ∈ wsL_law := mr_60 _ (List.mem_of_getElem? (i := 8) rfl)
theorem k_60_9 : Cond.instanceMethod yX1_missed ∈ wsL_law := mr_60 _ (List.mem_of_getElem? (i := 9) rfl)
theorem dX11_back_0 : decode cX11_back 0 = .ok (.iload_n 1, 1) := by decide +kernel
theorem dX11_back_1 : decode cX11_back 1 = .ok (.iconst 0, 1) := by decide +kernel
theorem dX11_back_2 : decode cX11_back 2 = .ok (.iconst 2, 1) := by decide +kernel
theorem dX11_back_3 : decode cX11_back 3 = .ok (.invokestatic 131, 3) := by decide +kernel
theorem dX11_back_6 : decode cX11_back 6 = .ok (.ifCond .eq 32, 3) := by decide +kernel
theorem dX11_back_9 : decode cX11_back 9 = .ok (.iload_n 2, 1) := by decide +kernel
theorem dX11_back_10 : decode cX11_back 10 = .ok (.iconst 1, 1) := by decide +kernel
theorem dX11_back_11 : decode cX11_back 11 = .ok (.bipush 20, 2) := by decide +kernel
theorem dX11_back_13 : decode cX11_back 13 = .ok (.invokestatic 131, 3) := by decide +kernel
theorem dX11_back_16 : decode cX11_back 16 = .ok (.ifCond .eq 22, 3) := by decide +kernel
theorem dX11_back_19 : decode cX11_back 19 = .ok (.iload_n 3, 1) := by decide +kernel
theorem dX11_back_20 : decode cX11_back 20 = .ok (.iload 4, 2) := by decide +kernel
theorem dX11_back_22 : decode cX11_back 22 = .ok (.invokestatic 227, 3) := by decide +kernel
theorem dX11_back_25 : decode cX11_back 25 = .ok (.ifCond .eq 13, 3) := by decide +kernel
theorem dX11_back_28 : decode cX11_back 28 = .ok (.iload 5, 2) := by decide +kernel
theorem dX11_back_30 : decode cX11_back 30 = .ok (.iconst 0, 1) := by decide +kernel
theorem dX11_back_31 : decode cX11_back 31 = .ok (.iconst 2, 1) := by decide +kernel
theorem dX11_back_32 : decode cX11_back 32 = .ok (.invokestatic 131, 3) := by decide +kernel
theorem dX11_back_35 : decode cX11_back 35 = .ok (.ifCond .ne 6, 3) := by decide +kernel
theorem dX11_back_38 : decode cX11_back 38 = .ok (.ldc 248, 2) := by decide +kernel
theorem dX11_back_40 : decode cX11_back 40 = .ok (.ireturn, 1) := by decide +kernel
theorem dX11_back_41 : decode cX11_back 41 = .ok (.iconst 0, 1) := by decide +kernel
theorem dX11_back_42 : decode cX11_back 42 = .ok (.istore 6, 2) := by decide +kernel
theorem dX11_back_44 : decode cX11_back 44 = .ok (.iload_n 3, 1) := by decide +kernel
theorem dX11_back_45 : decode cX11_back 45 = .ok (.istore 7, 2) := by decide +kernel
theorem dX11_back_47 : decode cX11_back 47 = .ok (.iload 7, 2) := by decide +kernel
theorem dX11_back_49 : decode cX11_back 49 = .ok (.iload 4, 2) := by decide +kernel
theorem dX11_back_51 : decode cX11_back 51 = .ok (.if_icmp .gt 27, 3) := by decide +kernel
theorem dX11_back_54 : decode cX11_back 54 = .ok (.iload 6, 2) := by decide +kernel
theorem dX11_back_56 : decode cX11_back 56 = .ok (.aload_n 0, 1) := by decide +kernel
theorem dX11_back_57 : decode cX11_back 57 = .ok (.getfield 74, 3) := by decide +kernel
theorem dX11_back_60 : decode cX11_back 60 = .ok (.iload 7, 2) := by decide +kernel
theorem dX11_back_62 : decode cX11_back 62 = .ok (.iload_n 1, 1) := by decide +kernel
theorem dX11_back_63 : decode cX11_back 63 = .ok (.iload_n 2, 1) := by decide +kernel
theorem dX11_back_64 : decode cX11_back 64 = .ok (.iload 5, 2) := by decide +kernel
theorem dX11_back_66 : decode cX11_back 66 = .ok (.invokevirtual 249, 3) := by decide +kernel
theorem dX11_back_69 : decode cX11_back 69 = .ok (.iadd, 1) := by decide +kernel
theorem dX11_back_70 : decode cX11_back 70 = .ok (.istore 6, 2) := by decide +kernel
theorem dX11_back_72 : decode cX11_back 72 = .ok (.iinc 7 1, 3) := by decide +kernel
theorem dX11_back_75 : decode cX11_back 75 = .ok (.goto (-28), 3) := by decide +kernel
theorem dX11_back_78 : decode cX11_back 78 = .ok (.iload 6, 2) := by decide +kernel
theorem dX11_back_80 : decode cX11_back 80 = .ok (.ireturn, 1) := by decide +kernel
theorem dX11_best_0 : decode cX11_best 0 = .ok (.iload_n 1, 1) := by decide +kernel
theorem dX11_best_1 : decode cX11_best 1 = .ok (.iconst 0, 1) := by decide +kernel
theorem dX11_best_2 : decode cX11_best 2 = .ok (.bipush 40, 2) := by decide +kernel
theorem dX11_best_4 : decode cX11_best 4 = .ok (.invokestatic 131, 3) := by decide +kernel
theorem dX11_best_7 : decode cX11_best 7 = .ok (.ifCond .ne 5, 3) := by decide +kernel
theorem dX11_best_10 : decode cX11_best 10 = .ok (.iconst (-1), 1) := by decide +kernel
theorem dX11_best_11 : decode cX11_best 11 = .ok (.ireturn, 1) := by decide +kernel
theorem dX11_best_12 : decode cX11_best 12 = .ok (.aload_n 0, 1) := by decide +kernel
theorem dX11_best_13 : decode cX11_best 13 = .ok (.getfield 81, 3) := by decide +kernel
theorem dX11_best_16 : decode cX11_best 16 = .ok (.invokevirtual 271, 3) := by decide +kernel
theorem dX11_best_19 : decode cX11_best 19 = .ok (.aload_n 0, 1) := by decide +kernel
theorem dX11_best_20 : decode cX11_best 20 = .ok (.getfield 81, 3) := by decide +kernel
theorem dX11_best_23 : decode cX11_best 23 = .ok (.iload_n 1, 1) := by decide +kernel
theorem dX11_best_24 : decode cX11_best 24 = .ok (.aload_n 0, 1) := by decide +kernel
theorem dX11_best_25 : decode cX11_best 25 = .ok (.getfield 41, 3) := by decide +kernel
theorem dX11_best_28 : decode cX11_best 28 = .ok (.invokevirtual 274, 3) := by decide +kernel
theorem dX11_best_31 : decode cX11_best 31 = .ok (.ireturn, 1) := by decide +kernel
theorem dX11_held_0 : decode cX11_held 0 = .ok (.iload_n 1, 1) := by decide +kernel
theorem dX11_held_1 : decode cX11_held 1 = .ok (.invokestatic 127, 3) := by decide +kernel
theorem dX11_held_4 : decode cX11_held 4 = .ok (.ifCond .eq 28, 3) := by decide +kernel
theorem dX11_held_7 : decode cX11_held 7 = .ok (.iload_n 2, 1) := by decide +kernel
theorem dX11_held_8 : decode cX11_held 8 = .ok (.iconst 0, 1) := by decide +kernel
theorem dX11_held_9 : decode cX11_held 9 = .ok (.iconst 4, 1) := by decide +kernel
theorem dX11_held_10 : decode cX11_held 10 = .ok (.invokestatic 131, 3) := by decide +kernel
theorem dX11_held_13 : decode cX11_held 13 = .ok (.ifCond .eq 19, 3) := by decide +kernel
theorem dX11_held_16 : decode cX11_held 16 = .ok (.aload_n 0, 1) := by decide +kernel
theorem dX11_held_17 : decode cX11_held 17 = .ok (.getfield 81, 3) := by decide +kernel
theorem dX11_held_20 : decode cX11_held 20 = .ok (.iload_n 1, 1) := by decide +kernel
theorem dX11_held_21 : decode cX11_held 21 = .ok (.iload_n 2, 1) := by decide +kernel
theorem dX11_held_22 : decode cX11_held 22 = .ok (.aload_n 0, 1) := by decide +kernel
theorem dX11_held_23 : decode cX11_held 23 = .ok (.getfield 41, 3) := by decide +kernel
theorem dX11_held_26 : decode cX11_held 26 = .ok (.invokevirtual 323, 3) := by decide +kernel
theorem dX11_held_29 : decode cX11_held 29 = .ok (.goto 4, 3) := by decide +kernel
theorem dX11_held_32 : decode cX11_held 32 = .ok (.iconst (-1), 1) := by decide +kernel
theorem dX11_held_33 : decode cX11_held 33 = .ok (.ireturn, 1) := by decide +kernel
set_option maxHeartbeats 4000000 in
set_option maxRecDepth 100000 in
theorem cx_back (l : Launch) (D : va_G) (cI cJ cZ cB : ClassId) (cO : ClassId) (x : Nat → Nat) (p1 p2 p3 p4 p5 : Int32) :
    CI l D [(cI, .int), (cJ, .long), (cZ, .boolean), (cB, .byte), (cO, .object "LuckLinks$World")] yX11_back cX11_back 8 (some .int) ({ frames := 3, cells := 0, slots := 0, locals := 63 } : Room) [.ref (x 0), .int p1, .int p2, .int p3, .int p4, .int p5] [((x 0), .inr (11, [.ref (x 1), .ref (x 10), .int (0 : Int32), .ref (x 11), .int (0 : Int32), .ref (x 12), .ref (x 34), .ref (x 50), .int (-1 : Int32), .ref (x 66), .ref (x 67), .ref (x 68), .ref (x 76), .ref (x 81), .ref (x 84), .ref (x 89), .ref (x 97)])), ((x 76), .inr (7, [.ref (x 1), .ref (x 77), .ref (x 80)])), ((x 77), .inr (5, [.ref (x 78), .ref (x 79), .int (0 : Int32)])), ((x 1), .inr (10, [.int (0 : Int32), .ref (x 2), .int (0 : Int32), .ref (x 3), .ref (x 4), .int (0 : Int32), .ref (x 5), .ref (x 6), .ref (x 7), .ref (x 8), .ref (x 9), .long (1 : Int64)]))] (fun (r : Int32) (u : Unit) => (r = (0 : Int32) ∧ (0 ≤ p1.toInt ∧ p1.toInt ≤ 2 ∧ 1 ≤ p2.toInt ∧ p2.toInt ≤ 20 ∧ 0 ≤ p3.toInt ∧ p3.toInt ≤ p4.toInt ∧ p4.toInt ≤ 39 ∧ 0 ≤ p5.toInt ∧ p5.toInt ≤ 2)) ∨ (r = (-1000000000 : Int32) ∧ (p1.toInt < 0 ∨ 2 < p1.toInt ∨ p2.toInt < 1 ∨ 20 < p2.toInt ∨ p3.toInt < 0 ∨ p4.toInt < p3.toInt ∨ 39 < p4.toInt ∨ p5.toInt < 0 ∨ 2 < p5.toInt))) (fun (_ : Unit) => []) := by
  intro sz
  refine body_of (y := yX11_back) (cc := cX11_back) (maxL := 8) (ret := (some .int)) (rm := ({ frames := 3, cells := 0, slots := 0, locals := 63 } : Room)) (wc := [((x 0), .inr (11, [.ref (x 1), .ref (x 10), .int (0 : Int32), .ref (x 11), .int (0 : Int32), .ref (x 12), .ref (x 34), .ref (x 50), .int (-1 : Int32), .ref (x 66), .ref (x 67), .ref (x 68), .ref (x 76), .ref (x 81), .ref (x 84), .ref (x 89), .ref (x 97)])), ((x 76), .inr (7, [.ref (x 1), .ref (x 77), .ref (x 80)])), ((x 77), .inr (5, [.ref (x 78), .ref (x 79), .int (0 : Int32)])), ((x 1), .inr (10, [.int (0 : Int32), .ref (x 2), .int (0 : Int32), .ref (x 3), .ref (x 4), .int (0 : Int32), .ref (x 5), .ref (x 6), .ref (x 7), .ref (x 8), .ref (x 9), .long (1 : Int64)]))]) (tys := [(cI, .int), (cJ, .long), (cZ, .boolean), (cB, .byte), (cO, .object "LuckLinks$World")]) (D := D) (sz := sz) (own := RX11) (av := [.ref (x 0), .int p1, .int p2, .int p3, .int p4, .int p5]) (Qc := fun A => va_Qi (fun (r : Int32) (u : Unit) => (r = (0 : Int32) ∧ (0 ≤ p1.toInt ∧ p1.toInt ≤ 2 ∧ 1 ≤ p2.toInt ∧ p2.toInt ≤ 20 ∧ 0 ≤ p3.toInt ∧ p3.toInt ≤ p4.toInt ∧ p4.toInt ≤ 39 ∧ 0 ≤ p5.toInt ∧ p5.toInt ≤ 2)) ∨ (r = (-1000000000 : Int32) ∧ (p1.toInt < 0 ∨ 2 < p1.toInt ∨ p2.toInt < 1 ∨ 20 < p2.toInt ∨ p3.toInt < 0 ∨ p4.toInt < p3.toInt ∨ 39 < p4.toInt ∨ p5.toInt < 0 ∨ 2 < p5.toInt))) (fun u t => Aft D A ((fun (_ : Unit) => []) u) t) A) (by decide) rfl (Nat.le_of_ble_eq_true rfl) (fun p e s m below meth c A ls C hr hlk hin X hl => ?_)
  have hx := C.1
  have hb := C.2.1
  have hown := C.2.2.2.1
  have hts := C.2.2.2.2.1
  have hl : lv_has ls 8 [(0, .ref (x 0)), (1, .int p1), (2, .int p2), (3, .int p3), (4, .int p4), (5, .int p5)] := hl
  show W p l e _ s m _ below meth c s.heap [] 0 0 (MQ below (va_Qi (fun (r : Int32) (u : Unit) => (r = (0 : Int32) ∧ (0 ≤ p1.toInt ∧ p1.toInt ≤ 2 ∧ 1 ≤ p2.toInt ∧ p2.toInt ≤ 20 ∧ 0 ≤ p3.toInt ∧ p3.toInt ≤ p4.toInt ∧ p4.toInt ≤ 39 ∧ 0 ≤ p5.toInt ∧ p5.toInt ≤ 2)) ∨ (r = (-1000000000 : Int32) ∧ (p1.toInt < 0 ∨ 2 < p1.toInt ∨ p2.toInt < 1 ∨ 20 < p2.toInt ∨ p3.toInt < 0 ∨ p4.toInt < p3.toInt ∨ 39 < p4.toInt ∨ p5.toInt < 0 ∨ 2 < p5.toInt))) (fun u t => Aft D A ((fun (_ : Unit) => []) u) t) A) ([.ref (x 0), .int p1, .int p2, .int p3, .int p4, .int p5] : List Value).toArray s 0 0 A) (F0 m 0 ls [])
  have X : Wd D A s [((x 0), .inr (11, [.ref (x 1), .ref (x 10), .int (0 : Int32), .ref (x 11), .int (0 : Int32), .ref (x 12), .ref (x 34), .ref (x 50), .int (-1 : Int32), .ref (x 66), .ref (x 67), .ref (x 68), .ref (x 76), .ref (x 81), .ref (x 84), .ref (x 89), .ref (x 97)])), ((x 76), .inr (7, [.ref (x 1), .ref (x 77), .ref (x 80)])), ((x 77), .inr (5, [.ref (x 78), .ref (x 79), .int (0 : Int32)])), ((x 1), .inr (10, [.int (0 : Int32), .ref (x 2), .int (0 : Int32), .ref (x 3), .ref (x 4), .int (0 : Int32), .ref (x 5), .ref (x 6), .ref (x 7), .ref (x 8), .ref (x 9), .long (1 : Int64)]))] s.heap [] := X
  obtain ⟨H, locs, eH, eL⟩ : ∃ H locs, H = s.heap ∧ locs = ([] : List Loc) := ⟨_, _, rfl, rfl⟩
  rw [← eH, ← eL] at X ⊢
  clear eH eL
  refine lv_iload_n hx hb dX11_back_0 rfl (lv_at hl 1 rfl) ?_
  refine lv_iconst (v := (0 : Int32)) hx hb dX11_back_1 (by decide) ?_
  refine lv_iconst (v := (2 : Int32)) hx hb dX11_back_2 (by decide) ?_
  refine x_cS (own := RX11) (wr := [((x 0), .inr (11, [.ref (x 1), .ref (x 10), .int (0 : Int32), .ref (x 11), .int (0 : Int32), .ref (x 12), .ref (x 34), .ref (x 50), .int (-1 : Int32), .ref (x 66), .ref (x 67), .ref (x 68), .ref (x 76), .ref (x 81), .ref (x 84), .ref (x 89), .ref (x 97)])), ((x 76), .inr (7, [.ref (x 1), .ref (x 77), .ref (x 80)])), ((x 77), .inr (5, [.ref (x 78), .ref (x 79), .int (0 : Int32)])), ((x 1), .inr (10, [.int (0 : Int32), .ref (x 2), .int (0 : Int32), .ref (x 3), .ref (x 4), .int (0 : Int32), .ref (x 5), .ref (x 6), .ref (x 7), .ref (x 8), .ref (x 9), .long (1 : Int64)]))]) (As := [.int p1, .int (0 : Int32), .int (2 : Int32)]) C X hl.1 (c_isBetween l D cI cJ cZ cB cO p1 (0 : Int32) (2 : Int32)) [] [0, 1, 2, 3] ⟨rfl, rfl, by decide, by decide, by decide⟩ k_12_5 k_12_6 k_1_2 k_12_7 (n := 3) (by decide +kernel) ⟨Nat.le_of_ble_eq_true rfl, Nat.le_of_ble_eq_true rfl⟩ rfl rfl (Nat.le_of_ble_eq_true rfl) dX11_back_3 ⟨Nat.le_of_ble_eq_true rfl, Nat.le_of_ble_eq_true rfl⟩ (fun r_2 u_1 H locs w_3 X => ?_)
  have X : Wd D A s [((x 0), .inr (11, [.ref (x 1), .ref (x 10), .int (0 : Int32), .ref (x 11), .int (0 : Int32), .ref (x 12), .ref (x 34), .ref (x 50), .int (-1 : Int32), .ref (x 66), .ref (x 67), .ref (x 68), .ref (x 76), .ref (x 81), .ref (x 84), .ref (x 89), .ref (x 97)])), ((x 76), .inr (7, [.ref (x 1), .ref (x 77), .ref (x 80)])), ((x 77), .inr (5, [.ref (x 78), .ref (x 79), .int (0 : Int32)])), ((x 1), .inr (10, [.int (0 : Int32), .ref (x 2), .int (0 : Int32), .ref (x 3), .ref (x 4), .int (0 : Int32), .ref (x 5), .ref (x 6), .ref (x 7), .ref (x 8), .ref (x 9), .long (1 : Int64)]))] H locs := X
  refine W.widen (k := 0) (n := 0) (Nat.le_of_ble_eq_true rfl) (Nat.le_of_ble_eq_true rfl) ?_
  obtain ⟨rfl, fw_3⟩ | ⟨rfl, fw_3⟩ : (r_2 = (1 : Int32) ∧ ((0 : Int) ≤ (p1).toInt ∧ (p1).toInt ≤ (2 : Int))) ∨ (r_2 = (0 : Int32) ∧ ((p1).toInt < (0 : Int) ∨ (2 : Int) < (p1).toInt)) := w_3
  · refine lv_if_eq (tgt := 38) hx hb dX11_back_6 (by decide) (fun c0 => absurd c0 (by decide)) (fun _ => ?_)
    refine lv_iload_n hx hb dX11_back_9 rfl (lv_at hl 2 rfl) ?_
    refine lv_iconst (v := (1 : Int32)) hx hb dX11_back_10 (by decide) ?_
    refine lv_bipush (v := (20 : Int32)) hx hb dX11_back_11 (by decide) ?_
    refine x_cS (own := RX11) (wr := [((x 0), .inr (11, [.ref (x 1), .ref (x 10), .int (0 : Int32), .ref (x 11), .int (0 : Int32), .ref (x 12), .ref (x 34), .ref (x 50), .int (-1 : Int32), .ref (x 66), .ref (x 67), .ref (x 68), .ref (x 76), .ref (x 81), .ref (x 84), .ref (x 89), .ref (x 97)])), ((x 76), .inr (7, [.ref (x 1), .ref (x 77), .ref (x 80)])), ((x 77), .inr (5, [.ref (x 78), .ref (x 79), .int (0 : Int32)])), ((x 1), .inr (10, [.int (0 : Int32), .ref (x 2), .int (0 : Int32), .ref (x 3), .ref (x 4), .int (0 : Int32), .ref (x 5), .ref (x 6), .ref (x 7), .ref (x 8), .ref (x 9), .long (1 : Int64)]))]) (As := [.int p2, .int (1 : Int32), .int (20 : Int32)]) C X hl.1 (c_isBetween l D cI cJ cZ cB cO p2 (1 : Int32) (20 : Int32)) [] [0, 1, 2, 3] ⟨rfl, rfl, by decide, by decide, by decide⟩ k_12_5 k_12_6 k_1_2 k_12_7 (n := 3) (by decide +kernel) ⟨Nat.le_of_ble_eq_true rfl, Nat.le_of_ble_eq_true rfl⟩ rfl rfl (Nat.le_of_ble_eq_true rfl) dX11_back_13 ⟨Nat.le_of_ble_eq_true rfl, Nat.le_of_ble_eq_true rfl⟩ (fun r_5 u_4 H locs w_6 X => ?_)
    have X : Wd D A s [((x 0), .inr (11, [.ref (x 1), .ref (x 10), .int (0 : Int32), .ref (x 11), .int (0 : Int32), .ref (x 12), .ref (x 34), .ref (x 50), .int (-1 : Int32), .ref (x 66), .ref (x 67), .ref (x 68), .ref (x 76), .ref (x 81), .ref (x 84), .ref (x 89), .ref (x 97)])), ((x 76), .inr (7, [.ref (x 1), .ref (x 77), .ref (x 80)])), ((x 77), .inr (5, [.ref (x 78), .ref (x 79), .int (0 : Int32)])), ((x 1), .inr (10, [.int (0 : Int32), .ref (x 2), .int (0 : Int32), .ref (x 3), .ref (x 4), .int (0 : Int32), .ref (x 5), .ref (x 6), .ref (x 7), .ref (x 8), .ref (x 9), .long (1 : Int64)]))] H locs := X
    refine W.widen (k := 0) (n := 0) (Nat.le_of_ble_eq_true rfl) (Nat.le_of_ble_eq_true rfl) ?_
    obtain ⟨rfl, fw_6⟩ | ⟨rfl, fw_6⟩ : (r_5 = (1 : Int32) ∧ ((1 : Int) ≤ (p2).toInt ∧ (p2).toInt ≤ (20 : Int))) ∨ (r_5 = (0 : Int32) ∧ ((p2).toInt < (1 : Int) ∨ (20 : Int) < (p2).toInt)) := w_6
    · refine lv_if_eq (tgt := 38) hx hb dX11_back_16 (by decide) (fun c0 => absurd c0 (by decide)) (fun _ => ?_)
      refine lv_iload_n hx hb dX11_back_19 rfl (lv_at hl 3 rfl) ?_
      refine lv_iload hx hb dX11_back_20 (lv_at hl 4 rfl) ?_
      refine x_cS (own := RX11) (wr := [((x 0), .inr (11, [.ref (x 1), .ref (x 10), .int (0 : Int32), .ref (x 11), .int (0 : Int32), .ref (x 12), .ref (x 34), .ref (x 50), .int (-1 : Int32), .ref (x 66), .ref (x 67), .ref (x 68), .ref (x 76), .ref (x 81), .ref (x 84), .ref (x 89), .ref (x 97)])), ((x 76), .inr (7, [.ref (x 1), .ref (x 77), .ref (x 80)])), ((x 77), .inr (5, [.ref (x 78), .ref (x 79), .int (0 : Int32)])), ((x 1), .inr (10, [.int (0 : Int32), .ref (x 2), .int (0 : Int32), .ref (x 3), .ref (x 4), .int (0 : Int32), .ref (x 5), .ref (x 6), .ref (x 7), .ref (x 8), .ref (x 9), .long (1 : Int64)]))]) (As := [.int p3, .int p4]) C X hl.1 (c_areWeeks l D cI cJ cZ cB cO p3 p4) [] [0, 1, 2, 3] ⟨rfl, rfl, by decide, by decide, by decide⟩ k_41_2 k_41_3 k_1_2 k_41_4 (n := 2) (by decide +kernel) ⟨Nat.le_of_ble_eq_true rfl, Nat.le_of_ble_eq_true rfl⟩ rfl rfl (Nat.le_of_ble_eq_true rfl) dX11_back_22 ⟨Nat.le_of_ble_eq_true rfl, Nat.le_of_ble_eq_true rfl⟩ (fun r_8 u_7 H locs w_9 X => ?_)
      have X : Wd D A s [((x 0), .inr (11, [.ref (x 1), .ref (x 10), .int (0 : Int32), .ref (x 11), .int (0 : Int32), .ref (x 12), .ref (x 34), .ref (x 50), .int (-1 : Int32), .ref (x 66), .ref (x 67), .ref (x 68), .ref (x 76), .ref (x 81), .ref (x 84), .ref (x 89), .ref (x 97)])), ((x 76), .inr (7, [.ref (x 1), .ref (x 77), .ref (x 80)])), ((x 77), .inr (5, [.ref (x 78), .ref (x 79), .int (0 : Int32)])), ((x 1), .inr (10, [.int (0 : Int32), .ref (x 2), .int (0 : Int32), .ref (x 3), .ref (x 4), .int (0 : Int32), .ref (x 5), .ref (x 6), .ref (x 7), .ref (x 8), .ref (x 9), .long (1 : Int64)]))] H locs := X
      refine W.widen (k := 0) (n := 0) (Nat.le_of_ble_eq_true rfl) (Nat.le_of_ble_eq_true rfl) ?_
      obtain ⟨rfl, fw_9⟩ | ⟨rfl, fw_9⟩ : (r_8 = (1 : Int32) ∧ (0 ≤ (p3).toInt ∧ (p3).toInt ≤ (p4).toInt ∧ (p4).toInt ≤ 39)) ∨ (r_8 = (0 : Int32) ∧ ((p3).toInt < 0 ∨ (p4).toInt < (p3).toInt ∨ 39 < (p4).toInt)) := w_9
      · refine lv_if_eq (tgt := 38) hx hb dX11_back_25 (by decide) (fun c0 => absurd c0 (by decide)) (fun _ => ?_)
        refine lv_iload hx hb dX11_back_28 (lv_at hl 5 rfl) ?_
        refine lv_iconst (v := (0 : Int32)) hx hb dX11_back_30 (by decide) ?_
        refine lv_iconst (v := (2 : Int32)) hx hb dX11_back_31 (by decide) ?_
        refine x_cS (own := RX11) (wr := [((x 0), .inr (11, [.ref (x 1), .ref (x 10), .int (0 : Int32), .ref (x 11), .int (0 : Int32), .ref (x 12), .ref (x 34), .ref (x 50), .int (-1 : Int32), .ref (x 66), .ref (x 67), .ref (x 68), .ref (x 76), .ref (x 81), .ref (x 84), .ref (x 89), .ref (x 97)])), ((x 76), .inr (7, [.ref (x 1), .ref (x 77), .ref (x 80)])), ((x 77), .inr (5, [.ref (x 78), .ref (x 79), .int (0 : Int32)])), ((x 1), .inr (10, [.int (0 : Int32), .ref (x 2), .int (0 : Int32), .ref (x 3), .ref (x 4), .int (0 : Int32), .ref (x 5), .ref (x 6), .ref (x 7), .ref (x 8), .ref (x 9), .long (1 : Int64)]))]) (As := [.int p5, .int (0 : Int32), .int (2 : Int32)]) C X hl.1 (c_isBetween l D cI cJ cZ cB cO p5 (0 : Int32) (2 : Int32)) [] [0, 1, 2, 3] ⟨rfl, rfl, by decide, by decide, by decide⟩ k_12_5 k_12_6 k_1_2 k_12_7 (n := 3) (by decide +kernel) ⟨Nat.le_of_ble_eq_true rfl, Nat.le_of_ble_eq_true rfl⟩ rfl rfl (Nat.le_of_ble_eq_true rfl) dX11_back_32 ⟨Nat.le_of_ble_eq_true rfl, Nat.le_of_ble_eq_true rfl⟩ (fun r_11 u_10 H locs w_12 X => ?_)
        have X : Wd D A s [((x 0), .inr (11, [.ref (x 1), .ref (x 10), .int (0 : Int32), .ref (x 11), .int (0 : Int32), .ref (x 12), .ref (x 34), .ref (x 50), .int (-1 : Int32), .ref (x 66), .ref (x 67), .ref (x 68), .ref (x 76), .ref (x 81), .ref (x 84), .ref (x 89), .ref (x 97)])), ((x 76), .inr (7, [.ref (x 1), .ref (x 77), .ref (x 80)])), ((x 77), .inr (5, [.ref (x 78), .ref (x 79), .int (0 : Int32)])), ((x 1), .inr (10, [.int (0 : Int32), .ref (x 2), .int (0 : Int32), .ref (x 3), .ref (x 4), .int (0 : Int32), .ref (x 5), .ref (x 6), .ref (x 7), .ref (x 8), .ref (x 9), .long (1 : Int64)]))] H locs := X
        refine W.widen (k := 0) (n := 0) (Nat.le_of_ble_eq_true rfl) (Nat.le_of_ble_eq_true rfl) ?_
        obtain ⟨rfl, fw_12⟩ | ⟨rfl, fw_12⟩ : (r_11 = (1 : Int32) ∧ ((0 : Int) ≤ (p5).toInt ∧ (p5).toInt ≤ (2 : Int))) ∨ (r_11 = (0 : Int32) ∧ ((p5).toInt < (0 : Int) ∨ (2 : Int) < (p5).toInt)) := w_12
        · refine lv_if_ne (tgt := 41) hx hb dX11_back_35 (by decide) (fun _ => ?_) (fun c0 => absurd c0 (by decide))
          obtain ⟨j3, hj3, hqj3⟩ := i_ex (x := p3) 40 (by omega) (by omega)
          have ej3 : p3.toInt = (j3 : Int) := by rw [hqj3]; exact nI_toInt (by omega)
          rw [hqj3] at hl
          have hl : lv_has ls 8 [(0, .ref (x 0)), (1, .int p1), (2, .int p2), (3, .int (nI (j3))), (4, .int p4), (5, .int p5)] := hl
          obtain ⟨j4, hj4, hqj4⟩ := i_ex (x := p4) 40 (by omega) (by omega)
          have ej4 : p4.toInt = (j4 : Int) := by rw [hqj4]; exact nI_toInt (by omega)
          rw [hqj4] at hl
          have hl : lv_has ls 8 [(0, .ref (x 0)), (1, .int p1), (2, .int p2), (3, .int (nI (j3))), (4, .int (nI (j4))), (5, .int p5)] := hl
          refine lv_iconst (v := (0 : Int32)) hx hb dX11_back_41 (by decide) ?_
          refine lv_istore (lv' := [(6, .int (0 : Int32)), (0, .ref (x 0)), (1, .int p1), (2, .int p2), (3, .int (nI (j3))), (4, .int (nI (j4))), (5, .int p5)]) hx hb dX11_back_42 hl (by decide) rfl (fun ls hl => ?_)
          refine lv_iload_n hx hb dX11_back_44 rfl (lv_at hl 4 rfl) ?_
          refine lv_istore (lv' := [(7, .int (nI (j3))), (6, .int (0 : Int32)), (0, .ref (x 0)), (1, .int p1), (2, .int p2), (3, .int (nI (j3))), (4, .int (nI (j4))), (5, .int p5)]) hx hb dX11_back_45 hl (by decide) rfl (fun ls hl => ?_)
          have L47 : ∀ (n : Nat) (v : Nat) (H : Heap) (locs : List Loc) (ls : Array Slot), (h1 : v ≤ j4 + 1) → j4 + 1 < v + n → Wd D A s [((x 0), .inr (11, [.ref (x 1), .ref (x 10), .int (0 : Int32), .ref (x 11), .int (0 : Int32), .ref (x 12), .ref (x 34), .ref (x 50), .int (-1 : Int32), .ref (x 66), .ref (x 67), .ref (x 68), .ref (x 76), .ref (x 81), .ref (x 84), .ref (x 89), .ref (x 97)])), ((x 76), .inr (7, [.ref (x 1), .ref (x 77), .ref (x 80)])), ((x 77), .inr (5, [.ref (x 78), .ref (x 79), .int (0 : Int32)])), ((x 1), .inr (10, [.int (0 : Int32), .ref (x 2), .int (0 : Int32), .ref (x 3), .ref (x 4), .int (0 : Int32), .ref (x 5), .ref (x 6), .ref (x 7), .ref (x 8), .ref (x 9), .long (1 : Int64)]))] H locs → lv_has ls 8 [(7, .int (nI (v))), (6, .int (0 : Int32)), (0, .ref (x 0)), (1, .int p1), (2, .int p2), (3, .int (nI (j3))), (4, .int (nI (j4))), (5, .int p5)] → W p l e ({ frames := 3, cells := 0, slots := 0, locals := 63 } : Room) s m ([.ref (x 0), .int p1, .int p2, .int p3, .int p4, .int p5] : List Value).toArray below meth c H locs 0 0 (MQ below (va_Qi (fun (r : Int32) (u : Unit) => (r = (0 : Int32) ∧ (0 ≤ p1.toInt ∧ p1.toInt ≤ 2 ∧ 1 ≤ p2.toInt ∧ p2.toInt ≤ 20 ∧ 0 ≤ p3.toInt ∧ p3.toInt ≤ p4.toInt ∧ p4.toInt ≤ 39 ∧ 0 ≤ p5.toInt ∧ p5.toInt ≤ 2)) ∨ (r = (-1000000000 : Int32) ∧ (p1.toInt < 0 ∨ 2 < p1.toInt ∨ p2.toInt < 1 ∨ 20 < p2.toInt ∨ p3.toInt < 0 ∨ p4.toInt < p3.toInt ∨ 39 < p4.toInt ∨ p5.toInt < 0 ∨ 2 < p5.toInt))) (fun u t => Aft D A ((fun (_ : Unit) => []) u) t) A) ([.ref (x 0), .int p1, .int p2, .int p3, .int p4, .int p5] : List Value).toArray s 0 0 A) (F0 m 47 ls []) := by
            intro n
            induction n with
            | zero => intro v H locs ls h1 hn; exact absurd hn (by omega)
            | succ n ih =>
              intro v H locs ls h1 hn X hl
              have ih47 := ih
              refine lv_iload hx hb dX11_back_47 (lv_at hl 0 rfl) ?_
              refine lv_iload hx hb dX11_back_49 (lv_at hl 6 rfl) ?_
              refine lv_icmp_gt (tgt := 78) hx hb dX11_back_51 (by decide) (fun c_13 => ?_) (fun c_13 => ?_)
              · have fc_13 : ((j4 : Nat) : Int) < ((v : Nat) : Int) := (by have h9 := i_lt c_13; simp only [nI_toInt (n := j4) (by omega), nI_toInt (n := v) (by omega)] at h9; exact h9)
                refine lv_iload hx hb dX11_back_78 (lv_at hl 1 rfl) ?_
                exact x_iret C X hr hlk (v := (0 : Int32)) (by first | rfl | decide) (()) [] (by decide) rfl (Or.inl (⟨rfl, (by  omega)⟩)) (Nat.le_of_ble_eq_true rfl) (Nat.le_of_ble_eq_true rfl) dX11_back_80
              · have fc_13 : ((v : Nat) : Int) ≤ ((j4 : Nat) : Int) := (by have h9 := i_nlt c_13; simp only [nI_toInt (n := j4) (by omega), nI_toInt (n := v) (by omega)] at h9; exact h9)
                refine lv_iload hx hb dX11_back_54 (lv_at hl 1 rfl) ?_
                refine lv_aload_n hx hb dX11_back_56 rfl (lv_at hl 2 rfl) ?_
                refine x_get (own := RX11) (T := TX11) C X 0 rfl rfl 12 (by decide) k_2_20 rfl rfl (v := .ref (x 76)) rfl dX11_back_57 ?_
                refine lv_iload hx hb dX11_back_60 (lv_at hl 0 rfl) ?_
                refine lv_iload_n hx hb dX11_back_62 rfl (lv_at hl 3 rfl) ?_
                refine lv_iload_n hx hb dX11_back_63 rfl (lv_at hl 4 rfl) ?_
                refine lv_iload hx hb dX11_back_64 (lv_at hl 7 rfl) ?_
                refine x_cV (own := RX11) (wr := [((x 0), .inr (11, [.ref (x 1), .ref (x 10), .int (0 : Int32), .ref (x 11), .int (0 : Int32), .ref (x 12), .ref (x 34), .ref (x 50), .int (-1 : Int32), .ref (x 66), .ref (x 67), .ref (x 68), .ref (x 76), .ref (x 81), .ref (x 84), .ref (x 89), .ref (x 97)]))]) (As := [.int (nI (v)), .int p1, .int p2, .int p5]) C X hl.1 (c_leadersOf l D cI cJ cZ cB cO (fun k => x (k + 76)) (fun k => x (k + 1)) (nI (v)) p1 p2 p5) [1, 2, 3] [0] ⟨rfl, rfl, by decide, by decide, by decide⟩ (qb := 0) rfl rfl k_45_19 k_45_20 k_45_21 k_2_19 k_45_22 (n := 4) (by decide +kernel) ⟨Nat.le_of_ble_eq_true rfl, Nat.le_of_ble_eq_true rfl⟩ rfl rfl (Nat.le_of_ble_eq_true rfl) dX11_back_66 ⟨Nat.le_of_ble_eq_true rfl, Nat.le_of_ble_eq_true rfl⟩ (fun r_15 u_14 H locs w_16 X => ?_)
                have X : Wd D A s [((x 0), .inr (11, [.ref (x 1), .ref (x 10), .int (0 : Int32), .ref (x 11), .int (0 : Int32), .ref (x 12), .ref (x 34), .ref (x 50), .int (-1 : Int32), .ref (x 66), .ref (x 67), .ref (x 68), .ref (x 76), .ref (x 81), .ref (x 84), .ref (x 89), .ref (x 97)])), ((x 76), .inr (7, [.ref (x 1), .ref (x 77), .ref (x 80)])), ((x 77), .inr (5, [.ref (x 78), .ref (x 79), .int (0 : Int32)])), ((x 1), .inr (10, [.int (0 : Int32), .ref (x 2), .int (0 : Int32), .ref (x 3), .ref (x 4), .int (0 : Int32), .ref (x 5), .ref (x 6), .ref (x 7), .ref (x 8), .ref (x 9), .long (1 : Int64)]))] H locs := X
                refine W.widen (k := 0) (n := 0) (Nat.le_of_ble_eq_true rfl) (Nat.le_of_ble_eq_true rfl) ?_
                obtain ⟨rfl, fw_16⟩ : r_15 = (0 : Int32) ∧ True := w_16
                refine lv_iadd hx hb dX11_back_69 ?_
                refine x_eqi (show (0 : Int32) + (0 : Int32) = (0 : Int32) from by decide +kernel) ?_
                refine lv_istore (lv' := [(6, .int (0 : Int32)), (7, .int (nI (v))), (0, .ref (x 0)), (1, .int p1), (2, .int p2), (3, .int (nI (j3))), (4, .int (nI (j4))), (5, .int p5)]) hx hb dX11_back_70 hl (by decide) rfl (fun ls hl => ?_)
                refine lv_iinc (v := (nI (v + 1))) (lv' := [(7, .int (nI (v + 1))), (6, .int (0 : Int32)), (0, .ref (x 0)), (1, .int p1), (2, .int p2), (3, .int (nI (j3))), (4, .int (nI (j4))), (5, .int p5)]) hx hb dX11_back_72 hl (k := 1) rfl (nI_add _ 1) (by decide) rfl (fun ls hl => ?_)
                refine lv_goto (tgt := 47) hx hb dX11_back_75 (by decide) ?_
                exact ih47  (v + 1) H locs ls (by omega) (by omega) (x_sub X [0, 1, 2, 3] (by decide) rfl) (lv_sub hl [0, 1, 2, 3, 4, 5, 6, 7] rfl)
          exact L47 (j4 + 1 + 1) (j3) H locs ls (by omega) (by omega) (x_sub X [0, 1, 2, 3] (by decide) rfl) (lv_sub hl [0, 1, 2, 3, 4, 5, 6, 7] rfl)
        · refine lv_if_ne (tgt := 41) hx hb dX11_back_35 (by decide) (fun c0 => absurd (by decide) c0) (fun _ => ?_)
          refine lv_ldc (own := RX11) (v := (-1000000000 : Int32)) hx hb hown (hts _ k_45_18) dX11_back_38 ?_
          exact x_iret C X hr hlk (v := (-1000000000 : Int32)) (by first | rfl | decide) (()) [] (by decide) rfl (Or.inr (⟨rfl, by omega⟩)) (Nat.le_of_ble_eq_true rfl) (Nat.le_of_ble_eq_true rfl) dX11_back_40
      · refine lv_if_eq (tgt := 38) hx hb dX11_back_25 (by decide) (fun _ => ?_) (fun c0 => absurd (by decide) c0)
        refine lv_ldc (own := RX11) (v := (-1000000000 : Int32)) hx hb hown (hts _ k_45_18) dX11_back_38 ?_
        exact x_iret C X hr hlk (v := (-1000000000 : Int32)) (by first | rfl | decide) (()) [] (by decide) rfl (Or.inr (⟨rfl, by omega⟩)) (Nat.le_of_ble_eq_true rfl) (Nat.le_of_ble_eq_true rfl) dX11_back_40
    · refine lv_if_eq (tgt := 38) hx hb dX11_back_16 (by decide) (fun _ => ?_) (fun c0 => absurd (by decide) c0)
      refine lv_ldc (own := RX11) (v := (-1000000000 : Int32)) hx hb hown (hts _ k_45_18) dX11_back_38 ?_
      exact x_iret C X hr hlk (v := (-1000000000 : Int32)) (by first | rfl | decide) (()) [] (by decide) rfl (Or.inr (⟨rfl, by omega⟩)) (Nat.le_of_ble_eq_true rfl) (Nat.le_of_ble_eq_true rfl) dX11_back_40
  · refine lv_if_eq (tgt := 38) hx hb dX11_back_6 (by decide) (fun _ => ?_) (fun c0 => absurd (by decide) c0)
    refine lv_ldc (own := RX11) (v := (-1000000000 : Int32)) hx hb hown (hts _ k_45_18) dX11_back_38 ?_
    exact x_iret C X hr hlk (v := (-1000000000 : Int32)) (by first | rfl | decide) (()) [] (by decide) rfl (Or.inr (⟨rfl, by omega⟩)) (Nat.le_of_ble_eq_true rfl) (Nat.le_of_ble_eq_true rfl) dX11_back_40
set_option maxHeartbeats 4000000 in
set_option maxRecDepth 100000 in
theorem cx_best (l : Launch) (D : va_G) (cI cJ cZ cB : ClassId) (cO : ClassId) (x : Nat → Nat) (p1 : Int32) :
    CI l D [(cI, .int), (cJ, .long), (cZ, .boolean), (cB, .byte), (cO, .object "LuckLinks$World")] yX11_best cX11_best 2 (some .int) ({ frames := 1, cells := 0, slots := 0, locals := 29 } : Room) [.ref (x 0), .int p1] [((x 0), .inr (11, [.ref (x 1), .ref (x 10), .int (0 : Int32), .ref (x 11), .int (0 : Int32), .ref (x 12), .ref (x 34), .ref (x 50), .int (-1 : Int32), .ref (x 66), .ref (x 67), .ref (x 68), .ref (x 76), .ref (x 81), .ref (x 84), .ref (x 89), .ref (x 97)])), ((x 81), .inr (1, [.ref (x 1), .ref (x 82), .ref (x 83), .long (0 : Int64), .long (0 : Int64)])), ((x 1), .inr (10, [.int (0 : Int32), .ref (x 2), .int (0 : Int32), .ref (x 3), .ref (x 4), .int (0 : Int32), .ref (x 5), .ref (x 6), .ref (x 7), .ref (x 8), .ref (x 9), .long (1 : Int64)]))] (fun (r : Int32) (u : Unit) => (r = (-1 : Int32) ∧ True)) (fun (_ : Unit) => []) := by
  intro sz
  refine body_of (y := yX11_best) (cc := cX11_best) (maxL := 2) (ret := (some .int)) (rm := ({ frames := 1, cells := 0, slots := 0, locals := 29 } : Room)) (wc := [((x 0), .inr (11, [.ref (x 1), .ref (x 10), .int (0 : Int32), .ref (x 11), .int (0 : Int32), .ref (x 12), .ref (x 34), .ref (x 50), .int (-1 : Int32), .ref (x 66), .ref (x 67), .ref (x 68), .ref (x 76), .ref (x 81), .ref (x 84), .ref (x 89), .ref (x 97)])), ((x 81), .inr (1, [.ref (x 1), .ref (x 82), .ref (x 83), .long (0 : Int64), .long (0 : Int64)])), ((x 1), .inr (10, [.int (0 : Int32), .ref (x 2), .int (0 : Int32), .ref (x 3), .ref (x 4), .int (0 : Int32), .ref (x 5), .ref (x 6), .ref (x 7), .ref (x 8), .ref (x 9), .long (1 : Int64)]))]) (tys := [(cI, .int), (cJ, .long), (cZ, .boolean), (cB, .byte), (cO, .object "LuckLinks$World")]) (D := D) (sz := sz) (own := RX11) (av := [.ref (x 0), .int p1]) (Qc := fun A => va_Qi (fun (r : Int32) (u : Unit) => (r = (-1 : Int32) ∧ True)) (fun u t => Aft D A ((fun (_ : Unit) => []) u) t) A) (by decide) rfl (Nat.le_of_ble_eq_true rfl) (fun p e s m below meth c A ls C hr hlk hin X hl => ?_)
  have hx := C.1
  have hb := C.2.1
  have hown := C.2.2.2.1
  have hts := C.2.2.2.2.1
  have hl : lv_has ls 2 [(0, .ref (x 0)), (1, .int p1)] := hl
  show W p l e _ s m _ below meth c s.heap [] 0 0 (MQ below (va_Qi (fun (r : Int32) (u : Unit) => (r = (-1 : Int32) ∧ True)) (fun u t => Aft D A ((fun (_ : Unit) => []) u) t) A) ([.ref (x 0), .int p1] : List Value).toArray s 0 0 A) (F0 m 0 ls [])
  have X : Wd D A s [((x 0), .inr (11, [.ref (x 1), .ref (x 10), .int (0 : Int32), .ref (x 11), .int (0 : Int32), .ref (x 12), .ref (x 34), .ref (x 50), .int (-1 : Int32), .ref (x 66), .ref (x 67), .ref (x 68), .ref (x 76), .ref (x 81), .ref (x 84), .ref (x 89), .ref (x 97)])), ((x 81), .inr (1, [.ref (x 1), .ref (x 82), .ref (x 83), .long (0 : Int64), .long (0 : Int64)])), ((x 1), .inr (10, [.int (0 : Int32), .ref (x 2), .int (0 : Int32), .ref (x 3), .ref (x 4), .int (0 : Int32), .ref (x 5), .ref (x 6), .ref (x 7), .ref (x 8), .ref (x 9), .long (1 : Int64)]))] s.heap [] := X
  obtain ⟨H, locs, eH, eL⟩ : ∃ H locs, H = s.heap ∧ locs = ([] : List Loc) := ⟨_, _, rfl, rfl⟩
  rw [← eH, ← eL] at X ⊢
  clear eH eL
  refine lv_iload_n hx hb dX11_best_0 rfl (lv_at hl 1 rfl) ?_
  refine lv_iconst (v := (0 : Int32)) hx hb dX11_best_1 (by decide) ?_
  refine lv_bipush (v := (40 : Int32)) hx hb dX11_best_2 (by decide) ?_
  refine x_cS (own := RX11) (wr := [((x 0), .inr (11, [.ref (x 1), .ref (x 10), .int (0 : Int32), .ref (x 11), .int (0 : Int32), .ref (x 12), .ref (x 34), .ref (x 50), .int (-1 : Int32), .ref (x 66), .ref (x 67), .ref (x 68), .ref (x 76), .ref (x 81), .ref (x 84), .ref (x 89), .ref (x 97)])), ((x 81), .inr (1, [.ref (x 1), .ref (x 82), .ref (x 83), .long (0 : Int64), .long (0 : Int64)])), ((x 1), .inr (10, [.int (0 : Int32), .ref (x 2), .int (0 : Int32), .ref (x 3), .ref (x 4), .int (0 : Int32), .ref (x 5), .ref (x 6), .ref (x 7), .ref (x 8), .ref (x 9), .long (1 : Int64)]))]) (As := [.int p1, .int (0 : Int32), .int (40 : Int32)]) C X hl.1 (c_isBetween l D cI cJ cZ cB cO p1 (0 : Int32) (40 : Int32)) [] [0, 1, 2] ⟨rfl, rfl, by decide, by decide, by decide⟩ k_12_5 k_12_6 k_1_2 k_12_7 (n := 3) (by decide +kernel) ⟨Nat.le_of_ble_eq_true rfl, Nat.le_of_ble_eq_true rfl⟩ rfl rfl (Nat.le_of_ble_eq_true rfl) dX11_best_4 ⟨Nat.le_of_ble_eq_true rfl, Nat.le_of_ble_eq_true rfl⟩ (fun r_2 u_1 H locs w_3 X => ?_)
  have X : Wd D A s [((x 0), .inr (11, [.ref (x 1), .ref (x 10), .int (0 : Int32), .ref (x 11), .int (0 : Int32), .ref (x 12), .ref (x 34), .ref (x 50), .int (-1 : Int32), .ref (x 66), .ref (x 67), .ref (x 68), .ref (x 76), .ref (x 81), .ref (x 84), .ref (x 89), .ref (x 97)])), ((x 81), .inr (1, [.ref (x 1), .ref (x 82), .ref (x 83), .long (0 : Int64), .long (0 : Int64)])), ((x 1), .inr (10, [.int (0 : Int32), .ref (x 2), .int (0 : Int32), .ref (x 3), .ref (x 4), .int (0 : Int32), .ref (x 5), .ref (x 6), .ref (x 7), .ref (x 8), .ref (x 9), .long (1 : Int64)]))] H locs := X
  refine W.widen (k := 0) (n := 0) (Nat.le_of_ble_eq_true rfl) (Nat.le_of_ble_eq_true rfl) ?_
  obtain ⟨rfl, fw_3⟩ | ⟨rfl, fw_3⟩ : (r_2 = (1 : Int32) ∧ ((0 : Int) ≤ (p1).toInt ∧ (p1).toInt ≤ (40 : Int))) ∨ (r_2 = (0 : Int32) ∧ ((p1).toInt < (0 : Int) ∨ (40 : Int) < (p1).toInt)) := w_3
  · refine lv_if_ne (tgt := 12) hx hb dX11_best_7 (by decide) (fun _ => ?_) (fun c0 => absurd c0 (by decide))
    refine lv_aload_n hx hb dX11_best_12 rfl (lv_at hl 0 rfl) ?_
    refine x_get (own := RX11) (T := TX11) C X 0 rfl rfl 13 (by decide) k_3_0 rfl rfl (v := .ref (x 81)) rfl dX11_best_13 ?_
    refine x_cVv (own := RX11) (wr := [((x 0), .inr (11, [.ref (x 1), .ref (x 10), .int (0 : Int32), .ref (x 11), .int (0 : Int32), .ref (x 12), .ref (x 34), .ref (x 50), .int (-1 : Int32), .ref (x 66), .ref (x 67), .ref (x 68), .ref (x 76), .ref (x 81), .ref (x 84), .ref (x 89), .ref (x 97)]))]) (As := []) C X hl.1 (c_gatherAll l D cI cJ cZ cB cO (fun k => x (k + 81)) (fun k => x (k + 1))) [1, 2] [0] ⟨rfl, rfl, by decide, by decide, by decide⟩ (qb := 0) rfl rfl k_50_6 k_50_7 k_50_8 k_2_23 k_50_9 (n := 0) (by decide +kernel) ⟨Nat.le_of_ble_eq_true rfl, Nat.le_of_ble_eq_true rfl⟩ rfl rfl (Nat.le_of_ble_eq_true rfl) dX11_best_16 ⟨Nat.le_of_ble_eq_true rfl, Nat.le_of_ble_eq_true rfl⟩ (fun u_4 H locs w_6 X => ?_)
    have X : Wd D A s [((x 0), .inr (11, [.ref (x 1), .ref (x 10), .int (0 : Int32), .ref (x 11), .int (0 : Int32), .ref (x 12), .ref (x 34), .ref (x 50), .int (-1 : Int32), .ref (x 66), .ref (x 67), .ref (x 68), .ref (x 76), .ref (x 81), .ref (x 84), .ref (x 89), .ref (x 97)])), ((x 81), .inr (1, [.ref (x 1), .ref (x 82), .ref (x 83), .long (0 : Int64), .long (0 : Int64)])), ((x 1), .inr (10, [.int (0 : Int32), .ref (x 2), .int (0 : Int32), .ref (x 3), .ref (x 4), .int (0 : Int32), .ref (x 5), .ref (x 6), .ref (x 7), .ref (x 8), .ref (x 9), .long (1 : Int64)]))] H locs := X
    refine W.widen (k := 0) (n := 0) (Nat.le_of_ble_eq_true rfl) (Nat.le_of_ble_eq_true rfl) ?_
    refine lv_aload_n hx hb dX11_best_19 rfl (lv_at hl 0 rfl) ?_
    refine x_get (own := RX11) (T := TX11) C X 0 rfl rfl 13 (by decide) k_3_0 rfl rfl (v := .ref (x 81)) rfl dX11_best_20 ?_
    refine lv_iload_n hx hb dX11_best_23 rfl (lv_at hl 1 rfl) ?_
    refine lv_aload_n hx hb dX11_best_24 rfl (lv_at hl 0 rfl) ?_
    refine x_get (own := RX11) (T := TX11) C X 0 rfl rfl 6 (by decide) k_2_4 rfl rfl (v := .ref (x 34)) rfl dX11_best_25 ?_
    refine x_cV (own := RX11) (wr := [((x 0), .inr (11, [.ref (x 1), .ref (x 10), .int (0 : Int32), .ref (x 11), .int (0 : Int32), .ref (x 12), .ref (x 34), .ref (x 50), .int (-1 : Int32), .ref (x 66), .ref (x 67), .ref (x 68), .ref (x 76), .ref (x 81), .ref (x 84), .ref (x 89), .ref (x 97)]))]) (As := [.int p1, .ref (x 34)]) C X hl.1 (c_bestAhead l D cI cJ cZ cB cO (fun k => x (k + 81)) (fun k => x (k + 1)) (x 34) p1) [1, 2] [0] ⟨rfl, rfl, by decide, by decide, by decide⟩ (qb := 0) rfl rfl k_50_12 k_50_13 k_50_14 k_2_23 k_50_15 (n := 2) (by decide +kernel) ⟨Nat.le_of_ble_eq_true rfl, Nat.le_of_ble_eq_true rfl⟩ rfl rfl (Nat.le_of_ble_eq_true rfl) dX11_best_28 ⟨Nat.le_of_ble_eq_true rfl, Nat.le_of_ble_eq_true rfl⟩ (fun r_8 u_7 H locs w_9 X => ?_)
    have X : Wd D A s [((x 0), .inr (11, [.ref (x 1), .ref (x 10), .int (0 : Int32), .ref (x 11), .int (0 : Int32), .ref (x 12), .ref (x 34), .ref (x 50), .int (-1 : Int32), .ref (x 66), .ref (x 67), .ref (x 68), .ref (x 76), .ref (x 81), .ref (x 84), .ref (x 89), .ref (x 97)])), ((x 81), .inr (1, [.ref (x 1), .ref (x 82), .ref (x 83), .long (0 : Int64), .long (0 : Int64)])), ((x 1), .inr (10, [.int (0 : Int32), .ref (x 2), .int (0 : Int32), .ref (x 3), .ref (x 4), .int (0 : Int32), .ref (x 5), .ref (x 6), .ref (x 7), .ref (x 8), .ref (x 9), .long (1 : Int64)]))] H locs := X
    refine W.widen (k := 0) (n := 0) (Nat.le_of_ble_eq_true rfl) (Nat.le_of_ble_eq_true rfl) ?_
    obtain ⟨rfl, fw_9⟩ : r_8 = (-1 : Int32) ∧ True := w_9
    exact x_iret C X hr hlk (v := (-1 : Int32)) (by first | rfl | decide) (()) [] (by decide) rfl (⟨rfl, trivial⟩) (Nat.le_of_ble_eq_true rfl) (Nat.le_of_ble_eq_true rfl) dX11_best_31
  · refine lv_if_ne (tgt := 12) hx hb dX11_best_7 (by decide) (fun c0 => absurd (by decide) c0) (fun _ => ?_)
    refine lv_iconst (v := (-1 : Int32)) hx hb dX11_best_10 (by decide) ?_
    exact x_iret C X hr hlk (v := (-1 : Int32)) (by first | rfl | decide) (()) [] (by decide) rfl (⟨rfl, trivial⟩) (Nat.le_of_ble_eq_true rfl) (Nat.le_of_ble_eq_true rfl) dX11_best_11
set_option maxHeartbeats 4000000 in
set_option maxRecDepth 100000 in
theorem cx_held (l : Launch) (D : va_G) (cI cJ cZ cB : ClassId) (cO : ClassId) (x : Nat → Nat) (p1 p2 : Int32) :
    CI l D [(cI, .int), (cJ, .long), (cZ, .boolean), (cB, .byte), (cO, .object "LuckLinks$World")] yX11_held cX11_held 3 (some .int) ({ frames := 2, cells := 0, slots := 0, locals := 42 } : Room) [.ref (x 0), .int p1, .int p2] [((x 0), .inr (11, [.ref (x 1), .ref (x 10), .int (0 : Int32), .ref (x 11), .int (0 : Int32), .ref (x 12), .ref (x 34), .ref (x 50), .int (-1 : Int32), .ref (x 66), .ref (x 67), .ref (x 68), .ref (x 76), .ref (x 81), .ref (x 84), .ref (x 89), .ref (x 97)])), ((x 81), .inr (1, [.ref (x 1), .ref (x 82), .ref (x 83), .long (0 : Int64), .long (0 : Int64)])), ((x 1), .inr (10, [.int (0 : Int32), .ref (x 2), .int (0 : Int32), .ref (x 3), .ref (x 4), .int (0 : Int32), .ref (x 5), .ref (x 6), .ref (x 7), .ref (x 8), .ref (x 9), .long (1 : Int64)]))] (fun (r : Int32) (u : Unit) => (r = (0 : Int32) ∧ (0 ≤ p1.toInt ∧ p1.toInt ≤ 39 ∧ 0 ≤ p2.toInt ∧ p2.toInt ≤ 4)) ∨ (r = (-1 : Int32) ∧ (p1.toInt < 0 ∨ 39 < p1.toInt ∨ p2.toInt < 0 ∨ 4 < p2.toInt))) (fun (_ : Unit) => []) := by
  intro sz
  refine body_of (y := yX11_held) (cc := cX11_held) (maxL := 3) (ret := (some .int)) (rm := ({ frames := 2, cells := 0, slots := 0, locals := 42 } : Room)) (wc := [((x 0), .inr (11, [.ref (x 1), .ref (x 10), .int (0 : Int32), .ref (x 11), .int (0 : Int32), .ref (x 12), .ref (x 34), .ref (x 50), .int (-1 : Int32), .ref (x 66), .ref (x 67), .ref (x 68), .ref (x 76), .ref (x 81), .ref (x 84), .ref (x 89), .ref (x 97)])), ((x 81), .inr (1, [.ref (x 1), .ref (x 82), .ref (x 83), .long (0 : Int64), .long (0 : Int64)])), ((x 1), .inr (10, [.int (0 : Int32), .ref (x 2), .int (0 : Int32), .ref (x 3), .ref (x 4), .int (0 : Int32), .ref (x 5), .ref (x 6), .ref (x 7), .ref (x 8), .ref (x 9), .long (1 : Int64)]))]) (tys := [(cI, .int), (cJ, .long), (cZ, .boolean), (cB, .byte), (cO, .object "LuckLinks$World")]) (D := D) (sz := sz) (own := RX11) (av := [.ref (x 0), .int p1, .int p2]) (Qc := fun A => va_Qi (fun (r : Int32) (u : Unit) => (r = (0 : Int32) ∧ (0 ≤ p1.toInt ∧ p1.toInt ≤ 39 ∧ 0 ≤ p2.toInt ∧ p2.toInt ≤ 4)) ∨ (r = (-1 : Int32) ∧ (p1.toInt < 0 ∨ 39 < p1.toInt ∨ p2.toInt < 0 ∨ 4 < p2.toInt))) (fun u t => Aft D A ((fun (_ : Unit) => []) u) t) A) (by decide) rfl (Nat.le_of_ble_eq_true rfl) (fun p e s m below meth c A ls C hr hlk hin X hl => ?_)
  have hx := C.1
  have hb := C.2.1
  have hown := C.2.2.2.1
  have hts := C.2.2.2.2.1
  have hl : lv_has ls 3 [(0, .ref (x 0)), (1, .int p1), (2, .int p2)] := hl
  show W p l e _ s m _ below meth c s.heap [] 0 0 (MQ below (va_Qi (fun (r : Int32) (u : Unit) => (r = (0 : Int32) ∧ (0 ≤ p1.toInt ∧ p1.toInt ≤ 39 ∧ 0 ≤ p2.toInt ∧ p2.toInt ≤ 4)) ∨ (r = (-1 : Int32) ∧ (p1.toInt < 0 ∨ 39 < p1.toInt ∨ p2.toInt < 0 ∨ 4 < p2.toInt))) (fun u t => Aft D A ((fun (_ : Unit) => []) u) t) A) ([.ref (x 0), .int p1, .int p2] : List Value).toArray s 0 0 A) (F0 m 0 ls [])
  have X : Wd D A s [((x 0), .inr (11, [.ref (x 1), .ref (x 10), .int (0 : Int32), .ref (x 11), .int (0 : Int32), .ref (x 12), .ref (x 34), .ref (x 50), .int (-1 : Int32), .ref (x 66), .ref (x 67), .ref (x 68), .ref (x 76), .ref (x 81), .ref (x 84), .ref (x 89), .ref (x 97)])), ((x 81), .inr (1, [.ref (x 1), .ref (x 82), .ref (x 83), .long (0 : Int64), .long (0 : Int64)])), ((x 1), .inr (10, [.int (0 : Int32), .ref (x 2), .int (0 : Int32), .ref (x 3), .ref (x 4), .int (0 : Int32), .ref (x 5), .ref (x 6), .ref (x 7), .ref (x 8), .ref (x 9), .long (1 : Int64)]))] s.heap [] := X
  obtain ⟨H, locs, eH, eL⟩ : ∃ H locs, H = s.heap ∧ locs = ([] : List Loc) := ⟨_, _, rfl, rfl⟩
  rw [← eH, ← eL] at X ⊢
  clear eH eL
  refine lv_iload_n hx hb dX11_held_0 rfl (lv_at hl 1 rfl) ?_
  refine x_cS (own := RX11) (wr := [((x 0), .inr (11, [.ref (x 1), .ref (x 10), .int (0 : Int32), .ref (x 11), .int (0 : Int32), .ref (x 12), .ref (x 34), .ref (x 50), .int (-1 : Int32), .ref (x 66), .ref (x 67), .ref (x 68), .ref (x 76), .ref (x 81), .ref (x 84), .ref (x 89), .ref (x 97)])), ((x 81), .inr (1, [.ref (x 1), .ref (x 82), .ref (x 83), .long (0 : Int64), .long (0 : Int64)])), ((x 1), .inr (10, [.int (0 : Int32), .ref (x 2), .int (0 : Int32), .ref (x 3), .ref (x 4), .int (0 : Int32), .ref (x 5), .ref (x 6), .ref (x 7), .ref (x 8), .ref (x 9), .long (1 : Int64)]))]) (As := [.int p1]) C X hl.1 (c_isWeek l D cI cJ cZ cB cO p1) [] [0, 1, 2] ⟨rfl, rfl, by decide, by decide, by decide⟩ k_14_0 k_14_1 k_1_2 k_14_2 (n := 1) (by decide +kernel) ⟨Nat.le_of_ble_eq_true rfl, Nat.le_of_ble_eq_true rfl⟩ rfl rfl (Nat.le_of_ble_eq_true rfl) dX11_held_1 ⟨Nat.le_of_ble_eq_true rfl, Nat.le_of_ble_eq_true rfl⟩ (fun r_2 u_1 H locs w_3 X => ?_)
  have X : Wd D A s [((x 0), .inr (11, [.ref (x 1), .ref (x 10), .int (0 : Int32), .ref (x 11), .int (0 : Int32), .ref (x 12), .ref (x 34), .ref (x 50), .int (-1 : Int32), .ref (x 66), .ref (x 67), .ref (x 68), .ref (x 76), .ref (x 81), .ref (x 84), .ref (x 89), .ref (x 97)])), ((x 81), .inr (1, [.ref (x 1), .ref (x 82), .ref (x 83), .long (0 : Int64), .long (0 : Int64)])), ((x 1), .inr (10, [.int (0 : Int32), .ref (x 2), .int (0 : Int32), .ref (x 3), .ref (x 4), .int (0 : Int32), .ref (x 5), .ref (x 6), .ref (x 7), .ref (x 8), .ref (x 9), .long (1 : Int64)]))] H locs := X
  refine W.widen (k := 0) (n := 0) (Nat.le_of_ble_eq_true rfl) (Nat.le_of_ble_eq_true rfl) ?_
  obtain ⟨rfl, fw_3⟩ | ⟨rfl, fw_3⟩ : (r_2 = (1 : Int32) ∧ (0 ≤ (p1).toInt ∧ (p1).toInt ≤ 39)) ∨ (r_2 = (0 : Int32) ∧ ((p1).toInt < 0 ∨ 39 < (p1).toInt)) := w_3
  · refine lv_if_eq (tgt := 32) hx hb dX11_held_4 (by decide) (fun c0 => absurd c0 (by decide)) (fun _ => ?_)
    refine lv_iload_n hx hb dX11_held_7 rfl (lv_at hl 2 rfl) ?_
    refine lv_iconst (v := (0 : Int32)) hx hb dX11_held_8 (by decide) ?_
    refine lv_iconst (v := (4 : Int32)) hx hb dX11_held_9 (by decide) ?_
    refine x_cS (own := RX11) (wr := [((x 0), .inr (11, [.ref (x 1), .ref (x 10), .int (0 : Int32), .ref (x 11), .int (0 : Int32), .ref (x 12), .ref (x 34), .ref (x 50), .int (-1 : Int32), .ref (x 66), .ref (x 67), .ref (x 68), .ref (x 76), .ref (x 81), .ref (x 84), .ref (x 89), .ref (x 97)])), ((x 81), .inr (1, [.ref (x 1), .ref (x 82), .ref (x 83), .long (0 : Int64), .long (0 : Int64)])), ((x 1), .inr (10, [.int (0 : Int32), .ref (x 2), .int (0 : Int32), .ref (x 3), .ref (x 4), .int (0 : Int32), .ref (x 5), .ref (x 6), .ref (x 7), .ref (x 8), .ref (x 9), .long (1 : Int64)]))]) (As := [.int p2, .int (0 : Int32), .int (4 : Int32)]) C X hl.1 (c_isBetween l D cI cJ cZ cB cO p2 (0 : Int32) (4 : Int32)) [] [0, 1, 2] ⟨rfl, rfl, by decide, by decide, by decide⟩ k_12_5 k_12_6 k_1_2 k_12_7 (n := 3) (by decide +kernel) ⟨Nat.le_of_ble_eq_true rfl, Nat.le_of_ble_eq_true rfl⟩ rfl rfl (Nat.le_of_ble_eq_true rfl) dX11_held_10 ⟨Nat.le_of_ble_eq_true rfl, Nat.le_of_ble_eq_true rfl⟩ (fun r_5 u_4 H locs w_6 X => ?_)
    have X : Wd D A s [((x 0), .inr (11, [.ref (x 1), .ref (x 10), .int (0 : Int32), .ref (x 11), .int (0 : Int32), .ref (x 12), .ref (x 34), .ref (x 50), .int (-1 : Int32), .ref (x 66), .ref (x 67), .ref (x 68), .ref (x 76), .ref (x 81), .ref (x 84), .ref (x 89), .ref (x 97)])), ((x 81), .inr (1, [.ref (x 1), .ref (x 82), .ref (x 83), .long (0 : Int64), .long (0 : Int64)])), ((x 1), .inr (10, [.int (0 : Int32), .ref (x 2), .int (0 : Int32), .ref (x 3), .ref (x 4), .int (0 : Int32), .ref (x 5), .ref (x 6), .ref (x 7), .ref (x 8), .ref (x 9), .long (1 : Int64)]))] H locs := X
    refine W.widen (k := 0) (n := 0) (Nat.le_of_ble_eq_true rfl) (Nat.le_of_ble_eq_true rfl) ?_
    obtain ⟨rfl, fw_6⟩ | ⟨rfl, fw_6⟩ : (r_5 = (1 : Int32) ∧ ((0 : Int) ≤ (p2).toInt ∧ (p2).toInt ≤ (4 : Int))) ∨ (r_5 = (0 : Int32) ∧ ((p2).toInt < (0 : Int) ∨ (4 : Int) < (p2).toInt)) := w_6
    · refine lv_if_eq (tgt := 32) hx hb dX11_held_13 (by decide) (fun c0 => absurd c0 (by decide)) (fun _ => ?_)
      refine lv_aload_n hx hb dX11_held_16 rfl (lv_at hl 0 rfl) ?_
      refine x_get (own := RX11) (T := TX11) C X 0 rfl rfl 13 (by decide) k_3_0 rfl rfl (v := .ref (x 81)) rfl dX11_held_17 ?_
      refine lv_iload_n hx hb dX11_held_20 rfl (lv_at hl 1 rfl) ?_
      refine lv_iload_n hx hb dX11_held_21 rfl (lv_at hl 2 rfl) ?_
      refine lv_aload_n hx hb dX11_held_22 rfl (lv_at hl 0 rfl) ?_
      refine x_get (own := RX11) (T := TX11) C X 0 rfl rfl 6 (by decide) k_2_4 rfl rfl (v := .ref (x 34)) rfl dX11_held_23 ?_
      refine x_cV (own := RX11) (wr := [((x 0), .inr (11, [.ref (x 1), .ref (x 10), .int (0 : Int32), .ref (x 11), .int (0 : Int32), .ref (x 12), .ref (x 34), .ref (x 50), .int (-1 : Int32), .ref (x 66), .ref (x 67), .ref (x 68), .ref (x 76), .ref (x 81), .ref (x 84), .ref (x 89), .ref (x 97)]))]) (As := [.int p1, .int p2, .ref (x 34)]) C X hl.1 (c_missed l D cI cJ cZ cB cO (fun k => x (k + 81)) (fun k => x (k + 1)) (x 34) p1 p2) [1, 2] [0] ⟨rfl, rfl, by decide, by decide, by decide⟩ (qb := 0) rfl rfl k_60_8 k_60_9 k_60_10 k_2_23 k_60_11 (n := 3) (by decide +kernel) ⟨Nat.le_of_ble_eq_true rfl, Nat.le_of_ble_eq_true rfl⟩ rfl rfl (Nat.le_of_ble_eq_true rfl) dX11_held_26 ⟨Nat.le_of_ble_eq_true rfl, Nat.le_of_ble_eq_true rfl⟩ (fun r_8 u_7 H locs w_9 X => ?_)
      have X : Wd D A s [((x 0), .inr (11, [.ref (x 1), .ref (x 10), .int (0 : Int32), .ref (x 11), .int (0 : Int32), .ref (x 12), .ref (x 34), .ref (x 50), .int (-1 : Int32), .ref (x 66), .ref (x 67), .ref (x 68), .ref (x 76), .ref (x 81), .ref (x 84), .ref (x 89), .ref (x 97)]))] H locs := X
      refine W.widen (k := 0) (n := 0) (Nat.le_of_ble_eq_true rfl) (Nat.le_of_ble_eq_true rfl) ?_
      obtain ⟨rfl, fw_9⟩ : r_8 = (0 : Int32) ∧ True := w_9
      refine lv_goto (tgt := 33) hx hb dX11_held_29 (by decide) ?_
      exact x_iret C X hr hlk (v := (0 : Int32)) (by first | rfl | decide) (()) [] (by decide) rfl (Or.inl (⟨rfl, by omega⟩)) (Nat.le_of_ble_eq_true rfl) (Nat.le_of_ble_eq_true rfl) dX11_held_33
    · refine lv_if_eq (tgt := 32) hx hb dX11_held_13 (by decide) (fun _ => ?_) (fun c0 => absurd (by decide) c0)
      refine lv_iconst (v := (-1 : Int32)) hx hb dX11_held_32 (by decide) ?_
      exact x_iret C X hr hlk (v := (-1 : Int32)) (by first | rfl | decide) (()) [] (by decide) rfl (Or.inr (⟨rfl, by omega⟩)) (Nat.le_of_ble_eq_true rfl) (Nat.le_of_ble_eq_true rfl) dX11_held_33
  · refine lv_if_eq (tgt := 32) hx hb dX11_held_4 (by decide) (fun _ => ?_) (fun c0 => absurd (by decide) c0)
    refine lv_iconst (v := (-1 : Int32)) hx hb dX11_held_32 (by decide) ?_
    exact x_iret C X hr hlk (v := (-1 : Int32)) (by first | rfl | decide) (()) [] (by decide) rfl (Or.inr (⟨rfl, by omega⟩)) (Nat.le_of_ble_eq_true rfl) (Nat.le_of_ble_eq_true rfl) dX11_held_33
