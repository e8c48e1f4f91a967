theorem k_12_5 : Cond.methodLink RX11 131 yX11_isBetween ∈ wsL_law := mr_12 _ (List.mem_of_getElem? (i := 5) rfl)
theorem k_12_6 : Cond.static yX11_isBetween ∈ wsL_law := mr_12 _ (List.mem_of_getElem? (i := 6) rfl)
theorem k_12_7 : Cond.code yX11_isBetween cX11_isBetween 3 (some .boolean) ∈ wsL_law := mr_12 _ (List.mem_of_getElem? (i := 7) rfl)
theorem k_1_2 : Cond.initialized RX11 ∈ wsL_law := mr_1 _ (List.mem_of_getElem? (i := 2) rfl)
theorem dJ7_fill_53178_0 : decode cJ7_fill_53178 0 = .ok (.iconst 0, 1) := by decide +kernel
theorem dJ7_fill_53178_1 : decode cJ7_fill_53178 1 = .ok (.istore_n 2, 1) := by decide +kernel
theorem dJ7_fill_53178_2 : decode cJ7_fill_53178 2 = .ok (.aload_n 0, 1) := by decide +kernel
theorem dJ7_fill_53178_3 : decode cJ7_fill_53178 3 = .ok (.arraylength, 1) := by decide +kernel
theorem dJ7_fill_53178_4 : decode cJ7_fill_53178 4 = .ok (.istore_n 3, 1) := by decide +kernel
theorem dJ7_fill_53178_5 : decode cJ7_fill_53178 5 = .ok (.iload_n 2, 1) := by decide +kernel
theorem dJ7_fill_53178_6 : decode cJ7_fill_53178 6 = .ok (.iload_n 3, 1) := by decide +kernel
theorem dJ7_fill_53178_7 : decode cJ7_fill_53178 7 = .ok (.if_icmp .ge 13, 3) := by decide +kernel
theorem dJ7_fill_53178_10 : decode cJ7_fill_53178 10 = .ok (.aload_n 0, 1) := by decide +kernel
theorem dJ7_fill_53178_11 : decode cJ7_fill_53178 11 = .ok (.iload_n 2, 1) := by decide +kernel
theorem dJ7_fill_53178_12 : decode cJ7_fill_53178 12 = .ok (.iload_n 1, 1) := by decide +kernel
theorem dJ7_fill_53178_13 : decode cJ7_fill_53178 13 = .ok (.iastore, 1) := by decide +kernel
theorem dJ7_fill_53178_14 : decode cJ7_fill_53178 14 = .ok (.iinc 2 1, 3) := by decide +kernel
theorem dJ7_fill_53178_17 : decode cJ7_fill_53178 17 = .ok (.goto (-12), 3) := by decide +kernel
theorem dJ7_fill_53178_20 : decode cJ7_fill_53178 20 = .ok (.return_, 1) := by decide +kernel
theorem dJ7_fill_d0a16_0 : decode cJ7_fill_d0a16 0 = .ok (.iconst 0, 1) := by decide +kernel
theorem dJ7_fill_d0a16_1 : decode cJ7_fill_d0a16 1 = .ok (.istore_n 3, 1) := by decide +kernel
theorem dJ7_fill_d0a16_2 : decode cJ7_fill_d0a16 2 = .ok (.aload_n 0, 1) := by decide +kernel
theorem dJ7_fill_d0a16_3 : decode cJ7_fill_d0a16 3 = .ok (.arraylength, 1) := by decide +kernel
theorem dJ7_fill_d0a16_4 : decode cJ7_fill_d0a16 4 = .ok (.istore 4, 2) := by decide +kernel
theorem dJ7_fill_d0a16_6 : decode cJ7_fill_d0a16 6 = .ok (.iload_n 3, 1) := by decide +kernel
theorem dJ7_fill_d0a16_7 : decode cJ7_fill_d0a16 7 = .ok (.iload 4, 2) := by decide +kernel
theorem dJ7_fill_d0a16_9 : decode cJ7_fill_d0a16 9 = .ok (.if_icmp .ge 13, 3) := by decide +kernel
theorem dJ7_fill_d0a16_12 : decode cJ7_fill_d0a16 12 = .ok (.aload_n 0, 1) := by decide +kernel
theorem dJ7_fill_d0a16_13 : decode cJ7_fill_d0a16 13 = .ok (.iload_n 3, 1) := by decide +kernel
theorem dJ7_fill_d0a16_14 : decode cJ7_fill_d0a16 14 = .ok (.lload_n 1, 1) := by decide +kernel
theorem dJ7_fill_d0a16_15 : decode cJ7_fill_d0a16 15 = .ok (.lastore, 1) := by decide +kernel
theorem dJ7_fill_d0a16_16 : decode cJ7_fill_d0a16 16 = .ok (.iinc 3 1, 3) := by decide +kernel
theorem dJ7_fill_d0a16_19 : decode cJ7_fill_d0a16 19 = .ok (.goto (-13), 3) := by decide +kernel
theorem dJ7_fill_d0a16_22 : decode cJ7_fill_d0a16 22 = .ok (.return_, 1) := by decide +kernel
theorem dX11_isBetween_0 : decode cX11_isBetween 0 = .ok (.iload_n 0, 1) := by decide +kernel
theorem dX11_isBetween_1 : decode cX11_isBetween 1 = .ok (.iload_n 1, 1) := by decide +kernel
theorem dX11_isBetween_2 : decode cX11_isBetween 2 = .ok (.if_icmp .lt 12, 3) := by decide +kernel
theorem dX11_isBetween_5 : decode cX11_isBetween 5 = .ok (.iload_n 0, 1) := by decide +kernel
theorem dX11_isBetween_6 : decode cX11_isBetween 6 = .ok (.iload_n 2, 1) := by decide +kernel
theorem dX11_isBetween_7 : decode cX11_isBetween 7 = .ok (.if_icmp .gt 7, 3) := by decide +kernel
theorem dX11_isBetween_10 : decode cX11_isBetween 10 = .ok (.iconst 1, 1) := by decide +kernel
theorem dX11_isBetween_11 : decode cX11_isBetween 11 = .ok (.goto 4, 3) := by decide +kernel
theorem dX11_isBetween_14 : decode cX11_isBetween 14 = .ok (.iconst 0, 1) := by decide +kernel
theorem dX11_isBetween_15 : decode cX11_isBetween 15 = .ok (.ireturn, 1) := by decide +kernel
theorem dX11_isWeek_0 : decode cX11_isWeek 0 = .ok (.iload_n 0, 1) := by decide +kernel
theorem dX11_isWeek_1 : decode cX11_isWeek 1 = .ok (.iconst 0, 1) := by decide +kernel
theorem dX11_isWeek_2 : decode cX11_isWeek 2 = .ok (.bipush 39, 2) := by decide +kernel
theorem dX11_isWeek_4 : decode cX11_isWeek 4 = .ok (.invokestatic 131, 3) := by decide +kernel
theorem dX11_isWeek_7 : decode cX11_isWeek 7 = .ok (.ireturn, 1) := by decide +kernel
theorem dX12_isWeek_0 : decode cX12_isWeek 0 = .ok (.iload_n 0, 1) := by decide +kernel
theorem dX12_isWeek_1 : decode cX12_isWeek 1 = .ok (.ifCond .lt 13, 3) := by decide +kernel
theorem dX12_isWeek_4 : decode cX12_isWeek 4 = .ok (.iload_n 0, 1) := by decide +kernel
theorem dX12_isWeek_5 : decode cX12_isWeek 5 = .ok (.bipush 39, 2) := by decide +kernel
theorem dX12_isWeek_7 : decode cX12_isWeek 7 = .ok (.if_icmp .gt 7, 3) := by decide +kernel
theorem dX12_isWeek_10 : decode cX12_isWeek 10 = .ok (.iconst 1, 1) := by decide +kernel
theorem dX12_isWeek_11 : decode cX12_isWeek 11 = .ok (.goto 4, 3) := by decide +kernel
theorem dX12_isWeek_14 : decode cX12_isWeek 14 = .ok (.iconst 0, 1) := by decide +kernel
theorem dX12_isWeek_15 : decode cX12_isWeek 15 = .ok (.ireturn, 1) := by decide +kernel
theorem dX12_within_0 : decode cX12_within 0 = .ok (.iload_n 0, 1) := by decide +kernel
theorem dX12_within_1 : decode cX12_within 1 = .ok (.iload_n 1, 1) := by decide +kernel
theorem dX12_within_2 : decode cX12_within 2 = .ok (.if_icmp .lt 12, 3) := by decide +kernel
theorem dX12_within_5 : decode cX12_within 5 = .ok (.iload_n 0, 1) := by decide +kernel
theorem dX12_within_6 : decode cX12_within 6 = .ok (.iload_n 2, 1) := by decide +kernel
theorem dX12_within_7 : decode cX12_within 7 = .ok (.if_icmp .gt 7, 3) := by decide +kernel
theorem dX12_within_10 : decode cX12_within 10 = .ok (.iconst 1, 1) := by decide +kernel
theorem dX12_within_11 : decode cX12_within 11 = .ok (.goto 4, 3) := by decide +kernel
theorem dX12_within_14 : decode cX12_within 14 = .ok (.iconst 0, 1) := by decide +kernel
theorem dX12_within_15 : decode cX12_within 15 = .ok (.ireturn, 1) := by decide +kernel
set_option maxHeartbeats 4000000 in
set_option maxRecDepth 100000 in
theorem c_isBetween (l : Launch) (D : va_G) (cI cJ cZ cB : ClassId) (cO : ClassId) (v lo hi : Int32) :
    CI l D [(cI, .int), (cJ, .long), (cZ, .boolean), (cB, .byte), (cO, .object "LuckLinks$World")] yX11_isBetween cX11_isBetween 3 (some .boolean) ({ frames := 0, cells := 0, slots := 0, locals := 0 } : Room) [.int v, .int lo, .int hi] [] (fun (r : Int32) (u : Unit) => (r = (1 : Int32) ∧ (lo.toInt ≤ v.toInt ∧ v.toInt ≤ hi.toInt)) ∨ (r = (0 : Int32) ∧ (v.toInt < lo.toInt ∨ hi.toInt < v.toInt))) (fun (_ : Unit) => []) := by
  intro sz
  refine body_of (y := yX11_isBetween) (cc := cX11_isBetween) (maxL := 3) (ret := (some .boolean)) (rm := ({ frames := 0, cells := 0, slots := 0, locals := 0 } : Room)) (wc := []) (tys := [(cI, .int), (cJ, .long), (cZ, .boolean), (cB, .byte), (cO, .object "LuckLinks$World")]) (D := D) (sz := sz) (own := RX11) (av := [.int v, .int lo, .int hi]) (Qc := fun A => va_Qi (fun (r : Int32) (u : Unit) => (r = (1 : Int32) ∧ (lo.toInt ≤ v.toInt ∧ v.toInt ≤ hi.toInt)) ∨ (r = (0 : Int32) ∧ (v.toInt < lo.toInt ∨ hi.toInt < v.toInt))) (fun u t => Aft D A ((fun (_ : Unit) => []) u) t) A) (by decide) rfl (Nat.le_of_ble_eq_true rfl) (fun p e s m below meth c A ls C hr hlk hin X hl => ?_)
  have hx := C.1
  have hb := C.2.1
  have hown := C.2.2.2.1
  have hts := C.2.2.2.2.1
  have hl : lv_has ls 3 [(0, .int v), (1, .int lo), (2, .int hi)] := hl
  show W p l e _ s m _ below meth c s.heap [] 0 0 (MQ below (va_Qi (fun (r : Int32) (u : Unit) => (r = (1 : Int32) ∧ (lo.toInt ≤ v.toInt ∧ v.toInt ≤ hi.toInt)) ∨ (r = (0 : Int32) ∧ (v.toInt < lo.toInt ∨ hi.toInt < v.toInt))) (fun u t => Aft D A ((fun (_ : Unit) => []) u) t) A) ([.int v, .int lo, .int hi] : List Value).toArray s 0 0 A) (F0 m 0 ls [])
  have X : Wd D A s [] s.heap [] := X
  obtain ⟨H, locs, eH, eL⟩ : ∃ H locs, H = s.heap ∧ locs = ([] : List Loc) := ⟨_, _, rfl, rfl⟩
  rw [← eH, ← eL] at X ⊢
  clear eH eL
  refine lv_iload_n hx hb dX11_isBetween_0 rfl (lv_at hl 0 rfl) ?_
  refine lv_iload_n hx hb dX11_isBetween_1 rfl (lv_at hl 1 rfl) ?_
  refine lv_icmp_lt (tgt := 14) hx hb dX11_isBetween_2 (by decide) (fun c_1 => ?_) (fun c_1 => ?_)
  · have fc_1 : (v).toInt < (lo).toInt := i_lt c_1
    refine lv_iconst (v := (0 : Int32)) hx hb dX11_isBetween_14 (by decide) ?_
    exact x_iret C X hr hlk (v := (0 : Int32)) (by first | rfl | decide) (()) [] (by decide) rfl (Or.inr (⟨rfl, by omega⟩)) (Nat.le_of_ble_eq_true rfl) (Nat.le_of_ble_eq_true rfl) dX11_isBetween_15
  · have fc_1 : (lo).toInt ≤ (v).toInt := i_nlt c_1
    refine lv_iload_n hx hb dX11_isBetween_5 rfl (lv_at hl 0 rfl) ?_
    refine lv_iload_n hx hb dX11_isBetween_6 rfl (lv_at hl 2 rfl) ?_
    refine lv_icmp_gt (tgt := 14) hx hb dX11_isBetween_7 (by decide) (fun c_2 => ?_) (fun c_2 => ?_)
    · have fc_2 : (hi).toInt < (v).toInt := i_lt c_2
      refine lv_iconst (v := (0 : Int32)) hx hb dX11_isBetween_14 (by decide) ?_
      exact x_iret C X hr hlk (v := (0 : Int32)) (by first | rfl | decide) (()) [] (by decide) rfl (Or.inr (⟨rfl, by omega⟩)) (Nat.le_of_ble_eq_true rfl) (Nat.le_of_ble_eq_true rfl) dX11_isBetween_15
    · have fc_2 : (v).toInt ≤ (hi).toInt := i_nlt c_2
      refine lv_iconst (v := (1 : Int32)) hx hb dX11_isBetween_10 (by decide) ?_
      refine lv_goto (tgt := 15) hx hb dX11_isBetween_11 (by decide) ?_
      exact x_iret C X hr hlk (v := (1 : Int32)) (by first | rfl | decide) (()) [] (by decide) rfl (Or.inl (⟨rfl, by omega⟩)) (Nat.le_of_ble_eq_true rfl) (Nat.le_of_ble_eq_true rfl) dX11_isBetween_15
set_option maxHeartbeats 4000000 in
set_option maxRecDepth 100000 in
theorem c_within (l : Launch) (D : va_G) (cI cJ cZ cB : ClassId) (cO : ClassId) (v lo hi : Int32) :
    CI l D [(cI, .int), (cJ, .long), (cZ, .boolean), (cB, .byte), (cO, .object "LuckLinks$World")] yX12_within cX12_within 3 (some .boolean) ({ frames := 0, cells := 0, slots := 0, locals := 0 } : Room) [.int v, .int lo, .int hi] [] (fun (r : Int32) (u : Unit) => (r = (1 : Int32) ∧ (lo.toInt ≤ v.toInt ∧ v.toInt ≤ hi.toInt)) ∨ (r = (0 : Int32) ∧ (v.toInt < lo.toInt ∨ hi.toInt < v.toInt))) (fun (_ : Unit) => []) := by
  intro sz
  refine body_of (y := yX12_within) (cc := cX12_within) (maxL := 3) (ret := (some .boolean)) (rm := ({ frames := 0, cells := 0, slots := 0, locals := 0 } : Room)) (wc := []) (tys := [(cI, .int), (cJ, .long), (cZ, .boolean), (cB, .byte), (cO, .object "LuckLinks$World")]) (D := D) (sz := sz) (own := RX12) (av := [.int v, .int lo, .int hi]) (Qc := fun A => va_Qi (fun (r : Int32) (u : Unit) => (r = (1 : Int32) ∧ (lo.toInt ≤ v.toInt ∧ v.toInt ≤ hi.toInt)) ∨ (r = (0 : Int32) ∧ (v.toInt < lo.toInt ∨ hi.toInt < v.toInt))) (fun u t => Aft D A ((fun (_ : Unit) => []) u) t) A) (by decide) rfl (Nat.le_of_ble_eq_true rfl) (fun p e s m below meth c A ls C hr hlk hin X hl => ?_)
  have hx := C.1
  have hb := C.2.1
  have hown := C.2.2.2.1
  have hts := C.2.2.2.2.1
  have hl : lv_has ls 3 [(0, .int v), (1, .int lo), (2, .int hi)] := hl
  show W p l e _ s m _ below meth c s.heap [] 0 0 (MQ below (va_Qi (fun (r : Int32) (u : Unit) => (r = (1 : Int32) ∧ (lo.toInt ≤ v.toInt ∧ v.toInt ≤ hi.toInt)) ∨ (r = (0 : Int32) ∧ (v.toInt < lo.toInt ∨ hi.toInt < v.toInt))) (fun u t => Aft D A ((fun (_ : Unit) => []) u) t) A) ([.int v, .int lo, .int hi] : List Value).toArray s 0 0 A) (F0 m 0 ls [])
  have X : Wd D A s [] s.heap [] := X
  obtain ⟨H, locs, eH, eL⟩ : ∃ H locs, H = s.heap ∧ locs = ([] : List Loc) := ⟨_, _, rfl, rfl⟩
  rw [← eH, ← eL] at X ⊢
  clear eH eL
  refine lv_iload_n hx hb dX12_within_0 rfl (lv_at hl 0 rfl) ?_
  refine lv_iload_n hx hb dX12_within_1 rfl (lv_at hl 1 rfl) ?_
  refine lv_icmp_lt (tgt := 14) hx hb dX12_within_2 (by decide) (fun c_1 => ?_) (fun c_1 => ?_)
  · have fc_1 : (v).toInt < (lo).toInt := i_lt c_1
    refine lv_iconst (v := (0 : Int32)) hx hb dX12_within_14 (by decide) ?_
    exact x_iret C X hr hlk (v := (0 : Int32)) (by first | rfl | decide) (()) [] (by decide) rfl (Or.inr (⟨rfl, by omega⟩)) (Nat.le_of_ble_eq_true rfl) (Nat.le_of_ble_eq_true rfl) dX12_within_15
  · have fc_1 : (lo).toInt ≤ (v).toInt := i_nlt c_1
    refine lv_iload_n hx hb dX12_within_5 rfl (lv_at hl 0 rfl) ?_
    refine lv_iload_n hx hb dX12_within_6 rfl (lv_at hl 2 rfl) ?_
    refine lv_icmp_gt (tgt := 14) hx hb dX12_within_7 (by decide) (fun c_2 => ?_) (fun c_2 => ?_)
    · have fc_2 : (hi).toInt < (v).toInt := i_lt c_2
      refine lv_iconst (v := (0 : Int32)) hx hb dX12_within_14 (by decide) ?_
      exact x_iret C X hr hlk (v := (0 : Int32)) (by first | rfl | decide) (()) [] (by decide) rfl (Or.inr (⟨rfl, by omega⟩)) (Nat.le_of_ble_eq_true rfl) (Nat.le_of_ble_eq_true rfl) dX12_within_15
    · have fc_2 : (v).toInt ≤ (hi).toInt := i_nlt c_2
      refine lv_iconst (v := (1 : Int32)) hx hb dX12_within_10 (by decide) ?_
      refine lv_goto (tgt := 15) hx hb dX12_within_11 (by decide) ?_
      exact x_iret C X hr hlk (v := (1 : Int32)) (by first | rfl | decide) (()) [] (by decide) rfl (Or.inl (⟨rfl, by omega⟩)) (Nat.le_of_ble_eq_true rfl) (Nat.le_of_ble_eq_true rfl) dX12_within_15
set_option maxHeartbeats 4000000 in
set_option maxRecDepth 100000 in
theorem c_isWeek (l : Launch) (D : va_G) (cI cJ cZ cB : ClassId) (cO : ClassId) (w : Int32) :
    CI l D [(cI, .int), (cJ, .long), (cZ, .boolean), (cB, .byte), (cO, .object "LuckLinks$World")] yX11_isWeek cX11_isWeek 1 (some .boolean) ({ frames := 1, cells := 0, slots := 0, locals := 22 } : Room) [.int w] [] (fun (r : Int32) (u : Unit) => (r = (1 : Int32) ∧ (0 ≤ w.toInt ∧ w.toInt ≤ 39)) ∨ (r = (0 : Int32) ∧ (w.toInt < 0 ∨ 39 < w.toInt))) (fun (_ : Unit) => []) := by
  intro sz
  refine body_of (y := yX11_isWeek) (cc := cX11_isWeek) (maxL := 1) (ret := (some .boolean)) (rm := ({ frames := 1, cells := 0, slots := 0, locals := 22 } : Room)) (wc := []) (tys := [(cI, .int), (cJ, .long), (cZ, .boolean), (cB, .byte), (cO, .object "LuckLinks$World")]) (D := D) (sz := sz) (own := RX11) (av := [.int w]) (Qc := fun A => va_Qi (fun (r : Int32) (u : Unit) => (r = (1 : Int32) ∧ (0 ≤ w.toInt ∧ w.toInt ≤ 39)) ∨ (r = (0 : Int32) ∧ (w.toInt < 0 ∨ 39 < w.toInt))) (fun u t => Aft D A ((fun (_ : Unit) => []) u) t) A) (by decide) rfl (Nat.le_of_ble_eq_true rfl) (fun p e s m below meth c A ls C hr hlk hin X hl => ?_)
  have hx := C.1
  have hb := C.2.1
  have hown := C.2.2.2.1
  have hts := C.2.2.2.2.1
  have hl : lv_has ls 1 [(0, .int w)] := hl
  show W p l e _ s m _ below meth c s.heap [] 0 0 (MQ below (va_Qi (fun (r : Int32) (u : Unit) => (r = (1 : Int32) ∧ (0 ≤ w.toInt ∧ w.toInt ≤ 39)) ∨ (r = (0 : Int32) ∧ (w.toInt < 0 ∨ 39 < w.toInt))) (fun u t => Aft D A ((fun (_ : Unit) => []) u) t) A) ([.int w] : List Value).toArray s 0 0 A) (F0 m 0 ls [])
  have X : Wd D A s [] s.heap [] := X
  obtain ⟨H, locs, eH, eL⟩ : ∃ H locs, H = s.heap ∧ locs = ([] : List Loc) := ⟨_, _, rfl, rfl⟩
  rw [← eH, ← eL] at X ⊢
  clear eH eL
  refine lv_iload_n hx hb dX11_isWeek_0 rfl (lv_at hl 0 rfl) ?_
  refine lv_iconst (v := (0 : Int32)) hx hb dX11_isWeek_1 (by decide) ?_
  refine lv_bipush (v := (39 : Int32)) hx hb dX11_isWeek_2 (by decide) ?_
  refine x_cS (own := RX11) (wr := []) (As := [.int w, .int (0 : Int32), .int (39 : Int32)]) C X hl.1 (c_isBetween l D cI cJ cZ cB cO w (0 : Int32) (39 : Int32)) [] [] ⟨rfl, rfl, by decide, by decide, by decide⟩ k_12_5 k_12_6 k_1_2 k_12_7 (n := 3) (by decide +kernel) ⟨Nat.le_of_ble_eq_true rfl, Nat.le_of_ble_eq_true rfl⟩ rfl rfl (Nat.le_of_ble_eq_true rfl) dX11_isWeek_4 ⟨Nat.le_of_ble_eq_true rfl, Nat.le_of_ble_eq_true rfl⟩ (fun r_2 u_1 H locs w_3 X => ?_)
  have X : Wd D A s [] H locs := X
  refine W.widen (k := 0) (n := 0) (Nat.le_of_ble_eq_true rfl) (Nat.le_of_ble_eq_true rfl) ?_
  obtain ⟨rfl, fw_3⟩ | ⟨rfl, fw_3⟩ : (r_2 = (1 : Int32) ∧ ((0 : Int) ≤ (w).toInt ∧ (w).toInt ≤ (39 : Int))) ∨ (r_2 = (0 : Int32) ∧ ((w).toInt < (0 : Int) ∨ (39 : Int) < (w).toInt)) := w_3
  · exact x_iret C X hr hlk (v := (1 : Int32)) (by first | rfl | decide) (()) [] (by decide) rfl (Or.inl (⟨rfl, by omega⟩)) (Nat.le_of_ble_eq_true rfl) (Nat.le_of_ble_eq_true rfl) dX11_isWeek_7
  · exact x_iret C X hr hlk (v := (0 : Int32)) (by first | rfl | decide) (()) [] (by decide) rfl (Or.inr (⟨rfl, by omega⟩)) (Nat.le_of_ble_eq_true rfl) (Nat.le_of_ble_eq_true rfl) dX11_isWeek_7
set_option maxHeartbeats 4000000 in
set_option maxRecDepth 100000 in
theorem c_isWeekM (l : Launch) (D : va_G) (cI cJ cZ cB : ClassId) (cO : ClassId) (w : Int32) :
    CI l D [(cI, .int), (cJ, .long), (cZ, .boolean), (cB, .byte), (cO, .object "LuckLinks$World")] yX12_isWeek cX12_isWeek 1 (some .boolean) ({ frames := 0, cells := 0, slots := 0, locals := 0 } : Room) [.int w] [] (fun (r : Int32) (u : Unit) => (r = (1 : Int32) ∧ (0 ≤ w.toInt ∧ w.toInt ≤ 39)) ∨ (r = (0 : Int32) ∧ (w.toInt < 0 ∨ 39 < w.toInt))) (fun (_ : Unit) => []) := by
  intro sz
  refine body_of (y := yX12_isWeek) (cc := cX12_isWeek) (maxL := 1) (ret := (some .boolean)) (rm := ({ frames := 0, cells := 0, slots := 0, locals := 0 } : Room)) (wc := []) (tys := [(cI, .int), (cJ, .long), (cZ, .boolean), (cB, .byte), (cO, .object "LuckLinks$World")]) (D := D) (sz := sz) (own := RX12) (av := [.int w]) (Qc := fun A => va_Qi (fun (r : Int32) (u : Unit) => (r = (1 : Int32) ∧ (0 ≤ w.toInt ∧ w.toInt ≤ 39)) ∨ (r = (0 : Int32) ∧ (w.toInt < 0 ∨ 39 < w.toInt))) (fun u t => Aft D A ((fun (_ : Unit) => []) u) t) A) (by decide) rfl (Nat.le_of_ble_eq_true rfl) (fun p e s m below meth c A ls C hr hlk hin X hl => ?_)
  have hx := C.1
  have hb := C.2.1
  have hown := C.2.2.2.1
  have hts := C.2.2.2.2.1
  have hl : lv_has ls 1 [(0, .int w)] := hl
  show W p l e _ s m _ below meth c s.heap [] 0 0 (MQ below (va_Qi (fun (r : Int32) (u : Unit) => (r = (1 : Int32) ∧ (0 ≤ w.toInt ∧ w.toInt ≤ 39)) ∨ (r = (0 : Int32) ∧ (w.toInt < 0 ∨ 39 < w.toInt))) (fun u t => Aft D A ((fun (_ : Unit) => []) u) t) A) ([.int w] : List Value).toArray s 0 0 A) (F0 m 0 ls [])
  have X : Wd D A s [] s.heap [] := X
  obtain ⟨H, locs, eH, eL⟩ : ∃ H locs, H = s.heap ∧ locs = ([] : List Loc) := ⟨_, _, rfl, rfl⟩
  rw [← eH, ← eL] at X ⊢
  clear eH eL
  refine lv_iload_n hx hb dX12_isWeek_0 rfl (lv_at hl 0 rfl) ?_
  refine lv_if_lt (tgt := 14) hx hb dX12_isWeek_1 (by decide) (fun c_1 => ?_) (fun c_1 => ?_)
  · have fc_1 : (w).toInt < (0 : Int) := i_lt c_1
    refine lv_iconst (v := (0 : Int32)) hx hb dX12_isWeek_14 (by decide) ?_
    exact x_iret C X hr hlk (v := (0 : Int32)) (by first | rfl | decide) (()) [] (by decide) rfl (Or.inr (⟨rfl, by omega⟩)) (Nat.le_of_ble_eq_true rfl) (Nat.le_of_ble_eq_true rfl) dX12_isWeek_15
  · have fc_1 : (0 : Int) ≤ (w).toInt := i_nlt c_1
    refine lv_iload_n hx hb dX12_isWeek_4 rfl (lv_at hl 0 rfl) ?_
    refine lv_bipush (v := (39 : Int32)) hx hb dX12_isWeek_5 (by decide) ?_
    refine lv_icmp_gt (tgt := 14) hx hb dX12_isWeek_7 (by decide) (fun c_2 => ?_) (fun c_2 => ?_)
    · have fc_2 : (39 : Int) < (w).toInt := i_lt c_2
      refine lv_iconst (v := (0 : Int32)) hx hb dX12_isWeek_14 (by decide) ?_
      exact x_iret C X hr hlk (v := (0 : Int32)) (by first | rfl | decide) (()) [] (by decide) rfl (Or.inr (⟨rfl, by omega⟩)) (Nat.le_of_ble_eq_true rfl) (Nat.le_of_ble_eq_true rfl) dX12_isWeek_15
    · have fc_2 : (w).toInt ≤ (39 : Int) := i_nlt c_2
      refine lv_iconst (v := (1 : Int32)) hx hb dX12_isWeek_10 (by decide) ?_
      refine lv_goto (tgt := 15) hx hb dX12_isWeek_11 (by decide) ?_
      exact x_iret C X hr hlk (v := (1 : Int32)) (by first | rfl | decide) (()) [] (by decide) rfl (Or.inl (⟨rfl, by omega⟩)) (Nat.le_of_ble_eq_true rfl) (Nat.le_of_ble_eq_true rfl) dX12_isWeek_15
set_option maxHeartbeats 4000000 in
set_option maxRecDepth 100000 in
theorem c_fillI (l : Launch) (D : va_G) (cI cJ cZ cB : ClassId) (cO : ClassId) (a N : Nat) (f : Nat → Int32) (x : Int32) (hN : N < 2 ^ 31) :
    CV l D [(cI, .int), (cJ, .long), (cZ, .boolean), (cB, .byte), (cO, .object "LuckLinks$World")] yJ7_fill_53178 cJ7_fill_53178 4 ({ frames := 0, cells := 0, slots := 0, locals := 0 } : Room) [.ref a, .int x] [(a, .inl (cI, N, .inl (f)))] (fun (u : Unit) => (True)) (fun (_ : Unit) => [(a, .inl (cI, N, .inl (fun _ => x)))]) := by
  intro sz
  refine body_of (y := yJ7_fill_53178) (cc := cJ7_fill_53178) (maxL := 4) (ret := none) (rm := ({ frames := 0, cells := 0, slots := 0, locals := 0 } : Room)) (wc := [(a, .inl (cI, N, .inl (f)))]) (tys := [(cI, .int), (cJ, .long), (cZ, .boolean), (cB, .byte), (cO, .object "LuckLinks$World")]) (D := D) (sz := sz) (own := RJ7) (av := [.ref a, .int x]) (Qc := fun A => va_Qv (fun (u : Unit) => (True)) (fun u t => Aft D A ((fun (_ : Unit) => [(a, .inl (cI, N, .inl (fun _ => x)))]) u) t) A) (by decide) rfl (Nat.le_of_ble_eq_true rfl) (fun p e s m below meth c A ls C hr hlk hin X hl => ?_)
  have hx := C.1
  have hb := C.2.1
  have hown := C.2.2.2.1
  have hts := C.2.2.2.2.1
  have hl : lv_has ls 4 [(0, .ref a), (1, .int x)] := hl
  show W p l e _ s m _ below meth c s.heap [] 0 0 (MQ below (va_Qv (fun (u : Unit) => (True)) (fun u t => Aft D A ((fun (_ : Unit) => [(a, .inl (cI, N, .inl (fun _ => x)))]) u) t) A) ([.ref a, .int x] : List Value).toArray s 0 0 A) (F0 m 0 ls [])
  have X : Wd D A s [(a, .inl (cI, N, .inl (f)))] s.heap [] := X
  obtain ⟨H, locs, eH, eL⟩ : ∃ H locs, H = s.heap ∧ locs = ([] : List Loc) := ⟨_, _, rfl, rfl⟩
  rw [← eH, ← eL] at X ⊢
  clear eH eL
  refine lv_iconst (v := (0 : Int32)) hx hb dJ7_fill_53178_0 (by decide) ?_
  refine lv_istore_n (lv' := [(2, .int (0 : Int32)), (0, .ref a), (1, .int x)]) hx hb dJ7_fill_53178_1 rfl hl (by decide) rfl (fun ls hl => ?_)
  refine lv_aload_n hx hb dJ7_fill_53178_2 rfl (lv_at hl 1 rfl) ?_
  refine x_alen C X 0 0 rfl rfl (v := (nI (N))) (rfl) dJ7_fill_53178_3 ?_
  refine lv_istore_n (lv' := [(3, .int (nI (N))), (2, .int (0 : Int32)), (0, .ref a), (1, .int x)]) hx hb dJ7_fill_53178_4 rfl hl (by decide) rfl (fun ls hl => ?_)
  have L5 : ∀ (n : Nat) (i : Nat) (g : Nat → Int32) (H : Heap) (locs : List Loc) (ls : Array Slot), (h1 : i ≤ N) → (h2 : ∀ j, j < i → g j = x) → N < i + n → Wd D A s [(a, .inl (cI, N, .inl (g)))] H locs → lv_has ls 4 [(3, .int (nI (N))), (2, .int (nI (i))), (0, .ref a), (1, .int x)] → W p l e ({ frames := 0, cells := 0, slots := 0, locals := 0 } : Room) s m ([.ref a, .int x] : List Value).toArray below meth c H locs 0 0 (MQ below (va_Qv (fun (u : Unit) => (True)) (fun u t => Aft D A ((fun (_ : Unit) => [(a, .inl (cI, N, .inl (fun _ => x)))]) u) t) A) ([.ref a, .int x] : List Value).toArray s 0 0 A) (F0 m 5 ls []) := by
    intro n
    induction n with
    | zero => intro i g H locs ls h1 h2 hn; exact absurd hn (by omega)
    | succ n ih =>
      intro i g H locs ls h1 h2 hn X hl
      have ih5 := ih
      refine lv_iload_n hx hb dJ7_fill_53178_5 rfl (lv_at hl 1 rfl) ?_
      refine lv_iload_n hx hb dJ7_fill_53178_6 rfl (lv_at hl 0 rfl) ?_
      refine lv_icmp_ge (tgt := 20) hx hb dJ7_fill_53178_7 (by decide) (fun c_1 => ?_) (fun c_1 => ?_)
      · have fc_1 : ((N : Nat) : Int) ≤ ((i : Nat) : Int) := (by have h9 := i_le c_1; simp only [nI_toInt (n := N) (by omega), nI_toInt (n := i) (by omega)] at h9; exact h9)
        have X := x_cng X 0 rfl (arr_eq _ _ (g := fun _ => x) (fun j h => h2 j (by omega)))
        have X : Wd D A s [(a, .inl (cI, N, .inl (fun _ => x)))] H locs := X
        exact x_vret C X hr hlk (()) [0] (by decide) rfl (trivial) (Nat.le_of_ble_eq_true rfl) (Nat.le_of_ble_eq_true rfl) dJ7_fill_53178_20
      · have fc_1 : ((i : Nat) : Int) < ((N : Nat) : Int) := (by have h9 := i_nle c_1; simp only [nI_toInt (n := N) (by omega), nI_toInt (n := i) (by omega)] at h9; exact h9)
        refine lv_aload_n hx hb dJ7_fill_53178_10 rfl (lv_at hl 2 rfl) ?_
        refine lv_iload_n hx hb dJ7_fill_53178_11 rfl (lv_at hl 1 rfl) ?_
        refine lv_iload_n hx hb dJ7_fill_53178_12 rfl (lv_at hl 3 rfl) ?_
        refine x_iast C X 0 0 rfl rfl (j := i) (nI_clamp (by omega)) (vp_in_nI (by omega) (by omega)) dJ7_fill_53178_13 (fun H locs X => ?_)
        have X : Wd D A s [(a, .inl (cI, N, .inl (upd (g) (i) (x))))] H locs := X
        refine lv_iinc (v := (nI (i + 1))) (lv' := [(2, .int (nI (i + 1))), (3, .int (nI (N))), (0, .ref a), (1, .int x)]) hx hb dJ7_fill_53178_14 hl (k := 1) rfl (nI_add _ 1) (by decide) rfl (fun ls hl => ?_)
        refine lv_goto (tgt := 5) hx hb dJ7_fill_53178_17 (by decide) ?_
        exact ih5  (i + 1) (upd (g) (i) (x)) H locs ls (by omega) (fun j h => by unfold upd; split; rfl; exact h2 j (by omega)) (by omega) (x_sub X [0] (by decide) rfl) (lv_sub hl [1, 0, 2, 3] rfl)
  exact L5 (N + 1) (0) (f) H locs ls (by omega) (fun j h => absurd h (by omega)) (by omega) (x_sub X [0] (by decide) rfl) (lv_sub hl [0, 1, 2, 3] rfl)
set_option maxHeartbeats 4000000 in
set_option maxRecDepth 100000 in
theorem c_fillJ (l : Launch) (D : va_G) (cI cJ cZ cB : ClassId) (cO : ClassId) (a N : Nat) (f : Nat → Int64) (x : Int64) (hN : N < 2 ^ 31) :
    CV l D [(cI, .int), (cJ, .long), (cZ, .boolean), (cB, .byte), (cO, .object "LuckLinks$World")] yJ7_fill_d0a16 cJ7_fill_d0a16 5 ({ frames := 0, cells := 0, slots := 0, locals := 0 } : Room) [.ref a, .long x] [(a, .inl (cJ, N, .inr (.inl (f))))] (fun (u : Unit) => (True)) (fun (_ : Unit) => [(a, .inl (cJ, N, .inr (.inl (fun _ => x))))]) := by
  intro sz
  refine body_of (y := yJ7_fill_d0a16) (cc := cJ7_fill_d0a16) (maxL := 5) (ret := none) (rm := ({ frames := 0, cells := 0, slots := 0, locals := 0 } : Room)) (wc := [(a, .inl (cJ, N, .inr (.inl (f))))]) (tys := [(cI, .int), (cJ, .long), (cZ, .boolean), (cB, .byte), (cO, .object "LuckLinks$World")]) (D := D) (sz := sz) (own := RJ7) (av := [.ref a, .long x]) (Qc := fun A => va_Qv (fun (u : Unit) => (True)) (fun u t => Aft D A ((fun (_ : Unit) => [(a, .inl (cJ, N, .inr (.inl (fun _ => x))))]) u) t) A) (by decide) rfl (Nat.le_of_ble_eq_true rfl) (fun p e s m below meth c A ls C hr hlk hin X hl => ?_)
  have hx := C.1
  have hb := C.2.1
  have hown := C.2.2.2.1
  have hts := C.2.2.2.2.1
  have hl : lv_has ls 5 [(0, .ref a), (1, .long x)] := hl
  show W p l e _ s m _ below meth c s.heap [] 0 0 (MQ below (va_Qv (fun (u : Unit) => (True)) (fun u t => Aft D A ((fun (_ : Unit) => [(a, .inl (cJ, N, .inr (.inl (fun _ => x))))]) u) t) A) ([.ref a, .long x] : List Value).toArray s 0 0 A) (F0 m 0 ls [])
  have X : Wd D A s [(a, .inl (cJ, N, .inr (.inl (f))))] s.heap [] := X
  obtain ⟨H, locs, eH, eL⟩ : ∃ H locs, H = s.heap ∧ locs = ([] : List Loc) := ⟨_, _, rfl, rfl⟩
  rw [← eH, ← eL] at X ⊢
  clear eH eL
  refine lv_iconst (v := (0 : Int32)) hx hb dJ7_fill_d0a16_0 (by decide) ?_
  refine lv_istore_n (lv' := [(3, .int (0 : Int32)), (0, .ref a), (1, .long x)]) hx hb dJ7_fill_d0a16_1 rfl hl (by decide) rfl (fun ls hl => ?_)
  refine lv_aload_n hx hb dJ7_fill_d0a16_2 rfl (lv_at hl 1 rfl) ?_
  refine x_alen C X 0 1 rfl rfl (v := (nI (N))) (rfl) dJ7_fill_d0a16_3 ?_
  refine lv_istore (lv' := [(4, .int (nI (N))), (3, .int (0 : Int32)), (0, .ref a), (1, .long x)]) hx hb dJ7_fill_d0a16_4 hl (by decide) rfl (fun ls hl => ?_)
  have L6 : ∀ (n : Nat) (i : Nat) (g : Nat → Int64) (H : Heap) (locs : List Loc) (ls : Array Slot), (h1 : i ≤ N) → (h2 : ∀ j, j < i → g j = x) → N < i + n → Wd D A s [(a, .inl (cJ, N, .inr (.inl (g))))] H locs → lv_has ls 5 [(4, .int (nI (N))), (3, .int (nI (i))), (0, .ref a), (1, .long x)] → W p l e ({ frames := 0, cells := 0, slots := 0, locals := 0 } : Room) s m ([.ref a, .long x] : List Value).toArray below meth c H locs 0 0 (MQ below (va_Qv (fun (u : Unit) => (True)) (fun u t => Aft D A ((fun (_ : Unit) => [(a, .inl (cJ, N, .inr (.inl (fun _ => x))))]) u) t) A) ([.ref a, .long x] : List Value).toArray s 0 0 A) (F0 m 6 ls []) := by
    intro n
    induction n with
    | zero => intro i g H locs ls h1 h2 hn; exact absurd hn (by omega)
    | succ n ih =>
      intro i g H locs ls h1 h2 hn X hl
      have ih6 := ih
      refine lv_iload_n hx hb dJ7_fill_d0a16_6 rfl (lv_at hl 1 rfl) ?_
      refine lv_iload hx hb dJ7_fill_d0a16_7 (lv_at hl 0 rfl) ?_
      refine lv_icmp_ge (tgt := 22) hx hb dJ7_fill_d0a16_9 (by decide) (fun c_1 => ?_) (fun c_1 => ?_)
      · have fc_1 : ((N : Nat) : Int) ≤ ((i : Nat) : Int) := (by have h9 := i_le c_1; simp only [nI_toInt (n := N) (by omega), nI_toInt (n := i) (by omega)] at h9; exact h9)
        have X := x_cng X 0 rfl (arr_eql _ _ (g := fun _ => x) (fun j h => h2 j (by omega)))
        have X : Wd D A s [(a, .inl (cJ, N, .inr (.inl (fun _ => x))))] H locs := X
        exact x_vret C X hr hlk (()) [0] (by decide) rfl (trivial) (Nat.le_of_ble_eq_true rfl) (Nat.le_of_ble_eq_true rfl) dJ7_fill_d0a16_22
      · have fc_1 : ((i : Nat) : Int) < ((N : Nat) : Int) := (by have h9 := i_nle c_1; simp only [nI_toInt (n := N) (by omega), nI_toInt (n := i) (by omega)] at h9; exact h9)
        refine lv_aload_n hx hb dJ7_fill_d0a16_12 rfl (lv_at hl 2 rfl) ?_
        refine lv_iload_n hx hb dJ7_fill_d0a16_13 rfl (lv_at hl 1 rfl) ?_
        refine lv_lload_n hx hb dJ7_fill_d0a16_14 rfl (lv_at hl 3 rfl) ?_
        refine x_last C X 0 1 rfl rfl (j := i) (nI_clamp (by omega)) (vp_in_nI (by omega) (by omega)) dJ7_fill_d0a16_15 (fun H locs X => ?_)
        have X : Wd D A s [(a, .inl (cJ, N, .inr (.inl (vp_updL (g) (i) (x)))))] H locs := X
        refine lv_iinc (v := (nI (i + 1))) (lv' := [(3, .int (nI (i + 1))), (4, .int (nI (N))), (0, .ref a), (1, .long x)]) hx hb dJ7_fill_d0a16_16 hl (k := 1) rfl (nI_add _ 1) (by decide) rfl (fun ls hl => ?_)
        refine lv_goto (tgt := 6) hx hb dJ7_fill_d0a16_19 (by decide) ?_
        exact ih6  (i + 1) (vp_updL (g) (i) (x)) H locs ls (by omega) (fun j h => by unfold vp_updL; split; rfl; exact h2 j (by omega)) (by omega) (x_sub X [0] (by decide) rfl) (lv_sub hl [1, 0, 2, 3] rfl)
  exact L6 (N + 1) (0) (f) H locs ls (by omega) (fun j h => absurd h (by omega)) (by omega) (x_sub X [0] (by decide) rfl) (lv_sub hl [0, 1, 2, 3] rfl)
