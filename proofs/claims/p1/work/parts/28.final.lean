theorem k_1_0 : Cond.classLink RL 7 RX11 ∈ wsL_law := mr_1 _ (List.mem_of_getElem? (i := 0) rfl)
theorem k_1_1 : Cond.instantiable RX11 17 ∈ wsL_law := mr_1 _ (List.mem_of_getElem? (i := 1) rfl)
theorem k_1_3 : Cond.classLink RL 10 RX12 ∈ wsL_law := mr_1 _ (List.mem_of_getElem? (i := 3) rfl)
theorem k_1_4 : Cond.instantiable RX12 75 ∈ wsL_law := mr_1 _ (List.mem_of_getElem? (i := 4) rfl)
theorem k_1_6 : Cond.methodLink RL 9 yX11_init ∈ wsL_law := mr_1 _ (List.mem_of_getElem? (i := 6) rfl)
theorem k_1_7 : Cond.instanceMethod yX11_init ∈ wsL_law := mr_1 _ (List.mem_of_getElem? (i := 7) rfl)
theorem k_1_8 : Cond.code yX11_init cX11_init 1 none ∈ wsL_law := mr_1 _ (List.mem_of_getElem? (i := 8) rfl)
theorem k_9_12 : Cond.methodLink RL 12 yX12_init ∈ wsL_law := mr_9 _ (List.mem_of_getElem? (i := 12) rfl)
theorem k_9_13 : Cond.instanceMethod yX12_init ∈ wsL_law := mr_9 _ (List.mem_of_getElem? (i := 13) rfl)
theorem k_9_14 : Cond.code yX12_init cX12_init 2 none ∈ wsL_law := mr_9 _ (List.mem_of_getElem? (i := 14) rfl)
theorem dL_law_0 : decode cL_law 0 = .ok (.new 7, 3) := by decide +kernel
theorem dL_law_3 : decode cL_law 3 = .ok (.dup, 1) := by decide +kernel
theorem dL_law_4 : decode cL_law 4 = .ok (.invokespecial 9, 3) := by decide +kernel
theorem dL_law_7 : decode cL_law 7 = .ok (.astore_n 1, 1) := by decide +kernel
theorem dL_law_8 : decode cL_law 8 = .ok (.new 10, 3) := by decide +kernel
theorem dL_law_11 : decode cL_law 11 = .ok (.dup, 1) := by decide +kernel
theorem dL_law_12 : decode cL_law 12 = .ok (.invokespecial 12, 3) := by decide +kernel
theorem dL_law_15 : decode cL_law 15 = .ok (.astore_n 2, 1) := by decide +kernel
theorem dL_law_16 : decode cL_law 16 = .ok (.iconst 0, 1) := by decide +kernel
theorem dL_law_17 : decode cL_law 17 = .ok (.istore_n 3, 1) := by decide +kernel
theorem dL_law_27 : decode cL_law 27 = .ok (.aload_n 0, 1) := by decide +kernel
theorem dL_law_28 : decode cL_law 28 = .ok (.iload_n 3, 1) := by decide +kernel
theorem dL_law_29 : decode cL_law 29 = .ok (.iaload, 1) := by decide +kernel
theorem dL_law_30 : decode cL_law 30 = .ok (.bipush 63, 2) := by decide +kernel
theorem dL_law_32 : decode cL_law 32 = .ok (.iand, 1) := by decide +kernel
theorem dL_law_33 : decode cL_law 33 = .ok (.tableswitch 1688 0 37 #[167, 220, 273, 306, 359, 402, 425, 488, 511, 524, 547, 580, 613, 666, 699, 752, 795, 849, 912, 966, 1019, 1042, 1065, 1108, 1141, 1204, 1247, 1291, 1334, 1387, 1420, 1474, 1538, 1572, 1595, 1629, 1642, 1665], 167) := by decide +kernel
theorem cls_inst : ∀ (ci : Nat) (q : vw_C), classes[ci]? = some q → Cond.instantiable q.1 q.2.2 ∈ wsL_law := by
  intro ci q h
  match ci, h with
  | 0, h => cases h; exact k_3_6
  | 1, h => cases h; exact k_2_22
  | 2, h => cases h; exact k_3_2
  | 3, h => cases h; exact k_2_2
  | 4, h => cases h; exact k_1_22
  | 5, h => cases h; exact k_6_15
  | 6, h => cases h; exact k_2_10
  | 7, h => cases h; exact k_2_18
  | 8, h => cases h; exact k_3_10
  | 9, h => cases h; exact k_2_14
  | 10, h => cases h; exact k_1_13
  | 11, h => cases h; exact k_1_1
  | 12, h => cases h; exact k_1_4
  | k + 13, h => exact absurd h (by simp [classes])
theorem cls_known {s : State} {args : Array Value} (hts : ∀ w ∈ wsL_law, w.before args s = true) : ∃ D : va_G, ∀ (k : Nat) (q : vw_C), classes[k]? = some q → u_Kn s q.1 q.2.1 q.2.2 (D.1 k) (D.2 k) := by
  have h : ∀ k : Nat, ∃ z : ClassId × (Nat → Nat), ∀ q : vw_C, classes[k]? = some q → u_Kn s q.1 q.2.1 q.2.2 z.1 z.2 := by
    intro k
    cases hk : classes[k]? with
    | none => exact ⟨(0, fun _ => 0), fun q h => by cases h⟩
    | some q =>
      obtain ⟨cC, iS, h1⟩ := u_known (C := q.1) (T := q.2.1) (N := q.2.2) (n := q.2.2) hts (cls_in k q hk) (hts _ (cls_inst k q hk))
      exact ⟨(cC, iS), fun q2 h2 => by cases h2; exact h1⟩
  exact ⟨(fun k => (Classical.choose (h k)).1, fun k => (Classical.choose (h k)).2), fun k q hq => Classical.choose_spec (h k) q hq⟩
theorem arr_known {s : State} {args : Array Value} {ty : FieldType} (h : (Cond.arrayClass ty).before args s = true) (hp : refKind ty = false) : ∃ cA : ClassId, ArrOfT s cA ty ∧ va_RA s cA ty := by
  obtain ⟨cA, kA, comp, h1, h2, h3⟩ := Cond.arrayClass_spec h
  refine ⟨cA, fun n z => ⟨fun k h => (by cases h), kA, h2, comp, h3⟩, ?_⟩
  cases ty <;> first | exact h1 | exact absurd hp (by simp [refKind])
theorem arr_known2 {s : State} {args : Array Value} {C : String} (h : (Cond.arrayOver (.object C)).before args s = true) : ∃ cA : ClassId, ArrOfT s cA (.object C) ∧ va_RA s cA (.object C) := by
  obtain ⟨comp, cA, kA, h1, h2, h3, h4, h5⟩ := Cond.arrayOver_spec h
  exact ⟨cA, fun n z => ⟨fun k h => (by cases h), kA, h3, comp, h4⟩, kA, comp, h3, h4, h1, h5⟩
set_option maxHeartbeats 8000000 in
set_option maxRecDepth 100000 in
theorem whole_start {p : Program} {e : Env} {s : State} {m : MethodId} {below : List Frame} {meth : Method} {c : Code} (l : Launch) (hflags : l.flags = flags0) {b L : Nat} {xs : Nat → Int32} (hL : L ≤ 6) (C0 : lw_At p s m meth c b L xs) : W p l e room_1 s m #[Value.ref b] below meth c s.heap [] 0 0 (lw_Z below #[Value.ref b] s) (entryFrame m ([Value.ref b] : List Value).toArray 4) := by
  obtain ⟨hx, hb, hr, hml, hown, htl, hX, hbl, hlk, hgv⟩ := id C0
  have hts : ∀ w ∈ wsL_law, w.before #[Value.ref b] s = true := fun w h => htl w (wsL_law_in w h)
  have hN : Nst s := ⟨va_Nw.of rfl (htl _ (mt_3 _ (List.mem_of_getElem? (i := 23) rfl))), va_AO.of (htl _ (mt_1 _ (List.mem_of_getElem? (i := 89) rfl)))⟩
  obtain ⟨D, hD0⟩ := cls_known hts
  obtain ⟨cI, h1cI⟩ := arr_known (hts _ k_2_7) (by decide)
  obtain ⟨cJ, h1cJ⟩ := arr_known (hts _ k_7_17) (by decide)
  obtain ⟨cZ, h1cZ⟩ := arr_known (hts _ k_6_0) (by decide)
  obtain ⟨cB, h1cB⟩ := arr_known (hts _ k_1_18) (by decide)
  obtain ⟨cO, h1cO⟩ := arr_known2 (C := "LuckLinks$World") (va_AO.use (A := #[Value.ref b]) hN.2)
  have hK : va_K D classes [(cI, .int), (cJ, .long), (cZ, .boolean), (cB, .byte), (cO, .object "LuckLinks$World")] s := ⟨hD0, fun k q h => by match k, h with | 0, h => cases h; exact h1cI | 1, h => cases h; exact h1cJ | 2, h => cases h; exact h1cZ | 3, h => cases h; exact h1cB | 4, h => cases h; exact h1cO | k + 5, h => exact absurd h (by simp)⟩
  have C : Cx p s m #[Value.ref b] c cL_law 4 RL D [(cI, .int), (cJ, .long), (cZ, .boolean), (cB, .byte), (cO, .object "LuckLinks$World")] := ⟨hx, hb, hml, hown, hts, hK, hN⟩
  have hbA : ¬ (fun q : Nat => s.heap.size ≤ q) b := Nat.not_le.mpr hbl
  have X : Wd D (fun q : Nat => s.heap.size ≤ q) s [] s.heap [] := ⟨fun k q h => by simp at h, ⟨fun i j p q h => by simp at h, fun k q h => by simp at h⟩, va_S.rf, fun _ h => h⟩
  have hl := lv_entry ([.ref b]) (n := 4) (Nat.le_of_ble_eq_true rfl)
  rw [lg_entry_eq]
  generalize (lg_sl ([.ref b]) ++ List.replicate (4 - (lg_sl ([.ref b])).length) Slot.unset).toArray = ls at hl ⊢
  have hl : lv_has ls 4 [(0, .ref b)] := hl
  refine x_new (own := RL) (ci := 11) (fs := [.null, .null, .int (0 : Int32), .null, .int (0 : Int32), .null, .null, .null, .int (0 : Int32), .null, .null, .null, .null, .null, .null, .null, .null]) C X rfl tyX11 tyX11_ok k_1_0 k_1_1 k_1_2 (fun j hj => by match j, hj with | 0, _ => rfl | 1, _ => rfl | 2, _ => rfl | 3, _ => rfl | 4, _ => rfl | 5, _ => rfl | 6, _ => rfl | 7, _ => rfl | 8, _ => rfl | 9, _ => rfl | 10, _ => rfl | 11, _ => rfl | 12, _ => rfl | 13, _ => rfl | 14, _ => rfl | 15, _ => rfl | 16, _ => rfl | j + 17, h => exact absurd h (by omega)) (Nat.le_of_ble_eq_true rfl) (Nat.le_of_ble_eq_true rfl) dL_law_0 (fun q11 H X => ?_)
  have X : Wd D (fun q : Nat => s.heap.size ≤ q) s [(q11, .inr (11, [.null, .null, .int (0 : Int32), .null, .int (0 : Int32), .null, .null, .null, .int (0 : Int32), .null, .null, .null, .null, .null, .null, .null, .null]))] H [] := X
  refine W.widen (k := 1) (n := 17) (Nat.le_of_ble_eq_true rfl) (Nat.le_of_ble_eq_true rfl) ?_
  refine lv_dup hx hb dL_law_3 rfl ?_
  refine x_cI (own := RL) (wr := []) (As := []) C X hl.1 (c_X_init l D cI cJ cZ cB cO q11) [0] [] ⟨rfl, rfl, by decide, by decide, by decide⟩ k_1_6 k_1_7 k_1_2 k_1_8 rfl (n := 0) (by decide +kernel) ⟨Nat.le_of_ble_eq_true rfl, Nat.le_of_ble_eq_true rfl⟩ rfl rfl (Nat.le_of_ble_eq_true rfl) dL_law_4 ⟨Nat.le_of_ble_eq_true rfl, Nat.le_of_ble_eq_true rfl⟩ (fun u H locs _ X => ?_)
  obtain ⟨u2, eu2, X2⟩ : ∃ u2 : Nat → Nat, u2 0 = q11 ∧ Wd D (fun q : Nat => s.heap.size ≤ q) s (xW cI cJ cZ cB cO u2) H locs := ⟨fun k => match k with | 0 => q11 | k + 1 => u (k + 1), rfl, X⟩
  clear X
  subst eu2
  have X := X2
  clear X2
  refine W.widen (k := 98) (n := 38390) (Nat.le_of_ble_eq_true rfl) (Nat.le_of_ble_eq_true rfl) ?_
  refine lv_astore_n (lv' := [(1, .ref (u2 0)), (0, .ref b)]) hx hb dL_law_7 rfl hl (by decide) rfl (fun ls hl => ?_)
  refine x_new (own := RL) (ci := 12) (fs := [.null, .null, .null, .null, .null, .null, .null, .null, .null, .null, .null, .null, .int (0 : Int32), .null, .null, .null, .null, .null, .null, .null, .null, .null, .null, .null, .null, .null, .null, .null, .null, .null, .null, .int (0 : Int32), .null, .null, .null, .null, .null, .int (0 : Int32), .int (0 : Int32), .int (0 : Int32), .int (0 : Int32), .int (0 : Int32), .int (0 : Int32), .int (0 : Int32), .long (0 : Int64), .int (0 : Int32), .null, .null, .int (0 : Int32), .null, .null, .null, .null, .int (0 : Int32), .int (0 : Int32), .int (0 : Int32), .int (0 : Int32), .int (0 : Int32), .int (0 : Int32), .long (0 : Int64), .long (0 : Int64), .null, .null, .null, .null, .null, .null, .null, .null, .null, .null, .long (0 : Int64), .long (0 : Int64), .int (0 : Int32), .int (0 : Int32)]) C X rfl tyX12 tyX12_ok k_1_3 k_1_4 k_1_5 (fun j hj => by match j, hj with | 0, _ => rfl | 1, _ => rfl | 2, _ => rfl | 3, _ => rfl | 4, _ => rfl | 5, _ => rfl | 6, _ => rfl | 7, _ => rfl | 8, _ => rfl | 9, _ => rfl | 10, _ => rfl | 11, _ => rfl | 12, _ => rfl | 13, _ => rfl | 14, _ => rfl | 15, _ => rfl | 16, _ => rfl | 17, _ => rfl | 18, _ => rfl | 19, _ => rfl | 20, _ => rfl | 21, _ => rfl | 22, _ => rfl | 23, _ => rfl | 24, _ => rfl | 25, _ => rfl | 26, _ => rfl | 27, _ => rfl | 28, _ => rfl | 29, _ => rfl | 30, _ => rfl | 31, _ => rfl | 32, _ => rfl | 33, _ => rfl | 34, _ => rfl | 35, _ => rfl | 36, _ => rfl | 37, _ => rfl | 38, _ => rfl | 39, _ => rfl | 40, _ => rfl | 41, _ => rfl | 42, _ => rfl | 43, _ => rfl | 44, _ => rfl | 45, _ => rfl | 46, _ => rfl | 47, _ => rfl | 48, _ => rfl | 49, _ => rfl | 50, _ => rfl | 51, _ => rfl | 52, _ => rfl | 53, _ => rfl | 54, _ => rfl | 55, _ => rfl | 56, _ => rfl | 57, _ => rfl | 58, _ => rfl | 59, _ => rfl | 60, _ => rfl | 61, _ => rfl | 62, _ => rfl | 63, _ => rfl | 64, _ => rfl | 65, _ => rfl | 66, _ => rfl | 67, _ => rfl | 68, _ => rfl | 69, _ => rfl | 70, _ => rfl | 71, _ => rfl | 72, _ => rfl | 73, _ => rfl | 74, _ => rfl | j + 75, h => exact absurd h (by omega)) (Nat.le_of_ble_eq_true rfl) (Nat.le_of_ble_eq_true rfl) dL_law_8 (fun q12 H X => ?_)
  have X : Wd D (fun q : Nat => s.heap.size ≤ q) s (xW cI cJ cZ cB cO u2 ++ [(q12, .inr (12, [.null, .null, .null, .null, .null, .null, .null, .null, .null, .null, .null, .null, .int (0 : Int32), .null, .null, .null, .null, .null, .null, .null, .null, .null, .null, .null, .null, .null, .null, .null, .null, .null, .null, .int (0 : Int32), .null, .null, .null, .null, .null, .int (0 : Int32), .int (0 : Int32), .int (0 : Int32), .int (0 : Int32), .int (0 : Int32), .int (0 : Int32), .int (0 : Int32), .long (0 : Int64), .int (0 : Int32), .null, .null, .int (0 : Int32), .null, .null, .null, .null, .int (0 : Int32), .int (0 : Int32), .int (0 : Int32), .int (0 : Int32), .int (0 : Int32), .int (0 : Int32), .long (0 : Int64), .long (0 : Int64), .null, .null, .null, .null, .null, .null, .null, .null, .null, .null, .long (0 : Int64), .long (0 : Int64), .int (0 : Int32), .int (0 : Int32)]))]) H locs := X
  refine W.widen (k := 99) (n := 38465) (Nat.le_of_ble_eq_true rfl) (Nat.le_of_ble_eq_true rfl) ?_
  refine lv_dup hx hb dL_law_11 rfl ?_
  refine x_cI (own := RL) (wr := xW cI cJ cZ cB cO u2) (As := []) C X hl.1 (c_M_init l D cI cJ cZ cB cO q12) [98] [0, 1, 2, 3, 4, 5, 6, 7, 8, 9, 10, 11, 12, 13, 14, 15, 16, 17, 18, 19, 20, 21, 22, 23, 24, 25, 26, 27, 28, 29, 30, 31, 32, 33, 34, 35, 36, 37, 38, 39, 40, 41, 42, 43, 44, 45, 46, 47, 48, 49, 50, 51, 52, 53, 54, 55, 56, 57, 58, 59, 60, 61, 62, 63, 64, 65, 66, 67, 68, 69, 70, 71, 72, 73, 74, 75, 76, 77, 78, 79, 80, 81, 82, 83, 84, 85, 86, 87, 88, 89, 90, 91, 92, 93, 94, 95, 96, 97] ⟨rfl, rfl, by decide, by decide, by decide⟩ k_9_12 k_9_13 k_1_5 k_9_14 rfl (n := 0) (by decide +kernel) ⟨Nat.le_of_ble_eq_true rfl, Nat.le_of_ble_eq_true rfl⟩ rfl rfl (Nat.le_of_ble_eq_true rfl) dL_law_12 ⟨Nat.le_of_ble_eq_true rfl, Nat.le_of_ble_eq_true rfl⟩ (fun v H locs _ X => ?_)
  obtain ⟨v2, ev2, X2⟩ : ∃ v2 : Nat → Nat, v2 0 = q12 ∧ Wd D (fun q : Nat => s.heap.size ≤ q) s (xW cI cJ cZ cB cO u2 ++ mW cI cJ cZ cB cO v2) H locs := ⟨fun k => match k with | 0 => q12 | k + 1 => v (k + 1), rfl, X⟩
  clear X
  subst ev2
  have X := X2
  clear X2
  refine W.widen (k := 150) (n := 141288) (Nat.le_of_ble_eq_true rfl) (Nat.le_of_ble_eq_true rfl) ?_
  refine lv_astore_n (lv' := [(2, .ref (v2 0)), (1, .ref (u2 0)), (0, .ref b)]) hx hb dL_law_15 rfl hl (by decide) rfl (fun ls hl => ?_)
  refine lv_iconst (v := (0 : Int32)) hx hb dL_law_16 (by decide) ?_
  refine lv_istore_n (lv' := [(3, .int (0 : Int32)), (2, .ref (v2 0)), (1, .ref (u2 0)), (0, .ref b)]) hx hb dL_law_17 rfl hl (by decide) rfl (fun ls hl => ?_)
  refine lv_iload_n hx hb dL_law_18 rfl (lv_at hl 0 rfl) ?_
  refine lv_aload_n hx hb dL_law_19 rfl (lv_at hl 3 rfl) ?_
  refine va_slen hx hb hX hbl hbA X.2.2.1 dL_law_20 ?_
  refine lv_bipush (v := (6 : Int32)) hx hb dL_law_21 (by decide) ?_
  refine lv_isub hx hb dL_law_23 ?_
  by_cases hL6 : L = 6
  · subst hL6
    refine x_eqi (show Int32.ofNat 6 - (6 : Int32) = (0 : Int32) from by decide) ?_
    refine lv_icmp_gt (tgt := 1727) hx hb dL_law_24 (by decide) (fun c0 => absurd c0 (by decide)) (fun _ => ?_)
    have K0 : LwC p s m meth c b xs D [(cI, .int), (cJ, .long), (cZ, .boolean), (cB, .byte), (cO, .object "LuckLinks$World")] := ⟨C, hr, hlk, hX, hbl⟩
    refine lv_aload_n hx hb dL_law_27 rfl (lv_at hl 3 rfl) ?_
    refine lv_iload_n hx hb dL_law_28 rfl (lv_at hl 0 rfl) ?_
    refine va_sld hx hb hX hbl hbA X.2.2.1 (i := (0 : Int32)) (vp_in_nI (n := 0) (by omega) (by omega)) dL_law_29 ?_
    refine lv_bipush (v := (63 : Int32)) hx hb dL_law_30 (by decide) ?_
    refine lv_iand hx hb dL_law_32 ?_
    obtain ⟨k, hk, ek⟩ := pk_andE (xs ((0 : Int32).toNatClampNeg)) (m := 63) 6 (by decide)
    refine x_eqi ek ?_
    rcases Nat.lt_or_ge k 38 with h | h
    · match k, h with
      | 0, _ => exact lv_tableIn (off := 167) (tgt := 200) hx hb dL_law_33 (by decide) (by decide) rfl (by decide) (law_c0 K0 X hl)
      | 1, _ => exact lv_tableIn (off := 220) (tgt := 253) hx hb dL_law_33 (by decide) (by decide) rfl (by decide) (law_c1 K0 X hl)
      | 2, _ => exact lv_tableIn (off := 273) (tgt := 306) hx hb dL_law_33 (by decide) (by decide) rfl (by decide) (law_c2 K0 X hl)
      | 3, _ => exact lv_tableIn (off := 306) (tgt := 339) hx hb dL_law_33 (by decide) (by decide) rfl (by decide) (law_c3 K0 X hl)
      | 4, _ => exact lv_tableIn (off := 359) (tgt := 392) hx hb dL_law_33 (by decide) (by decide) rfl (by decide) (law_c4 K0 X hl)
      | 5, _ => exact lv_tableIn (off := 402) (tgt := 435) hx hb dL_law_33 (by decide) (by decide) rfl (by decide) (law_c5 K0 X hl)
      | 6, _ => exact lv_tableIn (off := 425) (tgt := 458) hx hb dL_law_33 (by decide) (by decide) rfl (by decide) (law_c6 K0 X hl)
      | 7, _ => exact lv_tableIn (off := 488) (tgt := 521) hx hb dL_law_33 (by decide) (by decide) rfl (by decide) (law_c7 K0 X hl)
      | 8, _ => exact lv_tableIn (off := 511) (tgt := 544) hx hb dL_law_33 (by decide) (by decide) rfl (by decide) (law_c8 K0 X hl)
      | 9, _ => exact lv_tableIn (off := 524) (tgt := 557) hx hb dL_law_33 (by decide) (by decide) rfl (by decide) (law_c9 K0 X hl)
      | 10, _ => exact lv_tableIn (off := 547) (tgt := 580) hx hb dL_law_33 (by decide) (by decide) rfl (by decide) (law_c10 K0 X hl)
      | 11, _ => exact lv_tableIn (off := 580) (tgt := 613) hx hb dL_law_33 (by decide) (by decide) rfl (by decide) (law_c11 K0 X hl)
      | 12, _ => exact lv_tableIn (off := 613) (tgt := 646) hx hb dL_law_33 (by decide) (by decide) rfl (by decide) (law_c12 K0 X hl)
      | 13, _ => exact lv_tableIn (off := 666) (tgt := 699) hx hb dL_law_33 (by decide) (by decide) rfl (by decide) (law_c13 K0 X hl)
      | 14, _ => exact lv_tableIn (off := 699) (tgt := 732) hx hb dL_law_33 (by decide) (by decide) rfl (by decide) (law_c14 K0 X hl)
      | 15, _ => exact lv_tableIn (off := 752) (tgt := 785) hx hb dL_law_33 (by decide) (by decide) rfl (by decide) (law_c15 K0 X hl)
      | 16, _ => exact lv_tableIn (off := 795) (tgt := 828) hx hb dL_law_33 (by decide) (by decide) rfl (by decide) (law_c16 K0 X hl)
      | 17, _ => exact lv_tableIn (off := 849) (tgt := 882) hx hb dL_law_33 (by decide) (by decide) rfl (by decide) (law_c17 K0 X hl)
      | 18, _ => exact lv_tableIn (off := 912) (tgt := 945) hx hb dL_law_33 (by decide) (by decide) rfl (by decide) (law_c18 K0 X hl)
      | 19, _ => exact lv_tableIn (off := 966) (tgt := 999) hx hb dL_law_33 (by decide) (by decide) rfl (by decide) (law_c19 K0 X hl)
      | 20, _ => exact lv_tableIn (off := 1019) (tgt := 1052) hx hb dL_law_33 (by decide) (by decide) rfl (by decide) (law_c20 K0 X hl)
      | 21, _ => exact lv_tableIn (off := 1042) (tgt := 1075) hx hb dL_law_33 (by decide) (by decide) rfl (by decide) (law_c21 K0 X hl)
      | 22, _ => exact lv_tableIn (off := 1065) (tgt := 1098) hx hb dL_law_33 (by decide) (by decide) rfl (by decide) (law_c22 K0 X hl)
      | 23, _ => exact lv_tableIn (off := 1108) (tgt := 1141) hx hb dL_law_33 (by decide) (by decide) rfl (by decide) (law_c23 K0 X hl)
      | 24, _ => exact lv_tableIn (off := 1141) (tgt := 1174) hx hb dL_law_33 (by decide) (by decide) rfl (by decide) (law_c24 K0 X hl)
      | 25, _ => exact lv_tableIn (off := 1204) (tgt := 1237) hx hb dL_law_33 (by decide) (by decide) rfl (by decide) (law_c25 K0 X hl)
      | 26, _ => exact lv_tableIn (off := 1247) (tgt := 1280) hx hb dL_law_33 (by decide) (by decide) rfl (by decide) (law_c26 K0 X hl)
      | 27, _ => exact lv_tableIn (off := 1291) (tgt := 1324) hx hb dL_law_33 (by decide) (by decide) rfl (by decide) (law_c27 K0 X hl)
      | 28, _ => exact lv_tableIn (off := 1334) (tgt := 1367) hx hb dL_law_33 (by decide) (by decide) rfl (by decide) (law_c28 K0 X hl)
      | 29, _ => exact lv_tableIn (off := 1387) (tgt := 1420) hx hb dL_law_33 (by decide) (by decide) rfl (by decide) (law_c29 K0 X hl)
      | 30, _ => exact lv_tableIn (off := 1420) (tgt := 1453) hx hb dL_law_33 (by decide) (by decide) rfl (by decide) (law_c30 K0 X hl)
      | 31, _ => exact lv_tableIn (off := 1474) (tgt := 1507) hx hb dL_law_33 (by decide) (by decide) rfl (by decide) (law_c31 K0 X hl)
      | 32, _ => exact lv_tableIn (off := 1538) (tgt := 1571) hx hb dL_law_33 (by decide) (by decide) rfl (by decide) (law_c32 K0 X hl)
      | 33, _ => exact lv_tableIn (off := 1572) (tgt := 1605) hx hb dL_law_33 (by decide) (by decide) rfl (by decide) (law_c33 K0 X hl)
      | 34, _ => exact lv_tableIn (off := 1595) (tgt := 1628) hx hb dL_law_33 (by decide) (by decide) rfl (by decide) (law_c34 K0 X hl)
      | 35, _ => exact lv_tableIn (off := 1629) (tgt := 1662) hx hb dL_law_33 (by decide) (by decide) rfl (by decide) (law_c35 K0 X hl)
      | 36, _ => exact lv_tableIn (off := 1642) (tgt := 1675) hx hb dL_law_33 (by decide) (by decide) rfl (by decide) (law_c36 K0 X hl)
      | 37, _ => exact lv_tableIn (off := 1665) (tgt := 1698) hx hb dL_law_33 (by decide) (by decide) rfl (by decide) (law_c37 K0 X hl)
      | k + 38, h => exact absurd h (by omega)
    · refine lv_tableOut (tgt := 1721) hx hb dL_law_33 (Or.inr (by rw [nI_toInt (by omega)]; omega)) (by decide) ?_
      exact law_tail K0 X hl (Nat.le_of_ble_eq_true rfl) (Nat.le_of_ble_eq_true rfl)
  · have hs6 : ∀ k, k < 6 → Int32.ofNat k - (6 : Int32) < (0 : Int32) := by decide
    refine lv_icmp_gt (tgt := 1727) hx hb dL_law_24 (by decide) (fun _ => ?_) (fun c0 => absurd (hs6 L (by omega)) c0)
    refine lv_iconst (v := 1) hx hb dL_law_1727 (by decide) ?_
    refine va_forget (fun q hq => X.2.2.1.2.2 q hq) ?_
    refine W.widen (k := 600000) (n := 7302250) (Nat.le_of_ble_eq_true rfl) (Nat.le_of_ble_eq_true rfl) ?_
    exact lw_ret hx hb hr hlk dL_law_1728
-- ===== YOUR PART ENDS =====
set_option maxHeartbeats 4000000 in
theorem lw_walk (l : Launch) (hflags : l.flags = flags0) (b : Addr) (xs : List Int32) : MetFree l x (headSpec (Jvm.Cond.code x code maxLocals ret :: tables_1) room_1) (lw_P b xs) (fun _ _ _ _ _ => True) lw_Q := by
  refine MetFree.of_bodyS (code := code) (maxLocals := maxLocals) (ret := ret) (by decide) ?_ ?_
  · intro args s m h hn
    obtain ⟨meth, c, h1, h2, h3, h4, h5, h6, -, -⟩ := Cond.code_spec hn (atoms_spec (ws := Jvm.Cond.code x code maxLocals ret :: tables_1) h _ List.mem_cons_self)
    exact ⟨meth, c, h1, h2, h3, h4, h5, h6⟩
  · intro p e s m args below meth c s₁ B hml0 hP _
    obtain ⟨rfl, hx, hbd, hgv⟩ := hP
    obtain ⟨scr, harrAt, hlist, hof, hsmall⟩ := hx
    obtain ⟨hcb, hkn, -, -⟩ := State.arrayAt?_spec harrAt
    have hown : s.vm.findClass R_law = some m.cls := findClass_of_methodNamed B.named
    have hts0 : ∀ c ∈ (Jvm.Cond.code x code maxLocals ret :: tables_1), c.before #[Value.ref b] s = true := atoms_spec (ws := Jvm.Cond.code x code maxLocals ret :: tables_1) B.pre
    have hts : ∀ w ∈ lw_tbl, w.before #[Value.ref b] s = true := k2_hts_sels lw_privs (fun w hw => hts0 w (List.mem_cons_of_mem _ hw)) lw_privs_ok
    have hml : c.maxLocals = 4 := B.maxLocals_eq (hts0 _ List.mem_cons_self)
    have X₀ : Stand p l e room_1 s m #[Value.ref b] below meth c s₁ [] 0 0 := Stand.of_body B
    have hh0 : s₁.heap = s.heap := by rw [B.state]; rfl
    have hsz : scr.slots.size = xs.length := by rw [← Array.length_toList, hlist, List.length_map]
    have hval : ∀ j : Nat, j < xs.length → scr.slots[j]? = some (.int (xs.getD j 0)) := fun j hj => by
      rw [← Array.getElem?_toList, hlist]
      simp [hj]
    have hbl : b < s.heap.size := (Array.getElem?_eq_some_iff.mp hcb).1
    have hX : va_X b xs.length (fun j => xs.getD j 0) s s.heap := ⟨scr, hcb, hof, hkn, hsz, hval⟩
    have K : W p l e room_1 s m #[Value.ref b] below meth c s₁.heap [] 0 0 (lw_Z below #[Value.ref b] s) (entryFrame m ([Value.ref b] : List Value).toArray 4) := by
      rw [hh0]
      exact whole_start l hflags hbd ⟨B.exec, B.bytes, B.returns, hml, hown, hts, hX, hbl, B.notSynchronized, hgv⟩
    obtain ⟨t, a1, o, b1, b2, b3⟩ := K s₁ rfl X₀
    exact ⟨t, o, a1, b1, b2, b3⟩
theorem lw_pre_spec {args : Array Value} {s : State} (h : (Jvm.Cond.and given_1 narrow_1).before args s = true) (hr : rest_1_c.before args s = true) : ∃ (b : Addr) (xs : List Int32), lw_P b xs args s := by
  have hs := flat_of_before _ h
  have hq := flat_of_before _ hr
  have hc : (Cond.count 1).before args s = true := hs _ (by decide +kernel)
  have harr : (Cond.arrayOf (.arg 0) .int).before args s = true := hs _ (by decide +kernel)
  have hle : (Cond.le (.length (.arg 0)) (.int 6)).before args s = true := hs _ (by decide +kernel)
  have hlen : (Cond.isInt (.length (.arg 0))).before args s = true := hq _ (by decide +kernel)
  have hall : (Cond.all (.arg 0) (.isInt (.elem (.arg 0) (.index 0)))).before args s = true := hq _ (by decide +kernel)
  obtain ⟨b, xs, hb, hx⟩ := State.ints_of_pre rfl harr hlen hall
  have hsm : xs.length < 2 ^ 31 := hx.choose_spec.2.2.2
  have hev : (Term.length (.arg 0)).eval args s none [] s = some (.int xs.length.toInt32) := hx.length_eval hb
  have hv := Cond.le_ints hev (show (Term.int 6).eval args s none [] s = some (.int 6) from rfl)
  have hd : xs.length.toInt32 ≤ 6 := by
    simpa [Cond.before, Cond.holds, hv] using hle
  have hN : xs.length ≤ 6 := (Int32.ofNat_le_ofNat hsm (by decide)).mp (show Int32.ofNat xs.length ≤ Int32.ofNat 6 from hd)
  exact ⟨b, xs, Cond.one_arg hc (show args[0]? = some (.ref b) from hb), hx, hN, h⟩
theorem lw_comes (l : Launch) (hflags : l.flags = flags0) : Comes l x (Jvm.Cond.code x code maxLocals ret :: tables_1) room_1 (fun tb e args s => Calls_1 tb e args s ∧ rest_1 tb e args s ∧ Pre_1 tb e args s)
    (fun _ _ args s o t => lw_Q args s o t) := by
  intro p e ha hc hk s m args below hf hfit hheap happ hpre
  obtain ⟨b, xs, hP⟩ := lw_pre_spec hpre.2.2 hpre.2.1
  obtain ⟨k, o, h1, h2, h3, hQ⟩ := lw_walk l hflags b xs p e ha hc hk s m args below hf ((Spec.applies_iff_loose hf).mp happ).1 hP trivial
  exact ⟨k, o, h1, h2, h3, hQ⟩
theorem lw_frame {s t : State} {o : Outcome} {args : Array Value} (h : Framed s o t [] 600000 7302250) :
    Framed s o t (fieldLocs frame_1_writes args s ++ arrayLocs frame_1_arrays args s ++ staticLocs frame_1_statics s) 600000 7302250 := h
theorem lw_limb (L : Cond) (hL : ∀ (args : Array Value) (s t : State), L.after args s (.returned (some (.int 1))) t = true) :
    ArmFor flags0 classFile x code maxLocals ret World_1 tables_1 room_1 Calls_1 rest_1 Pre_1
      (fun tb e a s o t => postC L tb e a s o t ∧ Framed s o t (fieldLocs frame_1_writes a s ++ arrayLocs frame_1_arrays a s ++ staticLocs frame_1_statics s) 600000 7302250) := by
  intro l hflags _ _ p e ha hc hk s m args below hf hfit hheap happ hpre
  obtain ⟨k, o, h1, h2, h3, rfl, hF⟩ := lw_comes l hflags p e ha hc hk s m args below hf hfit hheap happ hpre
  exact ⟨k, _, h1, h2, h3, hL args s _, lw_frame hF⟩
theorem i_vc : Claimed_1_1 ∧ Claimed_1_2 := ⟨lw_limb limb_1_1 (fun args s t => by simp [limb_1_1, Cond.after, Cond.holds, Cond.value]), lw_limb limb_1_2 (fun args s t => Cond.after_iff.mpr (by
  first | (rw [show limb_1_2 = Cond.eq .result (.int 1) from rfl, Cond.eq_ints (x := 1) (y := 1) rfl rfl]; simp; done) | (simp [limb_1_2, Cond.value, Term.eval]; done)))⟩

