theorem d_law_32 : decode code 32 = .ok (.aload_n 0, 1) := by decide +kernel
theorem d_law_33 : decode code 33 = .ok (.iload 4, 2) := by decide +kernel
theorem d_law_35 : decode code 35 = .ok (.iaload, 1) := by decide +kernel
theorem d_law_36 : decode code 36 = .ok (.bipush 31, 2) := by decide +kernel
theorem d_law_38 : decode code 38 = .ok (.iand, 1) := by decide +kernel
theorem d_law_39 : decode code 39 = .ok (.tableswitch 1056 0 27 #[125, 150, 175, 188, 213, 238, 263, 276, 356, 393, 430, 455, 496, 521, 546, 571, 596, 645, 682, 743, 792, 829, 854, 919, 956, 981, 1006, 1031], 125) := by decide +kernel
theorem li_11 : (11 : Int32).toInt = 11 := by decide +kernel
theorem li_12 : (12 : Int32).toInt = 12 := by decide +kernel
theorem li_13 : (13 : Int32).toInt = 13 := by decide +kernel
theorem li_14 : (14 : Int32).toInt = 14 := by decide +kernel
theorem li_15 : (15 : Int32).toInt = 15 := by decide +kernel
theorem li_16 : (16 : Int32).toInt = 16 := by decide +kernel
theorem li_17 : (17 : Int32).toInt = 17 := by decide +kernel
theorem li_18 : (18 : Int32).toInt = 18 := by decide +kernel
theorem li_19 : (19 : Int32).toInt = 19 := by decide +kernel
theorem li_21 : (21 : Int32).toInt = 21 := by decide +kernel
theorem li_22 : (22 : Int32).toInt = 22 := by decide +kernel
theorem li_23 : (23 : Int32).toInt = 23 := by decide +kernel
theorem li_24 : (24 : Int32).toInt = 24 := by decide +kernel
theorem li_25 : (25 : Int32).toInt = 25 := by decide +kernel
theorem li_26 : (26 : Int32).toInt = 26 := by decide +kernel
theorem li_27 : (27 : Int32).toInt = 27 := by decide +kernel
set_option maxRecDepth 100000 in
set_option maxHeartbeats 4000000 in
theorem law_head {p : Program} {e : Env} {s : State} {m : MethodId} {below : List Frame} {meth : Method} {c : Code} (l : Launch) {b L : Nat} {xs : Nat → Int32} {G : zG} (hL : L ≤ 5) (Z : zC p s m #[Value.ref b] meth c code 7 "TraceMachinesLaw" G) (hr : meth.sig.returnType = ret) (hX : va_X b L xs s s.heap) (hbl : b < s.heap.size) (hfl : l.stackTraces = false) (hT : zTh s) (hU : zU (fun q : Nat => s.heap.size ≤ q) s s.heap) (q : Nat → Nat) {H : Heap} {locs : List Loc} {ls : Array Slot} (hP : va_P G.1 classes (lawW G q) H) (hD : va_D (fun q : Nat => s.heap.size ≤ q) (lawW G q)) (hS : va_S (fun q : Nat => s.heap.size ≤ q) s.heap H locs) (hl : lv_has ls 7 [(4, .int 0), (3, .ref (q 210)), (2, .ref (q 170)), (1, .ref (q 0)), (0, .ref b)]) : W p l e room_1 s m #[Value.ref b] below meth c H locs 211 90368 (lw_Z below #[Value.ref b] s) (F0 m 23 ls []) := by
  obtain ⟨hx, hb, hml, hown, hts, hK, hN, hlocks⟩ := id Z
  have hbA : ¬ (fun q : Nat => s.heap.size ≤ q) b := Nat.not_le.mpr hbl
  refine lv_iload hx hb d_law_23 (lv_at hl 0 rfl) ?_
  refine lv_aload_n hx hb d_law_25 rfl (lv_at hl 4 rfl) ?_
  refine va_slen hx hb hX hbl hbA hS d_law_26 ?_
  refine lv_iconst (v := 5) hx hb d_law_27 (by decide) ?_
  refine lv_isub hx hb d_law_28 ?_
  rcases (show L = 5 ∨ L = 0 ∨ L = 1 ∨ L = 2 ∨ L = 3 ∨ L = 4 by omega) with rfl | rfl | rfl | rfl | rfl | rfl
  · refine z_topi (y := 0) (by decide +kernel) ?_
    refine lv_icmp_gt (tgt := 1101) hx hb d_law_29 (by decide) (fun hc => absurd hc (by decide +kernel)) (fun _ => ?_)
    refine lv_aload_n hx hb d_law_32 rfl (lv_at hl 4 rfl) ?_
    refine lv_iload hx hb d_law_33 (lv_at hl 0 rfl) ?_
    refine va_sld hx hb hX hbl hbA hS (i := 0) (z_in rfl) d_law_35 ?_
    refine lv_bipush (v := 31) hx hb d_law_36 (by decide) ?_
    refine lv_iand hx hb d_law_38 ?_
    refine lv_topi (fun v ev => ?_)
    by_cases hk0 : v = 0
    · subst hk0
      refine lv_tableIn (off := 125) (tgt := 164) hx hb d_law_39 (by decide +kernel) (by decide +kernel) rfl (by decide) ?_
      exact law_0 l Z hr hX hbl q hP hD hS hl
    simp only [fa_eq, li_0] at hk0
    by_cases hk1 : v = 1
    · subst hk1
      refine lv_tableIn (off := 150) (tgt := 189) hx hb d_law_39 (by decide +kernel) (by decide +kernel) rfl (by decide) ?_
      exact law_1 l Z hr hX hbl q hP hD hS hl
    simp only [fa_eq, li_1] at hk1
    by_cases hk2 : v = 2
    · subst hk2
      refine lv_tableIn (off := 175) (tgt := 214) hx hb d_law_39 (by decide +kernel) (by decide +kernel) rfl (by decide) ?_
      exact law_2 l Z hr hX hbl q hP hD hS hl
    simp only [fa_eq, li_2] at hk2
    by_cases hk3 : v = 3
    · subst hk3
      refine lv_tableIn (off := 188) (tgt := 227) hx hb d_law_39 (by decide +kernel) (by decide +kernel) rfl (by decide) ?_
      exact law_3 l Z hr hX hbl q hP hD hS hl
    simp only [fa_eq, li_3] at hk3
    by_cases hk4 : v = 4
    · subst hk4
      refine lv_tableIn (off := 213) (tgt := 252) hx hb d_law_39 (by decide +kernel) (by decide +kernel) rfl (by decide) ?_
      exact law_4 l Z hr hX hbl q hP hD hS hl
    simp only [fa_eq, li_4] at hk4
    by_cases hk5 : v = 5
    · subst hk5
      refine lv_tableIn (off := 238) (tgt := 277) hx hb d_law_39 (by decide +kernel) (by decide +kernel) rfl (by decide) ?_
      exact law_5 l Z hr hX hbl q hP hD hS hl
    simp only [fa_eq, li_5] at hk5
    by_cases hk6 : v = 6
    · subst hk6
      refine lv_tableIn (off := 263) (tgt := 302) hx hb d_law_39 (by decide +kernel) (by decide +kernel) rfl (by decide) ?_
      exact law_6 l Z hr hX hbl q hP hD hS hl
    simp only [fa_eq, li_6] at hk6
    by_cases hk7 : v = 7
    · subst hk7
      refine lv_tableIn (off := 276) (tgt := 315) hx hb d_law_39 (by decide +kernel) (by decide +kernel) rfl (by decide) ?_
      exact law_7 l Z hr hX hbl hfl hT hU q hP hD hS hl
    simp only [fa_eq, li_7] at hk7
    by_cases hk8 : v = 8
    · subst hk8
      refine lv_tableIn (off := 356) (tgt := 395) hx hb d_law_39 (by decide +kernel) (by decide +kernel) rfl (by decide) ?_
      exact law_8 l Z hr hX hbl q hP hD hS hl
    simp only [fa_eq, li_8] at hk8
    by_cases hk9 : v = 9
    · subst hk9
      refine lv_tableIn (off := 393) (tgt := 432) hx hb d_law_39 (by decide +kernel) (by decide +kernel) rfl (by decide) ?_
      exact law_9 l Z hr hX hbl q hP hD hS hl
    simp only [fa_eq, li_9] at hk9
    by_cases hk10 : v = 10
    · subst hk10
      refine lv_tableIn (off := 430) (tgt := 469) hx hb d_law_39 (by decide +kernel) (by decide +kernel) rfl (by decide) ?_
      exact law_10 l Z hr hX hbl q hP hD hS hl
    simp only [fa_eq, li_10] at hk10
    by_cases hk11 : v = 11
    · subst hk11
      refine lv_tableIn (off := 455) (tgt := 494) hx hb d_law_39 (by decide +kernel) (by decide +kernel) rfl (by decide) ?_
      exact law_11 l Z hr hX hbl q hP hD hS hl
    simp only [fa_eq, li_11] at hk11
    by_cases hk12 : v = 12
    · subst hk12
      refine lv_tableIn (off := 496) (tgt := 535) hx hb d_law_39 (by decide +kernel) (by decide +kernel) rfl (by decide) ?_
      exact law_12 l Z hr hX hbl q hP hD hS hl
    simp only [fa_eq, li_12] at hk12
    by_cases hk13 : v = 13
    · subst hk13
      refine lv_tableIn (off := 521) (tgt := 560) hx hb d_law_39 (by decide +kernel) (by decide +kernel) rfl (by decide) ?_
      exact law_13 l Z hr hX hbl q hP hD hS hl
    simp only [fa_eq, li_13] at hk13
    by_cases hk14 : v = 14
    · subst hk14
      refine lv_tableIn (off := 546) (tgt := 585) hx hb d_law_39 (by decide +kernel) (by decide +kernel) rfl (by decide) ?_
      exact law_14 l Z hr hX hbl q hP hD hS hl
    simp only [fa_eq, li_14] at hk14
    by_cases hk15 : v = 15
    · subst hk15
      refine lv_tableIn (off := 571) (tgt := 610) hx hb d_law_39 (by decide +kernel) (by decide +kernel) rfl (by decide) ?_
      exact law_15 l Z hr hX hbl q hP hD hS hl
    simp only [fa_eq, li_15] at hk15
    by_cases hk16 : v = 16
    · subst hk16
      refine lv_tableIn (off := 596) (tgt := 635) hx hb d_law_39 (by decide +kernel) (by decide +kernel) rfl (by decide) ?_
      exact law_16 l Z hr hX hbl q hP hD hS hl
    simp only [fa_eq, li_16] at hk16
    by_cases hk17 : v = 17
    · subst hk17
      refine lv_tableIn (off := 645) (tgt := 684) hx hb d_law_39 (by decide +kernel) (by decide +kernel) rfl (by decide) ?_
      exact law_17 l Z hr hX hbl q hP hD hS hl
    simp only [fa_eq, li_17] at hk17
    by_cases hk18 : v = 18
    · subst hk18
      refine lv_tableIn (off := 682) (tgt := 721) hx hb d_law_39 (by decide +kernel) (by decide +kernel) rfl (by decide) ?_
      exact law_18 l Z hr hX hbl q hP hD hS hl
    simp only [fa_eq, li_18] at hk18
    by_cases hk19 : v = 19
    · subst hk19
      refine lv_tableIn (off := 743) (tgt := 782) hx hb d_law_39 (by decide +kernel) (by decide +kernel) rfl (by decide) ?_
      exact law_19 l Z hr hX hbl q hP hD hS hl
    simp only [fa_eq, li_19] at hk19
    by_cases hk20 : v = 20
    · subst hk20
      refine lv_tableIn (off := 792) (tgt := 831) hx hb d_law_39 (by decide +kernel) (by decide +kernel) rfl (by decide) ?_
      exact law_20 l Z hr hX hbl q hP hD hS hl
    simp only [fa_eq, li_20] at hk20
    by_cases hk21 : v = 21
    · subst hk21
      refine lv_tableIn (off := 829) (tgt := 868) hx hb d_law_39 (by decide +kernel) (by decide +kernel) rfl (by decide) ?_
      exact law_21 l Z hr hX hbl q hP hD hS hl
    simp only [fa_eq, li_21] at hk21
    by_cases hk22 : v = 22
    · subst hk22
      refine lv_tableIn (off := 854) (tgt := 893) hx hb d_law_39 (by decide +kernel) (by decide +kernel) rfl (by decide) ?_
      exact law_22 l Z hr hX hbl q hP hD hS hl
    simp only [fa_eq, li_22] at hk22
    by_cases hk23 : v = 23
    · subst hk23
      refine lv_tableIn (off := 919) (tgt := 958) hx hb d_law_39 (by decide +kernel) (by decide +kernel) rfl (by decide) ?_
      exact law_23 l Z hr hX hbl q hP hD hS hl
    simp only [fa_eq, li_23] at hk23
    by_cases hk24 : v = 24
    · subst hk24
      refine lv_tableIn (off := 956) (tgt := 995) hx hb d_law_39 (by decide +kernel) (by decide +kernel) rfl (by decide) ?_
      exact law_24 l Z hr hX hbl q hP hD hS hl
    simp only [fa_eq, li_24] at hk24
    by_cases hk25 : v = 25
    · subst hk25
      refine lv_tableIn (off := 981) (tgt := 1020) hx hb d_law_39 (by decide +kernel) (by decide +kernel) rfl (by decide) ?_
      exact law_25 l Z hr hX hbl q hP hD hS hl
    simp only [fa_eq, li_25] at hk25
    by_cases hk26 : v = 26
    · subst hk26
      refine lv_tableIn (off := 1006) (tgt := 1045) hx hb d_law_39 (by decide +kernel) (by decide +kernel) rfl (by decide) ?_
      exact law_26 l Z hr hX hbl q hP hD hS hl
    simp only [fa_eq, li_26] at hk26
    by_cases hk27 : v = 27
    · subst hk27
      refine lv_tableIn (off := 1031) (tgt := 1070) hx hb d_law_39 (by decide +kernel) (by decide +kernel) rfl (by decide) ?_
      exact law_27 l Z hr hX hbl q hP hD hS hl
    simp only [fa_eq, li_27] at hk27
    refine lv_tableOut (tgt := 1095) hx hb d_law_39 (by omega) (by decide) ?_
    exact law_tail l Z hr hX hbl hS (Nat.le_of_ble_eq_true rfl) (Nat.le_of_ble_eq_true rfl) (lv_sub hl [4, 0] rfl)
  · refine z_topi (y := (-5)) (by decide +kernel) ?_
    refine lv_icmp_gt (tgt := 1101) hx hb d_law_29 (by decide) (fun _ => ?_) (fun hc => absurd hc (by decide +kernel))
    refine lv_iconst (v := 1) hx hb d_law_1101 (by decide) ?_
    refine W.widen (k := 600002) (n := 7302232) (Nat.le_of_ble_eq_true rfl) (Nat.le_of_ble_eq_true rfl) ?_
    refine va_forget hS.2.2 ?_
    exact lw_ret hx hb hr hlocks d_law_1102
  · refine z_topi (y := (-4)) (by decide +kernel) ?_
    refine lv_icmp_gt (tgt := 1101) hx hb d_law_29 (by decide) (fun _ => ?_) (fun hc => absurd hc (by decide +kernel))
    refine lv_iconst (v := 1) hx hb d_law_1101 (by decide) ?_
    refine W.widen (k := 600002) (n := 7302232) (Nat.le_of_ble_eq_true rfl) (Nat.le_of_ble_eq_true rfl) ?_
    refine va_forget hS.2.2 ?_
    exact lw_ret hx hb hr hlocks d_law_1102
  · refine z_topi (y := (-3)) (by decide +kernel) ?_
    refine lv_icmp_gt (tgt := 1101) hx hb d_law_29 (by decide) (fun _ => ?_) (fun hc => absurd hc (by decide +kernel))
    refine lv_iconst (v := 1) hx hb d_law_1101 (by decide) ?_
    refine W.widen (k := 600002) (n := 7302232) (Nat.le_of_ble_eq_true rfl) (Nat.le_of_ble_eq_true rfl) ?_
    refine va_forget hS.2.2 ?_
    exact lw_ret hx hb hr hlocks d_law_1102
  · refine z_topi (y := (-2)) (by decide +kernel) ?_
    refine lv_icmp_gt (tgt := 1101) hx hb d_law_29 (by decide) (fun _ => ?_) (fun hc => absurd hc (by decide +kernel))
    refine lv_iconst (v := 1) hx hb d_law_1101 (by decide) ?_
    refine W.widen (k := 600002) (n := 7302232) (Nat.le_of_ble_eq_true rfl) (Nat.le_of_ble_eq_true rfl) ?_
    refine va_forget hS.2.2 ?_
    exact lw_ret hx hb hr hlocks d_law_1102
  · refine z_topi (y := (-1)) (by decide +kernel) ?_
    refine lv_icmp_gt (tgt := 1101) hx hb d_law_29 (by decide) (fun _ => ?_) (fun hc => absurd hc (by decide +kernel))
    refine lv_iconst (v := 1) hx hb d_law_1101 (by decide) ?_
    refine W.widen (k := 600002) (n := 7302232) (Nat.le_of_ble_eq_true rfl) (Nat.le_of_ble_eq_true rfl) ?_
    refine va_forget hS.2.2 ?_
    exact lw_ret hx hb hr hlocks d_law_1102
