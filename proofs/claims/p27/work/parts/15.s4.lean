theorem d_Sets_longAt_0 : decode prog_8_method_5_code 0 = .ok (.aload_n 0, 1) := by decide +kernel
theorem d_Sets_longAt_1 : decode prog_8_method_5_code 1 = .ok (.getfield 18, 3) := by decide +kernel
theorem d_Sets_longAt_4 : decode prog_8_method_5_code 4 = .ok (.iload_n 1, 1) := by decide +kernel
theorem d_Sets_longAt_5 : decode prog_8_method_5_code 5 = .ok (.aload_n 0, 1) := by decide +kernel
theorem d_Sets_longAt_6 : decode prog_8_method_5_code 6 = .ok (.getfield 15, 3) := by decide +kernel
theorem d_Sets_longAt_9 : decode prog_8_method_5_code 9 = .ok (.imul, 1) := by decide +kernel
theorem d_Sets_longAt_10 : decode prog_8_method_5_code 10 = .ok (.iload_n 2, 1) := by decide +kernel
theorem d_Sets_longAt_11 : decode prog_8_method_5_code 11 = .ok (.iconst 4, 1) := by decide +kernel
theorem d_Sets_longAt_12 : decode prog_8_method_5_code 12 = .ok (.imul, 1) := by decide +kernel
theorem d_Sets_longAt_13 : decode prog_8_method_5_code 13 = .ok (.iadd, 1) := by decide +kernel
theorem d_Sets_longAt_14 : decode prog_8_method_5_code 14 = .ok (.iload_n 3, 1) := by decide +kernel
theorem d_Sets_longAt_15 : decode prog_8_method_5_code 15 = .ok (.iadd, 1) := by decide +kernel
theorem d_Sets_longAt_16 : decode prog_8_method_5_code 16 = .ok (.laload, 1) := by decide +kernel
theorem d_Sets_longAt_17 : decode prog_8_method_5_code 17 = .ok (.lreturn, 1) := by decide +kernel
abbrev m_s1_Sets_longAt : Room := { frames := 0, cells := 0, slots := 0, locals := 0 }
set_option maxHeartbeats 4000000 in
set_option maxRecDepth 100000 in
theorem s1_Sets_longAt (l : Launch) (G : zG) (b0 : Nat) (b1 : Int32) (b2 : Int32) (b3 : Int32) (b4 : Int32) (b5 : Nat) (b6 : Nat) (b7 : Nat → Int64) (hb1 : zI b1 0 1) (hb2 : zI b2 0 0) (hb3 : zI b3 0 3) : zM l G y_Sets_longAt prog_8_method_5_code 4 (Option.some Jvm.ClassFile.FieldType.long) m_s1_Sets_longAt [.ref b0, .int b1, .int b2, .int b3] [(b0, .inr (6, [.int b4, .int 4, .int 2, .ref b5, .ref b6])), (b5, .inl (G.2 1, 8, .inr (.inl b7)))] (fun v w => ∃ (e0 : Int64), v = some (.long e0) ∧ w = [(b0, .inr (6, [.int b4, .int 4, .int 2, .ref b5, .ref b6])), (b5, .inl (G.2 1, 8, .inr (.inl b7)))]) := by
  refine z_start (by decide +kernel) (Nat.le_of_ble_eq_true rfl) ?_
  intro p e s m below meth c A Z hr hnm hA hP hD hS ls hl
  have Z : zC p s m _ meth c prog_8_method_5_code 4 "TraceMachines$StateSets" G := Z
  obtain ⟨hx, hb, hml, hown, hts, hK, hN, hlocks⟩ := id Z
  have hl : lv_has ls 4 [(0, .ref b0), (1, .int b1), (2, .int b2), (3, .int b3)] := hl
  refine lv_aload_n hx hb d_Sets_longAt_0 rfl (lv_at hl 0 rfl) ?_
  refine va_get (D := G.1) (ci := 6) (v := .ref b5) (C := R_Sets) (T := F_Sets) (N := 5) hx hb hts i_Sets hown hK hP 0 rfl rfl 3 (by decide) (hts _ q244) (fun _ h9 => h9) rfl d_Sets_longAt_1 ?_
  refine lv_iload_n hx hb d_Sets_longAt_4 rfl (lv_at hl 1 rfl) ?_
  refine lv_aload_n hx hb d_Sets_longAt_5 rfl (lv_at hl 0 rfl) ?_
  refine va_get (D := G.1) (ci := 6) (v := .int 4) (C := R_Sets) (T := F_Sets) (N := 5) hx hb hts i_Sets hown hK hP 0 rfl rfl 1 (by decide) (hts _ q242) (fun _ h9 => h9) rfl d_Sets_longAt_6 ?_
  refine lv_imul hx hb d_Sets_longAt_9 ?_
  refine lv_topi (fun v_1 ev_1 => ?_)
  obtain ⟨qv_1, hv_1⟩ := zI_mul (l := 0) (h := 4) hb1 zc_4 ev_1 (by decide)
  rw [li_4] at qv_1
  refine lv_iload_n hx hb d_Sets_longAt_10 rfl (lv_at hl 2 rfl) ?_
  refine lv_iconst (v := 4) hx hb d_Sets_longAt_11 (by decide) ?_
  refine lv_imul hx hb d_Sets_longAt_12 ?_
  refine lv_topi (fun v_2 ev_2 => ?_)
  obtain ⟨qv_2, hv_2⟩ := zI_mul (l := 0) (h := 0) hb2 zc_4 ev_2 (by decide)
  rw [li_4] at qv_2
  refine lv_iadd hx hb d_Sets_longAt_13 ?_
  refine lv_topi (fun v_3 ev_3 => ?_)
  obtain ⟨qv_3, hv_3⟩ := zI_add (l := 0) (h := 4) hv_1 hv_2 ev_3 (by decide)
  refine lv_iload_n hx hb d_Sets_longAt_14 rfl (lv_at hl 3 rfl) ?_
  refine lv_iadd hx hb d_Sets_longAt_15 ?_
  refine lv_topi (fun v_4 ev_4 => ?_)
  obtain ⟨qv_4, hv_4⟩ := zI_add (l := 0) (h := 7) hv_3 hb3 ev_4 (by decide)
  refine va_lald hx hb hK hP 1 1 rfl rfl (zI.inn hv_4 (by decide)) d_Sets_longAt_16 ?_
  refine lv_topl (fun v_5 ev_5 => ?_)
  exact z_lret hx hb hr hlocks hP hD hS (Nat.le_of_ble_eq_true rfl) (Nat.le_of_ble_eq_true rfl) d_Sets_longAt_17 ⟨v_5, rfl, rfl⟩
theorem d_Sets_put_0 : decode prog_8_method_4_code 0 = .ok (.aload_n 0, 1) := by decide +kernel
theorem d_Sets_put_1 : decode prog_8_method_4_code 1 = .ok (.getfield 18, 3) := by decide +kernel
theorem d_Sets_put_4 : decode prog_8_method_4_code 4 = .ok (.iload_n 1, 1) := by decide +kernel
theorem d_Sets_put_5 : decode prog_8_method_4_code 5 = .ok (.aload_n 0, 1) := by decide +kernel
theorem d_Sets_put_6 : decode prog_8_method_4_code 6 = .ok (.getfield 15, 3) := by decide +kernel
theorem d_Sets_put_9 : decode prog_8_method_4_code 9 = .ok (.imul, 1) := by decide +kernel
theorem d_Sets_put_10 : decode prog_8_method_4_code 10 = .ok (.iload_n 2, 1) := by decide +kernel
theorem d_Sets_put_11 : decode prog_8_method_4_code 11 = .ok (.iconst 4, 1) := by decide +kernel
theorem d_Sets_put_12 : decode prog_8_method_4_code 12 = .ok (.imul, 1) := by decide +kernel
theorem d_Sets_put_13 : decode prog_8_method_4_code 13 = .ok (.iadd, 1) := by decide +kernel
theorem d_Sets_put_14 : decode prog_8_method_4_code 14 = .ok (.iload_n 3, 1) := by decide +kernel
theorem d_Sets_put_15 : decode prog_8_method_4_code 15 = .ok (.bipush 6, 2) := by decide +kernel
theorem d_Sets_put_17 : decode prog_8_method_4_code 17 = .ok (.ishr, 1) := by decide +kernel
theorem d_Sets_put_18 : decode prog_8_method_4_code 18 = .ok (.iadd, 1) := by decide +kernel
theorem d_Sets_put_19 : decode prog_8_method_4_code 19 = .ok (.dup2, 1) := by decide +kernel
theorem d_Sets_put_20 : decode prog_8_method_4_code 20 = .ok (.laload, 1) := by decide +kernel
theorem d_Sets_put_21 : decode prog_8_method_4_code 21 = .ok (.lconst 1, 1) := by decide +kernel
theorem d_Sets_put_22 : decode prog_8_method_4_code 22 = .ok (.iload_n 3, 1) := by decide +kernel
theorem d_Sets_put_23 : decode prog_8_method_4_code 23 = .ok (.bipush 63, 2) := by decide +kernel
theorem d_Sets_put_25 : decode prog_8_method_4_code 25 = .ok (.iand, 1) := by decide +kernel
theorem d_Sets_put_26 : decode prog_8_method_4_code 26 = .ok (.lshl, 1) := by decide +kernel
theorem d_Sets_put_27 : decode prog_8_method_4_code 27 = .ok (.lor, 1) := by decide +kernel
theorem d_Sets_put_28 : decode prog_8_method_4_code 28 = .ok (.lastore, 1) := by decide +kernel
theorem d_Sets_put_29 : decode prog_8_method_4_code 29 = .ok (.return_, 1) := by decide +kernel
abbrev m_s1_Sets_put : Room := { frames := 0, cells := 0, slots := 0, locals := 0 }
set_option maxHeartbeats 4000000 in
set_option maxRecDepth 100000 in
theorem s1_Sets_put (l : Launch) (G : zG) (b0 : Nat) (b1 : Int32) (b2 : Int32) (b3 : Int32) (b4 : Int32) (b5 : Nat) (b6 : Nat) (b7 : Nat → Int64) (hb1 : zI b1 0 1) (hb2 : zI b2 0 0) (hb3 : zI b3 0 240) : zM l G y_Sets_put prog_8_method_4_code 4 (Option.none : Option Jvm.ClassFile.FieldType) m_s1_Sets_put [.ref b0, .int b1, .int b2, .int b3] [(b0, .inr (6, [.int b4, .int 4, .int 2, .ref b5, .ref b6])), (b5, .inl (G.2 1, 8, .inr (.inl b7)))] (fun v w => ∃ (e0 : Nat → Int64), v = none ∧ w = [(b0, .inr (6, [.int b4, .int 4, .int 2, .ref b5, .ref b6])), (b5, .inl (G.2 1, 8, .inr (.inl e0)))]) := by
  refine z_start (by decide +kernel) (Nat.le_of_ble_eq_true rfl) ?_
  intro p e s m below meth c A Z hr hnm hA hP hD hS ls hl
  have Z : zC p s m _ meth c prog_8_method_4_code 4 "TraceMachines$StateSets" G := Z
  obtain ⟨hx, hb, hml, hown, hts, hK, hN, hlocks⟩ := id Z
  have hl : lv_has ls 4 [(0, .ref b0), (1, .int b1), (2, .int b2), (3, .int b3)] := hl
  refine lv_aload_n hx hb d_Sets_put_0 rfl (lv_at hl 0 rfl) ?_
  refine va_get (D := G.1) (ci := 6) (v := .ref b5) (C := R_Sets) (T := F_Sets) (N := 5) hx hb hts i_Sets hown hK hP 0 rfl rfl 3 (by decide) (hts _ q244) (fun _ h9 => h9) rfl d_Sets_put_1 ?_
  refine lv_iload_n hx hb d_Sets_put_4 rfl (lv_at hl 1 rfl) ?_
  refine lv_aload_n hx hb d_Sets_put_5 rfl (lv_at hl 0 rfl) ?_
  refine va_get (D := G.1) (ci := 6) (v := .int 4) (C := R_Sets) (T := F_Sets) (N := 5) hx hb hts i_Sets hown hK hP 0 rfl rfl 1 (by decide) (hts _ q242) (fun _ h9 => h9) rfl d_Sets_put_6 ?_
  refine lv_imul hx hb d_Sets_put_9 ?_
  refine lv_topi (fun v_1 ev_1 => ?_)
  obtain ⟨qv_1, hv_1⟩ := zI_mul (l := 0) (h := 4) hb1 zc_4 ev_1 (by decide)
  rw [li_4] at qv_1
  refine lv_iload_n hx hb d_Sets_put_10 rfl (lv_at hl 2 rfl) ?_
  refine lv_iconst (v := 4) hx hb d_Sets_put_11 (by decide) ?_
  refine lv_imul hx hb d_Sets_put_12 ?_
  refine lv_topi (fun v_2 ev_2 => ?_)
  obtain ⟨qv_2, hv_2⟩ := zI_mul (l := 0) (h := 0) hb2 zc_4 ev_2 (by decide)
  rw [li_4] at qv_2
  refine lv_iadd hx hb d_Sets_put_13 ?_
  refine lv_topi (fun v_3 ev_3 => ?_)
  obtain ⟨qv_3, hv_3⟩ := zI_add (l := 0) (h := 4) hv_1 hv_2 ev_3 (by decide)
  refine lv_iload_n hx hb d_Sets_put_14 rfl (lv_at hl 3 rfl) ?_
  refine lv_bipush (v := 6) hx hb d_Sets_put_15 (by decide) ?_
  refine lv_ishr hx hb d_Sets_put_17 ?_
  refine lv_topi (fun v_4 ev_4 => ?_)
  obtain ⟨qv_4, hv_4⟩ := zI_shr (l := 0) (h := 3) (k := 6) hb3 (by decide +kernel) ev_4 (by decide)
  refine lv_iadd hx hb d_Sets_put_18 ?_
  refine lv_topi (fun v_5 ev_5 => ?_)
  obtain ⟨qv_5, hv_5⟩ := zI_add (l := 0) (h := 7) hv_3 hv_4 ev_5 (by decide)
  refine lv_dup2_11 hx hb d_Sets_put_19 rfl rfl ?_
  refine va_lald hx hb hK hP 1 1 rfl rfl (zI.inn hv_5 (by decide)) d_Sets_put_20 ?_
  refine lv_topl (fun v_6 ev_6 => ?_)
  refine lv_lconst (v := 1) hx hb d_Sets_put_21 (by decide) ?_
  refine lv_iload_n hx hb d_Sets_put_22 rfl (lv_at hl 3 rfl) ?_
  refine lv_bipush (v := 63) hx hb d_Sets_put_23 (by decide) ?_
  refine lv_iand hx hb d_Sets_put_25 ?_
  refine lv_topi (fun v_7 ev_7 => ?_)
  have hv_7 := zI_and (k := 6) (h := 63) (by decide +kernel) ev_7 (by decide)
  obtain ⟨v_8, ev_8⟩ : ∃ z : Int64, z = 1 <<< ((v_7 : Int32).toInt64 &&& 63) := ⟨_, rfl⟩
  refine lv_lshl (v := v_8) hx hb d_Sets_put_26 ev_8.symm ?_
  refine lv_lor hx hb d_Sets_put_27 ?_
  refine lv_topl (fun v_9 ev_9 => ?_)
  refine va_last hx hb hK hP hD hS 1 1 rfl rfl (zI.inn hv_5 (by decide)) d_Sets_put_28 (fun H locs hP hD hS => ?_)
  obtain ⟨f_10, hP, hD⟩ := z_newL 1 hP hD rfl
  have hP : va_P G.1 classes [(b0, .inr (6, [.int b4, .int 4, .int 2, .ref b5, .ref b6])), (b5, .inl (G.2 1, 8, .inr (.inl f_10)))] H := hP
  have hD := z_tie hP hD rfl
  exact z_vret hx hb hr hlocks hP hD hS (Nat.le_of_ble_eq_true rfl) (Nat.le_of_ble_eq_true rfl) d_Sets_put_29 ⟨f_10, rfl, rfl⟩
theorem d_Sets_least_0 : decode prog_8_method_8_code 0 = .ok (.iconst 0, 1) := by decide +kernel
theorem d_Sets_least_1 : decode prog_8_method_8_code 1 = .ok (.istore_n 2, 1) := by decide +kernel
theorem d_Sets_least_2 : decode prog_8_method_8_code 2 = .ok (.iload_n 2, 1) := by decide +kernel
theorem d_Sets_least_3 : decode prog_8_method_8_code 3 = .ok (.aload_n 0, 1) := by decide +kernel
theorem d_Sets_least_4 : decode prog_8_method_8_code 4 = .ok (.getfield 15, 3) := by decide +kernel
theorem d_Sets_least_7 : decode prog_8_method_8_code 7 = .ok (.if_icmp .ge 39, 3) := by decide +kernel
theorem d_Sets_least_10 : decode prog_8_method_8_code 10 = .ok (.aload_n 0, 1) := by decide +kernel
theorem d_Sets_least_11 : decode prog_8_method_8_code 11 = .ok (.getfield 18, 3) := by decide +kernel
theorem d_Sets_least_14 : decode prog_8_method_8_code 14 = .ok (.iload_n 1, 1) := by decide +kernel
theorem d_Sets_least_15 : decode prog_8_method_8_code 15 = .ok (.aload_n 0, 1) := by decide +kernel
theorem d_Sets_least_16 : decode prog_8_method_8_code 16 = .ok (.getfield 15, 3) := by decide +kernel
theorem d_Sets_least_19 : decode prog_8_method_8_code 19 = .ok (.imul, 1) := by decide +kernel
theorem d_Sets_least_20 : decode prog_8_method_8_code 20 = .ok (.iload_n 2, 1) := by decide +kernel
theorem d_Sets_least_21 : decode prog_8_method_8_code 21 = .ok (.iadd, 1) := by decide +kernel
theorem d_Sets_least_22 : decode prog_8_method_8_code 22 = .ok (.laload, 1) := by decide +kernel
theorem d_Sets_least_23 : decode prog_8_method_8_code 23 = .ok (.lstore_n 3, 1) := by decide +kernel
theorem d_Sets_least_24 : decode prog_8_method_8_code 24 = .ok (.lload_n 3, 1) := by decide +kernel
theorem d_Sets_least_25 : decode prog_8_method_8_code 25 = .ok (.lconst 0, 1) := by decide +kernel
theorem d_Sets_least_26 : decode prog_8_method_8_code 26 = .ok (.lcmp, 1) := by decide +kernel
theorem d_Sets_least_27 : decode prog_8_method_8_code 27 = .ok (.ifCond .eq 13, 3) := by decide +kernel
theorem d_Sets_least_30 : decode prog_8_method_8_code 30 = .ok (.bipush 64, 2) := by decide +kernel
theorem d_Sets_least_32 : decode prog_8_method_8_code 32 = .ok (.iload_n 2, 1) := by decide +kernel
theorem d_Sets_least_33 : decode prog_8_method_8_code 33 = .ok (.imul, 1) := by decide +kernel
theorem d_Sets_least_34 : decode prog_8_method_8_code 34 = .ok (.lload_n 3, 1) := by decide +kernel
theorem d_Sets_least_35 : decode prog_8_method_8_code 35 = .ok (.invokestatic 44, 3) := by decide +kernel
theorem d_Sets_least_38 : decode prog_8_method_8_code 38 = .ok (.iadd, 1) := by decide +kernel
theorem d_Sets_least_40 : decode prog_8_method_8_code 40 = .ok (.iinc 2 1, 3) := by decide +kernel
theorem d_Sets_least_43 : decode prog_8_method_8_code 43 = .ok (.goto (-41), 3) := by decide +kernel
theorem d_Sets_least_46 : decode prog_8_method_8_code 46 = .ok (.iconst (-1), 1) := by decide +kernel
theorem d_Sets_least_47 : decode prog_8_method_8_code 47 = .ok (.ireturn, 1) := by decide +kernel
theorem d_Sets_lowest_0 : decode prog_8_method_9_code 0 = .ok (.lload_n 0, 1) := by decide +kernel
theorem d_Sets_lowest_1 : decode prog_8_method_9_code 1 = .ok (.lload_n 0, 1) := by decide +kernel
theorem d_Sets_lowest_2 : decode prog_8_method_9_code 2 = .ok (.lneg, 1) := by decide +kernel
theorem d_Sets_lowest_3 : decode prog_8_method_9_code 3 = .ok (.land, 1) := by decide +kernel
theorem d_Sets_lowest_4 : decode prog_8_method_9_code 4 = .ok (.lconst 1, 1) := by decide +kernel
theorem d_Sets_lowest_5 : decode prog_8_method_9_code 5 = .ok (.lsub, 1) := by decide +kernel
theorem d_Sets_lowest_6 : decode prog_8_method_9_code 6 = .ok (.invokestatic 38, 3) := by decide +kernel
theorem d_Sets_lowest_9 : decode prog_8_method_9_code 9 = .ok (.ireturn, 1) := by decide +kernel
theorem zc_64 : zI 64 64 64 := ⟨by decide +kernel, by decide +kernel⟩
theorem li_64 : (64 : Int32).toInt = 64 := by decide +kernel
abbrev m_s2_Sets_lowest : Room := { frames := 1, cells := 0, slots := 0, locals := 21 }
set_option maxHeartbeats 4000000 in
set_option maxRecDepth 100000 in
theorem s2_Sets_lowest (l : Launch) (G : zG) (b0 : Int64)  : zM l G y_Sets_lowest prog_8_method_9_code 2 (Option.some Jvm.ClassFile.FieldType.int) m_s2_Sets_lowest [.long b0] [] (fun v w => ∃ (e0 : Int32), v = some (.int e0) ∧ w = [] ∧ (zI e0 0 127)) := by
  refine z_start (by decide +kernel) (Nat.le_of_ble_eq_true rfl) ?_
  intro p e s m below meth c A Z hr hnm hA hP hD hS ls hl
  have Z : zC p s m _ meth c prog_8_method_9_code 2 "TraceMachines$StateSets" G := Z
  obtain ⟨hx, hb, hml, hown, hts, hK, hN, hlocks⟩ := id Z
  have hl : lv_has ls 2 [(0, .long b0)] := hl
  refine lv_lload_n hx hb d_Sets_lowest_0 rfl (lv_at hl 0 rfl) ?_
  refine lv_lload_n hx hb d_Sets_lowest_1 rfl (lv_at hl 0 rfl) ?_
  refine lv_lneg hx hb d_Sets_lowest_2 ?_
  refine lv_topl (fun v_1 ev_1 => ?_)
  refine lv_land hx hb d_Sets_lowest_3 ?_
  refine lv_topl (fun v_2 ev_2 => ?_)
  refine lv_lconst (v := 1) hx hb d_Sets_lowest_4 (by decide) ?_
  refine lv_lsub hx hb d_Sets_lowest_5 ?_
  refine lv_topl (fun v_3 ev_3 => ?_)
  refine z_callS (index := 38) (As := [.long v_3]) (rest := []) (wr := []) Z (s2_Long_bitCount l G (v_3)) hl.1 q726 q727 q21 q728 ⟨by decide, by decide, by show _ = some 1; decide +kernel⟩ ⟨Nat.le_of_ble_eq_true rfl, Nat.le_of_ble_eq_true rfl⟩ ⟨Nat.le_of_ble_eq_true rfl, Nat.le_of_ble_eq_true rfl⟩ rfl (Nat.le_of_ble_eq_true rfl) d_Sets_lowest_6 hP hD hS hA [] [] rfl rfl rfl rfl (by decide) (fun v w1 H locs hw_4 hP hD hS => ?_)
  obtain ⟨x_5, rfl, rfl, hx_5⟩ := hw_4
  have hP : va_P G.1 classes [] H := hP
  have hD := z_tie hP hD rfl
  refine W.widen (k := 0) (n := 0) (Nat.le_of_ble_eq_true rfl) (Nat.le_of_ble_eq_true rfl) ?_
  exact z_iret hx hb hr hlocks hP hD hS (Nat.le_of_ble_eq_true rfl) (Nat.le_of_ble_eq_true rfl) d_Sets_lowest_9 ⟨x_5, rfl, rfl, hx_5⟩
theorem d_Sets_least_39 : decode prog_8_method_8_code 39 = .ok (.ireturn, 1) := by decide +kernel
abbrev m_s1_Sets_least : Room := { frames := 2, cells := 0, slots := 0, locals := 42 }
set_option maxHeartbeats 4000000 in
set_option maxRecDepth 100000 in
theorem s1_Sets_least (l : Launch) (G : zG) (b0 : Nat) (b1 : Int32) (b2 : Int32) (b3 : Nat) (b4 : Nat) (b5 : Nat → Int64) (hb1 : zI b1 0 0) : zM l G y_Sets_least prog_8_method_8_code 5 (Option.some Jvm.ClassFile.FieldType.int) m_s1_Sets_least [.ref b0, .int b1] [(b0, .inr (6, [.int b2, .int 4, .int 2, .ref b3, .ref b4])), (b3, .inl (G.2 1, 8, .inr (.inl b5)))] (fun v w => ∃ (e0 : Int32), v = some (.int e0) ∧ w = [(b0, .inr (6, [.int b2, .int 4, .int 2, .ref b3, .ref b4])), (b3, .inl (G.2 1, 8, .inr (.inl b5)))] ∧ (zI e0 (-1) 319)) := by
  refine z_start (by decide +kernel) (Nat.le_of_ble_eq_true rfl) ?_
  intro p e s m below meth c A Z hr hnm hA hP hD hS ls hl
  have Z : zC p s m _ meth c prog_8_method_8_code 5 "TraceMachines$StateSets" G := Z
  obtain ⟨hx, hb, hml, hown, hts, hK, hN, hlocks⟩ := id Z
  have hl : lv_has ls 5 [(0, .ref b0), (1, .int b1)] := hl
  refine lv_iconst (v := 0) hx hb d_Sets_least_0 (by decide) ?_
  refine lv_istore_n (lv' := [(2, .int 0), (0, .ref b0), (1, .int b1)]) hx hb d_Sets_least_1 rfl hl (by decide) rfl (fun ls hl => ?_)
  suffices key : ∀ (k_92 : Nat) (y_93 : Int32) (H : Heap) (locs : List Loc) (ls : Array Slot), (zI y_93 0 4) → (4 : Int) - y_93.toInt < (k_92 : Int) → va_P G.1 classes [(b0, .inr (6, [.int b2, .int 4, .int 2, .ref b3, .ref b4])), (b3, .inl (G.2 1, 8, .inr (.inl b5)))] H → va_D A [(b0, .inr (6, [.int b2, .int 4, .int 2, .ref b3, .ref b4])), (b3, .inl (G.2 1, 8, .inr (.inl b5)))] → va_S A s.heap H locs → lv_has ls 5 [(2, .int y_93), (0, .ref b0), (1, .int b1)] → W p l e m_s1_Sets_least s m ([.ref b0, .int b1] : List Value).toArray below meth c H locs 0 0 (MQ below (zQ G (fun v w => ∃ (e0 : Int32), v = some (.int e0) ∧ w = [(b0, .inr (6, [.int b2, .int 4, .int 2, .ref b3, .ref b4])), (b3, .inl (G.2 1, 8, .inr (.inl b5)))] ∧ (zI e0 (-1) 319)) A) ([.ref b0, .int b1] : List Value).toArray s m_s1_Sets_least.cells m_s1_Sets_least.slots A) (F0 m 2 ls []) by
    exact key 5 (0) _ _ _ (zI.wk (l' := 0) (h' := 4) zc_0 (by decide)) (zm_upi (zI.wk (l' := 0) (h' := 4) zc_0 (by decide)) (by decide)) hP hD hS (lv_sub hl [0, 1, 2] rfl)
  intro k_92
  induction k_92 with
  | zero =>
    intro y_93 H locs ls hy_93 hmk_92 hP hD hS hl
    exact (zm_up0 hy_93 hmk_92).elim
  | succ k_92 ihk_92 =>
    intro y_93 H locs ls hy_93 hmk_92 hP hD hS hl
    refine lv_iload_n hx hb d_Sets_least_2 rfl (lv_at hl 0 rfl) ?_
    refine lv_aload_n hx hb d_Sets_least_3 rfl (lv_at hl 1 rfl) ?_
    refine va_get (D := G.1) (ci := 6) (v := .int 4) (C := R_Sets) (T := F_Sets) (N := 5) hx hb hts i_Sets hown hK hP 0 rfl rfl 1 (by decide) (hts _ q242) (fun _ h9 => h9) rfl d_Sets_least_4 ?_
    refine lv_icmp_ge (tgt := 46) hx hb d_Sets_least_7 (by decide) (fun hc_94 => ?_) (fun hc_94 => ?_)
    · have _nhc_94 := hc_94
      have ni_95 := (fa_le _ _).mp hc_94
      rw [li_4] at ni_95
      have hv_96 : zI y_93 4 4 := zI.le_r zc_4 hy_93 hc_94 (by decide)
      refine lv_iconst (v := (-1)) hx hb d_Sets_least_46 (by decide) ?_
      exact z_iret hx hb hr hlocks hP hD hS (Nat.le_of_ble_eq_true rfl) (Nat.le_of_ble_eq_true rfl) d_Sets_least_47 ⟨(-1), rfl, rfl, (zI.wk (l' := (-1)) (h' := 319) zc_m1 (by decide))⟩
    · have _nhc_94 := hc_94
      have ni_97 := (fa_lt _ _).mp (zi_nle hc_94)
      rw [li_4] at ni_97
      have hv_98 : zI y_93 0 3 := zI.lt_l hy_93 zc_4 (zi_nle hc_94) (by decide)
      refine lv_aload_n hx hb d_Sets_least_10 rfl (lv_at hl 1 rfl) ?_
      refine va_get (D := G.1) (ci := 6) (v := .ref b3) (C := R_Sets) (T := F_Sets) (N := 5) hx hb hts i_Sets hown hK hP 0 rfl rfl 3 (by decide) (hts _ q244) (fun _ h9 => h9) rfl d_Sets_least_11 ?_
      refine lv_iload_n hx hb d_Sets_least_14 rfl (lv_at hl 2 rfl) ?_
      refine lv_aload_n hx hb d_Sets_least_15 rfl (lv_at hl 1 rfl) ?_
      refine va_get (D := G.1) (ci := 6) (v := .int 4) (C := R_Sets) (T := F_Sets) (N := 5) hx hb hts i_Sets hown hK hP 0 rfl rfl 1 (by decide) (hts _ q242) (fun _ h9 => h9) rfl d_Sets_least_16 ?_
      refine lv_imul hx hb d_Sets_least_19 ?_
      refine lv_topi (fun v_99 ev_99 => ?_)
      obtain ⟨qv_99, hv_99⟩ := zI_mul (l := 0) (h := 0) hb1 zc_4 ev_99 (by decide)
      rw [li_4] at qv_99
      refine lv_iload_n hx hb d_Sets_least_20 rfl (lv_at hl 0 rfl) ?_
      refine lv_iadd hx hb d_Sets_least_21 ?_
      refine lv_topi (fun v_100 ev_100 => ?_)
      obtain ⟨qv_100, hv_100⟩ := zI_add (l := 0) (h := 3) hv_99 hv_98 ev_100 (by decide)
      refine va_lald hx hb hK hP 1 1 rfl rfl (zI.inn hv_100 (by decide)) d_Sets_least_22 ?_
      refine lv_topl (fun v_101 ev_101 => ?_)
      refine lv_lstore_n (lv' := [(3, .long v_101), (2, .int y_93), (0, .ref b0), (1, .int b1)]) hx hb d_Sets_least_23 rfl hl (by decide) rfl (fun ls hl => ?_)
      refine lv_lload_n hx hb d_Sets_least_24 rfl (lv_at hl 0 rfl) ?_
      refine lv_lconst (v := 0) hx hb d_Sets_least_25 (by decide) ?_
      refine W.lcmp hx hb d_Sets_least_26 ?_
      refine lv_topi (fun v_102 ev_102 => ?_)
      refine lv_if_eq (tgt := 40) hx hb d_Sets_least_27 (by decide) (fun hc_103 => ?_) (fun hc_103 => ?_)
      · have ni_104 := hc_103
        rw [ev_102] at ni_104
        simp only [lg_cmp_lt, lg_cmp_le, lg_cmp_gt, lg_cmp_ge, lg_cmp_eq, fa_lt64, fa_le64, fa_eq64, Int32.toInt_toInt64, ll_0] at ni_104
        have hv_105 : zJ v_101 0 0 := by have _a := ni_104; have _b := (zJ_all v_101); have _c := zcl_0; simp only [Int32.toInt_toInt64] at *; exact ⟨by omega, by omega⟩
        obtain ⟨v_106, ev_106⟩ : ∃ z : Int32, z = y_93 + 1 := ⟨_, rfl⟩
        obtain ⟨qv_106, hv_106⟩ := zI_add (l := 1) (h := 4) hv_98 zc_1 ev_106 (by decide)
        rw [li_1] at qv_106
        refine lv_iinc (v := v_106) (lv' := [(2, .int v_106), (3, .long v_101), (0, .ref b0), (1, .int b1)]) hx hb d_Sets_least_40 hl (k := 1) rfl (by rw [ev_106]; rfl) (by decide) rfl (fun ls hl => ?_)
        refine lv_goto (tgt := 2) hx hb d_Sets_least_43 (by decide) ?_
        exact ihk_92 (v_106) _ _ _ (zI.wk (l' := 0) (h' := 4) hv_106 (by decide)) (zm_up qv_106 hmk_92 (by decide)) hP hD hS (lv_sub hl [0, 2, 3] rfl)
      · have ni_107 := hc_103
        rw [ev_102] at ni_107
        simp only [lg_cmp_lt, lg_cmp_le, lg_cmp_gt, lg_cmp_ge, lg_cmp_eq, fa_lt64, fa_le64, fa_eq64, Int32.toInt_toInt64, ll_0] at ni_107
        refine lv_bipush (v := 64) hx hb d_Sets_least_30 (by decide) ?_
        refine lv_iload_n hx hb d_Sets_least_32 rfl (lv_at hl 1 rfl) ?_
        refine lv_imul hx hb d_Sets_least_33 ?_
        refine lv_topi (fun v_108 ev_108 => ?_)
        obtain ⟨qv_108, hv_108⟩ := zI_mul (l := 0) (h := 192) zc_64 hv_98 ev_108 (by decide)
        rw [li_64] at qv_108
        refine lv_lload_n hx hb d_Sets_least_34 rfl (lv_at hl 0 rfl) ?_
        refine z_callS (index := 44) (As := [.long v_101]) (rest := [.int v_108]) (wr := [(b0, .inr (6, [.int b2, .int 4, .int 2, .ref b3, .ref b4])), (b3, .inl (G.2 1, 8, .inr (.inl b5)))]) Z (s2_Sets_lowest l G (v_101)) hl.1 q754 q724 q7 q725 ⟨by decide, by decide, by show _ = some 1; decide +kernel⟩ ⟨Nat.le_of_ble_eq_true rfl, Nat.le_of_ble_eq_true rfl⟩ ⟨Nat.le_of_ble_eq_true rfl, Nat.le_of_ble_eq_true rfl⟩ rfl (Nat.le_of_ble_eq_true rfl) d_Sets_least_35 hP hD hS hA [] [0, 1] rfl rfl rfl rfl (by decide) (fun v w1 H locs hw_109 hP hD hS => ?_)
        obtain ⟨x_110, rfl, rfl, hx_110⟩ := hw_109
        have hP : va_P G.1 classes [(b0, .inr (6, [.int b2, .int 4, .int 2, .ref b3, .ref b4])), (b3, .inl (G.2 1, 8, .inr (.inl b5)))] H := hP
        have hD := z_tie hP hD rfl
        refine W.widen (k := 0) (n := 0) (Nat.le_of_ble_eq_true rfl) (Nat.le_of_ble_eq_true rfl) ?_
        refine lv_iadd hx hb d_Sets_least_38 ?_
        refine lv_topi (fun v_111 ev_111 => ?_)
        obtain ⟨qv_111, hv_111⟩ := zI_add (l := 0) (h := 319) hv_108 hx_110 ev_111 (by decide)
        exact z_iret hx hb hr hlocks hP hD hS (Nat.le_of_ble_eq_true rfl) (Nat.le_of_ble_eq_true rfl) d_Sets_least_39 ⟨v_111, rfl, rfl, (zI.wk (l' := (-1)) (h' := 319) hv_111 (by decide))⟩
theorem d_Sets_hashOf_0 : decode prog_8_method_13_code 0 = .ok (.lconst 0, 1) := by decide +kernel
theorem d_Sets_hashOf_1 : decode prog_8_method_13_code 1 = .ok (.lstore_n 2, 1) := by decide +kernel
theorem d_Sets_hashOf_2 : decode prog_8_method_13_code 2 = .ok (.iconst 0, 1) := by decide +kernel
theorem d_Sets_hashOf_3 : decode prog_8_method_13_code 3 = .ok (.istore 4, 2) := by decide +kernel
theorem d_Sets_hashOf_5 : decode prog_8_method_13_code 5 = .ok (.iload 4, 2) := by decide +kernel
theorem d_Sets_hashOf_7 : decode prog_8_method_13_code 7 = .ok (.aload_n 0, 1) := by decide +kernel
theorem d_Sets_hashOf_8 : decode prog_8_method_13_code 8 = .ok (.getfield 15, 3) := by decide +kernel
theorem d_Sets_hashOf_11 : decode prog_8_method_13_code 11 = .ok (.if_icmp .ge 37, 3) := by decide +kernel
theorem d_Sets_hashOf_14 : decode prog_8_method_13_code 14 = .ok (.lload_n 2, 1) := by decide +kernel
theorem d_Sets_hashOf_15 : decode prog_8_method_13_code 15 = .ok (.aload_n 0, 1) := by decide +kernel
theorem d_Sets_hashOf_16 : decode prog_8_method_13_code 16 = .ok (.getfield 18, 3) := by decide +kernel
theorem d_Sets_hashOf_19 : decode prog_8_method_13_code 19 = .ok (.iload_n 1, 1) := by decide +kernel
theorem d_Sets_hashOf_20 : decode prog_8_method_13_code 20 = .ok (.aload_n 0, 1) := by decide +kernel
theorem d_Sets_hashOf_21 : decode prog_8_method_13_code 21 = .ok (.getfield 15, 3) := by decide +kernel
theorem d_Sets_hashOf_24 : decode prog_8_method_13_code 24 = .ok (.imul, 1) := by decide +kernel
theorem d_Sets_hashOf_25 : decode prog_8_method_13_code 25 = .ok (.iload 4, 2) := by decide +kernel
theorem d_Sets_hashOf_27 : decode prog_8_method_13_code 27 = .ok (.iadd, 1) := by decide +kernel
theorem d_Sets_hashOf_28 : decode prog_8_method_13_code 28 = .ok (.laload, 1) := by decide +kernel
theorem d_Sets_hashOf_29 : decode prog_8_method_13_code 29 = .ok (.lxor, 1) := by decide +kernel
theorem d_Sets_hashOf_30 : decode prog_8_method_13_code 30 = .ok (.ldc2_w 65, 3) := by decide +kernel
theorem d_Sets_hashOf_33 : decode prog_8_method_13_code 33 = .ok (.lmul, 1) := by decide +kernel
theorem d_Sets_hashOf_34 : decode prog_8_method_13_code 34 = .ok (.lstore_n 2, 1) := by decide +kernel
theorem d_Sets_hashOf_35 : decode prog_8_method_13_code 35 = .ok (.lload_n 2, 1) := by decide +kernel
theorem d_Sets_hashOf_36 : decode prog_8_method_13_code 36 = .ok (.lload_n 2, 1) := by decide +kernel
theorem d_Sets_hashOf_37 : decode prog_8_method_13_code 37 = .ok (.bipush 32, 2) := by decide +kernel
theorem d_Sets_hashOf_39 : decode prog_8_method_13_code 39 = .ok (.lushr, 1) := by decide +kernel
theorem d_Sets_hashOf_40 : decode prog_8_method_13_code 40 = .ok (.lxor, 1) := by decide +kernel
theorem d_Sets_hashOf_41 : decode prog_8_method_13_code 41 = .ok (.lstore_n 2, 1) := by decide +kernel
theorem d_Sets_hashOf_42 : decode prog_8_method_13_code 42 = .ok (.iinc 4 1, 3) := by decide +kernel
theorem d_Sets_hashOf_45 : decode prog_8_method_13_code 45 = .ok (.goto (-40), 3) := by decide +kernel
theorem d_Sets_hashOf_48 : decode prog_8_method_13_code 48 = .ok (.lload_n 2, 1) := by decide +kernel
theorem d_Sets_hashOf_49 : decode prog_8_method_13_code 49 = .ok (.l2i, 1) := by decide +kernel
theorem d_Sets_hashOf_50 : decode prog_8_method_13_code 50 = .ok (.ireturn, 1) := by decide +kernel
abbrev m_s1_Sets_hashOf : Room := { frames := 0, cells := 0, slots := 0, locals := 0 }
set_option maxHeartbeats 4000000 in
set_option maxRecDepth 100000 in
theorem s1_Sets_hashOf (l : Launch) (G : zG) (b0 : Nat) (b1 : Int32) (b2 : Int32) (b3 : Nat) (b4 : Nat) (b5 : Nat → Int64) (hb1 : zI b1 0 1) : zM l G y_Sets_hashOf prog_8_method_13_code 5 (Option.some Jvm.ClassFile.FieldType.int) m_s1_Sets_hashOf [.ref b0, .int b1] [(b0, .inr (6, [.int b2, .int 4, .int 2, .ref b3, .ref b4])), (b3, .inl (G.2 1, 8, .inr (.inl b5)))] (fun v w => ∃ (e0 : Int32), v = some (.int e0) ∧ w = [(b0, .inr (6, [.int b2, .int 4, .int 2, .ref b3, .ref b4])), (b3, .inl (G.2 1, 8, .inr (.inl b5)))]) := by
  refine z_start (by decide +kernel) (Nat.le_of_ble_eq_true rfl) ?_
  intro p e s m below meth c A Z hr hnm hA hP hD hS ls hl
  have Z : zC p s m _ meth c prog_8_method_13_code 5 "TraceMachines$StateSets" G := Z
  obtain ⟨hx, hb, hml, hown, hts, hK, hN, hlocks⟩ := id Z
  have hl : lv_has ls 5 [(0, .ref b0), (1, .int b1)] := hl
  refine lv_lconst (v := 0) hx hb d_Sets_hashOf_0 (by decide) ?_
  refine lv_lstore_n (lv' := [(2, .long 0), (0, .ref b0), (1, .int b1)]) hx hb d_Sets_hashOf_1 rfl hl (by decide) rfl (fun ls hl => ?_)
  refine lv_iconst (v := 0) hx hb d_Sets_hashOf_2 (by decide) ?_
  refine lv_istore (lv' := [(4, .int 0), (2, .long 0), (0, .ref b0), (1, .int b1)]) hx hb d_Sets_hashOf_3 hl (by decide) rfl (fun ls hl => ?_)
  suffices key : ∀ (k_70 : Nat) (y_71 : Int32) (y_72 : Int64) (H : Heap) (locs : List Loc) (ls : Array Slot), (zI y_71 0 4) → (4 : Int) - y_71.toInt < (k_70 : Int) → va_P G.1 classes [(b0, .inr (6, [.int b2, .int 4, .int 2, .ref b3, .ref b4])), (b3, .inl (G.2 1, 8, .inr (.inl b5)))] H → va_D A [(b0, .inr (6, [.int b2, .int 4, .int 2, .ref b3, .ref b4])), (b3, .inl (G.2 1, 8, .inr (.inl b5)))] → va_S A s.heap H locs → lv_has ls 5 [(4, .int y_71), (2, .long y_72), (0, .ref b0), (1, .int b1)] → W p l e m_s1_Sets_hashOf s m ([.ref b0, .int b1] : List Value).toArray below meth c H locs 0 0 (MQ below (zQ G (fun v w => ∃ (e0 : Int32), v = some (.int e0) ∧ w = [(b0, .inr (6, [.int b2, .int 4, .int 2, .ref b3, .ref b4])), (b3, .inl (G.2 1, 8, .inr (.inl b5)))]) A) ([.ref b0, .int b1] : List Value).toArray s m_s1_Sets_hashOf.cells m_s1_Sets_hashOf.slots A) (F0 m 5 ls []) by
    exact key 5 (0) (0) _ _ _ (zI.wk (l' := 0) (h' := 4) zc_0 (by decide)) (zm_upi (zI.wk (l' := 0) (h' := 4) zc_0 (by decide)) (by decide)) hP hD hS (lv_sub hl [0, 1, 2, 3] rfl)
  intro k_70
  induction k_70 with
  | zero =>
    intro y_71 y_72 H locs ls hy_71 hmk_70 hP hD hS hl
    exact (zm_up0 hy_71 hmk_70).elim
  | succ k_70 ihk_70 =>
    intro y_71 y_72 H locs ls hy_71 hmk_70 hP hD hS hl
    refine lv_iload hx hb d_Sets_hashOf_5 (lv_at hl 0 rfl) ?_
    refine lv_aload_n hx hb d_Sets_hashOf_7 rfl (lv_at hl 2 rfl) ?_
    refine va_get (D := G.1) (ci := 6) (v := .int 4) (C := R_Sets) (T := F_Sets) (N := 5) hx hb hts i_Sets hown hK hP 0 rfl rfl 1 (by decide) (hts _ q242) (fun _ h9 => h9) rfl d_Sets_hashOf_8 ?_
    refine lv_icmp_ge (tgt := 48) hx hb d_Sets_hashOf_11 (by decide) (fun hc_73 => ?_) (fun hc_73 => ?_)
    · have _nhc_73 := hc_73
      have ni_74 := (fa_le _ _).mp hc_73
      rw [li_4] at ni_74
      have hv_75 : zI y_71 4 4 := zI.le_r zc_4 hy_71 hc_73 (by decide)
      refine lv_lload_n hx hb d_Sets_hashOf_48 rfl (lv_at hl 1 rfl) ?_
      obtain ⟨v_76, ev_76⟩ : ∃ z : Int32, z = (y_72).toInt32 := ⟨_, rfl⟩
      refine lv_l2i (v := v_76) hx hb d_Sets_hashOf_49 ev_76.symm ?_
      exact z_iret hx hb hr hlocks hP hD hS (Nat.le_of_ble_eq_true rfl) (Nat.le_of_ble_eq_true rfl) d_Sets_hashOf_50 ⟨v_76, rfl, rfl⟩
    · have _nhc_73 := hc_73
      have ni_77 := (fa_lt _ _).mp (zi_nle hc_73)
      rw [li_4] at ni_77
      have hv_78 : zI y_71 0 3 := zI.lt_l hy_71 zc_4 (zi_nle hc_73) (by decide)
      refine lv_lload_n hx hb d_Sets_hashOf_14 rfl (lv_at hl 1 rfl) ?_
      refine lv_aload_n hx hb d_Sets_hashOf_15 rfl (lv_at hl 2 rfl) ?_
      refine va_get (D := G.1) (ci := 6) (v := .ref b3) (C := R_Sets) (T := F_Sets) (N := 5) hx hb hts i_Sets hown hK hP 0 rfl rfl 3 (by decide) (hts _ q244) (fun _ h9 => h9) rfl d_Sets_hashOf_16 ?_
      refine lv_iload_n hx hb d_Sets_hashOf_19 rfl (lv_at hl 3 rfl) ?_
      refine lv_aload_n hx hb d_Sets_hashOf_20 rfl (lv_at hl 2 rfl) ?_
      refine va_get (D := G.1) (ci := 6) (v := .int 4) (C := R_Sets) (T := F_Sets) (N := 5) hx hb hts i_Sets hown hK hP 0 rfl rfl 1 (by decide) (hts _ q242) (fun _ h9 => h9) rfl d_Sets_hashOf_21 ?_
      refine lv_imul hx hb d_Sets_hashOf_24 ?_
      refine lv_topi (fun v_79 ev_79 => ?_)
      obtain ⟨qv_79, hv_79⟩ := zI_mul (l := 0) (h := 4) hb1 zc_4 ev_79 (by decide)
      rw [li_4] at qv_79
      refine lv_iload hx hb d_Sets_hashOf_25 (lv_at hl 0 rfl) ?_
      refine lv_iadd hx hb d_Sets_hashOf_27 ?_
      refine lv_topi (fun v_80 ev_80 => ?_)
      obtain ⟨qv_80, hv_80⟩ := zI_add (l := 0) (h := 7) hv_79 hv_78 ev_80 (by decide)
      refine va_lald hx hb hK hP 1 1 rfl rfl (zI.inn hv_80 (by decide)) d_Sets_hashOf_28 ?_
      refine lv_topl (fun v_81 ev_81 => ?_)
      refine lv_lxor hx hb d_Sets_hashOf_29 ?_
      refine lv_topl (fun v_82 ev_82 => ?_)
      refine lv_ldc2 hx hb hown (hts _ q838) d_Sets_hashOf_30 ?_
      refine lv_lmul hx hb d_Sets_hashOf_33 ?_
      refine lv_topl (fun v_83 ev_83 => ?_)
      refine lv_lstore_n (lv' := [(2, .long v_83), (4, .int y_71), (0, .ref b0), (1, .int b1)]) hx hb d_Sets_hashOf_34 rfl hl (by decide) rfl (fun ls hl => ?_)
      refine lv_lload_n hx hb d_Sets_hashOf_35 rfl (lv_at hl 0 rfl) ?_
      refine lv_lload_n hx hb d_Sets_hashOf_36 rfl (lv_at hl 0 rfl) ?_
      refine lv_bipush (v := 32) hx hb d_Sets_hashOf_37 (by decide) ?_
      obtain ⟨v_84, ev_84⟩ : ∃ z : Int64, z = ((v_83).toUInt64 >>> ((32 : Int32).toInt64.toUInt64 &&& Int64.toUInt64 63)).toInt64 := ⟨_, rfl⟩
      refine lv_lushr (v := v_84) hx hb d_Sets_hashOf_39 ev_84.symm ?_
      refine lv_lxor hx hb d_Sets_hashOf_40 ?_
      refine lv_topl (fun v_85 ev_85 => ?_)
      refine lv_lstore_n (lv' := [(2, .long v_85), (4, .int y_71), (0, .ref b0), (1, .int b1)]) hx hb d_Sets_hashOf_41 rfl hl (by decide) rfl (fun ls hl => ?_)
      obtain ⟨v_86, ev_86⟩ : ∃ z : Int32, z = y_71 + 1 := ⟨_, rfl⟩
      obtain ⟨qv_86, hv_86⟩ := zI_add (l := 1) (h := 4) hv_78 zc_1 ev_86 (by decide)
      rw [li_1] at qv_86
      refine lv_iinc (v := v_86) (lv' := [(4, .int v_86), (2, .long v_85), (0, .ref b0), (1, .int b1)]) hx hb d_Sets_hashOf_42 hl (k := 1) rfl (by rw [ev_86]; rfl) (by decide) rfl (fun ls hl => ?_)
      refine lv_goto (tgt := 5) hx hb d_Sets_hashOf_45 (by decide) ?_
      exact ihk_70 (v_86) (v_85) _ _ _ (zI.wk (l' := 0) (h' := 4) hv_86 (by decide)) (zm_up qv_86 hmk_70 (by decide)) hP hD hS (lv_sub hl [0, 1, 2, 3] rfl)
theorem d_Machine_takes_0 : decode prog_4_method_18_code 0 = .ok (.iconst 0, 1) := by decide +kernel
theorem d_Machine_takes_1 : decode prog_4_method_18_code 1 = .ok (.istore 4, 2) := by decide +kernel
theorem d_Machine_takes_3 : decode prog_4_method_18_code 3 = .ok (.iload 4, 2) := by decide +kernel
theorem d_Machine_takes_5 : decode prog_4_method_18_code 5 = .ok (.iconst 4, 1) := by decide +kernel
theorem d_Machine_takes_6 : decode prog_4_method_18_code 6 = .ok (.if_icmp .ge 32, 3) := by decide +kernel
theorem d_Machine_takes_9 : decode prog_4_method_18_code 9 = .ok (.aload_n 1, 1) := by decide +kernel
theorem d_Machine_takes_10 : decode prog_4_method_18_code 10 = .ok (.iload_n 2, 1) := by decide +kernel
theorem d_Machine_takes_11 : decode prog_4_method_18_code 11 = .ok (.iload_n 3, 1) := by decide +kernel
theorem d_Machine_takes_12 : decode prog_4_method_18_code 12 = .ok (.iload 4, 2) := by decide +kernel
theorem d_Machine_takes_14 : decode prog_4_method_18_code 14 = .ok (.invokevirtual 166, 3) := by decide +kernel
theorem d_Machine_takes_17 : decode prog_4_method_18_code 17 = .ok (.aload_n 0, 1) := by decide +kernel
theorem d_Machine_takes_18 : decode prog_4_method_18_code 18 = .ok (.getfield 29, 3) := by decide +kernel
theorem d_Machine_takes_21 : decode prog_4_method_18_code 21 = .ok (.iload 4, 2) := by decide +kernel
theorem d_Machine_takes_23 : decode prog_4_method_18_code 23 = .ok (.laload, 1) := by decide +kernel
theorem d_Machine_takes_24 : decode prog_4_method_18_code 24 = .ok (.land, 1) := by decide +kernel
theorem d_Machine_takes_25 : decode prog_4_method_18_code 25 = .ok (.lconst 0, 1) := by decide +kernel
theorem d_Machine_takes_26 : decode prog_4_method_18_code 26 = .ok (.lcmp, 1) := by decide +kernel
theorem d_Machine_takes_27 : decode prog_4_method_18_code 27 = .ok (.ifCond .eq 5, 3) := by decide +kernel
theorem d_Machine_takes_30 : decode prog_4_method_18_code 30 = .ok (.iconst 1, 1) := by decide +kernel
theorem d_Machine_takes_31 : decode prog_4_method_18_code 31 = .ok (.ireturn, 1) := by decide +kernel
theorem d_Machine_takes_32 : decode prog_4_method_18_code 32 = .ok (.iinc 4 1, 3) := by decide +kernel
theorem d_Machine_takes_35 : decode prog_4_method_18_code 35 = .ok (.goto (-32), 3) := by decide +kernel
theorem d_Machine_takes_38 : decode prog_4_method_18_code 38 = .ok (.iconst 0, 1) := by decide +kernel
theorem d_Machine_takes_39 : decode prog_4_method_18_code 39 = .ok (.ireturn, 1) := by decide +kernel
abbrev m_s1_Machine_takes : Room := { frames := 1, cells := 0, slots := 0, locals := 23 }
set_option maxHeartbeats 4000000 in
set_option maxRecDepth 100000 in
theorem s1_Machine_takes (l : Launch) (G : zG) (b0 : Nat) (b1 : Nat) (b2 : Int32) (b3 : Int32) (b4 : Int32) (b5 : Int32) (b6 : Nat) (b7 : Nat) (b8 : Nat) (b9 : Nat) (b10 : Nat) (b11 : Nat) (b12 : Int32) (b13 : Nat) (b14 : Nat) (b15 : Nat) (b16 : Nat) (b17 : Nat) (b18 : Nat) (b19 : Nat → Int64) (b20 : Int32) (b21 : Nat) (b22 : Nat) (b23 : Nat → Int64) (hb2 : zI b2 0 1) (hb3 : zI b3 0 0) (hb4 : zI b4 0 1) (hb5 : zI b5 0 241) (hb12 : zI b12 0 240) : zM l G y_Machine_takes prog_4_method_18_code 5 (Option.some Jvm.ClassFile.FieldType.boolean) m_s1_Machine_takes [.ref b0, .ref b1, .int b2, .int b3] [(b0, .inr (5, [.int b4, .int b5, .ref b6, .ref b7, .ref b8, .ref b9, .ref b10, .ref b11, .int b12, .ref b13, .ref b14, .ref b15, .ref b16, .ref b17, .ref b18])), (b11, .inl (G.2 1, 4, .inr (.inl b19))), (b1, .inr (6, [.int b20, .int 4, .int 2, .ref b21, .ref b22])), (b21, .inl (G.2 1, 8, .inr (.inl b23)))] (fun v w => ∃ (e0 : Int32), v = some (.int e0) ∧ w = [(b0, .inr (5, [.int b4, .int b5, .ref b6, .ref b7, .ref b8, .ref b9, .ref b10, .ref b11, .int b12, .ref b13, .ref b14, .ref b15, .ref b16, .ref b17, .ref b18])), (b11, .inl (G.2 1, 4, .inr (.inl b19))), (b1, .inr (6, [.int b20, .int 4, .int 2, .ref b21, .ref b22])), (b21, .inl (G.2 1, 8, .inr (.inl b23)))] ∧ (zI e0 0 1)) := by
  refine z_start (by decide +kernel) (Nat.le_of_ble_eq_true rfl) ?_
  intro p e s m below meth c A Z hr hnm hA hP hD hS ls hl
  have Z : zC p s m _ meth c prog_4_method_18_code 5 "TraceMachines$Machine" G := Z
  obtain ⟨hx, hb, hml, hown, hts, hK, hN, hlocks⟩ := id Z
  have hl : lv_has ls 5 [(0, .ref b0), (1, .ref b1), (2, .int b2), (3, .int b3)] := hl
  refine lv_iconst (v := 0) hx hb d_Machine_takes_0 (by decide) ?_
  refine lv_istore (lv' := [(4, .int 0), (0, .ref b0), (1, .ref b1), (2, .int b2), (3, .int b3)]) hx hb d_Machine_takes_1 hl (by decide) rfl (fun ls hl => ?_)
  suffices key : ∀ (k_75 : Nat) (y_76 : Int32) (H : Heap) (locs : List Loc) (ls : Array Slot), (zI y_76 0 4) → (4 : Int) - y_76.toInt < (k_75 : Int) → va_P G.1 classes [(b0, .inr (5, [.int b4, .int b5, .ref b6, .ref b7, .ref b8, .ref b9, .ref b10, .ref b11, .int b12, .ref b13, .ref b14, .ref b15, .ref b16, .ref b17, .ref b18])), (b11, .inl (G.2 1, 4, .inr (.inl b19))), (b1, .inr (6, [.int b20, .int 4, .int 2, .ref b21, .ref b22])), (b21, .inl (G.2 1, 8, .inr (.inl b23)))] H → va_D A [(b0, .inr (5, [.int b4, .int b5, .ref b6, .ref b7, .ref b8, .ref b9, .ref b10, .ref b11, .int b12, .ref b13, .ref b14, .ref b15, .ref b16, .ref b17, .ref b18])), (b11, .inl (G.2 1, 4, .inr (.inl b19))), (b1, .inr (6, [.int b20, .int 4, .int 2, .ref b21, .ref b22])), (b21, .inl (G.2 1, 8, .inr (.inl b23)))] → va_S A s.heap H locs → lv_has ls 5 [(4, .int y_76), (0, .ref b0), (1, .ref b1), (2, .int b2), (3, .int b3)] → W p l e m_s1_Machine_takes s m ([.ref b0, .ref b1, .int b2, .int b3] : List Value).toArray below meth c H locs 0 0 (MQ below (zQ G (fun v w => ∃ (e0 : Int32), v = some (.int e0) ∧ w = [(b0, .inr (5, [.int b4, .int b5, .ref b6, .ref b7, .ref b8, .ref b9, .ref b10, .ref b11, .int b12, .ref b13, .ref b14, .ref b15, .ref b16, .ref b17, .ref b18])), (b11, .inl (G.2 1, 4, .inr (.inl b19))), (b1, .inr (6, [.int b20, .int 4, .int 2, .ref b21, .ref b22])), (b21, .inl (G.2 1, 8, .inr (.inl b23)))] ∧ (zI e0 0 1)) A) ([.ref b0, .ref b1, .int b2, .int b3] : List Value).toArray s m_s1_Machine_takes.cells m_s1_Machine_takes.slots A) (F0 m 3 ls []) by
    exact key 5 (0) _ _ _ (zI.wk (l' := 0) (h' := 4) zc_0 (by decide)) (zm_upi (zI.wk (l' := 0) (h' := 4) zc_0 (by decide)) (by decide)) hP hD hS (lv_sub hl [0, 1, 2, 3, 4] rfl)
  intro k_75
  induction k_75 with
  | zero =>
    intro y_76 H locs ls hy_76 hmk_75 hP hD hS hl
    exact (zm_up0 hy_76 hmk_75).elim
  | succ k_75 ihk_75 =>
    intro y_76 H locs ls hy_76 hmk_75 hP hD hS hl
    refine lv_iload hx hb d_Machine_takes_3 (lv_at hl 0 rfl) ?_
    refine lv_iconst (v := 4) hx hb d_Machine_takes_5 (by decide) ?_
    refine lv_icmp_ge (tgt := 38) hx hb d_Machine_takes_6 (by decide) (fun hc_77 => ?_) (fun hc_77 => ?_)
    · have _nhc_77 := hc_77
      have ni_78 := (fa_le _ _).mp hc_77
      rw [li_4] at ni_78
      have hv_79 : zI y_76 4 4 := zI.le_r zc_4 hy_76 hc_77 (by decide)
      refine lv_iconst (v := 0) hx hb d_Machine_takes_38 (by decide) ?_
      exact z_zret hx hb hr hlocks rfl hP hD hS (Nat.le_of_ble_eq_true rfl) (Nat.le_of_ble_eq_true rfl) d_Machine_takes_39 ⟨0, rfl, rfl, (zI.wk (l' := 0) (h' := 1) zc_0 (by decide))⟩
    · have _nhc_77 := hc_77
      have ni_80 := (fa_lt _ _).mp (zi_nle hc_77)
      rw [li_4] at ni_80
      have hv_81 : zI y_76 0 3 := zI.lt_l hy_76 zc_4 (zi_nle hc_77) (by decide)
      refine lv_aload_n hx hb d_Machine_takes_9 rfl (lv_at hl 2 rfl) ?_
      refine lv_iload_n hx hb d_Machine_takes_10 rfl (lv_at hl 3 rfl) ?_
      refine lv_iload_n hx hb d_Machine_takes_11 rfl (lv_at hl 4 rfl) ?_
      refine lv_iload hx hb d_Machine_takes_12 (lv_at hl 0 rfl) ?_
      refine z_callV (index := 166) (As := [.int b2, .int b3, .int y_76]) (rest := []) (wr := [(b0, .inr (5, [.int b4, .int b5, .ref b6, .ref b7, .ref b8, .ref b9, .ref b10, .ref b11, .int b12, .ref b13, .ref b14, .ref b15, .ref b16, .ref b17, .ref b18])), (b11, .inl (G.2 1, 4, .inr (.inl b19)))]) Z (s1_Sets_longAt l G (b1) (b2) (b3) (y_76) (b20) (b21) (b22) (b23) hb2 hb3 hv_81) hl.1 q719 q720 q721 q7 q722 ⟨by decide, by decide, by show _ = some 3; decide +kernel⟩ ⟨Nat.le_of_ble_eq_true rfl, Nat.le_of_ble_eq_true rfl⟩ ⟨Nat.le_of_ble_eq_true rfl, Nat.le_of_ble_eq_true rfl⟩ rfl (Nat.le_of_ble_eq_true rfl) d_Machine_takes_14 hP hD hS hA 2 6 rfl rfl rfl [2, 3] [0, 1] rfl rfl rfl rfl (by decide) (fun v w1 H locs hw_82 hP hD hS => ?_)
      obtain ⟨x_83, rfl, rfl⟩ := hw_82
      have hP : va_P G.1 classes [(b0, .inr (5, [.int b4, .int b5, .ref b6, .ref b7, .ref b8, .ref b9, .ref b10, .ref b11, .int b12, .ref b13, .ref b14, .ref b15, .ref b16, .ref b17, .ref b18])), (b11, .inl (G.2 1, 4, .inr (.inl b19))), (b1, .inr (6, [.int b20, .int 4, .int 2, .ref b21, .ref b22])), (b21, .inl (G.2 1, 8, .inr (.inl b23)))] H := hP
      have hD := z_tie hP hD rfl
      refine W.widen (k := 0) (n := 0) (Nat.le_of_ble_eq_true rfl) (Nat.le_of_ble_eq_true rfl) ?_
      refine lv_aload_n hx hb d_Machine_takes_17 rfl (lv_at hl 1 rfl) ?_
      refine va_get (D := G.1) (ci := 5) (v := .ref b11) (C := R_Machine) (T := F_Machine) (N := 15) hx hb hts i_Machine hown hK hP 0 rfl rfl 7 (by decide) (hts _ q181) (fun _ h9 => h9) rfl d_Machine_takes_18 ?_
      refine lv_iload hx hb d_Machine_takes_21 (lv_at hl 0 rfl) ?_
      refine va_lald hx hb hK hP 1 1 rfl rfl (zI.inn hv_81 (by decide)) d_Machine_takes_23 ?_
      refine lv_topl (fun v_84 ev_84 => ?_)
      refine lv_land hx hb d_Machine_takes_24 ?_
      refine lv_topl (fun v_85 ev_85 => ?_)
      refine lv_lconst (v := 0) hx hb d_Machine_takes_25 (by decide) ?_
      refine W.lcmp hx hb d_Machine_takes_26 ?_
      refine lv_topi (fun v_86 ev_86 => ?_)
      refine lv_if_eq (tgt := 32) hx hb d_Machine_takes_27 (by decide) (fun hc_87 => ?_) (fun hc_87 => ?_)
      · have ni_88 := hc_87
        rw [ev_86] at ni_88
        simp only [lg_cmp_lt, lg_cmp_le, lg_cmp_gt, lg_cmp_ge, lg_cmp_eq, fa_lt64, fa_le64, fa_eq64, Int32.toInt_toInt64, ll_0] at ni_88
        have hv_89 : zJ v_85 0 0 := by have _a := ni_88; have _b := (zJ_all v_85); have _c := zcl_0; simp only [Int32.toInt_toInt64] at *; exact ⟨by omega, by omega⟩
        obtain ⟨v_90, ev_90⟩ : ∃ z : Int32, z = y_76 + 1 := ⟨_, rfl⟩
        obtain ⟨qv_90, hv_90⟩ := zI_add (l := 1) (h := 4) hv_81 zc_1 ev_90 (by decide)
        rw [li_1] at qv_90
        refine lv_iinc (v := v_90) (lv' := [(4, .int v_90), (0, .ref b0), (1, .ref b1), (2, .int b2), (3, .int b3)]) hx hb d_Machine_takes_32 hl (k := 0) rfl (by rw [ev_90]; rfl) (by decide) rfl (fun ls hl => ?_)
        refine lv_goto (tgt := 3) hx hb d_Machine_takes_35 (by decide) ?_
        exact ihk_75 (v_90) _ _ _ (zI.wk (l' := 0) (h' := 4) hv_90 (by decide)) (zm_up qv_90 hmk_75 (by decide)) hP hD hS (lv_sub hl [0, 1, 2, 3, 4] rfl)
      · have ni_91 := hc_87
        rw [ev_86] at ni_91
        simp only [lg_cmp_lt, lg_cmp_le, lg_cmp_gt, lg_cmp_ge, lg_cmp_eq, fa_lt64, fa_le64, fa_eq64, Int32.toInt_toInt64, ll_0] at ni_91
        refine lv_iconst (v := 1) hx hb d_Machine_takes_30 (by decide) ?_
        exact z_zret hx hb hr hlocks rfl hP hD hS (Nat.le_of_ble_eq_true rfl) (Nat.le_of_ble_eq_true rfl) d_Machine_takes_31 ⟨1, rfl, rfl, (zI.wk (l' := 0) (h' := 1) zc_1 (by decide))⟩
abbrev m_s2_Machine_gatherFirsts : Room := { frames := 1, cells := 0, slots := 0, locals := 21 }
set_option maxHeartbeats 4000000 in
set_option maxRecDepth 100000 in
theorem s2_Machine_gatherFirsts (l : Launch) (G : zG) (b0 : Nat) (b1 : Int32) (b2 : Int32) (b3 : Nat) (b4 : Nat) (b5 : Nat) (b6 : Nat) (b7 : Nat) (b8 : Nat) (b9 : Int32) (b10 : Nat) (b11 : Nat) (b12 : Nat) (b13 : Nat) (b14 : Nat) (b15 : Nat) (b16 : Nat → Int32) (b17 : Nat → Int32) (hb1 : zI b1 0 1) (hb2 : zI b2 0 241) (hb9 : zI b9 0 240) (hb16 : zK b16) (hb17 : zR b17 0 240) : zM l G y_Machine_gatherFirsts prog_4_method_11_code 3 (Option.none : Option Jvm.ClassFile.FieldType) m_s2_Machine_gatherFirsts [.ref b0] [(b0, .inr (5, [.int b1, .int b2, .ref b3, .ref b4, .ref b5, .ref b6, .ref b7, .ref b8, .int b9, .ref b10, .ref b11, .ref b12, .ref b13, .ref b14, .ref b15])), (b10, .inl (G.2 0, 240, .inl b16)), (b14, .inl (G.2 0, 242, .inl b17))] (fun v w => ∃ (e0 : Nat → Int32), v = none ∧ w = [(b0, .inr (5, [.int b1, .int b2, .ref b3, .ref b4, .ref b5, .ref b6, .ref b7, .ref b8, .int b9, .ref b10, .ref b11, .ref b12, .ref b13, .ref b14, .ref b15])), (b10, .inl (G.2 0, 240, .inl b16)), (b14, .inl (G.2 0, 242, .inl e0))] ∧ (zR e0 0 240)) := by
  refine z_start (by decide +kernel) (Nat.le_of_ble_eq_true rfl) ?_
  intro p e s m below meth c A Z hr hnm hA hP hD hS ls hl
  have Z : zC p s m _ meth c prog_4_method_11_code 3 "TraceMachines$Machine" G := Z
  obtain ⟨hx, hb, hml, hown, hts, hK, hN, hlocks⟩ := id Z
  have hl : lv_has ls 3 [(0, .ref b0)] := hl
  refine lv_iconst (v := 0) hx hb d_Machine_gatherFirsts_0 (by decide) ?_
  refine lv_istore_n (lv' := [(1, .int 0), (0, .ref b0)]) hx hb d_Machine_gatherFirsts_1 rfl hl (by decide) rfl (fun ls hl => ?_)
  refine lv_iconst (v := 0) hx hb d_Machine_gatherFirsts_2 (by decide) ?_
  refine lv_istore_n (lv' := [(2, .int 0), (1, .int 0), (0, .ref b0)]) hx hb d_Machine_gatherFirsts_3 rfl hl (by decide) rfl (fun ls hl => ?_)
  suffices key : ∀ (k_648 : Nat) (y_649 : Int32) (y_650 : Int32) (y_651 : Nat → Int32) (H : Heap) (locs : List Loc) (ls : Array Slot), (zI y_649 0 241) → (zI y_650 0 240) → (zR y_651 0 240) → (241 : Int) - y_649.toInt < (k_648 : Int) → va_P G.1 classes [(b0, .inr (5, [.int b1, .int b2, .ref b3, .ref b4, .ref b5, .ref b6, .ref b7, .ref b8, .int b9, .ref b10, .ref b11, .ref b12, .ref b13, .ref b14, .ref b15])), (b10, .inl (G.2 0, 240, .inl b16)), (b14, .inl (G.2 0, 242, .inl y_651))] H → va_D A [(b0, .inr (5, [.int b1, .int b2, .ref b3, .ref b4, .ref b5, .ref b6, .ref b7, .ref b8, .int b9, .ref b10, .ref b11, .ref b12, .ref b13, .ref b14, .ref b15])), (b10, .inl (G.2 0, 240, .inl b16)), (b14, .inl (G.2 0, 242, .inl y_651))] → va_S A s.heap H locs → lv_has ls 3 [(2, .int y_649), (1, .int y_650), (0, .ref b0)] → W p l e m_s2_Machine_gatherFirsts s m ([.ref b0] : List Value).toArray below meth c H locs 0 0 (MQ below (zQ G (fun v w => ∃ (e0 : Nat → Int32), v = none ∧ w = [(b0, .inr (5, [.int b1, .int b2, .ref b3, .ref b4, .ref b5, .ref b6, .ref b7, .ref b8, .int b9, .ref b10, .ref b11, .ref b12, .ref b13, .ref b14, .ref b15])), (b10, .inl (G.2 0, 240, .inl b16)), (b14, .inl (G.2 0, 242, .inl e0))] ∧ (zR e0 0 240)) A) ([.ref b0] : List Value).toArray s m_s2_Machine_gatherFirsts.cells m_s2_Machine_gatherFirsts.slots A) (F0 m 4 ls []) by
    exact key 242 (0) (0) (b17) _ _ _ (zI.wk (l' := 0) (h' := 241) zc_0 (by decide)) (zI.wk (l' := 0) (h' := 240) zc_0 (by decide)) hb17 (zm_upi (zI.wk (l' := 0) (h' := 241) zc_0 (by decide)) (by decide)) hP hD hS (lv_sub hl [0, 1, 2] rfl)
  intro k_648
  induction k_648 with
  | zero =>
    intro y_649 y_650 y_651 H locs ls hy_649 hy_650 hy_651 hmk_648 hP hD hS hl
    exact (zm_up0 hy_649 hmk_648).elim
  | succ k_648 ihk_648 =>
    intro y_649 y_650 y_651 H locs ls hy_649 hy_650 hy_651 hmk_648 hP hD hS hl
    refine lv_iload_n hx hb d_Machine_gatherFirsts_4 rfl (lv_at hl 0 rfl) ?_
    refine lv_aload_n hx hb d_Machine_gatherFirsts_5 rfl (lv_at hl 2 rfl) ?_
    refine va_get (D := G.1) (ci := 5) (v := .int b2) (C := R_Machine) (T := F_Machine) (N := 15) hx hb hts i_Machine hown hK hP 0 rfl rfl 1 (by decide) (hts _ q168) (fun _ h9 => h9) rfl d_Machine_gatherFirsts_6 ?_
    refine lv_icmp_ge (tgt := 48) hx hb d_Machine_gatherFirsts_9 (by decide) (fun hc_652 => ?_) (fun hc_652 => ?_)
    · have _nhc_652 := hc_652
      have ni_653 := (fa_le _ _).mp hc_652
      refine lv_aload_n hx hb d_Machine_gatherFirsts_48 rfl (lv_at hl 2 rfl) ?_
      refine va_get (D := G.1) (ci := 5) (v := .ref b14) (C := R_Machine) (T := F_Machine) (N := 15) hx hb hts i_Machine hown hK hP 0 rfl rfl 13 (by decide) (hts _ q195) (fun _ h9 => h9) rfl d_Machine_gatherFirsts_49 ?_
      refine lv_aload_n hx hb d_Machine_gatherFirsts_52 rfl (lv_at hl 2 rfl) ?_
      refine va_get (D := G.1) (ci := 5) (v := .int b2) (C := R_Machine) (T := F_Machine) (N := 15) hx hb hts i_Machine hown hK hP 0 rfl rfl 1 (by decide) (hts _ q168) (fun _ h9 => h9) rfl d_Machine_gatherFirsts_53 ?_
      refine lv_aload_n hx hb d_Machine_gatherFirsts_56 rfl (lv_at hl 2 rfl) ?_
      refine va_get (D := G.1) (ci := 5) (v := .int b9) (C := R_Machine) (T := F_Machine) (N := 15) hx hb hts i_Machine hown hK hP 0 rfl rfl 8 (by decide) (hts _ q184) (fun _ h9 => h9) rfl d_Machine_gatherFirsts_57 ?_
      refine va_iast hx hb hK hP hD hS 2 0 rfl rfl (zI.inn hb2 (by decide)) d_Machine_gatherFirsts_60 (fun H locs hP hD hS => ?_)
      obtain ⟨f_654, hf_654, gf_654, hP, hD⟩ := z_newfu 2 hP hD rfl hy_651 hb9
      have hP : va_P G.1 classes [(b0, .inr (5, [.int b1, .int b2, .ref b3, .ref b4, .ref b5, .ref b6, .ref b7, .ref b8, .int b9, .ref b10, .ref b11, .ref b12, .ref b13, .ref b14, .ref b15])), (b10, .inl (G.2 0, 240, .inl b16)), (b14, .inl (G.2 0, 242, .inl f_654))] H := hP
      have hD := z_tie hP hD rfl
      exact z_vret hx hb hr hlocks hP hD hS (Nat.le_of_ble_eq_true rfl) (Nat.le_of_ble_eq_true rfl) d_Machine_gatherFirsts_61 ⟨f_654, rfl, rfl, hf_654⟩
    · have _nhc_652 := hc_652
      have ni_655 := (fa_lt _ _).mp (zi_nle hc_652)
      have hv_656 : zI y_649 0 240 := zI.lt_l hy_649 hb2 (zi_nle hc_652) (by decide)
      have hv_657 : zI b2 1 241 := zI.lt_r hy_649 hb2 (zi_nle hc_652) (by decide)
      refine lv_aload_n hx hb d_Machine_gatherFirsts_12 rfl (lv_at hl 2 rfl) ?_
      refine va_get (D := G.1) (ci := 5) (v := .ref b14) (C := R_Machine) (T := F_Machine) (N := 15) hx hb hts i_Machine hown hK hP 0 rfl rfl 13 (by decide) (hts _ q195) (fun _ h9 => h9) rfl d_Machine_gatherFirsts_13 ?_
      refine lv_iload_n hx hb d_Machine_gatherFirsts_16 rfl (lv_at hl 0 rfl) ?_
      refine lv_iload_n hx hb d_Machine_gatherFirsts_17 rfl (lv_at hl 1 rfl) ?_
      refine va_iast hx hb hK hP hD hS 2 0 rfl rfl (zI.inn hv_656 (by decide)) d_Machine_gatherFirsts_18 (fun H locs hP hD hS => ?_)
      obtain ⟨f_658, hf_658, gf_658, hP, hD⟩ := z_newfu 2 hP hD rfl hy_651 hy_650
      have hP : va_P G.1 classes [(b0, .inr (5, [.int b1, .int b2, .ref b3, .ref b4, .ref b5, .ref b6, .ref b7, .ref b8, .int b9, .ref b10, .ref b11, .ref b12, .ref b13, .ref b14, .ref b15])), (b10, .inl (G.2 0, 240, .inl b16)), (b14, .inl (G.2 0, 242, .inl f_658))] H := hP
      have hD := z_tie hP hD rfl
      suffices key : ∀ (k_686 : Nat) (y_687 : Int32) (H : Heap) (locs : List Loc) (ls : Array Slot), (zI y_687 0 240) → (240 : Int) - y_687.toInt < (k_686 : Int) → va_P G.1 classes [(b0, .inr (5, [.int b1, .int b2, .ref b3, .ref b4, .ref b5, .ref b6, .ref b7, .ref b8, .int b9, .ref b10, .ref b11, .ref b12, .ref b13, .ref b14, .ref b15])), (b10, .inl (G.2 0, 240, .inl b16)), (b14, .inl (G.2 0, 242, .inl f_658))] H → va_D A [(b0, .inr (5, [.int b1, .int b2, .ref b3, .ref b4, .ref b5, .ref b6, .ref b7, .ref b8, .int b9, .ref b10, .ref b11, .ref b12, .ref b13, .ref b14, .ref b15])), (b10, .inl (G.2 0, 240, .inl b16)), (b14, .inl (G.2 0, 242, .inl f_658))] → va_S A s.heap H locs → lv_has ls 3 [(2, .int y_649), (1, .int y_687), (0, .ref b0)] → W p l e m_s2_Machine_gatherFirsts s m ([.ref b0] : List Value).toArray below meth c H locs 0 0 (MQ below (zQ G (fun v w => ∃ (e0 : Nat → Int32), v = none ∧ w = [(b0, .inr (5, [.int b1, .int b2, .ref b3, .ref b4, .ref b5, .ref b6, .ref b7, .ref b8, .int b9, .ref b10, .ref b11, .ref b12, .ref b13, .ref b14, .ref b15])), (b10, .inl (G.2 0, 240, .inl b16)), (b14, .inl (G.2 0, 242, .inl e0))] ∧ (zR e0 0 240)) A) ([.ref b0] : List Value).toArray s m_s2_Machine_gatherFirsts.cells m_s2_Machine_gatherFirsts.slots A) (F0 m 19 ls []) by
        exact key 241 (y_650) _ _ _ hy_650 (zm_upi hy_650 (by decide)) hP hD hS (lv_sub hl [0, 1, 2] rfl)
      intro k_686
      induction k_686 with
      | zero =>
        intro y_687 H locs ls hy_687 hmk_686 hP hD hS hl
        exact (zm_up0 hy_687 hmk_686).elim
      | succ k_686 ihk_686 =>
        intro y_687 H locs ls hy_687 hmk_686 hP hD hS hl
        refine lv_iload_n hx hb d_Machine_gatherFirsts_19 rfl (lv_at hl 1 rfl) ?_
        refine lv_aload_n hx hb d_Machine_gatherFirsts_20 rfl (lv_at hl 2 rfl) ?_
        refine va_get (D := G.1) (ci := 5) (v := .int b9) (C := R_Machine) (T := F_Machine) (N := 15) hx hb hts i_Machine hown hK hP 0 rfl rfl 8 (by decide) (hts _ q184) (fun _ h9 => h9) rfl d_Machine_gatherFirsts_21 ?_
        refine lv_icmp_ge (tgt := 42) hx hb d_Machine_gatherFirsts_24 (by decide) (fun hc_688 => ?_) (fun hc_688 => ?_)
        · have _nhc_688 := hc_688
          have ni_689 := (fa_le _ _).mp hc_688
          obtain ⟨v_690, ev_690⟩ : ∃ z : Int32, z = y_649 + 1 := ⟨_, rfl⟩
          obtain ⟨qv_690, hv_690⟩ := zI_add (l := 1) (h := 241) hv_656 zc_1 ev_690 (by decide)
          rw [li_1] at qv_690
          refine lv_iinc (v := v_690) (lv' := [(2, .int v_690), (1, .int y_687), (0, .ref b0)]) hx hb d_Machine_gatherFirsts_42 hl (k := 0) rfl (by rw [ev_690]; rfl) (by decide) rfl (fun ls hl => ?_)
          refine lv_goto (tgt := 4) hx hb d_Machine_gatherFirsts_45 (by decide) ?_
          exact ihk_648 (v_690) (y_687) (f_658) _ _ _ (zI.wk (l' := 0) (h' := 241) hv_690 (by decide)) hy_687 hf_658 (zm_up qv_690 hmk_648 (by decide)) hP hD hS (lv_sub hl [0, 1, 2] rfl)
        · have _nhc_688 := hc_688
          have ni_691 := (fa_lt _ _).mp (zi_nle hc_688)
          have hv_692 : zI y_687 0 239 := zI.lt_l hy_687 hb9 (zi_nle hc_688) (by decide)
          have hv_693 : zI b9 1 240 := zI.lt_r hy_687 hb9 (zi_nle hc_688) (by decide)
          refine lv_aload_n hx hb d_Machine_gatherFirsts_27 rfl (lv_at hl 2 rfl) ?_
          refine lv_iload_n hx hb d_Machine_gatherFirsts_28 rfl (lv_at hl 1 rfl) ?_
          refine z_callV (index := 133) (As := [.int y_687]) (rest := []) (wr := [(b14, .inl (G.2 0, 242, .inl f_658))]) Z (s1_Machine_from l G (b0) (y_687) (b1) (b2) (b3) (b4) (b5) (b6) (b7) (b8) (b9) (b10) (b11) (b12) (b13) (b14) (b15) (b16) hv_692 hb1 (zI.wk (l' := 0) (h' := 241) hv_657 (by decide)) (zI.wk (l' := 0) (h' := 240) hv_693 (by decide)) hb16) hl.1 q660 q661 q662 q6 q663 ⟨by decide, by decide, by show _ = some 1; decide +kernel⟩ ⟨Nat.le_of_ble_eq_true rfl, Nat.le_of_ble_eq_true rfl⟩ ⟨Nat.le_of_ble_eq_true rfl, Nat.le_of_ble_eq_true rfl⟩ rfl (Nat.le_of_ble_eq_true rfl) d_Machine_gatherFirsts_29 hP hD hS hA 0 5 rfl rfl rfl [0, 1] [2] rfl rfl rfl rfl (by decide) (fun v w1 H locs hw_694 hP hD hS => ?_)
          obtain ⟨x_695, rfl, rfl, hx_695⟩ := hw_694
          have hP : va_P G.1 classes [(b14, .inl (G.2 0, 242, .inl f_658)), (b0, .inr (5, [.int b1, .int b2, .ref b3, .ref b4, .ref b5, .ref b6, .ref b7, .ref b8, .int b9, .ref b10, .ref b11, .ref b12, .ref b13, .ref b14, .ref b15])), (b10, .inl (G.2 0, 240, .inl b16))] H := hP
          have hD := z_tie hP hD rfl
          refine W.widen (k := 0) (n := 0) (Nat.le_of_ble_eq_true rfl) (Nat.le_of_ble_eq_true rfl) ?_
          refine lv_iload_n hx hb d_Machine_gatherFirsts_32 rfl (lv_at hl 0 rfl) ?_
          refine lv_icmp_ne (tgt := 42) hx hb d_Machine_gatherFirsts_33 (by decide) (fun hc_696 => ?_) (fun hc_696 => ?_)
          · have _nhc_696 := hc_696
            have ni_697 := fun z => hc_696 ((fa_eq _ _).mpr z)
            obtain ⟨v_698, ev_698⟩ : ∃ z : Int32, z = y_649 + 1 := ⟨_, rfl⟩
            obtain ⟨qv_698, hv_698⟩ := zI_add (l := 1) (h := 241) hv_656 zc_1 ev_698 (by decide)
            rw [li_1] at qv_698
            refine lv_iinc (v := v_698) (lv' := [(2, .int v_698), (1, .int y_687), (0, .ref b0)]) hx hb d_Machine_gatherFirsts_42 hl (k := 0) rfl (by rw [ev_698]; rfl) (by decide) rfl (fun ls hl => ?_)
            refine lv_goto (tgt := 4) hx hb d_Machine_gatherFirsts_45 (by decide) ?_
            exact ihk_648 (v_698) (y_687) (f_658) _ _ _ (zI.wk (l' := 0) (h' := 241) hv_698 (by decide)) (zI.wk (l' := 0) (h' := 240) hv_692 (by decide)) hf_658 (zm_up qv_698 hmk_648 (by decide)) (hP.sub [1, 2, 0] rfl) (hD.sub [1, 2, 0] (by decide) rfl) hS (lv_sub hl [0, 1, 2] rfl)
          · have _nhc_696 := hc_696
            have ni_699 := (fa_eq _ _).mp hc_696
            obtain ⟨v_700, ev_700⟩ : ∃ z : Int32, z = y_687 + 1 := ⟨_, rfl⟩
            obtain ⟨qv_700, hv_700⟩ := zI_add (l := 1) (h := 240) hv_692 zc_1 ev_700 (by decide)
            rw [li_1] at qv_700
            refine lv_iinc (v := v_700) (lv' := [(1, .int v_700), (2, .int y_649), (0, .ref b0)]) hx hb d_Machine_gatherFirsts_36 hl (k := 1) rfl (by rw [ev_700]; rfl) (by decide) rfl (fun ls hl => ?_)
            refine lv_goto (tgt := 19) hx hb d_Machine_gatherFirsts_39 (by decide) ?_
            exact ihk_686 (v_700) _ _ _ (zI.wk (l' := 0) (h' := 240) hv_700 (by decide)) (zm_up qv_700 hmk_686 (by decide)) (hP.sub [1, 2, 0] rfl) (hD.sub [1, 2, 0] (by decide) rfl) hS (lv_sub hl [1, 0, 2] rfl)
theorem d_Follows_hashOf_0 : decode prog_3_method_6_code 0 = .ok (.iconst 0, 1) := by decide +kernel
theorem d_Follows_hashOf_1 : decode prog_3_method_6_code 1 = .ok (.istore_n 2, 1) := by decide +kernel
theorem d_Follows_hashOf_2 : decode prog_3_method_6_code 2 = .ok (.iload_n 1, 1) := by decide +kernel
theorem d_Follows_hashOf_3 : decode prog_3_method_6_code 3 = .ok (.bipush 20, 2) := by decide +kernel
theorem d_Follows_hashOf_5 : decode prog_3_method_6_code 5 = .ok (.imul, 1) := by decide +kernel
theorem d_Follows_hashOf_6 : decode prog_3_method_6_code 6 = .ok (.istore_n 3, 1) := by decide +kernel
theorem d_Follows_hashOf_7 : decode prog_3_method_6_code 7 = .ok (.iload_n 3, 1) := by decide +kernel
theorem d_Follows_hashOf_8 : decode prog_3_method_6_code 8 = .ok (.istore 4, 2) := by decide +kernel
theorem d_Follows_hashOf_10 : decode prog_3_method_6_code 10 = .ok (.iload 4, 2) := by decide +kernel
theorem d_Follows_hashOf_12 : decode prog_3_method_6_code 12 = .ok (.iload_n 3, 1) := by decide +kernel
theorem d_Follows_hashOf_13 : decode prog_3_method_6_code 13 = .ok (.aload_n 0, 1) := by decide +kernel
theorem d_Follows_hashOf_14 : decode prog_3_method_6_code 14 = .ok (.getfield 9, 3) := by decide +kernel
theorem d_Follows_hashOf_17 : decode prog_3_method_6_code 17 = .ok (.iload_n 1, 1) := by decide +kernel
theorem d_Follows_hashOf_18 : decode prog_3_method_6_code 18 = .ok (.iaload, 1) := by decide +kernel
theorem d_Follows_hashOf_19 : decode prog_3_method_6_code 19 = .ok (.iadd, 1) := by decide +kernel
theorem d_Follows_hashOf_20 : decode prog_3_method_6_code 20 = .ok (.if_icmp .ge 24, 3) := by decide +kernel
theorem d_Follows_hashOf_23 : decode prog_3_method_6_code 23 = .ok (.bipush 31, 2) := by decide +kernel
theorem d_Follows_hashOf_25 : decode prog_3_method_6_code 25 = .ok (.iload_n 2, 1) := by decide +kernel
theorem d_Follows_hashOf_26 : decode prog_3_method_6_code 26 = .ok (.imul, 1) := by decide +kernel
theorem d_Follows_hashOf_27 : decode prog_3_method_6_code 27 = .ok (.aload_n 0, 1) := by decide +kernel
theorem d_Follows_hashOf_28 : decode prog_3_method_6_code 28 = .ok (.getfield 15, 3) := by decide +kernel
theorem d_Follows_hashOf_31 : decode prog_3_method_6_code 31 = .ok (.iload 4, 2) := by decide +kernel
theorem d_Follows_hashOf_33 : decode prog_3_method_6_code 33 = .ok (.iaload, 1) := by decide +kernel
theorem d_Follows_hashOf_34 : decode prog_3_method_6_code 34 = .ok (.iadd, 1) := by decide +kernel
theorem d_Follows_hashOf_35 : decode prog_3_method_6_code 35 = .ok (.iconst 1, 1) := by decide +kernel
theorem d_Follows_hashOf_36 : decode prog_3_method_6_code 36 = .ok (.iadd, 1) := by decide +kernel
theorem d_Follows_hashOf_37 : decode prog_3_method_6_code 37 = .ok (.istore_n 2, 1) := by decide +kernel
theorem d_Follows_hashOf_38 : decode prog_3_method_6_code 38 = .ok (.iinc 4 1, 3) := by decide +kernel
theorem d_Follows_hashOf_41 : decode prog_3_method_6_code 41 = .ok (.goto (-31), 3) := by decide +kernel
theorem d_Follows_hashOf_44 : decode prog_3_method_6_code 44 = .ok (.iload_n 2, 1) := by decide +kernel
theorem d_Follows_hashOf_45 : decode prog_3_method_6_code 45 = .ok (.iload_n 2, 1) := by decide +kernel
theorem d_Follows_hashOf_46 : decode prog_3_method_6_code 46 = .ok (.bipush 9, 2) := by decide +kernel
theorem d_Follows_hashOf_48 : decode prog_3_method_6_code 48 = .ok (.iushr, 1) := by decide +kernel
theorem d_Follows_hashOf_49 : decode prog_3_method_6_code 49 = .ok (.ixor, 1) := by decide +kernel
theorem d_Follows_hashOf_50 : decode prog_3_method_6_code 50 = .ok (.ireturn, 1) := by decide +kernel
abbrev m_s1_Follows_hashOf : Room := { frames := 0, cells := 0, slots := 0, locals := 0 }
set_option maxHeartbeats 4000000 in
set_option maxRecDepth 100000 in
theorem s1_Follows_hashOf (l : Launch) (G : zG) (b0 : Nat) (b1 : Int32) (b2 : Nat) (b3 : Nat) (b4 : Nat) (b5 : Nat → Int32) (b6 : Nat → Int32) (hb1 : zI b1 0 240) (hb5 : zR b5 0 20) : zM l G y_Follows_hashOf prog_3_method_6_code 5 (Option.some Jvm.ClassFile.FieldType.int) m_s1_Follows_hashOf [.ref b0, .int b1] [(b0, .inr (4, [.ref b2, .ref b3, .ref b4])), (b2, .inl (G.2 0, 241, .inl b5)), (b3, .inl (G.2 0, 4820, .inl b6))] (fun v w => ∃ (e0 : Int32), v = some (.int e0) ∧ w = [(b0, .inr (4, [.ref b2, .ref b3, .ref b4])), (b2, .inl (G.2 0, 241, .inl b5)), (b3, .inl (G.2 0, 4820, .inl b6))]) := by
  refine z_start (by decide +kernel) (Nat.le_of_ble_eq_true rfl) ?_
  intro p e s m below meth c A Z hr hnm hA hP hD hS ls hl
  have Z : zC p s m _ meth c prog_3_method_6_code 5 "TraceMachines$Follows" G := Z
  obtain ⟨hx, hb, hml, hown, hts, hK, hN, hlocks⟩ := id Z
  have hl : lv_has ls 5 [(0, .ref b0), (1, .int b1)] := hl
  refine lv_iconst (v := 0) hx hb d_Follows_hashOf_0 (by decide) ?_
  refine lv_istore_n (lv' := [(2, .int 0), (0, .ref b0), (1, .int b1)]) hx hb d_Follows_hashOf_1 rfl hl (by decide) rfl (fun ls hl => ?_)
  refine lv_iload_n hx hb d_Follows_hashOf_2 rfl (lv_at hl 2 rfl) ?_
  refine lv_bipush (v := 20) hx hb d_Follows_hashOf_3 (by decide) ?_
  refine lv_imul hx hb d_Follows_hashOf_5 ?_
  refine lv_topi (fun v_1 ev_1 => ?_)
  obtain ⟨qv_1, hv_1⟩ := zI_mul (l := 0) (h := 4800) hb1 zc_20 ev_1 (by decide)
  rw [li_20] at qv_1
  refine lv_istore_n (lv' := [(3, .int v_1), (2, .int 0), (0, .ref b0), (1, .int b1)]) hx hb d_Follows_hashOf_6 rfl hl (by decide) rfl (fun ls hl => ?_)
  refine lv_iload_n hx hb d_Follows_hashOf_7 rfl (lv_at hl 0 rfl) ?_
  refine lv_istore (lv' := [(4, .int v_1), (3, .int v_1), (2, .int 0), (0, .ref b0), (1, .int b1)]) hx hb d_Follows_hashOf_8 hl (by decide) rfl (fun ls hl => ?_)
  suffices key : ∀ (k_77 : Nat) (y_78 : Int32) (y_79 : Int32) (H : Heap) (locs : List Loc) (ls : Array Slot), (zI y_78 0 4820) → (4820 : Int) - y_78.toInt < (k_77 : Int) → va_P G.1 classes [(b0, .inr (4, [.ref b2, .ref b3, .ref b4])), (b2, .inl (G.2 0, 241, .inl b5)), (b3, .inl (G.2 0, 4820, .inl b6))] H → va_D A [(b0, .inr (4, [.ref b2, .ref b3, .ref b4])), (b2, .inl (G.2 0, 241, .inl b5)), (b3, .inl (G.2 0, 4820, .inl b6))] → va_S A s.heap H locs → lv_has ls 5 [(4, .int y_78), (3, .int v_1), (2, .int y_79), (0, .ref b0), (1, .int b1)] → W p l e m_s1_Follows_hashOf s m ([.ref b0, .int b1] : List Value).toArray below meth c H locs 0 0 (MQ below (zQ G (fun v w => ∃ (e0 : Int32), v = some (.int e0) ∧ w = [(b0, .inr (4, [.ref b2, .ref b3, .ref b4])), (b2, .inl (G.2 0, 241, .inl b5)), (b3, .inl (G.2 0, 4820, .inl b6))]) A) ([.ref b0, .int b1] : List Value).toArray s m_s1_Follows_hashOf.cells m_s1_Follows_hashOf.slots A) (F0 m 10 ls []) by
    exact key 4821 (v_1) (0) _ _ _ (zI.wk (l' := 0) (h' := 4820) hv_1 (by decide)) (zm_upi (zI.wk (l' := 0) (h' := 4820) hv_1 (by decide)) (by decide)) hP hD hS (lv_sub hl [0, 1, 2, 3, 4] rfl)
  intro k_77
  induction k_77 with
  | zero =>
    intro y_78 y_79 H locs ls hy_78 hmk_77 hP hD hS hl
    exact (zm_up0 hy_78 hmk_77).elim
  | succ k_77 ihk_77 =>
    intro y_78 y_79 H locs ls hy_78 hmk_77 hP hD hS hl
    refine lv_iload hx hb d_Follows_hashOf_10 (lv_at hl 0 rfl) ?_
    refine lv_iload_n hx hb d_Follows_hashOf_12 rfl (lv_at hl 1 rfl) ?_
    refine lv_aload_n hx hb d_Follows_hashOf_13 rfl (lv_at hl 3 rfl) ?_
    refine va_get (D := G.1) (ci := 4) (v := .ref b2) (C := R_Follows) (T := F_Follows) (N := 3) hx hb hts i_Follows hown hK hP 0 rfl rfl 0 (by decide) (hts _ q146) (fun _ h9 => h9) rfl d_Follows_hashOf_14 ?_
    refine lv_iload_n hx hb d_Follows_hashOf_17 rfl (lv_at hl 4 rfl) ?_
    refine va_iald hx hb hK hP 1 0 rfl rfl (zI.inn hb1 (by decide)) d_Follows_hashOf_18 ?_
    refine lv_topi (fun v_80 ev_80 => ?_)
    have hv_80 : zI v_80 0 20 := (hb5 _).eq ev_80
    refine lv_iadd hx hb d_Follows_hashOf_19 ?_
    refine lv_topi (fun v_81 ev_81 => ?_)
    obtain ⟨qv_81, hv_81⟩ := zI_add (l := 0) (h := 4820) hv_1 hv_80 ev_81 (by decide)
    refine lv_icmp_ge (tgt := 44) hx hb d_Follows_hashOf_20 (by decide) (fun hc_82 => ?_) (fun hc_82 => ?_)
    · have _nhc_82 := hc_82
      have ni_83 := (fa_le _ _).mp hc_82
      refine lv_iload_n hx hb d_Follows_hashOf_44 rfl (lv_at hl 2 rfl) ?_
      refine lv_iload_n hx hb d_Follows_hashOf_45 rfl (lv_at hl 2 rfl) ?_
      refine lv_bipush (v := 9) hx hb d_Follows_hashOf_46 (by decide) ?_
      obtain ⟨v_84, ev_84⟩ : ∃ z : Int32, z = ((y_79).toUInt32 >>> ((9 : Int32).toUInt32 &&& Int32.toUInt32 31)).toInt32 := ⟨_, rfl⟩
      refine lv_iushr (v := v_84) hx hb d_Follows_hashOf_48 ev_84.symm ?_
      refine lv_ixor hx hb d_Follows_hashOf_49 ?_
      refine lv_topi (fun v_85 ev_85 => ?_)
      exact z_iret hx hb hr hlocks hP hD hS (Nat.le_of_ble_eq_true rfl) (Nat.le_of_ble_eq_true rfl) d_Follows_hashOf_50 ⟨v_85, rfl, rfl⟩
    · have _nhc_82 := hc_82
      have ni_86 := (fa_lt _ _).mp (zi_nle hc_82)
      have hv_87 : zI y_78 0 4819 := zI.lt_l hy_78 hv_81 (zi_nle hc_82) (by decide)
      have hv_88 : zI v_81 1 4820 := zI.lt_r hy_78 hv_81 (zi_nle hc_82) (by decide)
      refine lv_bipush (v := 31) hx hb d_Follows_hashOf_23 (by decide) ?_
      refine lv_iload_n hx hb d_Follows_hashOf_25 rfl (lv_at hl 2 rfl) ?_
      refine lv_imul hx hb d_Follows_hashOf_26 ?_
      refine lv_topi (fun v_89 ev_89 => ?_)
      refine lv_aload_n hx hb d_Follows_hashOf_27 rfl (lv_at hl 3 rfl) ?_
      refine va_get (D := G.1) (ci := 4) (v := .ref b3) (C := R_Follows) (T := F_Follows) (N := 3) hx hb hts i_Follows hown hK hP 0 rfl rfl 1 (by decide) (hts _ q148) (fun _ h9 => h9) rfl d_Follows_hashOf_28 ?_
      refine lv_iload hx hb d_Follows_hashOf_31 (lv_at hl 0 rfl) ?_
      refine va_iald hx hb hK hP 2 0 rfl rfl (zI.inn hv_87 (by decide)) d_Follows_hashOf_33 ?_
      refine lv_topi (fun v_90 ev_90 => ?_)
      refine lv_iadd hx hb d_Follows_hashOf_34 ?_
      refine lv_topi (fun v_91 ev_91 => ?_)
      refine lv_iconst (v := 1) hx hb d_Follows_hashOf_35 (by decide) ?_
      refine lv_iadd hx hb d_Follows_hashOf_36 ?_
      refine lv_topi (fun v_92 ev_92 => ?_)
      refine lv_istore_n (lv' := [(2, .int v_92), (4, .int y_78), (3, .int v_1), (0, .ref b0), (1, .int b1)]) hx hb d_Follows_hashOf_37 rfl hl (by decide) rfl (fun ls hl => ?_)
      obtain ⟨v_93, ev_93⟩ : ∃ z : Int32, z = y_78 + 1 := ⟨_, rfl⟩
      obtain ⟨qv_93, hv_93⟩ := zI_add (l := 1) (h := 4820) hv_87 zc_1 ev_93 (by decide)
      rw [li_1] at qv_93
      refine lv_iinc (v := v_93) (lv' := [(4, .int v_93), (2, .int v_92), (3, .int v_1), (0, .ref b0), (1, .int b1)]) hx hb d_Follows_hashOf_38 hl (k := 1) rfl (by rw [ev_93]; rfl) (by decide) rfl (fun ls hl => ?_)
      refine lv_goto (tgt := 10) hx hb d_Follows_hashOf_41 (by decide) ?_
      exact ihk_77 (v_93) (v_92) _ _ _ (zI.wk (l' := 0) (h' := 4820) hv_93 (by decide)) (zm_up qv_93 hmk_77 (by decide)) hP hD hS (lv_sub hl [0, 2, 1, 3, 4] rfl)
theorem d_Follows_isLike_0 : decode prog_3_method_7_code 0 = .ok (.aload_n 0, 1) := by decide +kernel
theorem d_Follows_isLike_1 : decode prog_3_method_7_code 1 = .ok (.getfield 9, 3) := by decide +kernel
theorem d_Follows_isLike_4 : decode prog_3_method_7_code 4 = .ok (.iload_n 1, 1) := by decide +kernel
theorem d_Follows_isLike_5 : decode prog_3_method_7_code 5 = .ok (.iaload, 1) := by decide +kernel
theorem d_Follows_isLike_6 : decode prog_3_method_7_code 6 = .ok (.aload_n 0, 1) := by decide +kernel
theorem d_Follows_isLike_7 : decode prog_3_method_7_code 7 = .ok (.getfield 9, 3) := by decide +kernel
theorem d_Follows_isLike_10 : decode prog_3_method_7_code 10 = .ok (.iload_n 2, 1) := by decide +kernel
theorem d_Follows_isLike_11 : decode prog_3_method_7_code 11 = .ok (.iaload, 1) := by decide +kernel
theorem d_Follows_isLike_12 : decode prog_3_method_7_code 12 = .ok (.if_icmp .eq 5, 3) := by decide +kernel
theorem d_Follows_isLike_15 : decode prog_3_method_7_code 15 = .ok (.iconst 0, 1) := by decide +kernel
theorem d_Follows_isLike_16 : decode prog_3_method_7_code 16 = .ok (.ireturn, 1) := by decide +kernel
theorem d_Follows_isLike_17 : decode prog_3_method_7_code 17 = .ok (.iconst 0, 1) := by decide +kernel
theorem d_Follows_isLike_18 : decode prog_3_method_7_code 18 = .ok (.istore_n 3, 1) := by decide +kernel
theorem d_Follows_isLike_19 : decode prog_3_method_7_code 19 = .ok (.iload_n 3, 1) := by decide +kernel
theorem d_Follows_isLike_20 : decode prog_3_method_7_code 20 = .ok (.aload_n 0, 1) := by decide +kernel
theorem d_Follows_isLike_21 : decode prog_3_method_7_code 21 = .ok (.getfield 9, 3) := by decide +kernel
theorem d_Follows_isLike_24 : decode prog_3_method_7_code 24 = .ok (.iload_n 1, 1) := by decide +kernel
theorem d_Follows_isLike_25 : decode prog_3_method_7_code 25 = .ok (.iaload, 1) := by decide +kernel
theorem d_Follows_isLike_26 : decode prog_3_method_7_code 26 = .ok (.if_icmp .ge 36, 3) := by decide +kernel
theorem d_Follows_isLike_29 : decode prog_3_method_7_code 29 = .ok (.aload_n 0, 1) := by decide +kernel
theorem d_Follows_isLike_30 : decode prog_3_method_7_code 30 = .ok (.getfield 15, 3) := by decide +kernel
theorem d_Follows_isLike_33 : decode prog_3_method_7_code 33 = .ok (.iload_n 1, 1) := by decide +kernel
theorem d_Follows_isLike_34 : decode prog_3_method_7_code 34 = .ok (.bipush 20, 2) := by decide +kernel
theorem d_Follows_isLike_36 : decode prog_3_method_7_code 36 = .ok (.imul, 1) := by decide +kernel
theorem d_Follows_isLike_37 : decode prog_3_method_7_code 37 = .ok (.iload_n 3, 1) := by decide +kernel
theorem d_Follows_isLike_38 : decode prog_3_method_7_code 38 = .ok (.iadd, 1) := by decide +kernel
theorem d_Follows_isLike_39 : decode prog_3_method_7_code 39 = .ok (.iaload, 1) := by decide +kernel
theorem d_Follows_isLike_40 : decode prog_3_method_7_code 40 = .ok (.aload_n 0, 1) := by decide +kernel
theorem d_Follows_isLike_41 : decode prog_3_method_7_code 41 = .ok (.getfield 15, 3) := by decide +kernel
theorem d_Follows_isLike_44 : decode prog_3_method_7_code 44 = .ok (.iload_n 2, 1) := by decide +kernel
theorem d_Follows_isLike_45 : decode prog_3_method_7_code 45 = .ok (.bipush 20, 2) := by decide +kernel
theorem d_Follows_isLike_47 : decode prog_3_method_7_code 47 = .ok (.imul, 1) := by decide +kernel
theorem d_Follows_isLike_48 : decode prog_3_method_7_code 48 = .ok (.iload_n 3, 1) := by decide +kernel
theorem d_Follows_isLike_49 : decode prog_3_method_7_code 49 = .ok (.iadd, 1) := by decide +kernel
theorem d_Follows_isLike_50 : decode prog_3_method_7_code 50 = .ok (.iaload, 1) := by decide +kernel
theorem d_Follows_isLike_51 : decode prog_3_method_7_code 51 = .ok (.if_icmp .eq 5, 3) := by decide +kernel
theorem d_Follows_isLike_54 : decode prog_3_method_7_code 54 = .ok (.iconst 0, 1) := by decide +kernel
theorem d_Follows_isLike_55 : decode prog_3_method_7_code 55 = .ok (.ireturn, 1) := by decide +kernel
theorem d_Follows_isLike_56 : decode prog_3_method_7_code 56 = .ok (.iinc 3 1, 3) := by decide +kernel
theorem d_Follows_isLike_59 : decode prog_3_method_7_code 59 = .ok (.goto (-40), 3) := by decide +kernel
theorem d_Follows_isLike_62 : decode prog_3_method_7_code 62 = .ok (.iconst 1, 1) := by decide +kernel
theorem d_Follows_isLike_63 : decode prog_3_method_7_code 63 = .ok (.ireturn, 1) := by decide +kernel
abbrev m_s1_Follows_isLike : Room := { frames := 0, cells := 0, slots := 0, locals := 0 }
set_option maxHeartbeats 4000000 in
set_option maxRecDepth 100000 in
theorem s1_Follows_isLike (l : Launch) (G : zG) (b0 : Nat) (b1 : Int32) (b2 : Int32) (b3 : Nat) (b4 : Nat) (b5 : Nat) (b6 : Nat → Int32) (b7 : Nat → Int32) (hb1 : zI b1 0 240) (hb2 : zI b2 0 240) (hb6 : zR b6 0 20) : zM l G y_Follows_isLike prog_3_method_7_code 4 (Option.some Jvm.ClassFile.FieldType.boolean) m_s1_Follows_isLike [.ref b0, .int b1, .int b2] [(b0, .inr (4, [.ref b3, .ref b4, .ref b5])), (b3, .inl (G.2 0, 241, .inl b6)), (b4, .inl (G.2 0, 4820, .inl b7))] (fun v w => ∃ (e0 : Int32), v = some (.int e0) ∧ w = [(b0, .inr (4, [.ref b3, .ref b4, .ref b5])), (b3, .inl (G.2 0, 241, .inl b6)), (b4, .inl (G.2 0, 4820, .inl b7))] ∧ (zI e0 0 1)) := by
  refine z_start (by decide +kernel) (Nat.le_of_ble_eq_true rfl) ?_
  intro p e s m below meth c A Z hr hnm hA hP hD hS ls hl
  have Z : zC p s m _ meth c prog_3_method_7_code 4 "TraceMachines$Follows" G := Z
  obtain ⟨hx, hb, hml, hown, hts, hK, hN, hlocks⟩ := id Z
  have hl : lv_has ls 4 [(0, .ref b0), (1, .int b1), (2, .int b2)] := hl
  refine lv_aload_n hx hb d_Follows_isLike_0 rfl (lv_at hl 0 rfl) ?_
  refine va_get (D := G.1) (ci := 4) (v := .ref b3) (C := R_Follows) (T := F_Follows) (N := 3) hx hb hts i_Follows hown hK hP 0 rfl rfl 0 (by decide) (hts _ q146) (fun _ h9 => h9) rfl d_Follows_isLike_1 ?_
  refine lv_iload_n hx hb d_Follows_isLike_4 rfl (lv_at hl 1 rfl) ?_
  refine va_iald hx hb hK hP 1 0 rfl rfl (zI.inn hb1 (by decide)) d_Follows_isLike_5 ?_
  refine lv_topi (fun v_1 ev_1 => ?_)
  have hv_1 : zI v_1 0 20 := (hb6 _).eq ev_1
  refine lv_aload_n hx hb d_Follows_isLike_6 rfl (lv_at hl 0 rfl) ?_
  refine va_get (D := G.1) (ci := 4) (v := .ref b3) (C := R_Follows) (T := F_Follows) (N := 3) hx hb hts i_Follows hown hK hP 0 rfl rfl 0 (by decide) (hts _ q146) (fun _ h9 => h9) rfl d_Follows_isLike_7 ?_
  refine lv_iload_n hx hb d_Follows_isLike_10 rfl (lv_at hl 2 rfl) ?_
  refine va_iald hx hb hK hP 1 0 rfl rfl (zI.inn hb2 (by decide)) d_Follows_isLike_11 ?_
  refine lv_topi (fun v_2 ev_2 => ?_)
  have hv_2 : zI v_2 0 20 := (hb6 _).eq ev_2
  refine lv_icmp_eq (tgt := 17) hx hb d_Follows_isLike_12 (by decide) (fun hc_3 => ?_) (fun hc_3 => ?_)
  · have _nhc_3 := hc_3
    have ni_4 := (fa_eq _ _).mp hc_3
    refine lv_iconst (v := 0) hx hb d_Follows_isLike_17 (by decide) ?_
    refine lv_istore_n (lv' := [(3, .int 0), (0, .ref b0), (1, .int b1), (2, .int b2)]) hx hb d_Follows_isLike_18 rfl hl (by decide) rfl (fun ls hl => ?_)
    suffices key : ∀ (k_105 : Nat) (y_106 : Int32) (H : Heap) (locs : List Loc) (ls : Array Slot), (zI y_106 0 20) → (20 : Int) - y_106.toInt < (k_105 : Int) → va_P G.1 classes [(b0, .inr (4, [.ref b3, .ref b4, .ref b5])), (b3, .inl (G.2 0, 241, .inl b6)), (b4, .inl (G.2 0, 4820, .inl b7))] H → va_D A [(b0, .inr (4, [.ref b3, .ref b4, .ref b5])), (b3, .inl (G.2 0, 241, .inl b6)), (b4, .inl (G.2 0, 4820, .inl b7))] → va_S A s.heap H locs → lv_has ls 4 [(3, .int y_106), (0, .ref b0), (1, .int b1), (2, .int b2)] → W p l e m_s1_Follows_isLike s m ([.ref b0, .int b1, .int b2] : List Value).toArray below meth c H locs 0 0 (MQ below (zQ G (fun v w => ∃ (e0 : Int32), v = some (.int e0) ∧ w = [(b0, .inr (4, [.ref b3, .ref b4, .ref b5])), (b3, .inl (G.2 0, 241, .inl b6)), (b4, .inl (G.2 0, 4820, .inl b7))] ∧ (zI e0 0 1)) A) ([.ref b0, .int b1, .int b2] : List Value).toArray s m_s1_Follows_isLike.cells m_s1_Follows_isLike.slots A) (F0 m 19 ls []) by
      exact key 21 (0) _ _ _ (zI.wk (l' := 0) (h' := 20) zc_0 (by decide)) (zm_upi (zI.wk (l' := 0) (h' := 20) zc_0 (by decide)) (by decide)) hP hD hS (lv_sub hl [0, 1, 2, 3] rfl)
    intro k_105
    induction k_105 with
    | zero =>
      intro y_106 H locs ls hy_106 hmk_105 hP hD hS hl
      exact (zm_up0 hy_106 hmk_105).elim
    | succ k_105 ihk_105 =>
      intro y_106 H locs ls hy_106 hmk_105 hP hD hS hl
      refine lv_iload_n hx hb d_Follows_isLike_19 rfl (lv_at hl 0 rfl) ?_
      refine lv_aload_n hx hb d_Follows_isLike_20 rfl (lv_at hl 1 rfl) ?_
      refine va_get (D := G.1) (ci := 4) (v := .ref b3) (C := R_Follows) (T := F_Follows) (N := 3) hx hb hts i_Follows hown hK hP 0 rfl rfl 0 (by decide) (hts _ q146) (fun _ h9 => h9) rfl d_Follows_isLike_21 ?_
      refine lv_iload_n hx hb d_Follows_isLike_24 rfl (lv_at hl 2 rfl) ?_
      refine va_iald hx hb hK hP 1 0 rfl rfl (zI.inn hb1 (by decide)) d_Follows_isLike_25 ?_
      refine lv_topi (fun v_107 ev_107 => ?_)
      have hv_107 : zI v_107 0 20 := (hb6 _).eq ev_107
      refine lv_icmp_ge (tgt := 62) hx hb d_Follows_isLike_26 (by decide) (fun hc_108 => ?_) (fun hc_108 => ?_)
      · have _nhc_108 := hc_108
        have ni_109 := (fa_le _ _).mp hc_108
        refine lv_iconst (v := 1) hx hb d_Follows_isLike_62 (by decide) ?_
        exact z_zret hx hb hr hlocks rfl hP hD hS (Nat.le_of_ble_eq_true rfl) (Nat.le_of_ble_eq_true rfl) d_Follows_isLike_63 ⟨1, rfl, rfl, (zI.wk (l' := 0) (h' := 1) zc_1 (by decide))⟩
      · have _nhc_108 := hc_108
        have ni_110 := (fa_lt _ _).mp (zi_nle hc_108)
        have hv_111 : zI y_106 0 19 := zI.lt_l hy_106 hv_107 (zi_nle hc_108) (by decide)
        have hv_112 : zI v_107 1 20 := zI.lt_r hy_106 hv_107 (zi_nle hc_108) (by decide)
        refine lv_aload_n hx hb d_Follows_isLike_29 rfl (lv_at hl 1 rfl) ?_
        refine va_get (D := G.1) (ci := 4) (v := .ref b4) (C := R_Follows) (T := F_Follows) (N := 3) hx hb hts i_Follows hown hK hP 0 rfl rfl 1 (by decide) (hts _ q148) (fun _ h9 => h9) rfl d_Follows_isLike_30 ?_
        refine lv_iload_n hx hb d_Follows_isLike_33 rfl (lv_at hl 2 rfl) ?_
        refine lv_bipush (v := 20) hx hb d_Follows_isLike_34 (by decide) ?_
        refine lv_imul hx hb d_Follows_isLike_36 ?_
        refine lv_topi (fun v_113 ev_113 => ?_)
        obtain ⟨qv_113, hv_113⟩ := zI_mul (l := 0) (h := 4800) hb1 zc_20 ev_113 (by decide)
        rw [li_20] at qv_113
        refine lv_iload_n hx hb d_Follows_isLike_37 rfl (lv_at hl 0 rfl) ?_
        refine lv_iadd hx hb d_Follows_isLike_38 ?_
        refine lv_topi (fun v_114 ev_114 => ?_)
        obtain ⟨qv_114, hv_114⟩ := zI_add (l := 0) (h := 4819) hv_113 hv_111 ev_114 (by decide)
        refine va_iald hx hb hK hP 2 0 rfl rfl (zI.inn hv_114 (by decide)) d_Follows_isLike_39 ?_
        refine lv_topi (fun v_115 ev_115 => ?_)
        refine lv_aload_n hx hb d_Follows_isLike_40 rfl (lv_at hl 1 rfl) ?_
        refine va_get (D := G.1) (ci := 4) (v := .ref b4) (C := R_Follows) (T := F_Follows) (N := 3) hx hb hts i_Follows hown hK hP 0 rfl rfl 1 (by decide) (hts _ q148) (fun _ h9 => h9) rfl d_Follows_isLike_41 ?_
        refine lv_iload_n hx hb d_Follows_isLike_44 rfl (lv_at hl 3 rfl) ?_
        refine lv_bipush (v := 20) hx hb d_Follows_isLike_45 (by decide) ?_
        refine lv_imul hx hb d_Follows_isLike_47 ?_
        refine lv_topi (fun v_116 ev_116 => ?_)
        obtain ⟨qv_116, hv_116⟩ := zI_mul (l := 0) (h := 4800) hb2 zc_20 ev_116 (by decide)
        rw [li_20] at qv_116
        refine lv_iload_n hx hb d_Follows_isLike_48 rfl (lv_at hl 0 rfl) ?_
        refine lv_iadd hx hb d_Follows_isLike_49 ?_
        refine lv_topi (fun v_117 ev_117 => ?_)
        obtain ⟨qv_117, hv_117⟩ := zI_add (l := 0) (h := 4819) hv_116 hv_111 ev_117 (by decide)
        refine va_iald hx hb hK hP 2 0 rfl rfl (zI.inn hv_117 (by decide)) d_Follows_isLike_50 ?_
        refine lv_topi (fun v_118 ev_118 => ?_)
        refine lv_icmp_eq (tgt := 56) hx hb d_Follows_isLike_51 (by decide) (fun hc_119 => ?_) (fun hc_119 => ?_)
        · have _nhc_119 := hc_119
          have ni_120 := (fa_eq _ _).mp hc_119
          obtain ⟨v_121, ev_121⟩ : ∃ z : Int32, z = y_106 + 1 := ⟨_, rfl⟩
          obtain ⟨qv_121, hv_121⟩ := zI_add (l := 1) (h := 20) hv_111 zc_1 ev_121 (by decide)
          rw [li_1] at qv_121
          refine lv_iinc (v := v_121) (lv' := [(3, .int v_121), (0, .ref b0), (1, .int b1), (2, .int b2)]) hx hb d_Follows_isLike_56 hl (k := 0) rfl (by rw [ev_121]; rfl) (by decide) rfl (fun ls hl => ?_)
          refine lv_goto (tgt := 19) hx hb d_Follows_isLike_59 (by decide) ?_
          exact ihk_105 (v_121) _ _ _ (zI.wk (l' := 0) (h' := 20) hv_121 (by decide)) (zm_up qv_121 hmk_105 (by decide)) hP hD hS (lv_sub hl [0, 1, 2, 3] rfl)
        · have _nhc_119 := hc_119
          have ni_122 := fun z => hc_119 ((fa_eq _ _).mpr z)
          refine lv_iconst (v := 0) hx hb d_Follows_isLike_54 (by decide) ?_
          exact z_zret hx hb hr hlocks rfl hP hD hS (Nat.le_of_ble_eq_true rfl) (Nat.le_of_ble_eq_true rfl) d_Follows_isLike_55 ⟨0, rfl, rfl, (zI.wk (l' := 0) (h' := 1) zc_0 (by decide))⟩
  · have _nhc_3 := hc_3
    have ni_123 := fun z => hc_3 ((fa_eq _ _).mpr z)
    refine lv_iconst (v := 0) hx hb d_Follows_isLike_15 (by decide) ?_
    exact z_zret hx hb hr hlocks rfl hP hD hS (Nat.le_of_ble_eq_true rfl) (Nat.le_of_ble_eq_true rfl) d_Follows_isLike_16 ⟨0, rfl, rfl, (zI.wk (l' := 0) (h' := 1) zc_0 (by decide))⟩
theorem d_Follows_firstLike_0 : decode prog_3_method_5_code 0 = .ok (.aload_n 0, 1) := by decide +kernel
theorem d_Follows_firstLike_1 : decode prog_3_method_5_code 1 = .ok (.iload_n 1, 1) := by decide +kernel
theorem d_Follows_firstLike_2 : decode prog_3_method_5_code 2 = .ok (.invokevirtual 59, 3) := by decide +kernel
theorem d_Follows_firstLike_5 : decode prog_3_method_5_code 5 = .ok (.istore_n 2, 1) := by decide +kernel
theorem d_Follows_firstLike_6 : decode prog_3_method_5_code 6 = .ok (.iconst 0, 1) := by decide +kernel
theorem d_Follows_firstLike_7 : decode prog_3_method_5_code 7 = .ok (.istore_n 3, 1) := by decide +kernel
theorem d_Follows_firstLike_8 : decode prog_3_method_5_code 8 = .ok (.iload_n 3, 1) := by decide +kernel
theorem d_Follows_firstLike_9 : decode prog_3_method_5_code 9 = .ok (.sipush 512, 3) := by decide +kernel
theorem d_Follows_firstLike_12 : decode prog_3_method_5_code 12 = .ok (.if_icmp .ge 56, 3) := by decide +kernel
theorem d_Follows_firstLike_15 : decode prog_3_method_5_code 15 = .ok (.iload_n 2, 1) := by decide +kernel
theorem d_Follows_firstLike_16 : decode prog_3_method_5_code 16 = .ok (.iload_n 3, 1) := by decide +kernel
theorem d_Follows_firstLike_17 : decode prog_3_method_5_code 17 = .ok (.iadd, 1) := by decide +kernel
theorem d_Follows_firstLike_18 : decode prog_3_method_5_code 18 = .ok (.sipush 511, 3) := by decide +kernel
theorem d_Follows_firstLike_21 : decode prog_3_method_5_code 21 = .ok (.iand, 1) := by decide +kernel
theorem d_Follows_firstLike_22 : decode prog_3_method_5_code 22 = .ok (.istore 4, 2) := by decide +kernel
theorem d_Follows_firstLike_24 : decode prog_3_method_5_code 24 = .ok (.aload_n 0, 1) := by decide +kernel
theorem d_Follows_firstLike_25 : decode prog_3_method_5_code 25 = .ok (.getfield 18, 3) := by decide +kernel
theorem d_Follows_firstLike_28 : decode prog_3_method_5_code 28 = .ok (.iload 4, 2) := by decide +kernel
theorem d_Follows_firstLike_30 : decode prog_3_method_5_code 30 = .ok (.iaload, 1) := by decide +kernel
theorem d_Follows_firstLike_31 : decode prog_3_method_5_code 31 = .ok (.istore 5, 2) := by decide +kernel
theorem d_Follows_firstLike_33 : decode prog_3_method_5_code 33 = .ok (.iload 5, 2) := by decide +kernel
theorem d_Follows_firstLike_35 : decode prog_3_method_5_code 35 = .ok (.iconst (-1), 1) := by decide +kernel
theorem d_Follows_firstLike_36 : decode prog_3_method_5_code 36 = .ok (.if_icmp .ne 13, 3) := by decide +kernel
theorem d_Follows_firstLike_39 : decode prog_3_method_5_code 39 = .ok (.aload_n 0, 1) := by decide +kernel
theorem d_Follows_firstLike_40 : decode prog_3_method_5_code 40 = .ok (.getfield 18, 3) := by decide +kernel
theorem d_Follows_firstLike_43 : decode prog_3_method_5_code 43 = .ok (.iload 4, 2) := by decide +kernel
theorem d_Follows_firstLike_45 : decode prog_3_method_5_code 45 = .ok (.iload_n 1, 1) := by decide +kernel
theorem d_Follows_firstLike_46 : decode prog_3_method_5_code 46 = .ok (.iastore, 1) := by decide +kernel
theorem d_Follows_firstLike_47 : decode prog_3_method_5_code 47 = .ok (.iload_n 1, 1) := by decide +kernel
theorem d_Follows_firstLike_48 : decode prog_3_method_5_code 48 = .ok (.ireturn, 1) := by decide +kernel
theorem d_Follows_firstLike_49 : decode prog_3_method_5_code 49 = .ok (.aload_n 0, 1) := by decide +kernel
theorem d_Follows_firstLike_50 : decode prog_3_method_5_code 50 = .ok (.iload_n 1, 1) := by decide +kernel
theorem d_Follows_firstLike_51 : decode prog_3_method_5_code 51 = .ok (.iload 5, 2) := by decide +kernel
theorem d_Follows_firstLike_53 : decode prog_3_method_5_code 53 = .ok (.invokevirtual 63, 3) := by decide +kernel
theorem d_Follows_firstLike_56 : decode prog_3_method_5_code 56 = .ok (.ifCond .eq 6, 3) := by decide +kernel
theorem d_Follows_firstLike_59 : decode prog_3_method_5_code 59 = .ok (.iload 5, 2) := by decide +kernel
theorem d_Follows_firstLike_61 : decode prog_3_method_5_code 61 = .ok (.ireturn, 1) := by decide +kernel
theorem d_Follows_firstLike_62 : decode prog_3_method_5_code 62 = .ok (.iinc 3 1, 3) := by decide +kernel
theorem d_Follows_firstLike_65 : decode prog_3_method_5_code 65 = .ok (.goto (-57), 3) := by decide +kernel
theorem d_Follows_firstLike_68 : decode prog_3_method_5_code 68 = .ok (.iload_n 1, 1) := by decide +kernel
theorem d_Follows_firstLike_69 : decode prog_3_method_5_code 69 = .ok (.ireturn, 1) := by decide +kernel
theorem zc_512 : zI 512 512 512 := ⟨by decide +kernel, by decide +kernel⟩
theorem li_512 : (512 : Int32).toInt = 512 := by decide +kernel
abbrev m_s1_Follows_firstLike : Room := { frames := 1, cells := 0, slots := 0, locals := 24 }
set_option maxHeartbeats 4000000 in
set_option maxRecDepth 100000 in
theorem s1_Follows_firstLike (l : Launch) (G : zG) (b0 : Nat) (b1 : Int32) (b2 : Nat) (b3 : Nat) (b4 : Nat) (b5 : Nat → Int32) (b6 : Nat → Int32) (b7 : Nat → Int32) (hb1 : zI b1 0 240) (hb5 : zR b5 0 20) (hb7 : zR b7 (-1) 240) : zM l G y_Follows_firstLike prog_3_method_5_code 6 (Option.some Jvm.ClassFile.FieldType.int) m_s1_Follows_firstLike [.ref b0, .int b1] [(b0, .inr (4, [.ref b2, .ref b3, .ref b4])), (b2, .inl (G.2 0, 241, .inl b5)), (b3, .inl (G.2 0, 4820, .inl b6)), (b4, .inl (G.2 0, 512, .inl b7))] (fun v w => ∃ (e0 : Int32), ∃ (e1 : Nat → Int32), v = some (.int e0) ∧ w = [(b0, .inr (4, [.ref b2, .ref b3, .ref b4])), (b2, .inl (G.2 0, 241, .inl b5)), (b3, .inl (G.2 0, 4820, .inl b6)), (b4, .inl (G.2 0, 512, .inl e1))] ∧ (zI e0 0 240) ∧ (zR e1 (-1) 240)) := by
  refine z_start (by decide +kernel) (Nat.le_of_ble_eq_true rfl) ?_
  intro p e s m below meth c A Z hr hnm hA hP hD hS ls hl
  have Z : zC p s m _ meth c prog_3_method_5_code 6 "TraceMachines$Follows" G := Z
  obtain ⟨hx, hb, hml, hown, hts, hK, hN, hlocks⟩ := id Z
  have hl : lv_has ls 6 [(0, .ref b0), (1, .int b1)] := hl
  refine lv_aload_n hx hb d_Follows_firstLike_0 rfl (lv_at hl 0 rfl) ?_
  refine lv_iload_n hx hb d_Follows_firstLike_1 rfl (lv_at hl 1 rfl) ?_
  refine z_callV (index := 59) (As := [.int b1]) (rest := []) (wr := [(b4, .inl (G.2 0, 512, .inl b7))]) Z (s1_Follows_hashOf l G (b0) (b1) (b2) (b3) (b4) (b5) (b6) hb1 hb5) hl.1 q629 q631 qs8 q5 q632 ⟨by decide, by decide, by show _ = some 1; decide +kernel⟩ ⟨Nat.le_of_ble_eq_true rfl, Nat.le_of_ble_eq_true rfl⟩ ⟨Nat.le_of_ble_eq_true rfl, Nat.le_of_ble_eq_true rfl⟩ rfl (Nat.le_of_ble_eq_true rfl) d_Follows_firstLike_2 hP hD hS hA 0 4 rfl rfl rfl [0, 1, 2] [3] rfl rfl rfl rfl (by decide) (fun v w1 H locs hw_1 hP hD hS => ?_)
  obtain ⟨x_2, rfl, rfl⟩ := hw_1
  have hP : va_P G.1 classes [(b4, .inl (G.2 0, 512, .inl b7)), (b0, .inr (4, [.ref b2, .ref b3, .ref b4])), (b2, .inl (G.2 0, 241, .inl b5)), (b3, .inl (G.2 0, 4820, .inl b6))] H := hP
  have hD := z_tie hP hD rfl
  refine W.widen (k := 0) (n := 0) (Nat.le_of_ble_eq_true rfl) (Nat.le_of_ble_eq_true rfl) ?_
  refine lv_istore_n (lv' := [(2, .int x_2), (0, .ref b0), (1, .int b1)]) hx hb d_Follows_firstLike_5 rfl hl (by decide) rfl (fun ls hl => ?_)
  refine lv_iconst (v := 0) hx hb d_Follows_firstLike_6 (by decide) ?_
  refine lv_istore_n (lv' := [(3, .int 0), (2, .int x_2), (0, .ref b0), (1, .int b1)]) hx hb d_Follows_firstLike_7 rfl hl (by decide) rfl (fun ls hl => ?_)
  suffices key : ∀ (k_204 : Nat) (y_205 : Int32) (H : Heap) (locs : List Loc) (ls : Array Slot), (zI y_205 0 512) → (512 : Int) - y_205.toInt < (k_204 : Int) → va_P G.1 classes [(b4, .inl (G.2 0, 512, .inl b7)), (b0, .inr (4, [.ref b2, .ref b3, .ref b4])), (b2, .inl (G.2 0, 241, .inl b5)), (b3, .inl (G.2 0, 4820, .inl b6))] H → va_D A [(b4, .inl (G.2 0, 512, .inl b7)), (b0, .inr (4, [.ref b2, .ref b3, .ref b4])), (b2, .inl (G.2 0, 241, .inl b5)), (b3, .inl (G.2 0, 4820, .inl b6))] → va_S A s.heap H locs → lv_has ls 6 [(3, .int y_205), (2, .int x_2), (0, .ref b0), (1, .int b1)] → W p l e m_s1_Follows_firstLike s m ([.ref b0, .int b1] : List Value).toArray below meth c H locs 0 0 (MQ below (zQ G (fun v w => ∃ (e0 : Int32), ∃ (e1 : Nat → Int32), v = some (.int e0) ∧ w = [(b0, .inr (4, [.ref b2, .ref b3, .ref b4])), (b2, .inl (G.2 0, 241, .inl b5)), (b3, .inl (G.2 0, 4820, .inl b6)), (b4, .inl (G.2 0, 512, .inl e1))] ∧ (zI e0 0 240) ∧ (zR e1 (-1) 240)) A) ([.ref b0, .int b1] : List Value).toArray s m_s1_Follows_firstLike.cells m_s1_Follows_firstLike.slots A) (F0 m 8 ls []) by
    exact key 513 (0) _ _ _ (zI.wk (l' := 0) (h' := 512) zc_0 (by decide)) (zm_upi (zI.wk (l' := 0) (h' := 512) zc_0 (by decide)) (by decide)) hP hD hS (lv_sub hl [0, 1, 2, 3] rfl)
  intro k_204
  induction k_204 with
  | zero =>
    intro y_205 H locs ls hy_205 hmk_204 hP hD hS hl
    exact (zm_up0 hy_205 hmk_204).elim
  | succ k_204 ihk_204 =>
    intro y_205 H locs ls hy_205 hmk_204 hP hD hS hl
    refine lv_iload_n hx hb d_Follows_firstLike_8 rfl (lv_at hl 0 rfl) ?_
    refine lv_sipush (v := 512) hx hb d_Follows_firstLike_9 (by decide) ?_
    refine lv_icmp_ge (tgt := 68) hx hb d_Follows_firstLike_12 (by decide) (fun hc_206 => ?_) (fun hc_206 => ?_)
    · have _nhc_206 := hc_206
      have ni_207 := (fa_le _ _).mp hc_206
      rw [li_512] at ni_207
      have hv_208 : zI y_205 512 512 := zI.le_r zc_512 hy_205 hc_206 (by decide)
      refine lv_iload_n hx hb d_Follows_firstLike_68 rfl (lv_at hl 3 rfl) ?_
      exact z_iret hx hb hr hlocks (hP.sub [1, 2, 3, 0] rfl) (hD.sub [1, 2, 3, 0] (by decide) rfl) hS (Nat.le_of_ble_eq_true rfl) (Nat.le_of_ble_eq_true rfl) d_Follows_firstLike_69 ⟨b1, b7, rfl, rfl, hb1, hb7⟩
    · have _nhc_206 := hc_206
      have ni_209 := (fa_lt _ _).mp (zi_nle hc_206)
      rw [li_512] at ni_209
      have hv_210 : zI y_205 0 511 := zI.lt_l hy_205 zc_512 (zi_nle hc_206) (by decide)
      refine lv_iload_n hx hb d_Follows_firstLike_15 rfl (lv_at hl 1 rfl) ?_
      refine lv_iload_n hx hb d_Follows_firstLike_16 rfl (lv_at hl 0 rfl) ?_
      refine lv_iadd hx hb d_Follows_firstLike_17 ?_
      refine lv_topi (fun v_211 ev_211 => ?_)
      refine lv_sipush (v := 511) hx hb d_Follows_firstLike_18 (by decide) ?_
      refine lv_iand hx hb d_Follows_firstLike_21 ?_
      refine lv_topi (fun v_212 ev_212 => ?_)
      have hv_212 := zI_and (k := 9) (h := 511) (by decide +kernel) ev_212 (by decide)
      refine lv_istore (lv' := [(4, .int v_212), (3, .int y_205), (2, .int x_2), (0, .ref b0), (1, .int b1)]) hx hb d_Follows_firstLike_22 hl (by decide) rfl (fun ls hl => ?_)
      refine lv_aload_n hx hb d_Follows_firstLike_24 rfl (lv_at hl 3 rfl) ?_
      refine va_get (D := G.1) (ci := 4) (v := .ref b4) (C := R_Follows) (T := F_Follows) (N := 3) hx hb hts i_Follows hown hK hP 1 rfl rfl 2 (by decide) (hts _ q149) (fun _ h9 => h9) rfl d_Follows_firstLike_25 ?_
      refine lv_iload hx hb d_Follows_firstLike_28 (lv_at hl 0 rfl) ?_
      refine va_iald hx hb hK hP 0 0 rfl rfl (zI.inn hv_212 (by decide)) d_Follows_firstLike_30 ?_
      refine lv_topi (fun v_213 ev_213 => ?_)
      have hv_213 : zI v_213 (-1) 240 := (hb7 _).eq ev_213
      refine lv_istore (lv' := [(5, .int v_213), (4, .int v_212), (3, .int y_205), (2, .int x_2), (0, .ref b0), (1, .int b1)]) hx hb d_Follows_firstLike_31 hl (by decide) rfl (fun ls hl => ?_)
      refine lv_iload hx hb d_Follows_firstLike_33 (lv_at hl 0 rfl) ?_
      refine lv_iconst (v := (-1)) hx hb d_Follows_firstLike_35 (by decide) ?_
      refine lv_icmp_ne (tgt := 49) hx hb d_Follows_firstLike_36 (by decide) (fun hc_214 => ?_) (fun hc_214 => ?_)
      · have _nhc_214 := hc_214
        have ni_215 := fun z => hc_214 ((fa_eq _ _).mpr z)
        simp only [li_m1] at ni_215
        have hv_216 : zI v_213 0 240 := zI.ne_lo hv_213 zc_m1 hc_214 (by decide)
        refine lv_aload_n hx hb d_Follows_firstLike_49 rfl (lv_at hl 4 rfl) ?_
        refine lv_iload_n hx hb d_Follows_firstLike_50 rfl (lv_at hl 5 rfl) ?_
        refine lv_iload hx hb d_Follows_firstLike_51 (lv_at hl 0 rfl) ?_
        refine z_callV (index := 63) (As := [.int b1, .int v_213]) (rest := []) (wr := [(b4, .inl (G.2 0, 512, .inl b7))]) Z (s1_Follows_isLike l G (b0) (b1) (v_213) (b2) (b3) (b4) (b5) (b6) hb1 hv_216 hb5) hl.1 q633 q635 qs9 q5 q636 ⟨by decide, by decide, by show _ = some 2; decide +kernel⟩ ⟨Nat.le_of_ble_eq_true rfl, Nat.le_of_ble_eq_true rfl⟩ ⟨Nat.le_of_ble_eq_true rfl, Nat.le_of_ble_eq_true rfl⟩ rfl (Nat.le_of_ble_eq_true rfl) d_Follows_firstLike_53 hP hD hS hA 1 4 rfl rfl rfl [1, 2, 3] [0] rfl rfl rfl rfl (by decide) (fun v w1 H locs hw_217 hP hD hS => ?_)
        obtain ⟨x_218, rfl, rfl, hx_218⟩ := hw_217
        have hP : va_P G.1 classes [(b4, .inl (G.2 0, 512, .inl b7)), (b0, .inr (4, [.ref b2, .ref b3, .ref b4])), (b2, .inl (G.2 0, 241, .inl b5)), (b3, .inl (G.2 0, 4820, .inl b6))] H := hP
        have hD := z_tie hP hD rfl
        refine W.widen (k := 0) (n := 0) (Nat.le_of_ble_eq_true rfl) (Nat.le_of_ble_eq_true rfl) ?_
        refine lv_if_eq (tgt := 62) hx hb d_Follows_firstLike_56 (by decide) (fun hc_219 => ?_) (fun hc_219 => ?_)
        · have _nhc_219 := hc_219
          have ni_220 := (fa_eq _ _).mp hc_219
          rw [li_0] at ni_220
          have hv_221 : zI x_218 0 0 := zI.eq_l hx_218 zc_0 hc_219
          obtain ⟨v_222, ev_222⟩ : ∃ z : Int32, z = y_205 + 1 := ⟨_, rfl⟩
          obtain ⟨qv_222, hv_222⟩ := zI_add (l := 1) (h := 512) hv_210 zc_1 ev_222 (by decide)
          rw [li_1] at qv_222
          refine lv_iinc (v := v_222) (lv' := [(3, .int v_222), (5, .int v_213), (4, .int v_212), (2, .int x_2), (0, .ref b0), (1, .int b1)]) hx hb d_Follows_firstLike_62 hl (k := 2) rfl (by rw [ev_222]; rfl) (by decide) rfl (fun ls hl => ?_)
          refine lv_goto (tgt := 8) hx hb d_Follows_firstLike_65 (by decide) ?_
          exact ihk_204 (v_222) _ _ _ (zI.wk (l' := 0) (h' := 512) hv_222 (by decide)) (zm_up qv_222 hmk_204 (by decide)) hP hD hS (lv_sub hl [0, 3, 4, 5] rfl)
        · have _nhc_219 := hc_219
          have ni_223 := fun z => hc_219 ((fa_eq _ _).mpr z)
          simp only [li_0] at ni_223
          have hv_224 : zI x_218 1 1 := zI.ne_lo hx_218 zc_0 hc_219 (by decide)
          refine lv_iload hx hb d_Follows_firstLike_59 (lv_at hl 0 rfl) ?_
          exact z_iret hx hb hr hlocks (hP.sub [1, 2, 3, 0] rfl) (hD.sub [1, 2, 3, 0] (by decide) rfl) hS (Nat.le_of_ble_eq_true rfl) (Nat.le_of_ble_eq_true rfl) d_Follows_firstLike_61 ⟨v_213, b7, rfl, rfl, hv_216, hb7⟩
      · have _nhc_214 := hc_214
        have ni_225 := (fa_eq _ _).mp hc_214
        rw [li_m1] at ni_225
        have hv_226 : zI v_213 (-1) (-1) := zI.eq_l hv_213 zc_m1 hc_214
        refine lv_aload_n hx hb d_Follows_firstLike_39 rfl (lv_at hl 4 rfl) ?_
        refine va_get (D := G.1) (ci := 4) (v := .ref b4) (C := R_Follows) (T := F_Follows) (N := 3) hx hb hts i_Follows hown hK hP 1 rfl rfl 2 (by decide) (hts _ q149) (fun _ h9 => h9) rfl d_Follows_firstLike_40 ?_
        refine lv_iload hx hb d_Follows_firstLike_43 (lv_at hl 1 rfl) ?_
        refine lv_iload_n hx hb d_Follows_firstLike_45 rfl (lv_at hl 5 rfl) ?_
        refine va_iast hx hb hK hP hD hS 0 0 rfl rfl (zI.inn hv_212 (by decide)) d_Follows_firstLike_46 (fun H locs hP hD hS => ?_)
        obtain ⟨f_227, hf_227, gf_227, hP, hD⟩ := z_newfu 0 hP hD rfl hb7 (zI.wk (l' := (-1)) (h' := 240) hb1 (by decide))
        have hP : va_P G.1 classes [(b4, .inl (G.2 0, 512, .inl f_227)), (b0, .inr (4, [.ref b2, .ref b3, .ref b4])), (b2, .inl (G.2 0, 241, .inl b5)), (b3, .inl (G.2 0, 4820, .inl b6))] H := hP
        have hD := z_tie hP hD rfl
        refine lv_iload_n hx hb d_Follows_firstLike_47 rfl (lv_at hl 5 rfl) ?_
        exact z_iret hx hb hr hlocks (hP.sub [1, 2, 3, 0] rfl) (hD.sub [1, 2, 3, 0] (by decide) rfl) hS (Nat.le_of_ble_eq_true rfl) (Nat.le_of_ble_eq_true rfl) d_Follows_firstLike_48 ⟨b1, f_227, rfl, rfl, hb1, hf_227⟩
theorem d_Parting_isOf_0 : decode prog_7_method_2_code 0 = .ok (.aload_n 0, 1) := by decide +kernel
theorem d_Parting_isOf_1 : decode prog_7_method_2_code 1 = .ok (.getfield 36, 3) := by decide +kernel
theorem d_Parting_isOf_4 : decode prog_7_method_2_code 4 = .ok (.ifCond .eq 23, 3) := by decide +kernel
theorem d_Parting_isOf_7 : decode prog_7_method_2_code 7 = .ok (.aload_n 0, 1) := by decide +kernel
theorem d_Parting_isOf_8 : decode prog_7_method_2_code 8 = .ok (.getfield 40, 3) := by decide +kernel
theorem d_Parting_isOf_11 : decode prog_7_method_2_code 11 = .ok (.iload_n 1, 1) := by decide +kernel
theorem d_Parting_isOf_12 : decode prog_7_method_2_code 12 = .ok (.if_icmp .ne 15, 3) := by decide +kernel
theorem d_Parting_isOf_15 : decode prog_7_method_2_code 15 = .ok (.aload_n 0, 1) := by decide +kernel
theorem d_Parting_isOf_16 : decode prog_7_method_2_code 16 = .ok (.getfield 44, 3) := by decide +kernel
theorem d_Parting_isOf_19 : decode prog_7_method_2_code 19 = .ok (.iload_n 2, 1) := by decide +kernel
theorem d_Parting_isOf_20 : decode prog_7_method_2_code 20 = .ok (.if_icmp .ne 7, 3) := by decide +kernel
theorem d_Parting_isOf_23 : decode prog_7_method_2_code 23 = .ok (.iconst 1, 1) := by decide +kernel
theorem d_Parting_isOf_24 : decode prog_7_method_2_code 24 = .ok (.goto 4, 3) := by decide +kernel
theorem d_Parting_isOf_27 : decode prog_7_method_2_code 27 = .ok (.iconst 0, 1) := by decide +kernel
theorem d_Parting_isOf_28 : decode prog_7_method_2_code 28 = .ok (.ireturn, 1) := by decide +kernel
abbrev m_s1_Parting_isOf : Room := { frames := 0, cells := 0, slots := 0, locals := 0 }
set_option maxHeartbeats 4000000 in
set_option maxRecDepth 100000 in
theorem s1_Parting_isOf (l : Launch) (G : zG) (b0 : Nat) (b1 : Int32) (b2 : Int32) (b3 : Int32) (b4 : Int32) (b5 : Nat) (b6 : Int32) (b7 : Int32) (b8 : Nat) (b9 : Nat) (b10 : Nat) (b11 : Nat) (b12 : Nat) (hb3 : zI b3 0 1) (hb4 : zI b4 (-2) 8) : zM l G y_Parting_isOf prog_7_method_2_code 3 (Option.some Jvm.ClassFile.FieldType.boolean) m_s1_Parting_isOf [.ref b0, .int b1, .int b2] [(b0, .inr (8, [.int b3, .int b4, .ref b5, .int b6, .int b7, .ref b8, .ref b9, .ref b10, .ref b11, .ref b12]))] (fun v w => ∃ (e0 : Int32), v = some (.int e0) ∧ w = [(b0, .inr (8, [.int b3, .int b4, .ref b5, .int b6, .int b7, .ref b8, .ref b9, .ref b10, .ref b11, .ref b12]))] ∧ (zI e0 0 1)) := by
  refine z_start (by decide +kernel) (Nat.le_of_ble_eq_true rfl) ?_
  intro p e s m below meth c A Z hr hnm hA hP hD hS ls hl
  have Z : zC p s m _ meth c prog_7_method_2_code 3 "TraceMachines$Parting" G := Z
  obtain ⟨hx, hb, hml, hown, hts, hK, hN, hlocks⟩ := id Z
  have hl : lv_has ls 3 [(0, .ref b0), (1, .int b1), (2, .int b2)] := hl
  refine lv_aload_n hx hb d_Parting_isOf_0 rfl (lv_at hl 0 rfl) ?_
  refine va_get (D := G.1) (ci := 8) (v := .int b3) (C := R_Parting) (T := F_Parting) (N := 10) hx hb hts i_Parting hown hK hP 0 rfl rfl 0 (by decide) (hts _ q299) (fun _ h9 => h9) rfl d_Parting_isOf_1 ?_
  refine lv_if_eq (tgt := 27) hx hb d_Parting_isOf_4 (by decide) (fun hc_1 => ?_) (fun hc_1 => ?_)
  · have _nhc_1 := hc_1
    have ni_2 := (fa_eq _ _).mp hc_1
    rw [li_0] at ni_2
    have hv_3 : zI b3 0 0 := zI.eq_l hb3 zc_0 hc_1
    refine lv_iconst (v := 0) hx hb d_Parting_isOf_27 (by decide) ?_
    exact z_zret hx hb hr hlocks rfl hP hD hS (Nat.le_of_ble_eq_true rfl) (Nat.le_of_ble_eq_true rfl) d_Parting_isOf_28 ⟨0, rfl, rfl, (zI.wk (l' := 0) (h' := 1) zc_0 (by decide))⟩
  · have _nhc_1 := hc_1
    have ni_4 := fun z => hc_1 ((fa_eq _ _).mpr z)
    simp only [li_0] at ni_4
    have hv_5 : zI b3 1 1 := zI.ne_lo hb3 zc_0 hc_1 (by decide)
    refine lv_aload_n hx hb d_Parting_isOf_7 rfl (lv_at hl 0 rfl) ?_
    refine va_get (D := G.1) (ci := 8) (v := .int b6) (C := R_Parting) (T := F_Parting) (N := 10) hx hb hts i_Parting hown hK hP 0 rfl rfl 3 (by decide) (hts _ q305) (fun _ h9 => h9) rfl d_Parting_isOf_8 ?_
    refine lv_iload_n hx hb d_Parting_isOf_11 rfl (lv_at hl 1 rfl) ?_
    refine lv_icmp_ne (tgt := 27) hx hb d_Parting_isOf_12 (by decide) (fun hc_6 => ?_) (fun hc_6 => ?_)
    · have _nhc_6 := hc_6
      have ni_7 := fun z => hc_6 ((fa_eq _ _).mpr z)
      refine lv_iconst (v := 0) hx hb d_Parting_isOf_27 (by decide) ?_
      exact z_zret hx hb hr hlocks rfl hP hD hS (Nat.le_of_ble_eq_true rfl) (Nat.le_of_ble_eq_true rfl) d_Parting_isOf_28 ⟨0, rfl, rfl, (zI.wk (l' := 0) (h' := 1) zc_0 (by decide))⟩
    · have _nhc_6 := hc_6
      have ni_8 := (fa_eq _ _).mp hc_6
      refine lv_aload_n hx hb d_Parting_isOf_15 rfl (lv_at hl 0 rfl) ?_
      refine va_get (D := G.1) (ci := 8) (v := .int b7) (C := R_Parting) (T := F_Parting) (N := 10) hx hb hts i_Parting hown hK hP 0 rfl rfl 4 (by decide) (hts _ q306) (fun _ h9 => h9) rfl d_Parting_isOf_16 ?_
      refine lv_iload_n hx hb d_Parting_isOf_19 rfl (lv_at hl 2 rfl) ?_
      refine lv_icmp_ne (tgt := 27) hx hb d_Parting_isOf_20 (by decide) (fun hc_9 => ?_) (fun hc_9 => ?_)
      · have _nhc_9 := hc_9
        have ni_10 := fun z => hc_9 ((fa_eq _ _).mpr z)
        refine lv_iconst (v := 0) hx hb d_Parting_isOf_27 (by decide) ?_
        exact z_zret hx hb hr hlocks rfl hP hD hS (Nat.le_of_ble_eq_true rfl) (Nat.le_of_ble_eq_true rfl) d_Parting_isOf_28 ⟨0, rfl, rfl, (zI.wk (l' := 0) (h' := 1) zc_0 (by decide))⟩
      · have _nhc_9 := hc_9
        have ni_11 := (fa_eq _ _).mp hc_9
        refine lv_iconst (v := 1) hx hb d_Parting_isOf_23 (by decide) ?_
        refine lv_goto (tgt := 28) hx hb d_Parting_isOf_24 (by decide) ?_
        exact z_zret hx hb hr hlocks rfl hP hD hS (Nat.le_of_ble_eq_true rfl) (Nat.le_of_ble_eq_true rfl) d_Parting_isOf_28 ⟨1, rfl, rfl, (zI.wk (l' := 0) (h' := 1) zc_1 (by decide))⟩
theorem d_Parting_setOf_0 : decode prog_7_method_3_code 0 = .ok (.aload_n 0, 1) := by decide +kernel
theorem d_Parting_setOf_1 : decode prog_7_method_3_code 1 = .ok (.iconst 1, 1) := by decide +kernel
theorem d_Parting_setOf_2 : decode prog_7_method_3_code 2 = .ok (.putfield 36, 3) := by decide +kernel
theorem d_Parting_setOf_5 : decode prog_7_method_3_code 5 = .ok (.aload_n 0, 1) := by decide +kernel
theorem d_Parting_setOf_6 : decode prog_7_method_3_code 6 = .ok (.iload_n 1, 1) := by decide +kernel
theorem d_Parting_setOf_7 : decode prog_7_method_3_code 7 = .ok (.putfield 40, 3) := by decide +kernel
theorem d_Parting_setOf_10 : decode prog_7_method_3_code 10 = .ok (.aload_n 0, 1) := by decide +kernel
theorem d_Parting_setOf_11 : decode prog_7_method_3_code 11 = .ok (.iload_n 2, 1) := by decide +kernel
theorem d_Parting_setOf_12 : decode prog_7_method_3_code 12 = .ok (.putfield 44, 3) := by decide +kernel
theorem d_Parting_setOf_15 : decode prog_7_method_3_code 15 = .ok (.return_, 1) := by decide +kernel
abbrev m_s1_Parting_setOf : Room := { frames := 0, cells := 0, slots := 0, locals := 0 }
set_option maxHeartbeats 4000000 in
set_option maxRecDepth 100000 in
theorem s1_Parting_setOf (l : Launch) (G : zG) (b0 : Nat) (b1 : Int32) (b2 : Int32) (b3 : Int32) (b4 : Int32) (b5 : Nat) (b6 : Int32) (b7 : Int32) (b8 : Nat) (b9 : Nat) (b10 : Nat) (b11 : Nat) (b12 : Nat) (hb3 : zI b3 0 1) (hb4 : zI b4 (-2) 8) : zM l G y_Parting_setOf prog_7_method_3_code 3 (Option.none : Option Jvm.ClassFile.FieldType) m_s1_Parting_setOf [.ref b0, .int b1, .int b2] [(b0, .inr (8, [.int b3, .int b4, .ref b5, .int b6, .int b7, .ref b8, .ref b9, .ref b10, .ref b11, .ref b12]))] (fun v w => v = none ∧ w = [(b0, .inr (8, [.int 1, .int b4, .ref b5, .int b1, .int b2, .ref b8, .ref b9, .ref b10, .ref b11, .ref b12]))]) := by
  refine z_start (by decide +kernel) (Nat.le_of_ble_eq_true rfl) ?_
  intro p e s m below meth c A Z hr hnm hA hP hD hS ls hl
  have Z : zC p s m _ meth c prog_7_method_3_code 3 "TraceMachines$Parting" G := Z
  obtain ⟨hx, hb, hml, hown, hts, hK, hN, hlocks⟩ := id Z
  have hl : lv_has ls 3 [(0, .ref b0), (1, .int b1), (2, .int b2)] := hl
  refine lv_aload_n hx hb d_Parting_setOf_0 rfl (lv_at hl 0 rfl) ?_
  refine lv_iconst (v := 1) hx hb d_Parting_setOf_1 (by decide) ?_
  refine va_put (D := G.1) (ci := 8) (v := .int 1) (ty := .boolean) (C := R_Parting) (T := F_Parting) (N := 10) hx hb hts i_Parting t_Parting t_Parting_ok n_Parting hown hK hP hD hS 0 rfl rfl 0 (by decide) (hts _ q299) (fun _ h9 => h9) rfl (by decide +kernel) rfl rfl (Nat.le_of_ble_eq_true rfl) d_Parting_setOf_2 (fun H locs hP hD hS => ?_)
  have hP : va_P G.1 classes [(b0, .inr (8, [.int 1, .int b4, .ref b5, .int b6, .int b7, .ref b8, .ref b9, .ref b10, .ref b11, .ref b12]))] H := hP
  have hD := z_tie hP hD rfl
  refine lv_aload_n hx hb d_Parting_setOf_5 rfl (lv_at hl 0 rfl) ?_
  refine lv_iload_n hx hb d_Parting_setOf_6 rfl (lv_at hl 1 rfl) ?_
  refine va_put (D := G.1) (ci := 8) (v := .int b1) (ty := .int) (C := R_Parting) (T := F_Parting) (N := 10) hx hb hts i_Parting t_Parting t_Parting_ok n_Parting hown hK hP hD hS 0 rfl rfl 3 (by decide) (hts _ q305) (fun _ h9 => h9) rfl (by decide +kernel) rfl rfl (Nat.le_of_ble_eq_true rfl) d_Parting_setOf_7 (fun H locs hP hD hS => ?_)
  have hP : va_P G.1 classes [(b0, .inr (8, [.int 1, .int b4, .ref b5, .int b1, .int b7, .ref b8, .ref b9, .ref b10, .ref b11, .ref b12]))] H := hP
  have hD := z_tie hP hD rfl
  refine lv_aload_n hx hb d_Parting_setOf_10 rfl (lv_at hl 0 rfl) ?_
  refine lv_iload_n hx hb d_Parting_setOf_11 rfl (lv_at hl 2 rfl) ?_
  refine va_put (D := G.1) (ci := 8) (v := .int b2) (ty := .int) (C := R_Parting) (T := F_Parting) (N := 10) hx hb hts i_Parting t_Parting t_Parting_ok n_Parting hown hK hP hD hS 0 rfl rfl 4 (by decide) (hts _ q306) (fun _ h9 => h9) rfl (by decide +kernel) rfl rfl (Nat.le_of_ble_eq_true rfl) d_Parting_setOf_12 (fun H locs hP hD hS => ?_)
  have hP : va_P G.1 classes [(b0, .inr (8, [.int 1, .int b4, .ref b5, .int b1, .int b2, .ref b8, .ref b9, .ref b10, .ref b11, .ref b12]))] H := hP
  have hD := z_tie hP hD rfl
  exact z_vret hx hb hr hlocks hP hD hS (Nat.le_of_ble_eq_true rfl) (Nat.le_of_ble_eq_true rfl) d_Parting_setOf_15 ⟨rfl, rfl⟩
theorem d_Parting_spell_0 : decode prog_7_method_7_code 0 = .ok (.aload_n 0, 1) := by decide +kernel
theorem d_Parting_spell_1 : decode prog_7_method_7_code 1 = .ok (.aload_n 0, 1) := by decide +kernel
theorem d_Parting_spell_2 : decode prog_7_method_7_code 2 = .ok (.getfield 33, 3) := by decide +kernel
theorem d_Parting_spell_5 : decode prog_7_method_7_code 5 = .ok (.iload_n 1, 1) := by decide +kernel
theorem d_Parting_spell_6 : decode prog_7_method_7_code 6 = .ok (.iaload, 1) := by decide +kernel
theorem d_Parting_spell_7 : decode prog_7_method_7_code 7 = .ok (.putfield 47, 3) := by decide +kernel
theorem d_Parting_spell_10 : decode prog_7_method_7_code 10 = .ok (.iload_n 1, 1) := by decide +kernel
theorem d_Parting_spell_11 : decode prog_7_method_7_code 11 = .ok (.istore_n 2, 1) := by decide +kernel
theorem d_Parting_spell_12 : decode prog_7_method_7_code 12 = .ok (.aload_n 0, 1) := by decide +kernel
theorem d_Parting_spell_13 : decode prog_7_method_7_code 13 = .ok (.getfield 47, 3) := by decide +kernel
theorem d_Parting_spell_16 : decode prog_7_method_7_code 16 = .ok (.iconst 1, 1) := by decide +kernel
theorem d_Parting_spell_17 : decode prog_7_method_7_code 17 = .ok (.isub, 1) := by decide +kernel
theorem d_Parting_spell_18 : decode prog_7_method_7_code 18 = .ok (.istore_n 3, 1) := by decide +kernel
theorem d_Parting_spell_19 : decode prog_7_method_7_code 19 = .ok (.iload_n 3, 1) := by decide +kernel
theorem d_Parting_spell_20 : decode prog_7_method_7_code 20 = .ok (.ifCond .lt 28, 3) := by decide +kernel
theorem d_Parting_spell_23 : decode prog_7_method_7_code 23 = .ok (.aload_n 0, 1) := by decide +kernel
theorem d_Parting_spell_24 : decode prog_7_method_7_code 24 = .ok (.getfield 9, 3) := by decide +kernel
theorem d_Parting_spell_27 : decode prog_7_method_7_code 27 = .ok (.iload_n 3, 1) := by decide +kernel
theorem d_Parting_spell_28 : decode prog_7_method_7_code 28 = .ok (.aload_n 0, 1) := by decide +kernel
theorem d_Parting_spell_29 : decode prog_7_method_7_code 29 = .ok (.getfield 30, 3) := by decide +kernel
theorem d_Parting_spell_32 : decode prog_7_method_7_code 32 = .ok (.iload_n 2, 1) := by decide +kernel
theorem d_Parting_spell_33 : decode prog_7_method_7_code 33 = .ok (.iaload, 1) := by decide +kernel
theorem d_Parting_spell_34 : decode prog_7_method_7_code 34 = .ok (.iastore, 1) := by decide +kernel
theorem d_Parting_spell_35 : decode prog_7_method_7_code 35 = .ok (.aload_n 0, 1) := by decide +kernel
theorem d_Parting_spell_36 : decode prog_7_method_7_code 36 = .ok (.getfield 27, 3) := by decide +kernel
theorem d_Parting_spell_39 : decode prog_7_method_7_code 39 = .ok (.iload_n 2, 1) := by decide +kernel
theorem d_Parting_spell_40 : decode prog_7_method_7_code 40 = .ok (.iaload, 1) := by decide +kernel
theorem d_Parting_spell_41 : decode prog_7_method_7_code 41 = .ok (.istore_n 2, 1) := by decide +kernel
theorem d_Parting_spell_42 : decode prog_7_method_7_code 42 = .ok (.iinc 3 (-1), 3) := by decide +kernel
theorem d_Parting_spell_45 : decode prog_7_method_7_code 45 = .ok (.goto (-26), 3) := by decide +kernel
theorem d_Parting_spell_48 : decode prog_7_method_7_code 48 = .ok (.return_, 1) := by decide +kernel
abbrev m_s1_Parting_spell : Room := { frames := 0, cells := 0, slots := 0, locals := 0 }
set_option maxHeartbeats 4000000 in
set_option maxRecDepth 100000 in
theorem s1_Parting_spell (l : Launch) (G : zG) (b0 : Nat) (b1 : Int32) (b2 : Int32) (b3 : Int32) (b4 : Nat) (b5 : Int32) (b6 : Int32) (b7 : Nat) (b8 : Nat) (b9 : Nat) (b10 : Nat) (b11 : Nat) (b12 : Nat → Int32) (b13 : Nat → Int32) (b14 : Nat → Int32) (b15 : Nat → Int32) (hb1 : zI b1 0 399) (hb2 : zI b2 0 1) (hb3 : zI b3 (-2) 8) (hb12 : zR b12 0 9) (hb13 : zR b13 0 399) (hb14 : zR b14 0 9) (hb15 : zR b15 0 8) : zM l G y_Parting_spell prog_7_method_7_code 4 (Option.none : Option Jvm.ClassFile.FieldType) m_s1_Parting_spell [.ref b0, .int b1] [(b0, .inr (8, [.int b2, .int b3, .ref b4, .int b5, .int b6, .ref b7, .ref b8, .ref b9, .ref b10, .ref b11])), (b4, .inl (G.2 0, 8, .inl b12)), (b9, .inl (G.2 0, 400, .inl b13)), (b10, .inl (G.2 0, 400, .inl b14)), (b11, .inl (G.2 0, 400, .inl b15))] (fun v w => ∃ (e0 : Int32), ∃ (e1 : Nat → Int32), v = none ∧ w = [(b0, .inr (8, [.int b2, .int e0, .ref b4, .int b5, .int b6, .ref b7, .ref b8, .ref b9, .ref b10, .ref b11])), (b4, .inl (G.2 0, 8, .inl e1)), (b9, .inl (G.2 0, 400, .inl b13)), (b10, .inl (G.2 0, 400, .inl b14)), (b11, .inl (G.2 0, 400, .inl b15))] ∧ (zI e0 (-2) 8) ∧ (zR e1 0 9)) := by
  refine z_start (by decide +kernel) (Nat.le_of_ble_eq_true rfl) ?_
  intro p e s m below meth c A Z hr hnm hA hP hD hS ls hl
  have Z : zC p s m _ meth c prog_7_method_7_code 4 "TraceMachines$Parting" G := Z
  obtain ⟨hx, hb, hml, hown, hts, hK, hN, hlocks⟩ := id Z
  have hl : lv_has ls 4 [(0, .ref b0), (1, .int b1)] := hl
  refine lv_aload_n hx hb d_Parting_spell_0 rfl (lv_at hl 0 rfl) ?_
  refine lv_aload_n hx hb d_Parting_spell_1 rfl (lv_at hl 0 rfl) ?_
  refine va_get (D := G.1) (ci := 8) (v := .ref b11) (C := R_Parting) (T := F_Parting) (N := 10) hx hb hts i_Parting hown hK hP 0 rfl rfl 9 (by decide) (hts _ q311) (fun _ h9 => h9) rfl d_Parting_spell_2 ?_
  refine lv_iload_n hx hb d_Parting_spell_5 rfl (lv_at hl 1 rfl) ?_
  refine va_iald hx hb hK hP 4 0 rfl rfl (zI.inn hb1 (by decide)) d_Parting_spell_6 ?_
  refine lv_topi (fun v_1 ev_1 => ?_)
  have hv_1 : zI v_1 0 8 := (hb15 _).eq ev_1
  refine va_put (D := G.1) (ci := 8) (v := .int v_1) (ty := .int) (C := R_Parting) (T := F_Parting) (N := 10) hx hb hts i_Parting t_Parting t_Parting_ok n_Parting hown hK hP hD hS 0 rfl rfl 1 (by decide) (hts _ q301) (fun _ h9 => h9) rfl (by decide +kernel) rfl rfl (Nat.le_of_ble_eq_true rfl) d_Parting_spell_7 (fun H locs hP hD hS => ?_)
  have hP : va_P G.1 classes [(b0, .inr (8, [.int b2, .int v_1, .ref b4, .int b5, .int b6, .ref b7, .ref b8, .ref b9, .ref b10, .ref b11])), (b4, .inl (G.2 0, 8, .inl b12)), (b9, .inl (G.2 0, 400, .inl b13)), (b10, .inl (G.2 0, 400, .inl b14)), (b11, .inl (G.2 0, 400, .inl b15))] H := hP
  have hD := z_tie hP hD rfl
  refine lv_iload_n hx hb d_Parting_spell_10 rfl (lv_at hl 1 rfl) ?_
  refine lv_istore_n (lv' := [(2, .int b1), (0, .ref b0), (1, .int b1)]) hx hb d_Parting_spell_11 rfl hl (by decide) rfl (fun ls hl => ?_)
  refine lv_aload_n hx hb d_Parting_spell_12 rfl (lv_at hl 1 rfl) ?_
  refine va_get (D := G.1) (ci := 8) (v := .int v_1) (C := R_Parting) (T := F_Parting) (N := 10) hx hb hts i_Parting hown hK hP 0 rfl rfl 1 (by decide) (hts _ q301) (fun _ h9 => h9) rfl d_Parting_spell_13 ?_
  refine lv_iconst (v := 1) hx hb d_Parting_spell_16 (by decide) ?_
  refine lv_isub hx hb d_Parting_spell_17 ?_
  refine lv_topi (fun v_2 ev_2 => ?_)
  obtain ⟨qv_2, hv_2⟩ := zI_sub (l := -1) (h := 7) hv_1 zc_1 ev_2 (by decide)
  rw [li_1] at qv_2
  refine lv_istore_n (lv' := [(3, .int v_2), (2, .int b1), (0, .ref b0), (1, .int b1)]) hx hb d_Parting_spell_18 rfl hl (by decide) rfl (fun ls hl => ?_)
  suffices key : ∀ (k_24 : Nat) (y_25 : Int32) (y_26 : Int32) (y_27 : Nat → Int32) (H : Heap) (locs : List Loc) (ls : Array Slot), (zI y_25 (-1) 7) → (zI y_26 0 399) → (zR y_27 0 9) → y_25.toInt - ((-1)) < (k_24 : Int) → va_P G.1 classes [(b0, .inr (8, [.int b2, .int v_1, .ref b4, .int b5, .int b6, .ref b7, .ref b8, .ref b9, .ref b10, .ref b11])), (b4, .inl (G.2 0, 8, .inl y_27)), (b9, .inl (G.2 0, 400, .inl b13)), (b10, .inl (G.2 0, 400, .inl b14)), (b11, .inl (G.2 0, 400, .inl b15))] H → va_D A [(b0, .inr (8, [.int b2, .int v_1, .ref b4, .int b5, .int b6, .ref b7, .ref b8, .ref b9, .ref b10, .ref b11])), (b4, .inl (G.2 0, 8, .inl y_27)), (b9, .inl (G.2 0, 400, .inl b13)), (b10, .inl (G.2 0, 400, .inl b14)), (b11, .inl (G.2 0, 400, .inl b15))] → va_S A s.heap H locs → lv_has ls 4 [(3, .int y_25), (2, .int y_26), (0, .ref b0), (1, .int b1)] → W p l e m_s1_Parting_spell s m ([.ref b0, .int b1] : List Value).toArray below meth c H locs 0 0 (MQ below (zQ G (fun v w => ∃ (e0 : Int32), ∃ (e1 : Nat → Int32), v = none ∧ w = [(b0, .inr (8, [.int b2, .int e0, .ref b4, .int b5, .int b6, .ref b7, .ref b8, .ref b9, .ref b10, .ref b11])), (b4, .inl (G.2 0, 8, .inl e1)), (b9, .inl (G.2 0, 400, .inl b13)), (b10, .inl (G.2 0, 400, .inl b14)), (b11, .inl (G.2 0, 400, .inl b15))] ∧ (zI e0 (-2) 8) ∧ (zR e1 0 9)) A) ([.ref b0, .int b1] : List Value).toArray s m_s1_Parting_spell.cells m_s1_Parting_spell.slots A) (F0 m 19 ls []) by
    exact key 9 (v_2) (b1) (b12) _ _ _ hv_2 hb1 hb12 (zm_dni hv_2 (by decide)) hP hD hS (lv_sub hl [0, 1, 2, 3] rfl)
  intro k_24
  induction k_24 with
  | zero =>
    intro y_25 y_26 y_27 H locs ls hy_25 hy_26 hy_27 hmk_24 hP hD hS hl
    exact (zm_dn0 hy_25 hmk_24).elim
  | succ k_24 ihk_24 =>
    intro y_25 y_26 y_27 H locs ls hy_25 hy_26 hy_27 hmk_24 hP hD hS hl
    refine lv_iload_n hx hb d_Parting_spell_19 rfl (lv_at hl 0 rfl) ?_
    refine lv_if_lt (tgt := 48) hx hb d_Parting_spell_20 (by decide) (fun hc_28 => ?_) (fun hc_28 => ?_)
    · have _nhc_28 := hc_28
      have ni_29 := (fa_lt _ _).mp hc_28
      rw [li_0] at ni_29
      have hv_30 : zI y_25 (-1) (-1) := zI.lt_l hy_25 zc_0 hc_28 (by decide)
      exact z_vret hx hb hr hlocks hP hD hS (Nat.le_of_ble_eq_true rfl) (Nat.le_of_ble_eq_true rfl) d_Parting_spell_48 ⟨v_1, y_27, rfl, rfl, (zI.wk (l' := (-2)) (h' := 8) hv_1 (by decide)), hy_27⟩
    · have _nhc_28 := hc_28
      have ni_31 := (fa_le _ _).mp (zi_nlt hc_28)
      rw [li_0] at ni_31
      have hv_32 : zI y_25 0 7 := zI.le_r zc_0 hy_25 (zi_nlt hc_28) (by decide)
      refine lv_aload_n hx hb d_Parting_spell_23 rfl (lv_at hl 2 rfl) ?_
      refine va_get (D := G.1) (ci := 8) (v := .ref b4) (C := R_Parting) (T := F_Parting) (N := 10) hx hb hts i_Parting hown hK hP 0 rfl rfl 2 (by decide) (hts _ q303) (fun _ h9 => h9) rfl d_Parting_spell_24 ?_
      refine lv_iload_n hx hb d_Parting_spell_27 rfl (lv_at hl 0 rfl) ?_
      refine lv_aload_n hx hb d_Parting_spell_28 rfl (lv_at hl 2 rfl) ?_
      refine va_get (D := G.1) (ci := 8) (v := .ref b10) (C := R_Parting) (T := F_Parting) (N := 10) hx hb hts i_Parting hown hK hP 0 rfl rfl 8 (by decide) (hts _ q310) (fun _ h9 => h9) rfl d_Parting_spell_29 ?_
      refine lv_iload_n hx hb d_Parting_spell_32 rfl (lv_at hl 1 rfl) ?_
      refine va_iald hx hb hK hP 3 0 rfl rfl (zI.inn hy_26 (by decide)) d_Parting_spell_33 ?_
      refine lv_topi (fun v_33 ev_33 => ?_)
      have hv_33 : zI v_33 0 9 := (hb14 _).eq ev_33
      refine va_iast hx hb hK hP hD hS 1 0 rfl rfl (zI.inn hv_32 (by decide)) d_Parting_spell_34 (fun H locs hP hD hS => ?_)
      obtain ⟨f_34, hf_34, gf_34, hP, hD⟩ := z_newfu 1 hP hD rfl hy_27 hv_33
      have hP : va_P G.1 classes [(b0, .inr (8, [.int b2, .int v_1, .ref b4, .int b5, .int b6, .ref b7, .ref b8, .ref b9, .ref b10, .ref b11])), (b4, .inl (G.2 0, 8, .inl f_34)), (b9, .inl (G.2 0, 400, .inl b13)), (b10, .inl (G.2 0, 400, .inl b14)), (b11, .inl (G.2 0, 400, .inl b15))] H := hP
      have hD := z_tie hP hD rfl
      refine lv_aload_n hx hb d_Parting_spell_35 rfl (lv_at hl 2 rfl) ?_
      refine va_get (D := G.1) (ci := 8) (v := .ref b9) (C := R_Parting) (T := F_Parting) (N := 10) hx hb hts i_Parting hown hK hP 0 rfl rfl 7 (by decide) (hts _ q309) (fun _ h9 => h9) rfl d_Parting_spell_36 ?_
      refine lv_iload_n hx hb d_Parting_spell_39 rfl (lv_at hl 1 rfl) ?_
      refine va_iald hx hb hK hP 2 0 rfl rfl (zI.inn hy_26 (by decide)) d_Parting_spell_40 ?_
      refine lv_topi (fun v_35 ev_35 => ?_)
      have hv_35 : zI v_35 0 399 := (hb13 _).eq ev_35
      refine lv_istore_n (lv' := [(2, .int v_35), (3, .int y_25), (0, .ref b0), (1, .int b1)]) hx hb d_Parting_spell_41 rfl hl (by decide) rfl (fun ls hl => ?_)
      obtain ⟨v_36, ev_36⟩ : ∃ z : Int32, z = y_25 + (-1) := ⟨_, rfl⟩
      obtain ⟨qv_36, hv_36⟩ := zI_add (l := -1) (h := 6) hv_32 zc_m1 ev_36 (by decide)
      rw [li_m1] at qv_36
      refine lv_iinc (v := v_36) (lv' := [(3, .int v_36), (2, .int v_35), (0, .ref b0), (1, .int b1)]) hx hb d_Parting_spell_42 hl (k := 1) rfl (by rw [ev_36]; rfl) (by decide) rfl (fun ls hl => ?_)
      refine lv_goto (tgt := 19) hx hb d_Parting_spell_45 (by decide) ?_
      exact ihk_24 (v_36) (v_35) (f_34) _ _ _ (zI.wk (l' := (-1)) (h' := 7) hv_36 (by decide)) hv_35 hf_34 (zm_dn qv_36 hmk_24 (by decide)) hP hD hS (lv_sub hl [0, 1, 2, 3] rfl)
theorem d_Model_isTrace_0 : decode prog_14_method_5_code 0 = .ok (.iload_n 1, 1) := by decide +kernel
theorem d_Model_isTrace_1 : decode prog_14_method_5_code 1 = .ok (.i2l, 1) := by decide +kernel
theorem d_Model_isTrace_2 : decode prog_14_method_5_code 2 = .ok (.lconst 0, 1) := by decide +kernel
theorem d_Model_isTrace_3 : decode prog_14_method_5_code 3 = .ok (.aload_n 0, 1) := by decide +kernel
theorem d_Model_isTrace_4 : decode prog_14_method_5_code 4 = .ok (.invokevirtual 134, 3) := by decide +kernel
theorem d_Model_isTrace_7 : decode prog_14_method_5_code 7 = .ok (.i2l, 1) := by decide +kernel
theorem d_Model_isTrace_8 : decode prog_14_method_5_code 8 = .ok (.lconst 1, 1) := by decide +kernel
theorem d_Model_isTrace_9 : decode prog_14_method_5_code 9 = .ok (.lsub, 1) := by decide +kernel
theorem d_Model_isTrace_10 : decode prog_14_method_5_code 10 = .ok (.invokestatic 138, 3) := by decide +kernel
theorem d_Model_in_0 : decode prog_14_method_3_code 0 = .ok (.lload_n 0, 1) := by decide +kernel
theorem d_Model_in_1 : decode prog_14_method_3_code 1 = .ok (.lload_n 2, 1) := by decide +kernel
theorem d_Model_in_2 : decode prog_14_method_3_code 2 = .ok (.lcmp, 1) := by decide +kernel
theorem d_Model_in_3 : decode prog_14_method_3_code 3 = .ok (.ifCond .lt 14, 3) := by decide +kernel
theorem d_Model_in_6 : decode prog_14_method_3_code 6 = .ok (.lload_n 0, 1) := by decide +kernel
theorem d_Model_in_7 : decode prog_14_method_3_code 7 = .ok (.lload 4, 2) := by decide +kernel
theorem d_Model_in_9 : decode prog_14_method_3_code 9 = .ok (.lcmp, 1) := by decide +kernel
theorem d_Model_in_10 : decode prog_14_method_3_code 10 = .ok (.ifCond .gt 7, 3) := by decide +kernel
theorem d_Model_in_13 : decode prog_14_method_3_code 13 = .ok (.iconst 1, 1) := by decide +kernel
theorem d_Model_in_14 : decode prog_14_method_3_code 14 = .ok (.goto 4, 3) := by decide +kernel
theorem d_Model_in_17 : decode prog_14_method_3_code 17 = .ok (.iconst 0, 1) := by decide +kernel
theorem d_Model_in_18 : decode prog_14_method_3_code 18 = .ok (.ireturn, 1) := by decide +kernel
theorem zcl_1 : zJ 1 1 1 := ⟨by decide +kernel, by decide +kernel⟩
theorem ll_1 : (1 : Int64).toInt = 1 := by decide +kernel
abbrev m_s2_Model_in : Room := { frames := 0, cells := 0, slots := 0, locals := 0 }
set_option maxHeartbeats 4000000 in
set_option maxRecDepth 100000 in
theorem s2_Model_in (l : Launch) (G : zG) (b0 : Int64) (b1 : Int64) (b2 : Int64)  : zM l G y_Model_in prog_14_method_3_code 6 (Option.some Jvm.ClassFile.FieldType.boolean) m_s2_Model_in [.long b0, .long b1, .long b2] [] (fun v w => (v = some (.int 0) ∧ w = [] ∧ b0.toInt < b1.toInt) ∨ (v = some (.int 0) ∧ w = [] ∧ b1.toInt ≤ b0.toInt ∧ b2.toInt < b0.toInt) ∨ (v = some (.int 1) ∧ w = [] ∧ b1.toInt ≤ b0.toInt ∧ b0.toInt ≤ b2.toInt)) := by
  refine z_start (by decide +kernel) (Nat.le_of_ble_eq_true rfl) ?_
  intro p e s m below meth c A Z hr hnm hA hP hD hS ls hl
  have Z : zC p s m _ meth c prog_14_method_3_code 6 "TraceMachinesModel" G := Z
  obtain ⟨hx, hb, hml, hown, hts, hK, hN, hlocks⟩ := id Z
  have hl : lv_has ls 6 [(0, .long b0), (2, .long b1), (4, .long b2)] := hl
  refine lv_lload_n hx hb d_Model_in_0 rfl (lv_at hl 0 rfl) ?_
  refine lv_lload_n hx hb d_Model_in_1 rfl (lv_at hl 1 rfl) ?_
  refine W.lcmp hx hb d_Model_in_2 ?_
  refine lv_topi (fun v_1 ev_1 => ?_)
  refine lv_if_lt (tgt := 17) hx hb d_Model_in_3 (by decide) (fun hc_2 => ?_) (fun hc_2 => ?_)
  · have ni_3 := hc_2
    rw [ev_1] at ni_3
    simp only [lg_cmp_lt, lg_cmp_le, lg_cmp_gt, lg_cmp_ge, lg_cmp_eq, fa_lt64, fa_le64, fa_eq64, Int32.toInt_toInt64] at ni_3
    have hv_4 : zJ b0 (-9223372036854775808) 9223372036854775806 := by have _a := ni_3; have _b := (zJ_all b0); have _c := (zJ_all b1); simp only [Int32.toInt_toInt64] at *; exact ⟨by omega, by omega⟩
    have hv_5 : zJ b1 (-9223372036854775807) 9223372036854775807 := by have _a := ni_3; have _b := (zJ_all b1); have _c := hv_4; simp only [Int32.toInt_toInt64] at *; exact ⟨by omega, by omega⟩
    refine lv_iconst (v := 0) hx hb d_Model_in_17 (by decide) ?_
    exact z_zret hx hb hr hlocks rfl hP hD hS (Nat.le_of_ble_eq_true rfl) (Nat.le_of_ble_eq_true rfl) d_Model_in_18 (Or.inl ⟨rfl, rfl, by omega⟩)
  · have ni_6 := hc_2
    rw [ev_1] at ni_6
    simp only [lg_cmp_lt, lg_cmp_le, lg_cmp_gt, lg_cmp_ge, lg_cmp_eq, fa_lt64, fa_le64, fa_eq64, Int32.toInt_toInt64] at ni_6
    refine lv_lload_n hx hb d_Model_in_6 rfl (lv_at hl 0 rfl) ?_
    refine lv_lload hx hb d_Model_in_7 (lv_at hl 2 rfl) ?_
    refine W.lcmp hx hb d_Model_in_9 ?_
    refine lv_topi (fun v_7 ev_7 => ?_)
    refine lv_if_gt (tgt := 17) hx hb d_Model_in_10 (by decide) (fun hc_8 => ?_) (fun hc_8 => ?_)
    · have ni_9 := hc_8
      rw [ev_7] at ni_9
      simp only [lg_cmp_lt, lg_cmp_le, lg_cmp_gt, lg_cmp_ge, lg_cmp_eq, fa_lt64, fa_le64, fa_eq64, Int32.toInt_toInt64] at ni_9
      have hv_10 : zJ b0 (-9223372036854775807) 9223372036854775807 := by have _a := ni_9; have _b := (zJ_all b0); have _c := (zJ_all b2); simp only [Int32.toInt_toInt64] at *; exact ⟨by omega, by omega⟩
      have hv_11 : zJ b2 (-9223372036854775808) 9223372036854775806 := by have _a := ni_9; have _b := (zJ_all b2); have _c := hv_10; simp only [Int32.toInt_toInt64] at *; exact ⟨by omega, by omega⟩
      refine lv_iconst (v := 0) hx hb d_Model_in_17 (by decide) ?_
      exact z_zret hx hb hr hlocks rfl hP hD hS (Nat.le_of_ble_eq_true rfl) (Nat.le_of_ble_eq_true rfl) d_Model_in_18 (Or.inr (Or.inl ⟨rfl, rfl, by omega, by omega⟩))
    · have ni_12 := hc_8
      rw [ev_7] at ni_12
      simp only [lg_cmp_lt, lg_cmp_le, lg_cmp_gt, lg_cmp_ge, lg_cmp_eq, fa_lt64, fa_le64, fa_eq64, Int32.toInt_toInt64] at ni_12
      refine lv_iconst (v := 1) hx hb d_Model_in_13 (by decide) ?_
      refine lv_goto (tgt := 18) hx hb d_Model_in_14 (by decide) ?_
      exact z_zret hx hb hr hlocks rfl hP hD hS (Nat.le_of_ble_eq_true rfl) (Nat.le_of_ble_eq_true rfl) d_Model_in_18 (Or.inr (Or.inr (⟨rfl, rfl, by omega, by omega⟩)))
theorem d_Model_isTrace_13 : decode prog_14_method_5_code 13 = .ok (.ireturn, 1) := by decide +kernel
abbrev m_s1_Model_isTrace : Room := { frames := 1, cells := 0, slots := 0, locals := 25 }
set_option maxHeartbeats 4000000 in
set_option maxRecDepth 100000 in
theorem s1_Model_isTrace (l : Launch) (G : zG) (b0 : Nat) (b1 : Int32) (b2 : Int32) (b3 : Nat) (b4 : Nat) (b5 : Nat) (b6 : Nat) (b7 : Int32) (b8 : Nat) (b9 : Int32) (b10 : Int32) (b11 : Int32) (b12 : Int32) (b13 : Nat) (b14 : Nat) (b15 : Nat) (b16 : Int32) (b17 : Nat) (b18 : Nat) (b19 : Nat) (b20 : Nat) (b21 : Nat) (b22 : Nat) (b23 : Nat) (b24 : Nat) (b25 : Nat) (b26 : Nat) (b27 : Nat) (b28 : Nat) (b29 : Int32) (b30 : Nat) (b31 : Nat) (b32 : Int32) (b33 : Int32) (b34 : Int32) (b35 : Int32) (b36 : Nat) (b37 : Nat) (b38 : Nat) (b39 : Nat) (b40 : Nat) (b41 : Nat) (b42 : Nat) (b43 : Int32) (b44 : Nat) (b45 : Nat) (b46 : Int32) (b47 : Nat) (b48 : Nat) (b49 : Nat) (b50 : Nat) (b51 : Nat) (b52 : Int32) (b53 : Nat) (b54 : Nat) (b55 : Nat) (b56 : Nat → Int32) (hb7 : zI b7 0 8) (hb9 : zI b9 0 240) (hb10 : zI b10 0 240) (hb12 : zI b12 0 1) (hb16 : zI b16 0 12) (hb29 : zI b29 0 1) (hb32 : zI b32 0 1) (hb56 : zW5 b56) : zM l G y_Model_isTrace prog_14_method_5_code 2 (Option.some Jvm.ClassFile.FieldType.boolean) m_s1_Model_isTrace [.ref b0, .int b1] [(b0, .inr (12, [.int b2, .ref b3, .ref b4, .ref b5, .ref b6, .int b7, .ref b8, .int b9, .int b10, .int b11, .int b12, .ref b13, .ref b14, .ref b15, .int b16, .ref b17, .ref b18, .ref b19, .ref b20, .ref b21, .ref b22, .ref b23, .ref b24, .ref b25, .ref b26, .ref b27, .ref b28, .int b29, .ref b30, .ref b31, .int b32, .int b33, .int b34, .int b35, .ref b36, .ref b37, .ref b38, .ref b39, .ref b40, .ref b41, .ref b42, .int b43, .ref b44, .ref b45, .int b46, .ref b47, .ref b48, .ref b49, .ref b50, .ref b51, .int b52, .ref b53, .ref b54, .ref b55])), (b3, .inl (G.2 0, 503, .inl b56))] (fun v w => ∃ (e0 : Int32), v = some (.int e0) ∧ w = [(b0, .inr (12, [.int b2, .ref b3, .ref b4, .ref b5, .ref b6, .int b7, .ref b8, .int b9, .int b10, .int b11, .int b12, .ref b13, .ref b14, .ref b15, .int b16, .ref b17, .ref b18, .ref b19, .ref b20, .ref b21, .ref b22, .ref b23, .ref b24, .ref b25, .ref b26, .ref b27, .ref b28, .int b29, .ref b30, .ref b31, .int b32, .int b33, .int b34, .int b35, .ref b36, .ref b37, .ref b38, .ref b39, .ref b40, .ref b41, .ref b42, .int b43, .ref b44, .ref b45, .int b46, .ref b47, .ref b48, .ref b49, .ref b50, .ref b51, .int b52, .ref b53, .ref b54, .ref b55])), (b3, .inl (G.2 0, 503, .inl b56))] ∧ (zI e0 0 1)) := by
  refine z_start (by decide +kernel) (Nat.le_of_ble_eq_true rfl) ?_
  intro p e s m below meth c A Z hr hnm hA hP hD hS ls hl
  have Z : zC p s m _ meth c prog_14_method_5_code 2 "TraceMachinesModel" G := Z
  obtain ⟨hx, hb, hml, hown, hts, hK, hN, hlocks⟩ := id Z
  have hl : lv_has ls 2 [(0, .ref b0), (1, .int b1)] := hl
  refine lv_iload_n hx hb d_Model_isTrace_0 rfl (lv_at hl 1 rfl) ?_
  refine lv_i2l (v := b1.toInt64) hx hb d_Model_isTrace_1 rfl ?_
  refine lv_lconst (v := 0) hx hb d_Model_isTrace_2 (by decide) ?_
  refine lv_aload_n hx hb d_Model_isTrace_3 rfl (lv_at hl 0 rfl) ?_
  refine z_callV (index := 134) (As := []) (rest := [.long 0, .long b1.toInt64]) (wr := []) Z (s1_Model_many l G (b0) (b2) (b3) (b4) (b5) (b6) (b7) (b8) (b9) (b10) (b11) (b12) (b13) (b14) (b15) (b16) (b17) (b18) (b19) (b20) (b21) (b22) (b23) (b24) (b25) (b26) (b27) (b28) (b29) (b30) (b31) (b32) (b33) (b34) (b35) (b36) (b37) (b38) (b39) (b40) (b41) (b42) (b43) (b44) (b45) (b46) (b47) (b48) (b49) (b50) (b51) (b52) (b53) (b54) (b55) (b56) hb7 hb9 hb10 hb12 hb16 hb29 hb32 hb56) hl.1 q1320 q1322 qs51 q14 q1323 ⟨by decide, by decide, by show _ = some 0; decide +kernel⟩ ⟨Nat.le_of_ble_eq_true rfl, Nat.le_of_ble_eq_true rfl⟩ ⟨Nat.le_of_ble_eq_true rfl, Nat.le_of_ble_eq_true rfl⟩ rfl (Nat.le_of_ble_eq_true rfl) d_Model_isTrace_4 hP hD hS hA 0 12 rfl rfl rfl [0, 1] [] rfl rfl rfl rfl (by decide) (fun v w1 H locs hw_1 hP hD hS => ?_)
  obtain ⟨x_2, rfl, rfl, hx_2⟩ := hw_1
  have hP : va_P G.1 classes [(b0, .inr (12, [.int b2, .ref b3, .ref b4, .ref b5, .ref b6, .int b7, .ref b8, .int b9, .int b10, .int b11, .int b12, .ref b13, .ref b14, .ref b15, .int b16, .ref b17, .ref b18, .ref b19, .ref b20, .ref b21, .ref b22, .ref b23, .ref b24, .ref b25, .ref b26, .ref b27, .ref b28, .int b29, .ref b30, .ref b31, .int b32, .int b33, .int b34, .int b35, .ref b36, .ref b37, .ref b38, .ref b39, .ref b40, .ref b41, .ref b42, .int b43, .ref b44, .ref b45, .int b46, .ref b47, .ref b48, .ref b49, .ref b50, .ref b51, .int b52, .ref b53, .ref b54, .ref b55])), (b3, .inl (G.2 0, 503, .inl b56))] H := hP
  have hD := z_tie hP hD rfl
  refine W.widen (k := 0) (n := 0) (Nat.le_of_ble_eq_true rfl) (Nat.le_of_ble_eq_true rfl) ?_
  refine lv_i2l (v := x_2.toInt64) hx hb d_Model_isTrace_7 rfl ?_
  refine lv_lconst (v := 1) hx hb d_Model_isTrace_8 (by decide) ?_
  refine lv_lsub hx hb d_Model_isTrace_9 ?_
  refine lv_topl (fun v_3 ev_3 => ?_)
  obtain ⟨qv_3, hv_3⟩ := zJ_sub (l := -1) (h := 19) (zI_i2l hx_2 rfl).2 zcl_1 ev_3 (by decide)
  try simp only [Int32.toInt_toInt64, ll_1] at qv_3
  refine z_callS (index := 138) (As := [.long b1.toInt64, .long 0, .long v_3]) (rest := []) (wr := [(b0, .inr (12, [.int b2, .ref b3, .ref b4, .ref b5, .ref b6, .int b7, .ref b8, .int b9, .int b10, .int b11, .int b12, .ref b13, .ref b14, .ref b15, .int b16, .ref b17, .ref b18, .ref b19, .ref b20, .ref b21, .ref b22, .ref b23, .ref b24, .ref b25, .ref b26, .ref b27, .ref b28, .int b29, .ref b30, .ref b31, .int b32, .int b33, .int b34, .int b35, .ref b36, .ref b37, .ref b38, .ref b39, .ref b40, .ref b41, .ref b42, .int b43, .ref b44, .ref b45, .int b46, .ref b47, .ref b48, .ref b49, .ref b50, .ref b51, .int b52, .ref b53, .ref b54, .ref b55])), (b3, .inl (G.2 0, 503, .inl b56))]) Z (s2_Model_in l G (b1.toInt64) (0) (v_3)) hl.1 q1281 q1282 q14 q1283 ⟨by decide, by decide, by show _ = some 3; decide +kernel⟩ ⟨Nat.le_of_ble_eq_true rfl, Nat.le_of_ble_eq_true rfl⟩ ⟨Nat.le_of_ble_eq_true rfl, Nat.le_of_ble_eq_true rfl⟩ rfl (Nat.le_of_ble_eq_true rfl) d_Model_isTrace_10 hP hD hS hA [] [0, 1] rfl rfl rfl rfl (by decide) (fun v w1 H locs hw_4 hP hD hS => ?_)
  rcases hw_4 with ⟨rfl, rfl, hq_5⟩ | ⟨rfl, rfl, hq_6, hq_7⟩ | ⟨rfl, rfl, hq_8, hq_9⟩
  · have hP : va_P G.1 classes [(b0, .inr (12, [.int b2, .ref b3, .ref b4, .ref b5, .ref b6, .int b7, .ref b8, .int b9, .int b10, .int b11, .int b12, .ref b13, .ref b14, .ref b15, .int b16, .ref b17, .ref b18, .ref b19, .ref b20, .ref b21, .ref b22, .ref b23, .ref b24, .ref b25, .ref b26, .ref b27, .ref b28, .int b29, .ref b30, .ref b31, .int b32, .int b33, .int b34, .int b35, .ref b36, .ref b37, .ref b38, .ref b39, .ref b40, .ref b41, .ref b42, .int b43, .ref b44, .ref b45, .int b46, .ref b47, .ref b48, .ref b49, .ref b50, .ref b51, .int b52, .ref b53, .ref b54, .ref b55])), (b3, .inl (G.2 0, 503, .inl b56))] H := hP
    have hD := z_tie hP hD rfl
    try simp only [Int32.toInt_toInt64, ll_0] at hq_5
    have hv_10 : zI b1 (-2147483648) (-1) := by have _a := hq_5; have _b := (zI_all b1); have _c := zcl_0; simp only [Int32.toInt_toInt64] at *; exact ⟨by omega, by omega⟩
    refine W.widen (k := 0) (n := 0) (Nat.le_of_ble_eq_true rfl) (Nat.le_of_ble_eq_true rfl) ?_
    exact z_zret hx hb hr hlocks rfl hP hD hS (Nat.le_of_ble_eq_true rfl) (Nat.le_of_ble_eq_true rfl) d_Model_isTrace_13 ⟨0, rfl, rfl, (zI.wk (l' := 0) (h' := 1) zc_0 (by decide))⟩
  · have hP : va_P G.1 classes [(b0, .inr (12, [.int b2, .ref b3, .ref b4, .ref b5, .ref b6, .int b7, .ref b8, .int b9, .int b10, .int b11, .int b12, .ref b13, .ref b14, .ref b15, .int b16, .ref b17, .ref b18, .ref b19, .ref b20, .ref b21, .ref b22, .ref b23, .ref b24, .ref b25, .ref b26, .ref b27, .ref b28, .int b29, .ref b30, .ref b31, .int b32, .int b33, .int b34, .int b35, .ref b36, .ref b37, .ref b38, .ref b39, .ref b40, .ref b41, .ref b42, .int b43, .ref b44, .ref b45, .int b46, .ref b47, .ref b48, .ref b49, .ref b50, .ref b51, .int b52, .ref b53, .ref b54, .ref b55])), (b3, .inl (G.2 0, 503, .inl b56))] H := hP
    have hD := z_tie hP hD rfl
    try simp only [Int32.toInt_toInt64, ll_0] at hq_6
    have hv_11 : zI b1 0 2147483647 := by have _a := hq_6; have _b := (zI_all b1); have _c := zcl_0; simp only [Int32.toInt_toInt64] at *; exact ⟨by omega, by omega⟩
    try simp only [Int32.toInt_toInt64] at hq_7
    refine W.widen (k := 0) (n := 0) (Nat.le_of_ble_eq_true rfl) (Nat.le_of_ble_eq_true rfl) ?_
    exact z_zret hx hb hr hlocks rfl hP hD hS (Nat.le_of_ble_eq_true rfl) (Nat.le_of_ble_eq_true rfl) d_Model_isTrace_13 ⟨0, rfl, rfl, (zI.wk (l' := 0) (h' := 1) zc_0 (by decide))⟩
  · have hP : va_P G.1 classes [(b0, .inr (12, [.int b2, .ref b3, .ref b4, .ref b5, .ref b6, .int b7, .ref b8, .int b9, .int b10, .int b11, .int b12, .ref b13, .ref b14, .ref b15, .int b16, .ref b17, .ref b18, .ref b19, .ref b20, .ref b21, .ref b22, .ref b23, .ref b24, .ref b25, .ref b26, .ref b27, .ref b28, .int b29, .ref b30, .ref b31, .int b32, .int b33, .int b34, .int b35, .ref b36, .ref b37, .ref b38, .ref b39, .ref b40, .ref b41, .ref b42, .int b43, .ref b44, .ref b45, .int b46, .ref b47, .ref b48, .ref b49, .ref b50, .ref b51, .int b52, .ref b53, .ref b54, .ref b55])), (b3, .inl (G.2 0, 503, .inl b56))] H := hP
    have hD := z_tie hP hD rfl
    try simp only [Int32.toInt_toInt64, ll_0] at hq_8
    have hv_12 : zI b1 0 2147483647 := by have _a := hq_8; have _b := (zI_all b1); have _c := zcl_0; simp only [Int32.toInt_toInt64] at *; exact ⟨by omega, by omega⟩
    try simp only [Int32.toInt_toInt64] at hq_9
    have hv_13 : zI b1 0 19 := by have _a := hq_9; have _b := hv_12; have _c := hv_3; simp only [Int32.toInt_toInt64] at *; exact ⟨by omega, by omega⟩
    have hv_14 : zJ v_3 0 19 := by have _a := hq_9; have _b := hv_3; have _c := (zI_i2l hv_13 rfl).2; simp only [Int32.toInt_toInt64] at *; exact ⟨by omega, by omega⟩
    refine W.widen (k := 0) (n := 0) (Nat.le_of_ble_eq_true rfl) (Nat.le_of_ble_eq_true rfl) ?_
    exact z_zret hx hb hr hlocks rfl hP hD hS (Nat.le_of_ble_eq_true rfl) (Nat.le_of_ble_eq_true rfl) d_Model_isTrace_13 ⟨1, rfl, rfl, (zI.wk (l' := 0) (h' := 1) zc_1 (by decide))⟩
theorem d_Model_end_0 : decode prog_14_method_10_code 0 = .ok (.aload_n 0, 1) := by decide +kernel
theorem d_Model_end_1 : decode prog_14_method_10_code 1 = .ok (.iconst 0, 1) := by decide +kernel
theorem d_Model_end_2 : decode prog_14_method_10_code 2 = .ok (.putfield 1, 3) := by decide +kernel
theorem d_Model_end_5 : decode prog_14_method_10_code 5 = .ok (.iload_n 1, 1) := by decide +kernel
theorem d_Model_end_6 : decode prog_14_method_10_code 6 = .ok (.i2l, 1) := by decide +kernel
theorem d_Model_end_7 : decode prog_14_method_10_code 7 = .ok (.lconst 0, 1) := by decide +kernel
theorem d_Model_end_8 : decode prog_14_method_10_code 8 = .ok (.aload_n 0, 1) := by decide +kernel
theorem d_Model_end_9 : decode prog_14_method_10_code 9 = .ok (.getfield 142, 3) := by decide +kernel
theorem d_Model_end_12 : decode prog_14_method_10_code 12 = .ok (.i2l, 1) := by decide +kernel
theorem d_Model_end_13 : decode prog_14_method_10_code 13 = .ok (.invokestatic 138, 3) := by decide +kernel
theorem d_Model_end_16 : decode prog_14_method_10_code 16 = .ok (.ifCond .ne 5, 3) := by decide +kernel
theorem d_Model_end_19 : decode prog_14_method_10_code 19 = .ok (.iconst 0, 1) := by decide +kernel
theorem d_Model_end_20 : decode prog_14_method_10_code 20 = .ok (.ireturn, 1) := by decide +kernel
theorem d_Model_end_21 : decode prog_14_method_10_code 21 = .ok (.aload_n 0, 1) := by decide +kernel
theorem d_Model_end_22 : decode prog_14_method_10_code 22 = .ok (.iload_n 1, 1) := by decide +kernel
theorem d_Model_end_23 : decode prog_14_method_10_code 23 = .ok (.putfield 142, 3) := by decide +kernel
theorem d_Model_end_26 : decode prog_14_method_10_code 26 = .ok (.iconst 1, 1) := by decide +kernel
theorem d_Model_end_27 : decode prog_14_method_10_code 27 = .ok (.ireturn, 1) := by decide +kernel
abbrev m_s1_Model_end : Room := { frames := 1, cells := 0, slots := 0, locals := 25 }
set_option maxHeartbeats 4000000 in
set_option maxRecDepth 100000 in
theorem s1_Model_end (l : Launch) (G : zG) (b0 : Nat) (b1 : Int32) (b2 : Int32) (b3 : Nat) (b4 : Nat) (b5 : Nat) (b6 : Nat) (b7 : Int32) (b8 : Nat) (b9 : Int32) (b10 : Int32) (b11 : Int32) (b12 : Int32) (b13 : Nat) (b14 : Nat) (b15 : Nat) (b16 : Int32) (b17 : Nat) (b18 : Nat) (b19 : Nat) (b20 : Nat) (b21 : Nat) (b22 : Nat) (b23 : Nat) (b24 : Nat) (b25 : Nat) (b26 : Nat) (b27 : Nat) (b28 : Nat) (b29 : Int32) (b30 : Nat) (b31 : Nat) (b32 : Int32) (b33 : Int32) (b34 : Int32) (b35 : Int32) (b36 : Nat) (b37 : Nat) (b38 : Nat) (b39 : Nat) (b40 : Nat) (b41 : Nat) (b42 : Nat) (b43 : Int32) (b44 : Nat) (b45 : Nat) (b46 : Int32) (b47 : Nat) (b48 : Nat) (b49 : Nat) (b50 : Nat) (b51 : Nat) (b52 : Int32) (b53 : Nat) (b54 : Nat) (b55 : Nat) (hb7 : zI b7 0 8) (hb9 : zI b9 0 240) (hb10 : zI b10 0 240) (hb12 : zI b12 0 1) (hb16 : zI b16 0 12) (hb29 : zI b29 0 1) (hb32 : zI b32 0 1) : zM l G y_Model_end prog_14_method_10_code 2 (Option.some Jvm.ClassFile.FieldType.boolean) m_s1_Model_end [.ref b0, .int b1] [(b0, .inr (12, [.int b2, .ref b3, .ref b4, .ref b5, .ref b6, .int b7, .ref b8, .int b9, .int b10, .int b11, .int b12, .ref b13, .ref b14, .ref b15, .int b16, .ref b17, .ref b18, .ref b19, .ref b20, .ref b21, .ref b22, .ref b23, .ref b24, .ref b25, .ref b26, .ref b27, .ref b28, .int b29, .ref b30, .ref b31, .int b32, .int b33, .int b34, .int b35, .ref b36, .ref b37, .ref b38, .ref b39, .ref b40, .ref b41, .ref b42, .int b43, .ref b44, .ref b45, .int b46, .ref b47, .ref b48, .ref b49, .ref b50, .ref b51, .int b52, .ref b53, .ref b54, .ref b55]))] (fun v w => ∃ (e0 : Int32), ∃ (e1 : Int32), v = some (.int e0) ∧ w = [(b0, .inr (12, [.int 0, .ref b3, .ref b4, .ref b5, .ref b6, .int b7, .ref b8, .int e1, .int b10, .int b11, .int b12, .ref b13, .ref b14, .ref b15, .int b16, .ref b17, .ref b18, .ref b19, .ref b20, .ref b21, .ref b22, .ref b23, .ref b24, .ref b25, .ref b26, .ref b27, .ref b28, .int b29, .ref b30, .ref b31, .int b32, .int b33, .int b34, .int b35, .ref b36, .ref b37, .ref b38, .ref b39, .ref b40, .ref b41, .ref b42, .int b43, .ref b44, .ref b45, .int b46, .ref b47, .ref b48, .ref b49, .ref b50, .ref b51, .int b52, .ref b53, .ref b54, .ref b55]))] ∧ (zI e0 0 1) ∧ (zI e1 0 240)) := by
  refine z_start (by decide +kernel) (Nat.le_of_ble_eq_true rfl) ?_
  intro p e s m below meth c A Z hr hnm hA hP hD hS ls hl
  have Z : zC p s m _ meth c prog_14_method_10_code 2 "TraceMachinesModel" G := Z
  obtain ⟨hx, hb, hml, hown, hts, hK, hN, hlocks⟩ := id Z
  have hl : lv_has ls 2 [(0, .ref b0), (1, .int b1)] := hl
  refine lv_aload_n hx hb d_Model_end_0 rfl (lv_at hl 0 rfl) ?_
  refine lv_iconst (v := 0) hx hb d_Model_end_1 (by decide) ?_
  refine va_put (D := G.1) (ci := 12) (v := .int 0) (ty := .int) (C := R_Model) (T := F_Model) (N := 54) hx hb hts i_Model t_Model t_Model_ok n_Model hown hK hP hD hS 0 rfl rfl 0 (by decide) (hts _ q1109) (fun _ h9 => h9) rfl (by decide +kernel) rfl rfl (Nat.le_of_ble_eq_true rfl) d_Model_end_2 (fun H locs hP hD hS => ?_)
  have hP : va_P G.1 classes [(b0, .inr (12, [.int 0, .ref b3, .ref b4, .ref b5, .ref b6, .int b7, .ref b8, .int b9, .int b10, .int b11, .int b12, .ref b13, .ref b14, .ref b15, .int b16, .ref b17, .ref b18, .ref b19, .ref b20, .ref b21, .ref b22, .ref b23, .ref b24, .ref b25, .ref b26, .ref b27, .ref b28, .int b29, .ref b30, .ref b31, .int b32, .int b33, .int b34, .int b35, .ref b36, .ref b37, .ref b38, .ref b39, .ref b40, .ref b41, .ref b42, .int b43, .ref b44, .ref b45, .int b46, .ref b47, .ref b48, .ref b49, .ref b50, .ref b51, .int b52, .ref b53, .ref b54, .ref b55]))] H := hP
  have hD := z_tie hP hD rfl
  refine lv_iload_n hx hb d_Model_end_5 rfl (lv_at hl 1 rfl) ?_
  refine lv_i2l (v := b1.toInt64) hx hb d_Model_end_6 rfl ?_
  refine lv_lconst (v := 0) hx hb d_Model_end_7 (by decide) ?_
  refine lv_aload_n hx hb d_Model_end_8 rfl (lv_at hl 0 rfl) ?_
  refine va_get (D := G.1) (ci := 12) (v := .int b9) (C := R_Model) (T := F_Model) (N := 54) hx hb hts i_Model hown hK hP 0 rfl rfl 7 (by decide) (hts _ q1116) (fun _ h9 => h9) rfl d_Model_end_9 ?_
  refine lv_i2l (v := b9.toInt64) hx hb d_Model_end_12 rfl ?_
  refine z_callS (index := 138) (As := [.long b1.toInt64, .long 0, .long b9.toInt64]) (rest := []) (wr := [(b0, .inr (12, [.int 0, .ref b3, .ref b4, .ref b5, .ref b6, .int b7, .ref b8, .int b9, .int b10, .int b11, .int b12, .ref b13, .ref b14, .ref b15, .int b16, .ref b17, .ref b18, .ref b19, .ref b20, .ref b21, .ref b22, .ref b23, .ref b24, .ref b25, .ref b26, .ref b27, .ref b28, .int b29, .ref b30, .ref b31, .int b32, .int b33, .int b34, .int b35, .ref b36, .ref b37, .ref b38, .ref b39, .ref b40, .ref b41, .ref b42, .int b43, .ref b44, .ref b45, .int b46, .ref b47, .ref b48, .ref b49, .ref b50, .ref b51, .int b52, .ref b53, .ref b54, .ref b55]))]) Z (s2_Model_in l G (b1.toInt64) (0) (b9.toInt64)) hl.1 q1281 q1282 q14 q1283 ⟨by decide, by decide, by show _ = some 3; decide +kernel⟩ ⟨Nat.le_of_ble_eq_true rfl, Nat.le_of_ble_eq_true rfl⟩ ⟨Nat.le_of_ble_eq_true rfl, Nat.le_of_ble_eq_true rfl⟩ rfl (Nat.le_of_ble_eq_true rfl) d_Model_end_13 hP hD hS hA [] [0] rfl rfl rfl rfl (by decide) (fun v w1 H locs hw_1 hP hD hS => ?_)
  rcases hw_1 with ⟨rfl, rfl, hq_2⟩ | ⟨rfl, rfl, hq_3, hq_4⟩ | ⟨rfl, rfl, hq_5, hq_6⟩
  · have hP : va_P G.1 classes [(b0, .inr (12, [.int 0, .ref b3, .ref b4, .ref b5, .ref b6, .int b7, .ref b8, .int b9, .int b10, .int b11, .int b12, .ref b13, .ref b14, .ref b15, .int b16, .ref b17, .ref b18, .ref b19, .ref b20, .ref b21, .ref b22, .ref b23, .ref b24, .ref b25, .ref b26, .ref b27, .ref b28, .int b29, .ref b30, .ref b31, .int b32, .int b33, .int b34, .int b35, .ref b36, .ref b37, .ref b38, .ref b39, .ref b40, .ref b41, .ref b42, .int b43, .ref b44, .ref b45, .int b46, .ref b47, .ref b48, .ref b49, .ref b50, .ref b51, .int b52, .ref b53, .ref b54, .ref b55]))] H := hP
    have hD := z_tie hP hD rfl
    try simp only [Int32.toInt_toInt64, ll_0] at hq_2
    have hv_7 : zI b1 (-2147483648) (-1) := by have _a := hq_2; have _b := (zI_all b1); have _c := zcl_0; simp only [Int32.toInt_toInt64] at *; exact ⟨by omega, by omega⟩
    refine W.widen (k := 0) (n := 0) (Nat.le_of_ble_eq_true rfl) (Nat.le_of_ble_eq_true rfl) ?_
    refine lv_if_ne (tgt := 21) hx hb d_Model_end_16 (by decide) (fun hc => absurd hc (by decide +kernel)) (fun _ => ?_)
    refine lv_iconst (v := 0) hx hb d_Model_end_19 (by decide) ?_
    exact z_zret hx hb hr hlocks rfl hP hD hS (Nat.le_of_ble_eq_true rfl) (Nat.le_of_ble_eq_true rfl) d_Model_end_20 ⟨0, b9, rfl, rfl, (zI.wk (l' := 0) (h' := 1) zc_0 (by decide)), hb9⟩
  · have hP : va_P G.1 classes [(b0, .inr (12, [.int 0, .ref b3, .ref b4, .ref b5, .ref b6, .int b7, .ref b8, .int b9, .int b10, .int b11, .int b12, .ref b13, .ref b14, .ref b15, .int b16, .ref b17, .ref b18, .ref b19, .ref b20, .ref b21, .ref b22, .ref b23, .ref b24, .ref b25, .ref b26, .ref b27, .ref b28, .int b29, .ref b30, .ref b31, .int b32, .int b33, .int b34, .int b35, .ref b36, .ref b37, .ref b38, .ref b39, .ref b40, .ref b41, .ref b42, .int b43, .ref b44, .ref b45, .int b46, .ref b47, .ref b48, .ref b49, .ref b50, .ref b51, .int b52, .ref b53, .ref b54, .ref b55]))] H := hP
    have hD := z_tie hP hD rfl
    try simp only [Int32.toInt_toInt64, ll_0] at hq_3
    have hv_8 : zI b1 0 2147483647 := by have _a := hq_3; have _b := (zI_all b1); have _c := zcl_0; simp only [Int32.toInt_toInt64] at *; exact ⟨by omega, by omega⟩
    try simp only [Int32.toInt_toInt64] at hq_4
    have hv_9 : zI b1 1 2147483647 := by have _a := hq_4; have _b := hv_8; have _c := (zI_i2l hb9 rfl).2; simp only [Int32.toInt_toInt64] at *; exact ⟨by omega, by omega⟩
    refine W.widen (k := 0) (n := 0) (Nat.le_of_ble_eq_true rfl) (Nat.le_of_ble_eq_true rfl) ?_
    refine lv_if_ne (tgt := 21) hx hb d_Model_end_16 (by decide) (fun hc => absurd hc (by decide +kernel)) (fun _ => ?_)
    refine lv_iconst (v := 0) hx hb d_Model_end_19 (by decide) ?_
    exact z_zret hx hb hr hlocks rfl hP hD hS (Nat.le_of_ble_eq_true rfl) (Nat.le_of_ble_eq_true rfl) d_Model_end_20 ⟨0, b9, rfl, rfl, (zI.wk (l' := 0) (h' := 1) zc_0 (by decide)), hb9⟩
  · have hP : va_P G.1 classes [(b0, .inr (12, [.int 0, .ref b3, .ref b4, .ref b5, .ref b6, .int b7, .ref b8, .int b9, .int b10, .int b11, .int b12, .ref b13, .ref b14, .ref b15, .int b16, .ref b17, .ref b18, .ref b19, .ref b20, .ref b21, .ref b22, .ref b23, .ref b24, .ref b25, .ref b26, .ref b27, .ref b28, .int b29, .ref b30, .ref b31, .int b32, .int b33, .int b34, .int b35, .ref b36, .ref b37, .ref b38, .ref b39, .ref b40, .ref b41, .ref b42, .int b43, .ref b44, .ref b45, .int b46, .ref b47, .ref b48, .ref b49, .ref b50, .ref b51, .int b52, .ref b53, .ref b54, .ref b55]))] H := hP
    have hD := z_tie hP hD rfl
    try simp only [Int32.toInt_toInt64, ll_0] at hq_5
    have hv_10 : zI b1 0 2147483647 := by have _a := hq_5; have _b := (zI_all b1); have _c := zcl_0; simp only [Int32.toInt_toInt64] at *; exact ⟨by omega, by omega⟩
    try simp only [Int32.toInt_toInt64] at hq_6
    have hv_11 : zI b1 0 240 := by have _a := hq_6; have _b := hv_10; have _c := (zI_i2l hb9 rfl).2; simp only [Int32.toInt_toInt64] at *; exact ⟨by omega, by omega⟩
    refine W.widen (k := 0) (n := 0) (Nat.le_of_ble_eq_true rfl) (Nat.le_of_ble_eq_true rfl) ?_
    refine lv_if_ne (tgt := 21) hx hb d_Model_end_16 (by decide) (fun _ => ?_) (fun hc => absurd hc (by decide +kernel))
    refine lv_aload_n hx hb d_Model_end_21 rfl (lv_at hl 0 rfl) ?_
    refine lv_iload_n hx hb d_Model_end_22 rfl (lv_at hl 1 rfl) ?_
    refine va_put (D := G.1) (ci := 12) (v := .int b1) (ty := .int) (C := R_Model) (T := F_Model) (N := 54) hx hb hts i_Model t_Model t_Model_ok n_Model hown hK hP hD hS 0 rfl rfl 7 (by decide) (hts _ q1116) (fun _ h9 => h9) rfl (by decide +kernel) rfl rfl (Nat.le_of_ble_eq_true rfl) d_Model_end_23 (fun H locs hP hD hS => ?_)
    have hP : va_P G.1 classes [(b0, .inr (12, [.int 0, .ref b3, .ref b4, .ref b5, .ref b6, .int b7, .ref b8, .int b1, .int b10, .int b11, .int b12, .ref b13, .ref b14, .ref b15, .int b16, .ref b17, .ref b18, .ref b19, .ref b20, .ref b21, .ref b22, .ref b23, .ref b24, .ref b25, .ref b26, .ref b27, .ref b28, .int b29, .ref b30, .ref b31, .int b32, .int b33, .int b34, .int b35, .ref b36, .ref b37, .ref b38, .ref b39, .ref b40, .ref b41, .ref b42, .int b43, .ref b44, .ref b45, .int b46, .ref b47, .ref b48, .ref b49, .ref b50, .ref b51, .int b52, .ref b53, .ref b54, .ref b55]))] H := hP
    have hD := z_tie hP hD rfl
    refine lv_iconst (v := 1) hx hb d_Model_end_26 (by decide) ?_
    exact z_zret hx hb hr hlocks rfl hP hD hS (Nat.le_of_ble_eq_true rfl) (Nat.le_of_ble_eq_true rfl) d_Model_end_27 ⟨1, b1, rfl, rfl, (zI.wk (l' := 0) (h' := 1) zc_1 (by decide)), hv_11⟩
theorem d_Model_isDigitHere_0 : decode prog_14_method_13_code 0 = .ok (.aload_n 0, 1) := by decide +kernel
theorem d_Model_isDigitHere_1 : decode prog_14_method_13_code 1 = .ok (.getfield 149, 3) := by decide +kernel
theorem d_Model_isDigitHere_4 : decode prog_14_method_13_code 4 = .ok (.aload_n 0, 1) := by decide +kernel
theorem d_Model_isDigitHere_5 : decode prog_14_method_13_code 5 = .ok (.getfield 142, 3) := by decide +kernel
theorem d_Model_isDigitHere_8 : decode prog_14_method_13_code 8 = .ok (.if_icmp .ge 29, 3) := by decide +kernel
theorem d_Model_isDigitHere_11 : decode prog_14_method_13_code 11 = .ok (.aload_n 0, 1) := by decide +kernel
theorem d_Model_isDigitHere_12 : decode prog_14_method_13_code 12 = .ok (.getfield 27, 3) := by decide +kernel
theorem d_Model_isDigitHere_15 : decode prog_14_method_13_code 15 = .ok (.aload_n 0, 1) := by decide +kernel
theorem d_Model_isDigitHere_16 : decode prog_14_method_13_code 16 = .ok (.getfield 149, 3) := by decide +kernel
theorem d_Model_isDigitHere_19 : decode prog_14_method_13_code 19 = .ok (.baload, 1) := by decide +kernel
theorem d_Model_isDigitHere_20 : decode prog_14_method_13_code 20 = .ok (.i2l, 1) := by decide +kernel
theorem d_Model_isDigitHere_21 : decode prog_14_method_13_code 21 = .ok (.ldc2_w 155, 3) := by decide +kernel
theorem d_Model_isDigitHere_24 : decode prog_14_method_13_code 24 = .ok (.ldc2_w 157, 3) := by decide +kernel
theorem d_Model_isDigitHere_27 : decode prog_14_method_13_code 27 = .ok (.invokestatic 138, 3) := by decide +kernel
theorem d_Model_isDigitHere_30 : decode prog_14_method_13_code 30 = .ok (.ifCond .eq 7, 3) := by decide +kernel
theorem d_Model_isDigitHere_33 : decode prog_14_method_13_code 33 = .ok (.iconst 1, 1) := by decide +kernel
theorem d_Model_isDigitHere_34 : decode prog_14_method_13_code 34 = .ok (.goto 4, 3) := by decide +kernel
theorem d_Model_isDigitHere_37 : decode prog_14_method_13_code 37 = .ok (.iconst 0, 1) := by decide +kernel
theorem d_Model_isDigitHere_38 : decode prog_14_method_13_code 38 = .ok (.ireturn, 1) := by decide +kernel
theorem ll_48 : (48 : Int64).toInt = 48 := by decide +kernel
theorem zcl_48 : zJ 48 48 48 := ⟨by decide +kernel, by decide +kernel⟩
theorem ll_57 : (57 : Int64).toInt = 57 := by decide +kernel
theorem zcl_57 : zJ 57 57 57 := ⟨by decide +kernel, by decide +kernel⟩
abbrev m_s1_Model_isDigitHere : Room := { frames := 1, cells := 0, slots := 0, locals := 25 }
set_option maxHeartbeats 4000000 in
set_option maxRecDepth 100000 in
theorem s1_Model_isDigitHere (l : Launch) (G : zG) (b0 : Nat) (b1 : Int32) (b2 : Nat) (b3 : Nat) (b4 : Nat) (b5 : Nat) (b6 : Int32) (b7 : Nat) (b8 : Int32) (b9 : Int32) (b10 : Int32) (b11 : Int32) (b12 : Nat) (b13 : Nat) (b14 : Nat) (b15 : Int32) (b16 : Nat) (b17 : Nat) (b18 : Nat) (b19 : Nat) (b20 : Nat) (b21 : Nat) (b22 : Nat) (b23 : Nat) (b24 : Nat) (b25 : Nat) (b26 : Nat) (b27 : Nat) (b28 : Int32) (b29 : Nat) (b30 : Nat) (b31 : Int32) (b32 : Int32) (b33 : Int32) (b34 : Int32) (b35 : Nat) (b36 : Nat) (b37 : Nat) (b38 : Nat) (b39 : Nat) (b40 : Nat) (b41 : Nat) (b42 : Int32) (b43 : Nat) (b44 : Nat) (b45 : Int32) (b46 : Nat) (b47 : Nat) (b48 : Nat) (b49 : Nat) (b50 : Nat) (b51 : Int32) (b52 : Nat) (b53 : Nat) (b54 : Nat) (b55 : Nat → Int32) (hb6 : zI b6 0 8) (hb8 : zI b8 0 240) (hb9 : zI b9 0 240) (hb11 : zI b11 0 1) (hb15 : zI b15 0 12) (hb28 : zI b28 0 1) (hb31 : zI b31 0 1) : zM l G y_Model_isDigitHere prog_14_method_13_code 1 (Option.some Jvm.ClassFile.FieldType.boolean) m_s1_Model_isDigitHere [.ref b0] [(b0, .inr (12, [.int b1, .ref b2, .ref b3, .ref b4, .ref b5, .int b6, .ref b7, .int b8, .int b9, .int b10, .int b11, .ref b12, .ref b13, .ref b14, .int b15, .ref b16, .ref b17, .ref b18, .ref b19, .ref b20, .ref b21, .ref b22, .ref b23, .ref b24, .ref b25, .ref b26, .ref b27, .int b28, .ref b29, .ref b30, .int b31, .int b32, .int b33, .int b34, .ref b35, .ref b36, .ref b37, .ref b38, .ref b39, .ref b40, .ref b41, .int b42, .ref b43, .ref b44, .int b45, .ref b46, .ref b47, .ref b48, .ref b49, .ref b50, .int b51, .ref b52, .ref b53, .ref b54])), (b7, .inl (G.2 3, 240, .inl b55))] (fun v w => (v = some (.int 0) ∧ w = [(b0, .inr (12, [.int b1, .ref b2, .ref b3, .ref b4, .ref b5, .int b6, .ref b7, .int b8, .int b9, .int b10, .int b11, .ref b12, .ref b13, .ref b14, .int b15, .ref b16, .ref b17, .ref b18, .ref b19, .ref b20, .ref b21, .ref b22, .ref b23, .ref b24, .ref b25, .ref b26, .ref b27, .int b28, .ref b29, .ref b30, .int b31, .int b32, .int b33, .int b34, .ref b35, .ref b36, .ref b37, .ref b38, .ref b39, .ref b40, .ref b41, .int b42, .ref b43, .ref b44, .int b45, .ref b46, .ref b47, .ref b48, .ref b49, .ref b50, .int b51, .ref b52, .ref b53, .ref b54])), (b7, .inl (G.2 3, 240, .inl b55))] ∧ b8.toInt ≤ b9.toInt) ∨ (v = some (.int 0) ∧ w = [(b0, .inr (12, [.int b1, .ref b2, .ref b3, .ref b4, .ref b5, .int b6, .ref b7, .int b8, .int b9, .int b10, .int b11, .ref b12, .ref b13, .ref b14, .int b15, .ref b16, .ref b17, .ref b18, .ref b19, .ref b20, .ref b21, .ref b22, .ref b23, .ref b24, .ref b25, .ref b26, .ref b27, .int b28, .ref b29, .ref b30, .int b31, .int b32, .int b33, .int b34, .ref b35, .ref b36, .ref b37, .ref b38, .ref b39, .ref b40, .ref b41, .int b42, .ref b43, .ref b44, .int b45, .ref b46, .ref b47, .ref b48, .ref b49, .ref b50, .int b51, .ref b52, .ref b53, .ref b54])), (b7, .inl (G.2 3, 240, .inl b55))] ∧ b9.toInt < b8.toInt) ∨ (v = some (.int 0) ∧ w = [(b0, .inr (12, [.int b1, .ref b2, .ref b3, .ref b4, .ref b5, .int b6, .ref b7, .int b8, .int b9, .int b10, .int b11, .ref b12, .ref b13, .ref b14, .int b15, .ref b16, .ref b17, .ref b18, .ref b19, .ref b20, .ref b21, .ref b22, .ref b23, .ref b24, .ref b25, .ref b26, .ref b27, .int b28, .ref b29, .ref b30, .int b31, .int b32, .int b33, .int b34, .ref b35, .ref b36, .ref b37, .ref b38, .ref b39, .ref b40, .ref b41, .int b42, .ref b43, .ref b44, .int b45, .ref b46, .ref b47, .ref b48, .ref b49, .ref b50, .int b51, .ref b52, .ref b53, .ref b54])), (b7, .inl (G.2 3, 240, .inl b55))] ∧ b9.toInt < b8.toInt) ∨ (v = some (.int 1) ∧ w = [(b0, .inr (12, [.int b1, .ref b2, .ref b3, .ref b4, .ref b5, .int b6, .ref b7, .int b8, .int b9, .int b10, .int b11, .ref b12, .ref b13, .ref b14, .int b15, .ref b16, .ref b17, .ref b18, .ref b19, .ref b20, .ref b21, .ref b22, .ref b23, .ref b24, .ref b25, .ref b26, .ref b27, .int b28, .ref b29, .ref b30, .int b31, .int b32, .int b33, .int b34, .ref b35, .ref b36, .ref b37, .ref b38, .ref b39, .ref b40, .ref b41, .int b42, .ref b43, .ref b44, .int b45, .ref b46, .ref b47, .ref b48, .ref b49, .ref b50, .int b51, .ref b52, .ref b53, .ref b54])), (b7, .inl (G.2 3, 240, .inl b55))] ∧ b9.toInt < b8.toInt)) := by
  refine z_start (by decide +kernel) (Nat.le_of_ble_eq_true rfl) ?_
  intro p e s m below meth c A Z hr hnm hA hP hD hS ls hl
  have Z : zC p s m _ meth c prog_14_method_13_code 1 "TraceMachinesModel" G := Z
  obtain ⟨hx, hb, hml, hown, hts, hK, hN, hlocks⟩ := id Z
  have hl : lv_has ls 1 [(0, .ref b0)] := hl
  refine lv_aload_n hx hb d_Model_isDigitHere_0 rfl (lv_at hl 0 rfl) ?_
  refine va_get (D := G.1) (ci := 12) (v := .int b9) (C := R_Model) (T := F_Model) (N := 54) hx hb hts i_Model hown hK hP 0 rfl rfl 8 (by decide) (hts _ q1117) (fun _ h9 => h9) rfl d_Model_isDigitHere_1 ?_
  refine lv_aload_n hx hb d_Model_isDigitHere_4 rfl (lv_at hl 0 rfl) ?_
  refine va_get (D := G.1) (ci := 12) (v := .int b8) (C := R_Model) (T := F_Model) (N := 54) hx hb hts i_Model hown hK hP 0 rfl rfl 7 (by decide) (hts _ q1116) (fun _ h9 => h9) rfl d_Model_isDigitHere_5 ?_
  refine lv_icmp_ge (tgt := 37) hx hb d_Model_isDigitHere_8 (by decide) (fun hc_1 => ?_) (fun hc_1 => ?_)
  · have _nhc_1 := hc_1
    have ni_2 := (fa_le _ _).mp hc_1
    refine lv_iconst (v := 0) hx hb d_Model_isDigitHere_37 (by decide) ?_
    exact z_zret hx hb hr hlocks rfl hP hD hS (Nat.le_of_ble_eq_true rfl) (Nat.le_of_ble_eq_true rfl) d_Model_isDigitHere_38 (Or.inl ⟨rfl, rfl, by omega⟩)
  · have _nhc_1 := hc_1
    have ni_3 := (fa_lt _ _).mp (zi_nle hc_1)
    have hv_4 : zI b9 0 239 := zI.lt_l hb9 hb8 (zi_nle hc_1) (by decide)
    have hv_5 : zI b8 1 240 := zI.lt_r hb9 hb8 (zi_nle hc_1) (by decide)
    refine lv_aload_n hx hb d_Model_isDigitHere_11 rfl (lv_at hl 0 rfl) ?_
    refine va_get (D := G.1) (ci := 12) (v := .ref b7) (C := R_Model) (T := F_Model) (N := 54) hx hb hts i_Model hown hK hP 0 rfl rfl 6 (by decide) (hts _ q1115) (fun _ h9 => h9) rfl d_Model_isDigitHere_12 ?_
    refine lv_aload_n hx hb d_Model_isDigitHere_15 rfl (lv_at hl 0 rfl) ?_
    refine va_get (D := G.1) (ci := 12) (v := .int b9) (C := R_Model) (T := F_Model) (N := 54) hx hb hts i_Model hown hK hP 0 rfl rfl 8 (by decide) (hts _ q1117) (fun _ h9 => h9) rfl d_Model_isDigitHere_16 ?_
    refine va_bald hx hb hK hP 1 3 rfl rfl (zI.inn hv_4 (by decide)) d_Model_isDigitHere_19 ?_
    refine lv_topi (fun v_6 ev_6 => ?_)
    refine lv_i2l (v := v_6.toInt64) hx hb d_Model_isDigitHere_20 rfl ?_
    refine lv_ldc2 hx hb hown (hts _ q1310) d_Model_isDigitHere_21 ?_
    refine lv_ldc2 hx hb hown (hts _ q1311) d_Model_isDigitHere_24 ?_
    refine z_callS (index := 138) (As := [.long v_6.toInt64, .long 48, .long 57]) (rest := []) (wr := [(b0, .inr (12, [.int b1, .ref b2, .ref b3, .ref b4, .ref b5, .int b6, .ref b7, .int b8, .int b9, .int b10, .int b11, .ref b12, .ref b13, .ref b14, .int b15, .ref b16, .ref b17, .ref b18, .ref b19, .ref b20, .ref b21, .ref b22, .ref b23, .ref b24, .ref b25, .ref b26, .ref b27, .int b28, .ref b29, .ref b30, .int b31, .int b32, .int b33, .int b34, .ref b35, .ref b36, .ref b37, .ref b38, .ref b39, .ref b40, .ref b41, .int b42, .ref b43, .ref b44, .int b45, .ref b46, .ref b47, .ref b48, .ref b49, .ref b50, .int b51, .ref b52, .ref b53, .ref b54])), (b7, .inl (G.2 3, 240, .inl b55))]) Z (s2_Model_in l G (v_6.toInt64) (48) (57)) hl.1 q1281 q1282 q14 q1283 ⟨by decide, by decide, by show _ = some 3; decide +kernel⟩ ⟨Nat.le_of_ble_eq_true rfl, Nat.le_of_ble_eq_true rfl⟩ ⟨Nat.le_of_ble_eq_true rfl, Nat.le_of_ble_eq_true rfl⟩ rfl (Nat.le_of_ble_eq_true rfl) d_Model_isDigitHere_27 hP hD hS hA [] [0, 1] rfl rfl rfl rfl (by decide) (fun v w1 H locs hw_7 hP hD hS => ?_)
    rcases hw_7 with ⟨rfl, rfl, hq_8⟩ | ⟨rfl, rfl, hq_9, hq_10⟩ | ⟨rfl, rfl, hq_11, hq_12⟩
    · have hP : va_P G.1 classes [(b0, .inr (12, [.int b1, .ref b2, .ref b3, .ref b4, .ref b5, .int b6, .ref b7, .int b8, .int b9, .int b10, .int b11, .ref b12, .ref b13, .ref b14, .int b15, .ref b16, .ref b17, .ref b18, .ref b19, .ref b20, .ref b21, .ref b22, .ref b23, .ref b24, .ref b25, .ref b26, .ref b27, .int b28, .ref b29, .ref b30, .int b31, .int b32, .int b33, .int b34, .ref b35, .ref b36, .ref b37, .ref b38, .ref b39, .ref b40, .ref b41, .int b42, .ref b43, .ref b44, .int b45, .ref b46, .ref b47, .ref b48, .ref b49, .ref b50, .int b51, .ref b52, .ref b53, .ref b54])), (b7, .inl (G.2 3, 240, .inl b55))] H := hP
      have hD := z_tie hP hD rfl
      try simp only [Int32.toInt_toInt64, ll_48] at hq_8
      have hv_13 : zI v_6 (-2147483648) 47 := by have _a := hq_8; have _b := (zI_all v_6); have _c := zcl_48; simp only [Int32.toInt_toInt64] at *; exact ⟨by omega, by omega⟩
      refine W.widen (k := 0) (n := 0) (Nat.le_of_ble_eq_true rfl) (Nat.le_of_ble_eq_true rfl) ?_
      refine lv_if_eq (tgt := 37) hx hb d_Model_isDigitHere_30 (by decide) (fun _ => ?_) (fun hc => absurd hc (by decide +kernel))
      refine lv_iconst (v := 0) hx hb d_Model_isDigitHere_37 (by decide) ?_
      exact z_zret hx hb hr hlocks rfl hP hD hS (Nat.le_of_ble_eq_true rfl) (Nat.le_of_ble_eq_true rfl) d_Model_isDigitHere_38 (Or.inr (Or.inl ⟨rfl, rfl, by omega⟩))
    · have hP : va_P G.1 classes [(b0, .inr (12, [.int b1, .ref b2, .ref b3, .ref b4, .ref b5, .int b6, .ref b7, .int b8, .int b9, .int b10, .int b11, .ref b12, .ref b13, .ref b14, .int b15, .ref b16, .ref b17, .ref b18, .ref b19, .ref b20, .ref b21, .ref b22, .ref b23, .ref b24, .ref b25, .ref b26, .ref b27, .int b28, .ref b29, .ref b30, .int b31, .int b32, .int b33, .int b34, .ref b35, .ref b36, .ref b37, .ref b38, .ref b39, .ref b40, .ref b41, .int b42, .ref b43, .ref b44, .int b45, .ref b46, .ref b47, .ref b48, .ref b49, .ref b50, .int b51, .ref b52, .ref b53, .ref b54])), (b7, .inl (G.2 3, 240, .inl b55))] H := hP
      have hD := z_tie hP hD rfl
      try simp only [Int32.toInt_toInt64, ll_48] at hq_9
      have hv_14 : zI v_6 48 2147483647 := by have _a := hq_9; have _b := (zI_all v_6); have _c := zcl_48; simp only [Int32.toInt_toInt64] at *; exact ⟨by omega, by omega⟩
      try simp only [Int32.toInt_toInt64, ll_57] at hq_10
      have hv_15 : zI v_6 58 2147483647 := by have _a := hq_10; have _b := hv_14; have _c := zcl_57; simp only [Int32.toInt_toInt64] at *; exact ⟨by omega, by omega⟩
      refine W.widen (k := 0) (n := 0) (Nat.le_of_ble_eq_true rfl) (Nat.le_of_ble_eq_true rfl) ?_
      refine lv_if_eq (tgt := 37) hx hb d_Model_isDigitHere_30 (by decide) (fun _ => ?_) (fun hc => absurd hc (by decide +kernel))
      refine lv_iconst (v := 0) hx hb d_Model_isDigitHere_37 (by decide) ?_
      exact z_zret hx hb hr hlocks rfl hP hD hS (Nat.le_of_ble_eq_true rfl) (Nat.le_of_ble_eq_true rfl) d_Model_isDigitHere_38 (Or.inr (Or.inr (Or.inl ⟨rfl, rfl, by omega⟩)))
    · have hP : va_P G.1 classes [(b0, .inr (12, [.int b1, .ref b2, .ref b3, .ref b4, .ref b5, .int b6, .ref b7, .int b8, .int b9, .int b10, .int b11, .ref b12, .ref b13, .ref b14, .int b15, .ref b16, .ref b17, .ref b18, .ref b19, .ref b20, .ref b21, .ref b22, .ref b23, .ref b24, .ref b25, .ref b26, .ref b27, .int b28, .ref b29, .ref b30, .int b31, .int b32, .int b33, .int b34, .ref b35, .ref b36, .ref b37, .ref b38, .ref b39, .ref b40, .ref b41, .int b42, .ref b43, .ref b44, .int b45, .ref b46, .ref b47, .ref b48, .ref b49, .ref b50, .int b51, .ref b52, .ref b53, .ref b54])), (b7, .inl (G.2 3, 240, .inl b55))] H := hP
      have hD := z_tie hP hD rfl
      try simp only [Int32.toInt_toInt64, ll_48] at hq_11
      have hv_16 : zI v_6 48 2147483647 := by have _a := hq_11; have _b := (zI_all v_6); have _c := zcl_48; simp only [Int32.toInt_toInt64] at *; exact ⟨by omega, by omega⟩
      try simp only [Int32.toInt_toInt64, ll_57] at hq_12
      have hv_17 : zI v_6 48 57 := by have _a := hq_12; have _b := hv_16; have _c := zcl_57; simp only [Int32.toInt_toInt64] at *; exact ⟨by omega, by omega⟩
      refine W.widen (k := 0) (n := 0) (Nat.le_of_ble_eq_true rfl) (Nat.le_of_ble_eq_true rfl) ?_
      refine lv_if_eq (tgt := 37) hx hb d_Model_isDigitHere_30 (by decide) (fun hc => absurd hc (by decide +kernel)) (fun _ => ?_)
      refine lv_iconst (v := 1) hx hb d_Model_isDigitHere_33 (by decide) ?_
      refine lv_goto (tgt := 38) hx hb d_Model_isDigitHere_34 (by decide) ?_
      exact z_zret hx hb hr hlocks rfl hP hD hS (Nat.le_of_ble_eq_true rfl) (Nat.le_of_ble_eq_true rfl) d_Model_isDigitHere_38 (Or.inr (Or.inr (Or.inr (⟨rfl, rfl, by omega⟩))))
theorem d_Model_endsReading_0 : decode prog_14_method_17_code 0 = .ok (.aload_n 0, 1) := by decide +kernel
theorem d_Model_endsReading_1 : decode prog_14_method_17_code 1 = .ok (.getfield 145, 3) := by decide +kernel
theorem d_Model_endsReading_4 : decode prog_14_method_17_code 4 = .ok (.ifCond .eq 25, 3) := by decide +kernel
theorem d_Model_endsReading_7 : decode prog_14_method_17_code 7 = .ok (.aload_n 0, 1) := by decide +kernel
theorem d_Model_endsReading_8 : decode prog_14_method_17_code 8 = .ok (.invokevirtual 162, 3) := by decide +kernel
theorem d_Model_endsReading_11 : decode prog_14_method_17_code 11 = .ok (.ifCond .ne 14, 3) := by decide +kernel
theorem d_Model_endsReading_14 : decode prog_14_method_17_code 14 = .ok (.aload_n 0, 1) := by decide +kernel
theorem d_Model_endsReading_15 : decode prog_14_method_17_code 15 = .ok (.getfield 149, 3) := by decide +kernel
theorem d_Model_endsReading_18 : decode prog_14_method_17_code 18 = .ok (.aload_n 0, 1) := by decide +kernel
theorem d_Model_endsReading_19 : decode prog_14_method_17_code 19 = .ok (.getfield 142, 3) := by decide +kernel
theorem d_Model_endsReading_22 : decode prog_14_method_17_code 22 = .ok (.if_icmp .ge 7, 3) := by decide +kernel
theorem d_Model_endsReading_25 : decode prog_14_method_17_code 25 = .ok (.aload_n 0, 1) := by decide +kernel
theorem d_Model_endsReading_26 : decode prog_14_method_17_code 26 = .ok (.invokevirtual 169, 3) := by decide +kernel
theorem d_Model_endsReading_29 : decode prog_14_method_17_code 29 = .ok (.aload_n 0, 1) := by decide +kernel
theorem d_Model_endsReading_30 : decode prog_14_method_17_code 30 = .ok (.iconst 0, 1) := by decide +kernel
theorem d_Model_endsReading_31 : decode prog_14_method_17_code 31 = .ok (.putfield 142, 3) := by decide +kernel
theorem d_Model_endsReading_34 : decode prog_14_method_17_code 34 = .ok (.return_, 1) := by decide +kernel
abbrev m_s1_Model_endsReading : Room := { frames := 1, cells := 0, slots := 0, locals := 20 }
set_option maxHeartbeats 4000000 in
set_option maxRecDepth 100000 in
theorem s1_Model_endsReading (l : Launch) (G : zG) (b0 : Nat) (b1 : Int32) (b2 : Nat) (b3 : Nat) (b4 : Nat) (b5 : Nat) (b6 : Int32) (b7 : Nat) (b8 : Int32) (b9 : Int32) (b10 : Int32) (b11 : Int32) (b12 : Nat) (b13 : Nat) (b14 : Nat) (b15 : Int32) (b16 : Nat) (b17 : Nat) (b18 : Nat) (b19 : Nat) (b20 : Nat) (b21 : Nat) (b22 : Nat) (b23 : Nat) (b24 : Nat) (b25 : Nat) (b26 : Nat) (b27 : Nat) (b28 : Int32) (b29 : Nat) (b30 : Nat) (b31 : Int32) (b32 : Int32) (b33 : Int32) (b34 : Int32) (b35 : Nat) (b36 : Nat) (b37 : Nat) (b38 : Nat) (b39 : Nat) (b40 : Nat) (b41 : Nat) (b42 : Int32) (b43 : Nat) (b44 : Nat) (b45 : Int32) (b46 : Nat) (b47 : Nat) (b48 : Nat) (b49 : Nat) (b50 : Nat) (b51 : Int32) (b52 : Nat) (b53 : Nat) (b54 : Nat) (b55 : Nat → Int32) (hb6 : zI b6 0 8) (hb8 : zI b8 0 240) (hb9 : zI b9 0 240) (hb11 : zI b11 0 1) (hb15 : zI b15 0 12) (hb28 : zI b28 0 1) (hb31 : zI b31 0 1) : zM l G y_Model_endsReading prog_14_method_17_code 1 (Option.none : Option Jvm.ClassFile.FieldType) m_s1_Model_endsReading [.ref b0] [(b0, .inr (12, [.int b1, .ref b2, .ref b3, .ref b4, .ref b5, .int b6, .ref b7, .int b8, .int b9, .int b10, .int b11, .ref b12, .ref b13, .ref b14, .int b15, .ref b16, .ref b17, .ref b18, .ref b19, .ref b20, .ref b21, .ref b22, .ref b23, .ref b24, .ref b25, .ref b26, .ref b27, .int b28, .ref b29, .ref b30, .int b31, .int b32, .int b33, .int b34, .ref b35, .ref b36, .ref b37, .ref b38, .ref b39, .ref b40, .ref b41, .int b42, .ref b43, .ref b44, .int b45, .ref b46, .ref b47, .ref b48, .ref b49, .ref b50, .int b51, .ref b52, .ref b53, .ref b54])), (b7, .inl (G.2 3, 240, .inl b55))] (fun v w => ∃ (e0 : Int32), ∃ (e1 : Int32), ∃ (e2 : Int32), v = none ∧ w = [(b0, .inr (12, [.int b1, .ref b2, .ref b3, .ref b4, .ref b5, .int b6, .ref b7, .int 0, .int e0, .int e1, .int e2, .ref b12, .ref b13, .ref b14, .int b15, .ref b16, .ref b17, .ref b18, .ref b19, .ref b20, .ref b21, .ref b22, .ref b23, .ref b24, .ref b25, .ref b26, .ref b27, .int b28, .ref b29, .ref b30, .int b31, .int b32, .int b33, .int b34, .ref b35, .ref b36, .ref b37, .ref b38, .ref b39, .ref b40, .ref b41, .int b42, .ref b43, .ref b44, .int b45, .ref b46, .ref b47, .ref b48, .ref b49, .ref b50, .int b51, .ref b52, .ref b53, .ref b54])), (b7, .inl (G.2 3, 240, .inl b55))] ∧ (zI e0 0 240) ∧ (zI e2 0 1)) := by
  refine z_start (by decide +kernel) (Nat.le_of_ble_eq_true rfl) ?_
  intro p e s m below meth c A Z hr hnm hA hP hD hS ls hl
  have Z : zC p s m _ meth c prog_14_method_17_code 1 "TraceMachinesModel" G := Z
  obtain ⟨hx, hb, hml, hown, hts, hK, hN, hlocks⟩ := id Z
  have hl : lv_has ls 1 [(0, .ref b0)] := hl
  refine lv_aload_n hx hb d_Model_endsReading_0 rfl (lv_at hl 0 rfl) ?_
  refine va_get (D := G.1) (ci := 12) (v := .int b11) (C := R_Model) (T := F_Model) (N := 54) hx hb hts i_Model hown hK hP 0 rfl rfl 10 (by decide) (hts _ q1119) (fun _ h9 => h9) rfl d_Model_endsReading_1 ?_
  refine lv_if_eq (tgt := 29) hx hb d_Model_endsReading_4 (by decide) (fun hc_1 => ?_) (fun hc_1 => ?_)
  · have _nhc_1 := hc_1
    have ni_2 := (fa_eq _ _).mp hc_1
    rw [li_0] at ni_2
    have hv_3 : zI b11 0 0 := zI.eq_l hb11 zc_0 hc_1
    refine lv_aload_n hx hb d_Model_endsReading_29 rfl (lv_at hl 0 rfl) ?_
    refine lv_iconst (v := 0) hx hb d_Model_endsReading_30 (by decide) ?_
    refine va_put (D := G.1) (ci := 12) (v := .int 0) (ty := .int) (C := R_Model) (T := F_Model) (N := 54) hx hb hts i_Model t_Model t_Model_ok n_Model hown hK hP hD hS 0 rfl rfl 7 (by decide) (hts _ q1116) (fun _ h9 => h9) rfl (by decide +kernel) rfl rfl (Nat.le_of_ble_eq_true rfl) d_Model_endsReading_31 (fun H locs hP hD hS => ?_)
    have hP : va_P G.1 classes [(b0, .inr (12, [.int b1, .ref b2, .ref b3, .ref b4, .ref b5, .int b6, .ref b7, .int 0, .int b9, .int b10, .int b11, .ref b12, .ref b13, .ref b14, .int b15, .ref b16, .ref b17, .ref b18, .ref b19, .ref b20, .ref b21, .ref b22, .ref b23, .ref b24, .ref b25, .ref b26, .ref b27, .int b28, .ref b29, .ref b30, .int b31, .int b32, .int b33, .int b34, .ref b35, .ref b36, .ref b37, .ref b38, .ref b39, .ref b40, .ref b41, .int b42, .ref b43, .ref b44, .int b45, .ref b46, .ref b47, .ref b48, .ref b49, .ref b50, .int b51, .ref b52, .ref b53, .ref b54])), (b7, .inl (G.2 3, 240, .inl b55))] H := hP
    have hD := z_tie hP hD rfl
    exact z_vret hx hb hr hlocks hP hD hS (Nat.le_of_ble_eq_true rfl) (Nat.le_of_ble_eq_true rfl) d_Model_endsReading_34 ⟨b9, b10, b11, rfl, rfl, hb9, (zI.wk (l' := 0) (h' := 1) hv_3 (by decide))⟩
  · have _nhc_1 := hc_1
    have ni_4 := fun z => hc_1 ((fa_eq _ _).mpr z)
    simp only [li_0] at ni_4
    have hv_5 : zI b11 1 1 := zI.ne_lo hb11 zc_0 hc_1 (by decide)
    refine lv_aload_n hx hb d_Model_endsReading_7 rfl (lv_at hl 0 rfl) ?_
    refine z_callV (index := 162) (As := []) (rest := []) (wr := []) Z (s1_Model_next l G (b0) (b1) (b2) (b3) (b4) (b5) (b6) (b7) (b8) (b9) (b10) (b11) (b12) (b13) (b14) (b15) (b16) (b17) (b18) (b19) (b20) (b21) (b22) (b23) (b24) (b25) (b26) (b27) (b28) (b29) (b30) (b31) (b32) (b33) (b34) (b35) (b36) (b37) (b38) (b39) (b40) (b41) (b42) (b43) (b44) (b45) (b46) (b47) (b48) (b49) (b50) (b51) (b52) (b53) (b54) (b55) hb6 hb8 hb9 (zI.wk (l' := 0) (h' := 1) hv_5 (by decide)) hb15 hb28 hb31) hl.1 q1292 q1294 qs45 q14 q1295 ⟨by decide, by decide, by show _ = some 0; decide +kernel⟩ ⟨Nat.le_of_ble_eq_true rfl, Nat.le_of_ble_eq_true rfl⟩ ⟨Nat.le_of_ble_eq_true rfl, Nat.le_of_ble_eq_true rfl⟩ rfl (Nat.le_of_ble_eq_true rfl) d_Model_endsReading_8 hP hD hS hA 0 12 rfl rfl rfl [0, 1] [] rfl rfl rfl rfl (by decide) (fun v w1 H locs hw_6 hP hD hS => ?_)
    obtain ⟨x_7, x_8, rfl, rfl, hx_8, hfx_9⟩ := hw_6
    have hP : va_P G.1 classes [(b0, .inr (12, [.int b1, .ref b2, .ref b3, .ref b4, .ref b5, .int b6, .ref b7, .int b8, .int x_8, .int b10, .int b11, .ref b12, .ref b13, .ref b14, .int b15, .ref b16, .ref b17, .ref b18, .ref b19, .ref b20, .ref b21, .ref b22, .ref b23, .ref b24, .ref b25, .ref b26, .ref b27, .int b28, .ref b29, .ref b30, .int b31, .int b32, .int b33, .int b34, .ref b35, .ref b36, .ref b37, .ref b38, .ref b39, .ref b40, .ref b41, .int b42, .ref b43, .ref b44, .int b45, .ref b46, .ref b47, .ref b48, .ref b49, .ref b50, .int b51, .ref b52, .ref b53, .ref b54])), (b7, .inl (G.2 3, 240, .inl b55))] H := hP
    have hD := z_tie hP hD rfl
    refine W.widen (k := 0) (n := 0) (Nat.le_of_ble_eq_true rfl) (Nat.le_of_ble_eq_true rfl) ?_
    refine lv_if_ne (tgt := 25) hx hb d_Model_endsReading_11 (by decide) (fun hc_10 => ?_) (fun hc_10 => ?_)
    · have _nhc_10 := hc_10
      have ni_11 := fun z => hc_10 ((fa_eq _ _).mpr z)
      simp only [li_0] at ni_11
      refine lv_aload_n hx hb d_Model_endsReading_25 rfl (lv_at hl 0 rfl) ?_
      refine z_callV (index := 169) (As := []) (rest := []) (wr := [(b7, .inl (G.2 3, 240, .inl b55))]) Z (s1_Model_wrong l G (b0) (b1) (b2) (b3) (b4) (b5) (b6) (b7) (b8) (x_8) (b10) (b11) (b12) (b13) (b14) (b15) (b16) (b17) (b18) (b19) (b20) (b21) (b22) (b23) (b24) (b25) (b26) (b27) (b28) (b29) (b30) (b31) (b32) (b33) (b34) (b35) (b36) (b37) (b38) (b39) (b40) (b41) (b42) (b43) (b44) (b45) (b46) (b47) (b48) (b49) (b50) (b51) (b52) (b53) (b54) hb6 hb8 hx_8 (zI.wk (l' := 0) (h' := 1) hv_5 (by decide)) hb15 hb28 hb31) hl.1 q1296 q1298 qs46 q14 q1299 ⟨by decide, by decide, by show _ = some 0; decide +kernel⟩ ⟨Nat.le_of_ble_eq_true rfl, Nat.le_of_ble_eq_true rfl⟩ ⟨Nat.le_of_ble_eq_true rfl, Nat.le_of_ble_eq_true rfl⟩ rfl (Nat.le_of_ble_eq_true rfl) d_Model_endsReading_26 hP hD hS hA 0 12 rfl rfl rfl [0] [1] rfl rfl rfl rfl (by decide) (fun v w1 H locs hw_12 hP hD hS => ?_)
      obtain ⟨x_13, rfl, rfl⟩ := hw_12
      have hP : va_P G.1 classes [(b7, .inl (G.2 3, 240, .inl b55)), (b0, .inr (12, [.int b1, .ref b2, .ref b3, .ref b4, .ref b5, .int b6, .ref b7, .int b8, .int x_8, .int x_13, .int 0, .ref b12, .ref b13, .ref b14, .int b15, .ref b16, .ref b17, .ref b18, .ref b19, .ref b20, .ref b21, .ref b22, .ref b23, .ref b24, .ref b25, .ref b26, .ref b27, .int b28, .ref b29, .ref b30, .int b31, .int b32, .int b33, .int b34, .ref b35, .ref b36, .ref b37, .ref b38, .ref b39, .ref b40, .ref b41, .int b42, .ref b43, .ref b44, .int b45, .ref b46, .ref b47, .ref b48, .ref b49, .ref b50, .int b51, .ref b52, .ref b53, .ref b54]))] H := hP
      have hD := z_tie hP hD rfl
      refine W.widen (k := 0) (n := 0) (Nat.le_of_ble_eq_true rfl) (Nat.le_of_ble_eq_true rfl) ?_
      refine lv_aload_n hx hb d_Model_endsReading_29 rfl (lv_at hl 0 rfl) ?_
      refine lv_iconst (v := 0) hx hb d_Model_endsReading_30 (by decide) ?_
      refine va_put (D := G.1) (ci := 12) (v := .int 0) (ty := .int) (C := R_Model) (T := F_Model) (N := 54) hx hb hts i_Model t_Model t_Model_ok n_Model hown hK hP hD hS 1 rfl rfl 7 (by decide) (hts _ q1116) (fun _ h9 => h9) rfl (by decide +kernel) rfl rfl (Nat.le_of_ble_eq_true rfl) d_Model_endsReading_31 (fun H locs hP hD hS => ?_)
      have hP : va_P G.1 classes [(b7, .inl (G.2 3, 240, .inl b55)), (b0, .inr (12, [.int b1, .ref b2, .ref b3, .ref b4, .ref b5, .int b6, .ref b7, .int 0, .int x_8, .int x_13, .int 0, .ref b12, .ref b13, .ref b14, .int b15, .ref b16, .ref b17, .ref b18, .ref b19, .ref b20, .ref b21, .ref b22, .ref b23, .ref b24, .ref b25, .ref b26, .ref b27, .int b28, .ref b29, .ref b30, .int b31, .int b32, .int b33, .int b34, .ref b35, .ref b36, .ref b37, .ref b38, .ref b39, .ref b40, .ref b41, .int b42, .ref b43, .ref b44, .int b45, .ref b46, .ref b47, .ref b48, .ref b49, .ref b50, .int b51, .ref b52, .ref b53, .ref b54]))] H := hP
      have hD := z_tie hP hD rfl
      exact z_vret hx hb hr hlocks (hP.sub [1, 0] rfl) (hD.sub [1, 0] (by decide) rfl) hS (Nat.le_of_ble_eq_true rfl) (Nat.le_of_ble_eq_true rfl) d_Model_endsReading_34 ⟨x_8, x_13, 0, rfl, rfl, hx_8, (zI.wk (l' := 0) (h' := 1) zc_0 (by decide))⟩
    · have _nhc_10 := hc_10
      have ni_14 := (fa_eq _ _).mp hc_10
      rw [li_0] at ni_14
      have hv_15 : zI x_7 0 0 := zI.eq_l (zI_all x_7) zc_0 hc_10
      refine lv_aload_n hx hb d_Model_endsReading_14 rfl (lv_at hl 0 rfl) ?_
      refine va_get (D := G.1) (ci := 12) (v := .int x_8) (C := R_Model) (T := F_Model) (N := 54) hx hb hts i_Model hown hK hP 0 rfl rfl 8 (by decide) (hts _ q1117) (fun _ h9 => h9) rfl d_Model_endsReading_15 ?_
      refine lv_aload_n hx hb d_Model_endsReading_18 rfl (lv_at hl 0 rfl) ?_
      refine va_get (D := G.1) (ci := 12) (v := .int b8) (C := R_Model) (T := F_Model) (N := 54) hx hb hts i_Model hown hK hP 0 rfl rfl 7 (by decide) (hts _ q1116) (fun _ h9 => h9) rfl d_Model_endsReading_19 ?_
      refine lv_icmp_ge (tgt := 29) hx hb d_Model_endsReading_22 (by decide) (fun hc_16 => ?_) (fun hc_16 => ?_)
      · have _nhc_16 := hc_16
        have ni_17 := (fa_le _ _).mp hc_16
        refine lv_aload_n hx hb d_Model_endsReading_29 rfl (lv_at hl 0 rfl) ?_
        refine lv_iconst (v := 0) hx hb d_Model_endsReading_30 (by decide) ?_
        refine va_put (D := G.1) (ci := 12) (v := .int 0) (ty := .int) (C := R_Model) (T := F_Model) (N := 54) hx hb hts i_Model t_Model t_Model_ok n_Model hown hK hP hD hS 0 rfl rfl 7 (by decide) (hts _ q1116) (fun _ h9 => h9) rfl (by decide +kernel) rfl rfl (Nat.le_of_ble_eq_true rfl) d_Model_endsReading_31 (fun H locs hP hD hS => ?_)
        have hP : va_P G.1 classes [(b0, .inr (12, [.int b1, .ref b2, .ref b3, .ref b4, .ref b5, .int b6, .ref b7, .int 0, .int x_8, .int b10, .int b11, .ref b12, .ref b13, .ref b14, .int b15, .ref b16, .ref b17, .ref b18, .ref b19, .ref b20, .ref b21, .ref b22, .ref b23, .ref b24, .ref b25, .ref b26, .ref b27, .int b28, .ref b29, .ref b30, .int b31, .int b32, .int b33, .int b34, .ref b35, .ref b36, .ref b37, .ref b38, .ref b39, .ref b40, .ref b41, .int b42, .ref b43, .ref b44, .int b45, .ref b46, .ref b47, .ref b48, .ref b49, .ref b50, .int b51, .ref b52, .ref b53, .ref b54])), (b7, .inl (G.2 3, 240, .inl b55))] H := hP
        have hD := z_tie hP hD rfl
        exact z_vret hx hb hr hlocks hP hD hS (Nat.le_of_ble_eq_true rfl) (Nat.le_of_ble_eq_true rfl) d_Model_endsReading_34 ⟨x_8, b10, b11, rfl, rfl, hx_8, (zI.wk (l' := 0) (h' := 1) hv_5 (by decide))⟩
      · have _nhc_16 := hc_16
        have ni_18 := (fa_lt _ _).mp (zi_nle hc_16)
        have hv_19 : zI x_8 0 239 := zI.lt_l hx_8 hb8 (zi_nle hc_16) (by decide)
        have hv_20 : zI b8 1 240 := zI.lt_r hx_8 hb8 (zi_nle hc_16) (by decide)
        refine lv_aload_n hx hb d_Model_endsReading_25 rfl (lv_at hl 0 rfl) ?_
        refine z_callV (index := 169) (As := []) (rest := []) (wr := [(b7, .inl (G.2 3, 240, .inl b55))]) Z (s1_Model_wrong l G (b0) (b1) (b2) (b3) (b4) (b5) (b6) (b7) (b8) (x_8) (b10) (b11) (b12) (b13) (b14) (b15) (b16) (b17) (b18) (b19) (b20) (b21) (b22) (b23) (b24) (b25) (b26) (b27) (b28) (b29) (b30) (b31) (b32) (b33) (b34) (b35) (b36) (b37) (b38) (b39) (b40) (b41) (b42) (b43) (b44) (b45) (b46) (b47) (b48) (b49) (b50) (b51) (b52) (b53) (b54) hb6 (zI.wk (l' := 0) (h' := 240) hv_20 (by decide)) (zI.wk (l' := 0) (h' := 240) hv_19 (by decide)) (zI.wk (l' := 0) (h' := 1) hv_5 (by decide)) hb15 hb28 hb31) hl.1 q1296 q1298 qs46 q14 q1299 ⟨by decide, by decide, by show _ = some 0; decide +kernel⟩ ⟨Nat.le_of_ble_eq_true rfl, Nat.le_of_ble_eq_true rfl⟩ ⟨Nat.le_of_ble_eq_true rfl, Nat.le_of_ble_eq_true rfl⟩ rfl (Nat.le_of_ble_eq_true rfl) d_Model_endsReading_26 hP hD hS hA 0 12 rfl rfl rfl [0] [1] rfl rfl rfl rfl (by decide) (fun v w1 H locs hw_21 hP hD hS => ?_)
        obtain ⟨x_22, rfl, rfl⟩ := hw_21
        have hP : va_P G.1 classes [(b7, .inl (G.2 3, 240, .inl b55)), (b0, .inr (12, [.int b1, .ref b2, .ref b3, .ref b4, .ref b5, .int b6, .ref b7, .int b8, .int x_8, .int x_22, .int 0, .ref b12, .ref b13, .ref b14, .int b15, .ref b16, .ref b17, .ref b18, .ref b19, .ref b20, .ref b21, .ref b22, .ref b23, .ref b24, .ref b25, .ref b26, .ref b27, .int b28, .ref b29, .ref b30, .int b31, .int b32, .int b33, .int b34, .ref b35, .ref b36, .ref b37, .ref b38, .ref b39, .ref b40, .ref b41, .int b42, .ref b43, .ref b44, .int b45, .ref b46, .ref b47, .ref b48, .ref b49, .ref b50, .int b51, .ref b52, .ref b53, .ref b54]))] H := hP
        have hD := z_tie hP hD rfl
        refine W.widen (k := 0) (n := 0) (Nat.le_of_ble_eq_true rfl) (Nat.le_of_ble_eq_true rfl) ?_
        refine lv_aload_n hx hb d_Model_endsReading_29 rfl (lv_at hl 0 rfl) ?_
        refine lv_iconst (v := 0) hx hb d_Model_endsReading_30 (by decide) ?_
        refine va_put (D := G.1) (ci := 12) (v := .int 0) (ty := .int) (C := R_Model) (T := F_Model) (N := 54) hx hb hts i_Model t_Model t_Model_ok n_Model hown hK hP hD hS 1 rfl rfl 7 (by decide) (hts _ q1116) (fun _ h9 => h9) rfl (by decide +kernel) rfl rfl (Nat.le_of_ble_eq_true rfl) d_Model_endsReading_31 (fun H locs hP hD hS => ?_)
        have hP : va_P G.1 classes [(b7, .inl (G.2 3, 240, .inl b55)), (b0, .inr (12, [.int b1, .ref b2, .ref b3, .ref b4, .ref b5, .int b6, .ref b7, .int 0, .int x_8, .int x_22, .int 0, .ref b12, .ref b13, .ref b14, .int b15, .ref b16, .ref b17, .ref b18, .ref b19, .ref b20, .ref b21, .ref b22, .ref b23, .ref b24, .ref b25, .ref b26, .ref b27, .int b28, .ref b29, .ref b30, .int b31, .int b32, .int b33, .int b34, .ref b35, .ref b36, .ref b37, .ref b38, .ref b39, .ref b40, .ref b41, .int b42, .ref b43, .ref b44, .int b45, .ref b46, .ref b47, .ref b48, .ref b49, .ref b50, .int b51, .ref b52, .ref b53, .ref b54]))] H := hP
        have hD := z_tie hP hD rfl
        exact z_vret hx hb hr hlocks (hP.sub [1, 0] rfl) (hD.sub [1, 0] (by decide) rfl) hS (Nat.le_of_ble_eq_true rfl) (Nat.le_of_ble_eq_true rfl) d_Model_endsReading_34 ⟨x_8, x_22, 0, rfl, rfl, (zI.wk (l' := 0) (h' := 240) hv_19 (by decide)), (zI.wk (l' := 0) (h' := 1) zc_0 (by decide))⟩
theorem d_Model_depth_0 : decode prog_14_method_21_code 0 = .ok (.aload_n 0, 1) := by decide +kernel
theorem d_Model_depth_1 : decode prog_14_method_21_code 1 = .ok (.iconst 0, 1) := by decide +kernel
theorem d_Model_depth_2 : decode prog_14_method_21_code 2 = .ok (.putfield 1, 3) := by decide +kernel
theorem d_Model_depth_5 : decode prog_14_method_21_code 5 = .ok (.aload_n 0, 1) := by decide +kernel
theorem d_Model_depth_6 : decode prog_14_method_21_code 6 = .ok (.sipush 501, 3) := by decide +kernel
theorem d_Model_depth_9 : decode prog_14_method_21_code 9 = .ok (.iload_n 1, 1) := by decide +kernel
theorem d_Model_depth_10 : decode prog_14_method_21_code 10 = .ok (.iconst 3, 1) := by decide +kernel
theorem d_Model_depth_11 : decode prog_14_method_21_code 11 = .ok (.invokevirtual 195, 3) := by decide +kernel
theorem d_Model_change_0 : decode prog_14_method_20_code 0 = .ok (.iload_n 2, 1) := by decide +kernel
theorem d_Model_change_1 : decode prog_14_method_20_code 1 = .ok (.i2l, 1) := by decide +kernel
theorem d_Model_change_2 : decode prog_14_method_20_code 2 = .ok (.lconst 0, 1) := by decide +kernel
theorem d_Model_change_3 : decode prog_14_method_20_code 3 = .ok (.iload_n 3, 1) := by decide +kernel
theorem d_Model_change_4 : decode prog_14_method_20_code 4 = .ok (.i2l, 1) := by decide +kernel
theorem d_Model_change_5 : decode prog_14_method_20_code 5 = .ok (.invokestatic 138, 3) := by decide +kernel
theorem d_Model_change_8 : decode prog_14_method_20_code 8 = .ok (.ifCond .ne 5, 3) := by decide +kernel
theorem d_Model_change_11 : decode prog_14_method_20_code 11 = .ok (.iconst (-1), 1) := by decide +kernel
theorem d_Model_change_12 : decode prog_14_method_20_code 12 = .ok (.ireturn, 1) := by decide +kernel
theorem d_Model_change_13 : decode prog_14_method_20_code 13 = .ok (.aload_n 0, 1) := by decide +kernel
theorem d_Model_change_14 : decode prog_14_method_20_code 14 = .ok (.getfield 13, 3) := by decide +kernel
theorem d_Model_change_17 : decode prog_14_method_20_code 17 = .ok (.iload_n 1, 1) := by decide +kernel
theorem d_Model_change_18 : decode prog_14_method_20_code 18 = .ok (.iaload, 1) := by decide +kernel
theorem d_Model_change_19 : decode prog_14_method_20_code 19 = .ok (.istore 4, 2) := by decide +kernel
theorem d_Model_change_21 : decode prog_14_method_20_code 21 = .ok (.iload 4, 2) := by decide +kernel
theorem d_Model_change_23 : decode prog_14_method_20_code 23 = .ok (.iload_n 2, 1) := by decide +kernel
theorem d_Model_change_24 : decode prog_14_method_20_code 24 = .ok (.if_icmp .ne 6, 3) := by decide +kernel
theorem d_Model_change_27 : decode prog_14_method_20_code 27 = .ok (.bipush (-3), 2) := by decide +kernel
theorem d_Model_change_29 : decode prog_14_method_20_code 29 = .ok (.ireturn, 1) := by decide +kernel
theorem d_Model_change_30 : decode prog_14_method_20_code 30 = .ok (.aload_n 0, 1) := by decide +kernel
theorem d_Model_change_31 : decode prog_14_method_20_code 31 = .ok (.invokevirtual 188, 3) := by decide +kernel
theorem d_Model_change_34 : decode prog_14_method_20_code 34 = .ok (.aload_n 0, 1) := by decide +kernel
theorem d_Model_change_35 : decode prog_14_method_20_code 35 = .ok (.getfield 13, 3) := by decide +kernel
theorem d_Model_change_38 : decode prog_14_method_20_code 38 = .ok (.iload_n 1, 1) := by decide +kernel
theorem d_Model_change_39 : decode prog_14_method_20_code 39 = .ok (.iload_n 2, 1) := by decide +kernel
theorem d_Model_change_40 : decode prog_14_method_20_code 40 = .ok (.iastore, 1) := by decide +kernel
theorem d_Model_change_41 : decode prog_14_method_20_code 41 = .ok (.iload 4, 2) := by decide +kernel
theorem d_Model_change_43 : decode prog_14_method_20_code 43 = .ok (.ireturn, 1) := by decide +kernel
theorem ll_3 : (3 : Int64).toInt = 3 := by decide +kernel
theorem zcl_3 : zJ 3 3 3 := ⟨by decide +kernel, by decide +kernel⟩
theorem zc_501 : zI 501 501 501 := ⟨by decide +kernel, by decide +kernel⟩
abbrev m_s2_Model_change : Room := { frames := 1, cells := 0, slots := 0, locals := 25 }
set_option maxHeartbeats 4000000 in
set_option maxRecDepth 100000 in
theorem s2_Model_change (l : Launch) (G : zG) (b0 : Nat) (b1 : Int32) (b2 : Int32) (b3 : Nat) (b4 : Nat) (b5 : Nat) (b6 : Nat) (b7 : Int32) (b8 : Nat) (b9 : Int32) (b10 : Int32) (b11 : Int32) (b12 : Int32) (b13 : Nat) (b14 : Nat) (b15 : Nat) (b16 : Int32) (b17 : Nat) (b18 : Nat) (b19 : Nat) (b20 : Nat) (b21 : Nat) (b22 : Nat) (b23 : Nat) (b24 : Nat) (b25 : Nat) (b26 : Nat) (b27 : Nat) (b28 : Nat) (b29 : Int32) (b30 : Nat) (b31 : Nat) (b32 : Int32) (b33 : Int32) (b34 : Int32) (b35 : Int32) (b36 : Nat) (b37 : Nat) (b38 : Nat) (b39 : Nat) (b40 : Nat) (b41 : Nat) (b42 : Nat) (b43 : Int32) (b44 : Nat) (b45 : Nat) (b46 : Int32) (b47 : Nat) (b48 : Nat) (b49 : Nat) (b50 : Nat) (b51 : Nat) (b52 : Int32) (b53 : Nat) (b54 : Nat) (b55 : Nat) (b56 : Nat → Int32) (b57 : Nat → Int32) (hb7 : zI b7 0 8) (hb9 : zI b9 0 240) (hb10 : zI b10 0 240) (hb12 : zI b12 0 1) (hb16 : zI b16 0 12) (hb29 : zI b29 0 1) (hb32 : zI b32 0 1) (hb56 : zW5 b56) (hb57 : zW5 b57) : zM l G y_Model_change prog_14_method_20_code 5 (Option.some Jvm.ClassFile.FieldType.int) m_s2_Model_change [.ref b0, .int 501, .int b1, .int 3] [(b0, .inr (12, [.int b2, .ref b3, .ref b4, .ref b5, .ref b6, .int b7, .ref b8, .int b9, .int b10, .int b11, .int b12, .ref b13, .ref b14, .ref b15, .int b16, .ref b17, .ref b18, .ref b19, .ref b20, .ref b21, .ref b22, .ref b23, .ref b24, .ref b25, .ref b26, .ref b27, .ref b28, .int b29, .ref b30, .ref b31, .int b32, .int b33, .int b34, .int b35, .ref b36, .ref b37, .ref b38, .ref b39, .ref b40, .ref b41, .ref b42, .int b43, .ref b44, .ref b45, .int b46, .ref b47, .ref b48, .ref b49, .ref b50, .ref b51, .int b52, .ref b53, .ref b54, .ref b55])), (b3, .inl (G.2 0, 503, .inl b56)), (b6, .inl (G.2 0, 4024, .inl b57))] (fun v w => ∃ (e0 : Int32), ∃ (e1 : Int32), ∃ (e2 : Nat → Int32), ∃ (e3 : Nat → Int32), v = some (.int e0) ∧ w = [(b0, .inr (12, [.int b2, .ref b3, .ref b4, .ref b5, .ref b6, .int e1, .ref b8, .int b9, .int b10, .int b11, .int b12, .ref b13, .ref b14, .ref b15, .int b16, .ref b17, .ref b18, .ref b19, .ref b20, .ref b21, .ref b22, .ref b23, .ref b24, .ref b25, .ref b26, .ref b27, .ref b28, .int b29, .ref b30, .ref b31, .int b32, .int b33, .int b34, .int b35, .ref b36, .ref b37, .ref b38, .ref b39, .ref b40, .ref b41, .ref b42, .int b43, .ref b44, .ref b45, .int b46, .ref b47, .ref b48, .ref b49, .ref b50, .ref b51, .int b52, .ref b53, .ref b54, .ref b55])), (b3, .inl (G.2 0, 503, .inl e2)), (b6, .inl (G.2 0, 4024, .inl e3))] ∧ (zI e0 (-3) 3) ∧ (zI e1 0 8) ∧ (zW5 e2) ∧ (zW5 e3)) := by
  refine z_start (by decide +kernel) (Nat.le_of_ble_eq_true rfl) ?_
  intro p e s m below meth c A Z hr hnm hA hP hD hS ls hl
  have Z : zC p s m _ meth c prog_14_method_20_code 5 "TraceMachinesModel" G := Z
  obtain ⟨hx, hb, hml, hown, hts, hK, hN, hlocks⟩ := id Z
  have hl : lv_has ls 5 [(0, .ref b0), (1, .int 501), (2, .int b1), (3, .int 3)] := hl
  refine lv_iload_n hx hb d_Model_change_0 rfl (lv_at hl 2 rfl) ?_
  refine lv_i2l (v := b1.toInt64) hx hb d_Model_change_1 rfl ?_
  refine lv_lconst (v := 0) hx hb d_Model_change_2 (by decide) ?_
  refine lv_iload_n hx hb d_Model_change_3 rfl (lv_at hl 3 rfl) ?_
  refine lv_i2l (v := 3) hx hb d_Model_change_4 (by decide +kernel) ?_
  refine z_callS (index := 138) (As := [.long b1.toInt64, .long 0, .long 3]) (rest := []) (wr := [(b0, .inr (12, [.int b2, .ref b3, .ref b4, .ref b5, .ref b6, .int b7, .ref b8, .int b9, .int b10, .int b11, .int b12, .ref b13, .ref b14, .ref b15, .int b16, .ref b17, .ref b18, .ref b19, .ref b20, .ref b21, .ref b22, .ref b23, .ref b24, .ref b25, .ref b26, .ref b27, .ref b28, .int b29, .ref b30, .ref b31, .int b32, .int b33, .int b34, .int b35, .ref b36, .ref b37, .ref b38, .ref b39, .ref b40, .ref b41, .ref b42, .int b43, .ref b44, .ref b45, .int b46, .ref b47, .ref b48, .ref b49, .ref b50, .ref b51, .int b52, .ref b53, .ref b54, .ref b55])), (b3, .inl (G.2 0, 503, .inl b56)), (b6, .inl (G.2 0, 4024, .inl b57))]) Z (s2_Model_in l G (b1.toInt64) (0) (3)) hl.1 q1281 q1282 q14 q1283 ⟨by decide, by decide, by show _ = some 3; decide +kernel⟩ ⟨Nat.le_of_ble_eq_true rfl, Nat.le_of_ble_eq_true rfl⟩ ⟨Nat.le_of_ble_eq_true rfl, Nat.le_of_ble_eq_true rfl⟩ rfl (Nat.le_of_ble_eq_true rfl) d_Model_change_5 hP hD hS hA [] [0, 1, 2] rfl rfl rfl rfl (by decide) (fun v w1 H locs hw_1 hP hD hS => ?_)
  rcases hw_1 with ⟨rfl, rfl, hq_2⟩ | ⟨rfl, rfl, hq_3, hq_4⟩ | ⟨rfl, rfl, hq_5, hq_6⟩
  · have hP : va_P G.1 classes [(b0, .inr (12, [.int b2, .ref b3, .ref b4, .ref b5, .ref b6, .int b7, .ref b8, .int b9, .int b10, .int b11, .int b12, .ref b13, .ref b14, .ref b15, .int b16, .ref b17, .ref b18, .ref b19, .ref b20, .ref b21, .ref b22, .ref b23, .ref b24, .ref b25, .ref b26, .ref b27, .ref b28, .int b29, .ref b30, .ref b31, .int b32, .int b33, .int b34, .int b35, .ref b36, .ref b37, .ref b38, .ref b39, .ref b40, .ref b41, .ref b42, .int b43, .ref b44, .ref b45, .int b46, .ref b47, .ref b48, .ref b49, .ref b50, .ref b51, .int b52, .ref b53, .ref b54, .ref b55])), (b3, .inl (G.2 0, 503, .inl b56)), (b6, .inl (G.2 0, 4024, .inl b57))] H := hP
    have hD := z_tie hP hD rfl
    try simp only [Int32.toInt_toInt64, ll_0] at hq_2
    have hv_7 : zI b1 (-2147483648) (-1) := by have _a := hq_2; have _b := (zI_all b1); have _c := zcl_0; simp only [Int32.toInt_toInt64] at *; exact ⟨by omega, by omega⟩
    refine W.widen (k := 0) (n := 0) (Nat.le_of_ble_eq_true rfl) (Nat.le_of_ble_eq_true rfl) ?_
    refine lv_if_ne (tgt := 13) hx hb d_Model_change_8 (by decide) (fun hc => absurd hc (by decide +kernel)) (fun _ => ?_)
    refine lv_iconst (v := (-1)) hx hb d_Model_change_11 (by decide) ?_
    exact z_iret hx hb hr hlocks hP hD hS (Nat.le_of_ble_eq_true rfl) (Nat.le_of_ble_eq_true rfl) d_Model_change_12 ⟨(-1), b7, b56, b57, rfl, rfl, (zI.wk (l' := (-3)) (h' := 3) zc_m1 (by decide)), hb7, hb56, hb57⟩
  · have hP : va_P G.1 classes [(b0, .inr (12, [.int b2, .ref b3, .ref b4, .ref b5, .ref b6, .int b7, .ref b8, .int b9, .int b10, .int b11, .int b12, .ref b13, .ref b14, .ref b15, .int b16, .ref b17, .ref b18, .ref b19, .ref b20, .ref b21, .ref b22, .ref b23, .ref b24, .ref b25, .ref b26, .ref b27, .ref b28, .int b29, .ref b30, .ref b31, .int b32, .int b33, .int b34, .int b35, .ref b36, .ref b37, .ref b38, .ref b39, .ref b40, .ref b41, .ref b42, .int b43, .ref b44, .ref b45, .int b46, .ref b47, .ref b48, .ref b49, .ref b50, .ref b51, .int b52, .ref b53, .ref b54, .ref b55])), (b3, .inl (G.2 0, 503, .inl b56)), (b6, .inl (G.2 0, 4024, .inl b57))] H := hP
    have hD := z_tie hP hD rfl
    try simp only [Int32.toInt_toInt64, ll_0] at hq_3
    have hv_8 : zI b1 0 2147483647 := by have _a := hq_3; have _b := (zI_all b1); have _c := zcl_0; simp only [Int32.toInt_toInt64] at *; exact ⟨by omega, by omega⟩
    try simp only [Int32.toInt_toInt64, ll_3] at hq_4
    have hv_9 : zI b1 4 2147483647 := by have _a := hq_4; have _b := hv_8; have _c := zcl_3; simp only [Int32.toInt_toInt64] at *; exact ⟨by omega, by omega⟩
    refine W.widen (k := 0) (n := 0) (Nat.le_of_ble_eq_true rfl) (Nat.le_of_ble_eq_true rfl) ?_
    refine lv_if_ne (tgt := 13) hx hb d_Model_change_8 (by decide) (fun hc => absurd hc (by decide +kernel)) (fun _ => ?_)
    refine lv_iconst (v := (-1)) hx hb d_Model_change_11 (by decide) ?_
    exact z_iret hx hb hr hlocks hP hD hS (Nat.le_of_ble_eq_true rfl) (Nat.le_of_ble_eq_true rfl) d_Model_change_12 ⟨(-1), b7, b56, b57, rfl, rfl, (zI.wk (l' := (-3)) (h' := 3) zc_m1 (by decide)), hb7, hb56, hb57⟩
  · have hP : va_P G.1 classes [(b0, .inr (12, [.int b2, .ref b3, .ref b4, .ref b5, .ref b6, .int b7, .ref b8, .int b9, .int b10, .int b11, .int b12, .ref b13, .ref b14, .ref b15, .int b16, .ref b17, .ref b18, .ref b19, .ref b20, .ref b21, .ref b22, .ref b23, .ref b24, .ref b25, .ref b26, .ref b27, .ref b28, .int b29, .ref b30, .ref b31, .int b32, .int b33, .int b34, .int b35, .ref b36, .ref b37, .ref b38, .ref b39, .ref b40, .ref b41, .ref b42, .int b43, .ref b44, .ref b45, .int b46, .ref b47, .ref b48, .ref b49, .ref b50, .ref b51, .int b52, .ref b53, .ref b54, .ref b55])), (b3, .inl (G.2 0, 503, .inl b56)), (b6, .inl (G.2 0, 4024, .inl b57))] H := hP
    have hD := z_tie hP hD rfl
    try simp only [Int32.toInt_toInt64, ll_0] at hq_5
    have hv_10 : zI b1 0 2147483647 := by have _a := hq_5; have _b := (zI_all b1); have _c := zcl_0; simp only [Int32.toInt_toInt64] at *; exact ⟨by omega, by omega⟩
    try simp only [Int32.toInt_toInt64, ll_3] at hq_6
    have hv_11 : zI b1 0 3 := by have _a := hq_6; have _b := hv_10; have _c := zcl_3; simp only [Int32.toInt_toInt64] at *; exact ⟨by omega, by omega⟩
    refine W.widen (k := 0) (n := 0) (Nat.le_of_ble_eq_true rfl) (Nat.le_of_ble_eq_true rfl) ?_
    refine lv_if_ne (tgt := 13) hx hb d_Model_change_8 (by decide) (fun _ => ?_) (fun hc => absurd hc (by decide +kernel))
    refine lv_aload_n hx hb d_Model_change_13 rfl (lv_at hl 0 rfl) ?_
    refine va_get (D := G.1) (ci := 12) (v := .ref b3) (C := R_Model) (T := F_Model) (N := 54) hx hb hts i_Model hown hK hP 0 rfl rfl 1 (by decide) (hts _ q1110) (fun _ h9 => h9) rfl d_Model_change_14 ?_
    refine lv_iload_n hx hb d_Model_change_17 rfl (lv_at hl 1 rfl) ?_
    refine va_iald hx hb hK hP 1 0 rfl rfl (i := 501) (z_in rfl) d_Model_change_18 ?_
    refine lv_topi (fun v_12 ev_12 => ?_)
    have hv_12 : zI v_12 0 3 := zW5.ld hb56 zc_501 ev_12 (by decide)
    refine lv_istore (lv' := [(4, .int v_12), (0, .ref b0), (1, .int 501), (2, .int b1), (3, .int 3)]) hx hb d_Model_change_19 hl (by decide) rfl (fun ls hl => ?_)
    refine lv_iload hx hb d_Model_change_21 (lv_at hl 0 rfl) ?_
    refine lv_iload_n hx hb d_Model_change_23 rfl (lv_at hl 3 rfl) ?_
    refine lv_icmp_ne (tgt := 30) hx hb d_Model_change_24 (by decide) (fun hc_13 => ?_) (fun hc_13 => ?_)
    · have _nhc_13 := hc_13
      have ni_14 := fun z => hc_13 ((fa_eq _ _).mpr z)
      refine lv_aload_n hx hb d_Model_change_30 rfl (lv_at hl 1 rfl) ?_
      refine z_callV (index := 188) (As := []) (rest := []) (wr := []) Z (s1_Model_remember l G (b0) (b2) (b3) (b4) (b5) (b6) (b7) (b8) (b9) (b10) (b11) (b12) (b13) (b14) (b15) (b16) (b17) (b18) (b19) (b20) (b21) (b22) (b23) (b24) (b25) (b26) (b27) (b28) (b29) (b30) (b31) (b32) (b33) (b34) (b35) (b36) (b37) (b38) (b39) (b40) (b41) (b42) (b43) (b44) (b45) (b46) (b47) (b48) (b49) (b50) (b51) (b52) (b53) (b54) (b55) (b56) (b57) hb7 hb9 hb10 hb12 hb16 hb29 hb32 hb56 hb57) hl.1 q1316 q1318 qs50 q14 q1319 ⟨by decide, by decide, by show _ = some 0; decide +kernel⟩ ⟨Nat.le_of_ble_eq_true rfl, Nat.le_of_ble_eq_true rfl⟩ ⟨Nat.le_of_ble_eq_true rfl, Nat.le_of_ble_eq_true rfl⟩ rfl (Nat.le_of_ble_eq_true rfl) d_Model_change_31 hP hD hS hA 0 12 rfl rfl rfl [0, 1, 2] [] rfl rfl rfl rfl (by decide) (fun v w1 H locs hw_15 hP hD hS => ?_)
      obtain ⟨x_16, f_17, rfl, rfl, hx_16, hf_17⟩ := hw_15
      have hP : va_P G.1 classes [(b0, .inr (12, [.int b2, .ref b3, .ref b4, .ref b5, .ref b6, .int x_16, .ref b8, .int b9, .int b10, .int b11, .int b12, .ref b13, .ref b14, .ref b15, .int b16, .ref b17, .ref b18, .ref b19, .ref b20, .ref b21, .ref b22, .ref b23, .ref b24, .ref b25, .ref b26, .ref b27, .ref b28, .int b29, .ref b30, .ref b31, .int b32, .int b33, .int b34, .int b35, .ref b36, .ref b37, .ref b38, .ref b39, .ref b40, .ref b41, .ref b42, .int b43, .ref b44, .ref b45, .int b46, .ref b47, .ref b48, .ref b49, .ref b50, .ref b51, .int b52, .ref b53, .ref b54, .ref b55])), (b3, .inl (G.2 0, 503, .inl b56)), (b6, .inl (G.2 0, 4024, .inl f_17))] H := hP
      have hD := z_tie hP hD rfl
      refine W.widen (k := 0) (n := 0) (Nat.le_of_ble_eq_true rfl) (Nat.le_of_ble_eq_true rfl) ?_
      refine lv_aload_n hx hb d_Model_change_34 rfl (lv_at hl 1 rfl) ?_
      refine va_get (D := G.1) (ci := 12) (v := .ref b3) (C := R_Model) (T := F_Model) (N := 54) hx hb hts i_Model hown hK hP 0 rfl rfl 1 (by decide) (hts _ q1110) (fun _ h9 => h9) rfl d_Model_change_35 ?_
      refine lv_iload_n hx hb d_Model_change_38 rfl (lv_at hl 2 rfl) ?_
      refine lv_iload_n hx hb d_Model_change_39 rfl (lv_at hl 3 rfl) ?_
      refine va_iast hx hb hK hP hD hS 1 0 rfl rfl (i := 501) (z_in rfl) d_Model_change_40 (fun H locs hP hD hS => ?_)
      obtain ⟨f_18, hf_18, gf_18, hP, hD⟩ := z_newfw 1 hP hD rfl hb56 (zRk_v zc_501 hv_11 (by decide))
      have hP : va_P G.1 classes [(b0, .inr (12, [.int b2, .ref b3, .ref b4, .ref b5, .ref b6, .int x_16, .ref b8, .int b9, .int b10, .int b11, .int b12, .ref b13, .ref b14, .ref b15, .int b16, .ref b17, .ref b18, .ref b19, .ref b20, .ref b21, .ref b22, .ref b23, .ref b24, .ref b25, .ref b26, .ref b27, .ref b28, .int b29, .ref b30, .ref b31, .int b32, .int b33, .int b34, .int b35, .ref b36, .ref b37, .ref b38, .ref b39, .ref b40, .ref b41, .ref b42, .int b43, .ref b44, .ref b45, .int b46, .ref b47, .ref b48, .ref b49, .ref b50, .ref b51, .int b52, .ref b53, .ref b54, .ref b55])), (b3, .inl (G.2 0, 503, .inl f_18)), (b6, .inl (G.2 0, 4024, .inl f_17))] H := hP
      have hD := z_tie hP hD rfl
      refine lv_iload hx hb d_Model_change_41 (lv_at hl 0 rfl) ?_
      exact z_iret hx hb hr hlocks hP hD hS (Nat.le_of_ble_eq_true rfl) (Nat.le_of_ble_eq_true rfl) d_Model_change_43 ⟨v_12, x_16, f_18, f_17, rfl, rfl, (zI.wk (l' := (-3)) (h' := 3) hv_12 (by decide)), hx_16, hf_18, hf_17⟩
    · have _nhc_13 := hc_13
      have ni_19 := (fa_eq _ _).mp hc_13
      refine lv_bipush (v := (-3)) hx hb d_Model_change_27 (by decide) ?_
      exact z_iret hx hb hr hlocks hP hD hS (Nat.le_of_ble_eq_true rfl) (Nat.le_of_ble_eq_true rfl) d_Model_change_29 ⟨(-3), b7, b56, b57, rfl, rfl, (zI.wk (l' := (-3)) (h' := 3) zc_m3 (by decide)), hb7, hb56, hb57⟩
theorem d_Model_depth_14 : decode prog_14_method_21_code 14 = .ok (.ireturn, 1) := by decide +kernel
abbrev m_s1_Model_depth : Room := { frames := 2, cells := 0, slots := 0, locals := 49 }
set_option maxHeartbeats 4000000 in
set_option maxRecDepth 100000 in
theorem s1_Model_depth (l : Launch) (G : zG) (b0 : Nat) (b1 : Int32) (b2 : Int32) (b3 : Nat) (b4 : Nat) (b5 : Nat) (b6 : Nat) (b7 : Int32) (b8 : Nat) (b9 : Int32) (b10 : Int32) (b11 : Int32) (b12 : Int32) (b13 : Nat) (b14 : Nat) (b15 : Nat) (b16 : Int32) (b17 : Nat) (b18 : Nat) (b19 : Nat) (b20 : Nat) (b21 : Nat) (b22 : Nat) (b23 : Nat) (b24 : Nat) (b25 : Nat) (b26 : Nat) (b27 : Nat) (b28 : Nat) (b29 : Int32) (b30 : Nat) (b31 : Nat) (b32 : Int32) (b33 : Int32) (b34 : Int32) (b35 : Int32) (b36 : Nat) (b37 : Nat) (b38 : Nat) (b39 : Nat) (b40 : Nat) (b41 : Nat) (b42 : Nat) (b43 : Int32) (b44 : Nat) (b45 : Nat) (b46 : Int32) (b47 : Nat) (b48 : Nat) (b49 : Nat) (b50 : Nat) (b51 : Nat) (b52 : Int32) (b53 : Nat) (b54 : Nat) (b55 : Nat) (b56 : Nat → Int32) (b57 : Nat → Int32) (hb7 : zI b7 0 8) (hb9 : zI b9 0 240) (hb10 : zI b10 0 240) (hb12 : zI b12 0 1) (hb16 : zI b16 0 12) (hb29 : zI b29 0 1) (hb32 : zI b32 0 1) (hb56 : zW5 b56) (hb57 : zW5 b57) : zM l G y_Model_depth prog_14_method_21_code 2 (Option.some Jvm.ClassFile.FieldType.int) m_s1_Model_depth [.ref b0, .int b1] [(b0, .inr (12, [.int b2, .ref b3, .ref b4, .ref b5, .ref b6, .int b7, .ref b8, .int b9, .int b10, .int b11, .int b12, .ref b13, .ref b14, .ref b15, .int b16, .ref b17, .ref b18, .ref b19, .ref b20, .ref b21, .ref b22, .ref b23, .ref b24, .ref b25, .ref b26, .ref b27, .ref b28, .int b29, .ref b30, .ref b31, .int b32, .int b33, .int b34, .int b35, .ref b36, .ref b37, .ref b38, .ref b39, .ref b40, .ref b41, .ref b42, .int b43, .ref b44, .ref b45, .int b46, .ref b47, .ref b48, .ref b49, .ref b50, .ref b51, .int b52, .ref b53, .ref b54, .ref b55])), (b3, .inl (G.2 0, 503, .inl b56)), (b6, .inl (G.2 0, 4024, .inl b57))] (fun v w => ∃ (e0 : Int32), ∃ (e1 : Int32), ∃ (e2 : Nat → Int32), ∃ (e3 : Nat → Int32), v = some (.int e0) ∧ w = [(b0, .inr (12, [.int 0, .ref b3, .ref b4, .ref b5, .ref b6, .int e1, .ref b8, .int b9, .int b10, .int b11, .int b12, .ref b13, .ref b14, .ref b15, .int b16, .ref b17, .ref b18, .ref b19, .ref b20, .ref b21, .ref b22, .ref b23, .ref b24, .ref b25, .ref b26, .ref b27, .ref b28, .int b29, .ref b30, .ref b31, .int b32, .int b33, .int b34, .int b35, .ref b36, .ref b37, .ref b38, .ref b39, .ref b40, .ref b41, .ref b42, .int b43, .ref b44, .ref b45, .int b46, .ref b47, .ref b48, .ref b49, .ref b50, .ref b51, .int b52, .ref b53, .ref b54, .ref b55])), (b3, .inl (G.2 0, 503, .inl e2)), (b6, .inl (G.2 0, 4024, .inl e3))] ∧ (zI e0 (-3) 3) ∧ (zI e1 0 8) ∧ (zW5 e2) ∧ (zW5 e3)) := by
  refine z_start (by decide +kernel) (Nat.le_of_ble_eq_true rfl) ?_
  intro p e s m below meth c A Z hr hnm hA hP hD hS ls hl
  have Z : zC p s m _ meth c prog_14_method_21_code 2 "TraceMachinesModel" G := Z
  obtain ⟨hx, hb, hml, hown, hts, hK, hN, hlocks⟩ := id Z
  have hl : lv_has ls 2 [(0, .ref b0), (1, .int b1)] := hl
  refine lv_aload_n hx hb d_Model_depth_0 rfl (lv_at hl 0 rfl) ?_
  refine lv_iconst (v := 0) hx hb d_Model_depth_1 (by decide) ?_
  refine va_put (D := G.1) (ci := 12) (v := .int 0) (ty := .int) (C := R_Model) (T := F_Model) (N := 54) hx hb hts i_Model t_Model t_Model_ok n_Model hown hK hP hD hS 0 rfl rfl 0 (by decide) (hts _ q1109) (fun _ h9 => h9) rfl (by decide +kernel) rfl rfl (Nat.le_of_ble_eq_true rfl) d_Model_depth_2 (fun H locs hP hD hS => ?_)
  have hP : va_P G.1 classes [(b0, .inr (12, [.int 0, .ref b3, .ref b4, .ref b5, .ref b6, .int b7, .ref b8, .int b9, .int b10, .int b11, .int b12, .ref b13, .ref b14, .ref b15, .int b16, .ref b17, .ref b18, .ref b19, .ref b20, .ref b21, .ref b22, .ref b23, .ref b24, .ref b25, .ref b26, .ref b27, .ref b28, .int b29, .ref b30, .ref b31, .int b32, .int b33, .int b34, .int b35, .ref b36, .ref b37, .ref b38, .ref b39, .ref b40, .ref b41, .ref b42, .int b43, .ref b44, .ref b45, .int b46, .ref b47, .ref b48, .ref b49, .ref b50, .ref b51, .int b52, .ref b53, .ref b54, .ref b55])), (b3, .inl (G.2 0, 503, .inl b56)), (b6, .inl (G.2 0, 4024, .inl b57))] H := hP
  have hD := z_tie hP hD rfl
  refine lv_aload_n hx hb d_Model_depth_5 rfl (lv_at hl 0 rfl) ?_
  refine lv_sipush (v := 501) hx hb d_Model_depth_6 (by decide) ?_
  refine lv_iload_n hx hb d_Model_depth_9 rfl (lv_at hl 1 rfl) ?_
  refine lv_iconst (v := 3) hx hb d_Model_depth_10 (by decide) ?_
  refine z_callV (index := 195) (As := [.int 501, .int b1, .int 3]) (rest := []) (wr := []) Z (s2_Model_change l G (b0) (b1) (0) (b3) (b4) (b5) (b6) (b7) (b8) (b9) (b10) (b11) (b12) (b13) (b14) (b15) (b16) (b17) (b18) (b19) (b20) (b21) (b22) (b23) (b24) (b25) (b26) (b27) (b28) (b29) (b30) (b31) (b32) (b33) (b34) (b35) (b36) (b37) (b38) (b39) (b40) (b41) (b42) (b43) (b44) (b45) (b46) (b47) (b48) (b49) (b50) (b51) (b52) (b53) (b54) (b55) (b56) (b57) hb7 hb9 hb10 hb12 hb16 hb29 hb32 hb56 hb57) hl.1 q1336 q1338 qs53 q14 q1339 ⟨by decide, by decide, by show _ = some 3; decide +kernel⟩ ⟨Nat.le_of_ble_eq_true rfl, Nat.le_of_ble_eq_true rfl⟩ ⟨Nat.le_of_ble_eq_true rfl, Nat.le_of_ble_eq_true rfl⟩ rfl (Nat.le_of_ble_eq_true rfl) d_Model_depth_11 hP hD hS hA 0 12 rfl rfl rfl [0, 1, 2] [] rfl rfl rfl rfl (by decide) (fun v w1 H locs hw_1 hP hD hS => ?_)
  obtain ⟨x_2, x_3, f_4, f_5, rfl, rfl, hx_2, hx_3, hf_4, hf_5⟩ := hw_1
  have hP : va_P G.1 classes [(b0, .inr (12, [.int 0, .ref b3, .ref b4, .ref b5, .ref b6, .int x_3, .ref b8, .int b9, .int b10, .int b11, .int b12, .ref b13, .ref b14, .ref b15, .int b16, .ref b17, .ref b18, .ref b19, .ref b20, .ref b21, .ref b22, .ref b23, .ref b24, .ref b25, .ref b26, .ref b27, .ref b28, .int b29, .ref b30, .ref b31, .int b32, .int b33, .int b34, .int b35, .ref b36, .ref b37, .ref b38, .ref b39, .ref b40, .ref b41, .ref b42, .int b43, .ref b44, .ref b45, .int b46, .ref b47, .ref b48, .ref b49, .ref b50, .ref b51, .int b52, .ref b53, .ref b54, .ref b55])), (b3, .inl (G.2 0, 503, .inl f_4)), (b6, .inl (G.2 0, 4024, .inl f_5))] H := hP
  have hD := z_tie hP hD rfl
  refine W.widen (k := 0) (n := 0) (Nat.le_of_ble_eq_true rfl) (Nat.le_of_ble_eq_true rfl) ?_
  exact z_iret hx hb hr hlocks hP hD hS (Nat.le_of_ble_eq_true rfl) (Nat.le_of_ble_eq_true rfl) d_Model_depth_14 ⟨x_2, x_3, f_4, f_5, rfl, rfl, hx_2, hx_3, hf_4, hf_5⟩
theorem d_Model_margin_0 : decode prog_14_method_22_code 0 = .ok (.aload_n 0, 1) := by decide +kernel
theorem d_Model_margin_1 : decode prog_14_method_22_code 1 = .ok (.iconst 0, 1) := by decide +kernel
theorem d_Model_margin_2 : decode prog_14_method_22_code 2 = .ok (.putfield 1, 3) := by decide +kernel
theorem d_Model_margin_5 : decode prog_14_method_22_code 5 = .ok (.aload_n 0, 1) := by decide +kernel
theorem d_Model_margin_6 : decode prog_14_method_22_code 6 = .ok (.sipush 502, 3) := by decide +kernel
theorem d_Model_margin_9 : decode prog_14_method_22_code 9 = .ok (.iload_n 1, 1) := by decide +kernel
theorem d_Model_margin_10 : decode prog_14_method_22_code 10 = .ok (.bipush 20, 2) := by decide +kernel
theorem d_Model_margin_12 : decode prog_14_method_22_code 12 = .ok (.invokevirtual 195, 3) := by decide +kernel
theorem ll_20 : (20 : Int64).toInt = 20 := by decide +kernel
theorem zcl_20 : zJ 20 20 20 := ⟨by decide +kernel, by decide +kernel⟩
theorem zc_502 : zI 502 502 502 := ⟨by decide +kernel, by decide +kernel⟩
abbrev m_s4_Model_change : Room := { frames := 1, cells := 0, slots := 0, locals := 25 }
set_option maxHeartbeats 4000000 in
set_option maxRecDepth 100000 in
theorem s4_Model_change (l : Launch) (G : zG) (b0 : Nat) (b1 : Int32) (b2 : Int32) (b3 : Nat) (b4 : Nat) (b5 : Nat) (b6 : Nat) (b7 : Int32) (b8 : Nat) (b9 : Int32) (b10 : Int32) (b11 : Int32) (b12 : Int32) (b13 : Nat) (b14 : Nat) (b15 : Nat) (b16 : Int32) (b17 : Nat) (b18 : Nat) (b19 : Nat) (b20 : Nat) (b21 : Nat) (b22 : Nat) (b23 : Nat) (b24 : Nat) (b25 : Nat) (b26 : Nat) (b27 : Nat) (b28 : Nat) (b29 : Int32) (b30 : Nat) (b31 : Nat) (b32 : Int32) (b33 : Int32) (b34 : Int32) (b35 : Int32) (b36 : Nat) (b37 : Nat) (b38 : Nat) (b39 : Nat) (b40 : Nat) (b41 : Nat) (b42 : Nat) (b43 : Int32) (b44 : Nat) (b45 : Nat) (b46 : Int32) (b47 : Nat) (b48 : Nat) (b49 : Nat) (b50 : Nat) (b51 : Nat) (b52 : Int32) (b53 : Nat) (b54 : Nat) (b55 : Nat) (b56 : Nat → Int32) (b57 : Nat → Int32) (hb7 : zI b7 0 8) (hb9 : zI b9 0 240) (hb10 : zI b10 0 240) (hb12 : zI b12 0 1) (hb16 : zI b16 0 12) (hb29 : zI b29 0 1) (hb32 : zI b32 0 1) (hb56 : zW5 b56) (hb57 : zW5 b57) : zM l G y_Model_change prog_14_method_20_code 5 (Option.some Jvm.ClassFile.FieldType.int) m_s4_Model_change [.ref b0, .int 502, .int b1, .int 20] [(b0, .inr (12, [.int b2, .ref b3, .ref b4, .ref b5, .ref b6, .int b7, .ref b8, .int b9, .int b10, .int b11, .int b12, .ref b13, .ref b14, .ref b15, .int b16, .ref b17, .ref b18, .ref b19, .ref b20, .ref b21, .ref b22, .ref b23, .ref b24, .ref b25, .ref b26, .ref b27, .ref b28, .int b29, .ref b30, .ref b31, .int b32, .int b33, .int b34, .int b35, .ref b36, .ref b37, .ref b38, .ref b39, .ref b40, .ref b41, .ref b42, .int b43, .ref b44, .ref b45, .int b46, .ref b47, .ref b48, .ref b49, .ref b50, .ref b51, .int b52, .ref b53, .ref b54, .ref b55])), (b3, .inl (G.2 0, 503, .inl b56)), (b6, .inl (G.2 0, 4024, .inl b57))] (fun v w => ∃ (e0 : Int32), ∃ (e1 : Int32), ∃ (e2 : Nat → Int32), ∃ (e3 : Nat → Int32), v = some (.int e0) ∧ w = [(b0, .inr (12, [.int b2, .ref b3, .ref b4, .ref b5, .ref b6, .int e1, .ref b8, .int b9, .int b10, .int b11, .int b12, .ref b13, .ref b14, .ref b15, .int b16, .ref b17, .ref b18, .ref b19, .ref b20, .ref b21, .ref b22, .ref b23, .ref b24, .ref b25, .ref b26, .ref b27, .ref b28, .int b29, .ref b30, .ref b31, .int b32, .int b33, .int b34, .int b35, .ref b36, .ref b37, .ref b38, .ref b39, .ref b40, .ref b41, .ref b42, .int b43, .ref b44, .ref b45, .int b46, .ref b47, .ref b48, .ref b49, .ref b50, .ref b51, .int b52, .ref b53, .ref b54, .ref b55])), (b3, .inl (G.2 0, 503, .inl e2)), (b6, .inl (G.2 0, 4024, .inl e3))] ∧ (zI e0 (-3) 20) ∧ (zI e1 0 8) ∧ (zW5 e2) ∧ (zW5 e3)) := by
  refine z_start (by decide +kernel) (Nat.le_of_ble_eq_true rfl) ?_
  intro p e s m below meth c A Z hr hnm hA hP hD hS ls hl
  have Z : zC p s m _ meth c prog_14_method_20_code 5 "TraceMachinesModel" G := Z
  obtain ⟨hx, hb, hml, hown, hts, hK, hN, hlocks⟩ := id Z
  have hl : lv_has ls 5 [(0, .ref b0), (1, .int 502), (2, .int b1), (3, .int 20)] := hl
  refine lv_iload_n hx hb d_Model_change_0 rfl (lv_at hl 2 rfl) ?_
  refine lv_i2l (v := b1.toInt64) hx hb d_Model_change_1 rfl ?_
  refine lv_lconst (v := 0) hx hb d_Model_change_2 (by decide) ?_
  refine lv_iload_n hx hb d_Model_change_3 rfl (lv_at hl 3 rfl) ?_
  refine lv_i2l (v := 20) hx hb d_Model_change_4 (by decide +kernel) ?_
  refine z_callS (index := 138) (As := [.long b1.toInt64, .long 0, .long 20]) (rest := []) (wr := [(b0, .inr (12, [.int b2, .ref b3, .ref b4, .ref b5, .ref b6, .int b7, .ref b8, .int b9, .int b10, .int b11, .int b12, .ref b13, .ref b14, .ref b15, .int b16, .ref b17, .ref b18, .ref b19, .ref b20, .ref b21, .ref b22, .ref b23, .ref b24, .ref b25, .ref b26, .ref b27, .ref b28, .int b29, .ref b30, .ref b31, .int b32, .int b33, .int b34, .int b35, .ref b36, .ref b37, .ref b38, .ref b39, .ref b40, .ref b41, .ref b42, .int b43, .ref b44, .ref b45, .int b46, .ref b47, .ref b48, .ref b49, .ref b50, .ref b51, .int b52, .ref b53, .ref b54, .ref b55])), (b3, .inl (G.2 0, 503, .inl b56)), (b6, .inl (G.2 0, 4024, .inl b57))]) Z (s2_Model_in l G (b1.toInt64) (0) (20)) hl.1 q1281 q1282 q14 q1283 ⟨by decide, by decide, by show _ = some 3; decide +kernel⟩ ⟨Nat.le_of_ble_eq_true rfl, Nat.le_of_ble_eq_true rfl⟩ ⟨Nat.le_of_ble_eq_true rfl, Nat.le_of_ble_eq_true rfl⟩ rfl (Nat.le_of_ble_eq_true rfl) d_Model_change_5 hP hD hS hA [] [0, 1, 2] rfl rfl rfl rfl (by decide) (fun v w1 H locs hw_1 hP hD hS => ?_)
  rcases hw_1 with ⟨rfl, rfl, hq_2⟩ | ⟨rfl, rfl, hq_3, hq_4⟩ | ⟨rfl, rfl, hq_5, hq_6⟩
  · have hP : va_P G.1 classes [(b0, .inr (12, [.int b2, .ref b3, .ref b4, .ref b5, .ref b6, .int b7, .ref b8, .int b9, .int b10, .int b11, .int b12, .ref b13, .ref b14, .ref b15, .int b16, .ref b17, .ref b18, .ref b19, .ref b20, .ref b21, .ref b22, .ref b23, .ref b24, .ref b25, .ref b26, .ref b27, .ref b28, .int b29, .ref b30, .ref b31, .int b32, .int b33, .int b34, .int b35, .ref b36, .ref b37, .ref b38, .ref b39, .ref b40, .ref b41, .ref b42, .int b43, .ref b44, .ref b45, .int b46, .ref b47, .ref b48, .ref b49, .ref b50, .ref b51, .int b52, .ref b53, .ref b54, .ref b55])), (b3, .inl (G.2 0, 503, .inl b56)), (b6, .inl (G.2 0, 4024, .inl b57))] H := hP
    have hD := z_tie hP hD rfl
    try simp only [Int32.toInt_toInt64, ll_0] at hq_2
    have hv_7 : zI b1 (-2147483648) (-1) := by have _a := hq_2; have _b := (zI_all b1); have _c := zcl_0; simp only [Int32.toInt_toInt64] at *; exact ⟨by omega, by omega⟩
    refine W.widen (k := 0) (n := 0) (Nat.le_of_ble_eq_true rfl) (Nat.le_of_ble_eq_true rfl) ?_
    refine lv_if_ne (tgt := 13) hx hb d_Model_change_8 (by decide) (fun hc => absurd hc (by decide +kernel)) (fun _ => ?_)
    refine lv_iconst (v := (-1)) hx hb d_Model_change_11 (by decide) ?_
    exact z_iret hx hb hr hlocks hP hD hS (Nat.le_of_ble_eq_true rfl) (Nat.le_of_ble_eq_true rfl) d_Model_change_12 ⟨(-1), b7, b56, b57, rfl, rfl, (zI.wk (l' := (-3)) (h' := 20) zc_m1 (by decide)), hb7, hb56, hb57⟩
  · have hP : va_P G.1 classes [(b0, .inr (12, [.int b2, .ref b3, .ref b4, .ref b5, .ref b6, .int b7, .ref b8, .int b9, .int b10, .int b11, .int b12, .ref b13, .ref b14, .ref b15, .int b16, .ref b17, .ref b18, .ref b19, .ref b20, .ref b21, .ref b22, .ref b23, .ref b24, .ref b25, .ref b26, .ref b27, .ref b28, .int b29, .ref b30, .ref b31, .int b32, .int b33, .int b34, .int b35, .ref b36, .ref b37, .ref b38, .ref b39, .ref b40, .ref b41, .ref b42, .int b43, .ref b44, .ref b45, .int b46, .ref b47, .ref b48, .ref b49, .ref b50, .ref b51, .int b52, .ref b53, .ref b54, .ref b55])), (b3, .inl (G.2 0, 503, .inl b56)), (b6, .inl (G.2 0, 4024, .inl b57))] H := hP
    have hD := z_tie hP hD rfl
    try simp only [Int32.toInt_toInt64, ll_0] at hq_3
    have hv_8 : zI b1 0 2147483647 := by have _a := hq_3; have _b := (zI_all b1); have _c := zcl_0; simp only [Int32.toInt_toInt64] at *; exact ⟨by omega, by omega⟩
    try simp only [Int32.toInt_toInt64, ll_20] at hq_4
    have hv_9 : zI b1 21 2147483647 := by have _a := hq_4; have _b := hv_8; have _c := zcl_20; simp only [Int32.toInt_toInt64] at *; exact ⟨by omega, by omega⟩
    refine W.widen (k := 0) (n := 0) (Nat.le_of_ble_eq_true rfl) (Nat.le_of_ble_eq_true rfl) ?_
    refine lv_if_ne (tgt := 13) hx hb d_Model_change_8 (by decide) (fun hc => absurd hc (by decide +kernel)) (fun _ => ?_)
    refine lv_iconst (v := (-1)) hx hb d_Model_change_11 (by decide) ?_
    exact z_iret hx hb hr hlocks hP hD hS (Nat.le_of_ble_eq_true rfl) (Nat.le_of_ble_eq_true rfl) d_Model_change_12 ⟨(-1), b7, b56, b57, rfl, rfl, (zI.wk (l' := (-3)) (h' := 20) zc_m1 (by decide)), hb7, hb56, hb57⟩
  · have hP : va_P G.1 classes [(b0, .inr (12, [.int b2, .ref b3, .ref b4, .ref b5, .ref b6, .int b7, .ref b8, .int b9, .int b10, .int b11, .int b12, .ref b13, .ref b14, .ref b15, .int b16, .ref b17, .ref b18, .ref b19, .ref b20, .ref b21, .ref b22, .ref b23, .ref b24, .ref b25, .ref b26, .ref b27, .ref b28, .int b29, .ref b30, .ref b31, .int b32, .int b33, .int b34, .int b35, .ref b36, .ref b37, .ref b38, .ref b39, .ref b40, .ref b41, .ref b42, .int b43, .ref b44, .ref b45, .int b46, .ref b47, .ref b48, .ref b49, .ref b50, .ref b51, .int b52, .ref b53, .ref b54, .ref b55])), (b3, .inl (G.2 0, 503, .inl b56)), (b6, .inl (G.2 0, 4024, .inl b57))] H := hP
    have hD := z_tie hP hD rfl
    try simp only [Int32.toInt_toInt64, ll_0] at hq_5
    have hv_10 : zI b1 0 2147483647 := by have _a := hq_5; have _b := (zI_all b1); have _c := zcl_0; simp only [Int32.toInt_toInt64] at *; exact ⟨by omega, by omega⟩
    try simp only [Int32.toInt_toInt64, ll_20] at hq_6
    have hv_11 : zI b1 0 20 := by have _a := hq_6; have _b := hv_10; have _c := zcl_20; simp only [Int32.toInt_toInt64] at *; exact ⟨by omega, by omega⟩
    refine W.widen (k := 0) (n := 0) (Nat.le_of_ble_eq_true rfl) (Nat.le_of_ble_eq_true rfl) ?_
    refine lv_if_ne (tgt := 13) hx hb d_Model_change_8 (by decide) (fun _ => ?_) (fun hc => absurd hc (by decide +kernel))
    refine lv_aload_n hx hb d_Model_change_13 rfl (lv_at hl 0 rfl) ?_
    refine va_get (D := G.1) (ci := 12) (v := .ref b3) (C := R_Model) (T := F_Model) (N := 54) hx hb hts i_Model hown hK hP 0 rfl rfl 1 (by decide) (hts _ q1110) (fun _ h9 => h9) rfl d_Model_change_14 ?_
    refine lv_iload_n hx hb d_Model_change_17 rfl (lv_at hl 1 rfl) ?_
    refine va_iald hx hb hK hP 1 0 rfl rfl (i := 502) (z_in rfl) d_Model_change_18 ?_
    refine lv_topi (fun v_12 ev_12 => ?_)
    have hv_12 : zI v_12 0 20 := zW5.ld hb56 zc_502 ev_12 (by decide)
    refine lv_istore (lv' := [(4, .int v_12), (0, .ref b0), (1, .int 502), (2, .int b1), (3, .int 20)]) hx hb d_Model_change_19 hl (by decide) rfl (fun ls hl => ?_)
    refine lv_iload hx hb d_Model_change_21 (lv_at hl 0 rfl) ?_
    refine lv_iload_n hx hb d_Model_change_23 rfl (lv_at hl 3 rfl) ?_
    refine lv_icmp_ne (tgt := 30) hx hb d_Model_change_24 (by decide) (fun hc_13 => ?_) (fun hc_13 => ?_)
    · have _nhc_13 := hc_13
      have ni_14 := fun z => hc_13 ((fa_eq _ _).mpr z)
      refine lv_aload_n hx hb d_Model_change_30 rfl (lv_at hl 1 rfl) ?_
      refine z_callV (index := 188) (As := []) (rest := []) (wr := []) Z (s1_Model_remember l G (b0) (b2) (b3) (b4) (b5) (b6) (b7) (b8) (b9) (b10) (b11) (b12) (b13) (b14) (b15) (b16) (b17) (b18) (b19) (b20) (b21) (b22) (b23) (b24) (b25) (b26) (b27) (b28) (b29) (b30) (b31) (b32) (b33) (b34) (b35) (b36) (b37) (b38) (b39) (b40) (b41) (b42) (b43) (b44) (b45) (b46) (b47) (b48) (b49) (b50) (b51) (b52) (b53) (b54) (b55) (b56) (b57) hb7 hb9 hb10 hb12 hb16 hb29 hb32 hb56 hb57) hl.1 q1316 q1318 qs50 q14 q1319 ⟨by decide, by decide, by show _ = some 0; decide +kernel⟩ ⟨Nat.le_of_ble_eq_true rfl, Nat.le_of_ble_eq_true rfl⟩ ⟨Nat.le_of_ble_eq_true rfl, Nat.le_of_ble_eq_true rfl⟩ rfl (Nat.le_of_ble_eq_true rfl) d_Model_change_31 hP hD hS hA 0 12 rfl rfl rfl [0, 1, 2] [] rfl rfl rfl rfl (by decide) (fun v w1 H locs hw_15 hP hD hS => ?_)
      obtain ⟨x_16, f_17, rfl, rfl, hx_16, hf_17⟩ := hw_15
      have hP : va_P G.1 classes [(b0, .inr (12, [.int b2, .ref b3, .ref b4, .ref b5, .ref b6, .int x_16, .ref b8, .int b9, .int b10, .int b11, .int b12, .ref b13, .ref b14, .ref b15, .int b16, .ref b17, .ref b18, .ref b19, .ref b20, .ref b21, .ref b22, .ref b23, .ref b24, .ref b25, .ref b26, .ref b27, .ref b28, .int b29, .ref b30, .ref b31, .int b32, .int b33, .int b34, .int b35, .ref b36, .ref b37, .ref b38, .ref b39, .ref b40, .ref b41, .ref b42, .int b43, .ref b44, .ref b45, .int b46, .ref b47, .ref b48, .ref b49, .ref b50, .ref b51, .int b52, .ref b53, .ref b54, .ref b55])), (b3, .inl (G.2 0, 503, .inl b56)), (b6, .inl (G.2 0, 4024, .inl f_17))] H := hP
      have hD := z_tie hP hD rfl
      refine W.widen (k := 0) (n := 0) (Nat.le_of_ble_eq_true rfl) (Nat.le_of_ble_eq_true rfl) ?_
      refine lv_aload_n hx hb d_Model_change_34 rfl (lv_at hl 1 rfl) ?_
      refine va_get (D := G.1) (ci := 12) (v := .ref b3) (C := R_Model) (T := F_Model) (N := 54) hx hb hts i_Model hown hK hP 0 rfl rfl 1 (by decide) (hts _ q1110) (fun _ h9 => h9) rfl d_Model_change_35 ?_
      refine lv_iload_n hx hb d_Model_change_38 rfl (lv_at hl 2 rfl) ?_
      refine lv_iload_n hx hb d_Model_change_39 rfl (lv_at hl 3 rfl) ?_
      refine va_iast hx hb hK hP hD hS 1 0 rfl rfl (i := 502) (z_in rfl) d_Model_change_40 (fun H locs hP hD hS => ?_)
      obtain ⟨f_18, hf_18, gf_18, hP, hD⟩ := z_newfw 1 hP hD rfl hb56 (zRk_v zc_502 hv_11 (by decide))
      have hP : va_P G.1 classes [(b0, .inr (12, [.int b2, .ref b3, .ref b4, .ref b5, .ref b6, .int x_16, .ref b8, .int b9, .int b10, .int b11, .int b12, .ref b13, .ref b14, .ref b15, .int b16, .ref b17, .ref b18, .ref b19, .ref b20, .ref b21, .ref b22, .ref b23, .ref b24, .ref b25, .ref b26, .ref b27, .ref b28, .int b29, .ref b30, .ref b31, .int b32, .int b33, .int b34, .int b35, .ref b36, .ref b37, .ref b38, .ref b39, .ref b40, .ref b41, .ref b42, .int b43, .ref b44, .ref b45, .int b46, .ref b47, .ref b48, .ref b49, .ref b50, .ref b51, .int b52, .ref b53, .ref b54, .ref b55])), (b3, .inl (G.2 0, 503, .inl f_18)), (b6, .inl (G.2 0, 4024, .inl f_17))] H := hP
      have hD := z_tie hP hD rfl
      refine lv_iload hx hb d_Model_change_41 (lv_at hl 0 rfl) ?_
      exact z_iret hx hb hr hlocks hP hD hS (Nat.le_of_ble_eq_true rfl) (Nat.le_of_ble_eq_true rfl) d_Model_change_43 ⟨v_12, x_16, f_18, f_17, rfl, rfl, (zI.wk (l' := (-3)) (h' := 20) hv_12 (by decide)), hx_16, hf_18, hf_17⟩
    · have _nhc_13 := hc_13
      have ni_19 := (fa_eq _ _).mp hc_13
      refine lv_bipush (v := (-3)) hx hb d_Model_change_27 (by decide) ?_
      exact z_iret hx hb hr hlocks hP hD hS (Nat.le_of_ble_eq_true rfl) (Nat.le_of_ble_eq_true rfl) d_Model_change_29 ⟨(-3), b7, b56, b57, rfl, rfl, (zI.wk (l' := (-3)) (h' := 20) zc_m3 (by decide)), hb7, hb56, hb57⟩
theorem d_Model_margin_15 : decode prog_14_method_22_code 15 = .ok (.ireturn, 1) := by decide +kernel
abbrev m_s1_Model_margin : Room := { frames := 2, cells := 0, slots := 0, locals := 49 }
set_option maxHeartbeats 4000000 in
set_option maxRecDepth 100000 in
theorem s1_Model_margin (l : Launch) (G : zG) (b0 : Nat) (b1 : Int32) (b2 : Int32) (b3 : Nat) (b4 : Nat) (b5 : Nat) (b6 : Nat) (b7 : Int32) (b8 : Nat) (b9 : Int32) (b10 : Int32) (b11 : Int32) (b12 : Int32) (b13 : Nat) (b14 : Nat) (b15 : Nat) (b16 : Int32) (b17 : Nat) (b18 : Nat) (b19 : Nat) (b20 : Nat) (b21 : Nat) (b22 : Nat) (b23 : Nat) (b24 : Nat) (b25 : Nat) (b26 : Nat) (b27 : Nat) (b28 : Nat) (b29 : Int32) (b30 : Nat) (b31 : Nat) (b32 : Int32) (b33 : Int32) (b34 : Int32) (b35 : Int32) (b36 : Nat) (b37 : Nat) (b38 : Nat) (b39 : Nat) (b40 : Nat) (b41 : Nat) (b42 : Nat) (b43 : Int32) (b44 : Nat) (b45 : Nat) (b46 : Int32) (b47 : Nat) (b48 : Nat) (b49 : Nat) (b50 : Nat) (b51 : Nat) (b52 : Int32) (b53 : Nat) (b54 : Nat) (b55 : Nat) (b56 : Nat → Int32) (b57 : Nat → Int32) (hb7 : zI b7 0 8) (hb9 : zI b9 0 240) (hb10 : zI b10 0 240) (hb12 : zI b12 0 1) (hb16 : zI b16 0 12) (hb29 : zI b29 0 1) (hb32 : zI b32 0 1) (hb56 : zW5 b56) (hb57 : zW5 b57) : zM l G y_Model_margin prog_14_method_22_code 2 (Option.some Jvm.ClassFile.FieldType.int) m_s1_Model_margin [.ref b0, .int b1] [(b0, .inr (12, [.int b2, .ref b3, .ref b4, .ref b5, .ref b6, .int b7, .ref b8, .int b9, .int b10, .int b11, .int b12, .ref b13, .ref b14, .ref b15, .int b16, .ref b17, .ref b18, .ref b19, .ref b20, .ref b21, .ref b22, .ref b23, .ref b24, .ref b25, .ref b26, .ref b27, .ref b28, .int b29, .ref b30, .ref b31, .int b32, .int b33, .int b34, .int b35, .ref b36, .ref b37, .ref b38, .ref b39, .ref b40, .ref b41, .ref b42, .int b43, .ref b44, .ref b45, .int b46, .ref b47, .ref b48, .ref b49, .ref b50, .ref b51, .int b52, .ref b53, .ref b54, .ref b55])), (b3, .inl (G.2 0, 503, .inl b56)), (b6, .inl (G.2 0, 4024, .inl b57))] (fun v w => ∃ (e0 : Int32), ∃ (e1 : Int32), ∃ (e2 : Nat → Int32), ∃ (e3 : Nat → Int32), v = some (.int e0) ∧ w = [(b0, .inr (12, [.int 0, .ref b3, .ref b4, .ref b5, .ref b6, .int e1, .ref b8, .int b9, .int b10, .int b11, .int b12, .ref b13, .ref b14, .ref b15, .int b16, .ref b17, .ref b18, .ref b19, .ref b20, .ref b21, .ref b22, .ref b23, .ref b24, .ref b25, .ref b26, .ref b27, .ref b28, .int b29, .ref b30, .ref b31, .int b32, .int b33, .int b34, .int b35, .ref b36, .ref b37, .ref b38, .ref b39, .ref b40, .ref b41, .ref b42, .int b43, .ref b44, .ref b45, .int b46, .ref b47, .ref b48, .ref b49, .ref b50, .ref b51, .int b52, .ref b53, .ref b54, .ref b55])), (b3, .inl (G.2 0, 503, .inl e2)), (b6, .inl (G.2 0, 4024, .inl e3))] ∧ (zI e0 (-3) 20) ∧ (zI e1 0 8) ∧ (zW5 e2) ∧ (zW5 e3)) := by
  refine z_start (by decide +kernel) (Nat.le_of_ble_eq_true rfl) ?_
  intro p e s m below meth c A Z hr hnm hA hP hD hS ls hl
  have Z : zC p s m _ meth c prog_14_method_22_code 2 "TraceMachinesModel" G := Z
  obtain ⟨hx, hb, hml, hown, hts, hK, hN, hlocks⟩ := id Z
  have hl : lv_has ls 2 [(0, .ref b0), (1, .int b1)] := hl
  refine lv_aload_n hx hb d_Model_margin_0 rfl (lv_at hl 0 rfl) ?_
  refine lv_iconst (v := 0) hx hb d_Model_margin_1 (by decide) ?_
  refine va_put (D := G.1) (ci := 12) (v := .int 0) (ty := .int) (C := R_Model) (T := F_Model) (N := 54) hx hb hts i_Model t_Model t_Model_ok n_Model hown hK hP hD hS 0 rfl rfl 0 (by decide) (hts _ q1109) (fun _ h9 => h9) rfl (by decide +kernel) rfl rfl (Nat.le_of_ble_eq_true rfl) d_Model_margin_2 (fun H locs hP hD hS => ?_)
  have hP : va_P G.1 classes [(b0, .inr (12, [.int 0, .ref b3, .ref b4, .ref b5, .ref b6, .int b7, .ref b8, .int b9, .int b10, .int b11, .int b12, .ref b13, .ref b14, .ref b15, .int b16, .ref b17, .ref b18, .ref b19, .ref b20, .ref b21, .ref b22, .ref b23, .ref b24, .ref b25, .ref b26, .ref b27, .ref b28, .int b29, .ref b30, .ref b31, .int b32, .int b33, .int b34, .int b35, .ref b36, .ref b37, .ref b38, .ref b39, .ref b40, .ref b41, .ref b42, .int b43, .ref b44, .ref b45, .int b46, .ref b47, .ref b48, .ref b49, .ref b50, .ref b51, .int b52, .ref b53, .ref b54, .ref b55])), (b3, .inl (G.2 0, 503, .inl b56)), (b6, .inl (G.2 0, 4024, .inl b57))] H := hP
  have hD := z_tie hP hD rfl
  refine lv_aload_n hx hb d_Model_margin_5 rfl (lv_at hl 0 rfl) ?_
  refine lv_sipush (v := 502) hx hb d_Model_margin_6 (by decide) ?_
  refine lv_iload_n hx hb d_Model_margin_9 rfl (lv_at hl 1 rfl) ?_
  refine lv_bipush (v := 20) hx hb d_Model_margin_10 (by decide) ?_
  refine z_callV (index := 195) (As := [.int 502, .int b1, .int 20]) (rest := []) (wr := []) Z (s4_Model_change l G (b0) (b1) (0) (b3) (b4) (b5) (b6) (b7) (b8) (b9) (b10) (b11) (b12) (b13) (b14) (b15) (b16) (b17) (b18) (b19) (b20) (b21) (b22) (b23) (b24) (b25) (b26) (b27) (b28) (b29) (b30) (b31) (b32) (b33) (b34) (b35) (b36) (b37) (b38) (b39) (b40) (b41) (b42) (b43) (b44) (b45) (b46) (b47) (b48) (b49) (b50) (b51) (b52) (b53) (b54) (b55) (b56) (b57) hb7 hb9 hb10 hb12 hb16 hb29 hb32 hb56 hb57) hl.1 q1336 q1338 qs53 q14 q1339 ⟨by decide, by decide, by show _ = some 3; decide +kernel⟩ ⟨Nat.le_of_ble_eq_true rfl, Nat.le_of_ble_eq_true rfl⟩ ⟨Nat.le_of_ble_eq_true rfl, Nat.le_of_ble_eq_true rfl⟩ rfl (Nat.le_of_ble_eq_true rfl) d_Model_margin_12 hP hD hS hA 0 12 rfl rfl rfl [0, 1, 2] [] rfl rfl rfl rfl (by decide) (fun v w1 H locs hw_1 hP hD hS => ?_)
  obtain ⟨x_2, x_3, f_4, f_5, rfl, rfl, hx_2, hx_3, hf_4, hf_5⟩ := hw_1
  have hP : va_P G.1 classes [(b0, .inr (12, [.int 0, .ref b3, .ref b4, .ref b5, .ref b6, .int x_3, .ref b8, .int b9, .int b10, .int b11, .int b12, .ref b13, .ref b14, .ref b15, .int b16, .ref b17, .ref b18, .ref b19, .ref b20, .ref b21, .ref b22, .ref b23, .ref b24, .ref b25, .ref b26, .ref b27, .ref b28, .int b29, .ref b30, .ref b31, .int b32, .int b33, .int b34, .int b35, .ref b36, .ref b37, .ref b38, .ref b39, .ref b40, .ref b41, .ref b42, .int b43, .ref b44, .ref b45, .int b46, .ref b47, .ref b48, .ref b49, .ref b50, .ref b51, .int b52, .ref b53, .ref b54, .ref b55])), (b3, .inl (G.2 0, 503, .inl f_4)), (b6, .inl (G.2 0, 4024, .inl f_5))] H := hP
  have hD := z_tie hP hD rfl
  refine W.widen (k := 0) (n := 0) (Nat.le_of_ble_eq_true rfl) (Nat.le_of_ble_eq_true rfl) ?_
  exact z_iret hx hb hr hlocks hP hD hS (Nat.le_of_ble_eq_true rfl) (Nat.le_of_ble_eq_true rfl) d_Model_margin_15 ⟨x_2, x_3, f_4, f_5, rfl, rfl, hx_2, hx_3, hf_4, hf_5⟩
theorem d_Model_pathOf_0 : decode prog_14_method_24_code 0 = .ok (.aload_n 0, 1) := by decide +kernel
theorem d_Model_pathOf_1 : decode prog_14_method_24_code 1 = .ok (.getfield 46, 3) := by decide +kernel
theorem d_Model_pathOf_4 : decode prog_14_method_24_code 4 = .ok (.sipush 260, 3) := by decide +kernel
theorem d_Model_pathOf_7 : decode prog_14_method_24_code 7 = .ok (.iload_n 1, 1) := by decide +kernel
theorem d_Model_pathOf_8 : decode prog_14_method_24_code 8 = .ok (.imul, 1) := by decide +kernel
theorem d_Model_pathOf_9 : decode prog_14_method_24_code 9 = .ok (.bipush 13, 2) := by decide +kernel
theorem d_Model_pathOf_11 : decode prog_14_method_24_code 11 = .ok (.iload_n 2, 1) := by decide +kernel
theorem d_Model_pathOf_12 : decode prog_14_method_24_code 12 = .ok (.imul, 1) := by decide +kernel
theorem d_Model_pathOf_13 : decode prog_14_method_24_code 13 = .ok (.iadd, 1) := by decide +kernel
theorem d_Model_pathOf_14 : decode prog_14_method_24_code 14 = .ok (.iload_n 3, 1) := by decide +kernel
theorem d_Model_pathOf_15 : decode prog_14_method_24_code 15 = .ok (.iadd, 1) := by decide +kernel
theorem d_Model_pathOf_16 : decode prog_14_method_24_code 16 = .ok (.iaload, 1) := by decide +kernel
theorem d_Model_pathOf_17 : decode prog_14_method_24_code 17 = .ok (.ireturn, 1) := by decide +kernel
theorem zc_260 : zI 260 260 260 := ⟨by decide +kernel, by decide +kernel⟩
theorem li_260 : (260 : Int32).toInt = 260 := by decide +kernel
abbrev m_s1_Model_pathOf : Room := { frames := 0, cells := 0, slots := 0, locals := 0 }
set_option maxHeartbeats 4000000 in
set_option maxRecDepth 100000 in
theorem s1_Model_pathOf (l : Launch) (G : zG) (b0 : Nat) (b1 : Int32) (b2 : Int32) (b3 : Int32) (b4 : Int32) (b5 : Nat) (b6 : Nat) (b7 : Nat) (b8 : Nat) (b9 : Int32) (b10 : Nat) (b11 : Int32) (b12 : Int32) (b13 : Int32) (b14 : Int32) (b15 : Nat) (b16 : Nat) (b17 : Nat) (b18 : Int32) (b19 : Nat) (b20 : Nat) (b21 : Nat) (b22 : Nat) (b23 : Nat) (b24 : Nat) (b25 : Nat) (b26 : Nat) (b27 : Nat) (b28 : Nat) (b29 : Nat) (b30 : Nat) (b31 : Int32) (b32 : Nat) (b33 : Nat) (b34 : Int32) (b35 : Int32) (b36 : Int32) (b37 : Int32) (b38 : Nat) (b39 : Nat) (b40 : Nat) (b41 : Nat) (b42 : Nat) (b43 : Nat) (b44 : Nat) (b45 : Int32) (b46 : Nat) (b47 : Nat) (b48 : Int32) (b49 : Nat) (b50 : Nat) (b51 : Nat) (b52 : Nat) (b53 : Nat) (b54 : Int32) (b55 : Nat) (b56 : Nat) (b57 : Nat) (b58 : Nat → Int32) (hb1 : zI b1 0 1) (hb2 : zI b2 0 19) (hb3 : zI b3 0 12) (hb9 : zI b9 0 8) (hb11 : zI b11 0 240) (hb12 : zI b12 0 240) (hb14 : zI b14 0 1) (hb18 : zI b18 0 12) (hb31 : zI b31 0 1) (hb34 : zI b34 0 1) (hb58 : zR b58 0 240) : zM l G y_Model_pathOf prog_14_method_24_code 4 (Option.some Jvm.ClassFile.FieldType.int) m_s1_Model_pathOf [.ref b0, .int b1, .int b2, .int b3] [(b0, .inr (12, [.int b4, .ref b5, .ref b6, .ref b7, .ref b8, .int b9, .ref b10, .int b11, .int b12, .int b13, .int b14, .ref b15, .ref b16, .ref b17, .int b18, .ref b19, .ref b20, .ref b21, .ref b22, .ref b23, .ref b24, .ref b25, .ref b26, .ref b27, .ref b28, .ref b29, .ref b30, .int b31, .ref b32, .ref b33, .int b34, .int b35, .int b36, .int b37, .ref b38, .ref b39, .ref b40, .ref b41, .ref b42, .ref b43, .ref b44, .int b45, .ref b46, .ref b47, .int b48, .ref b49, .ref b50, .ref b51, .ref b52, .ref b53, .int b54, .ref b55, .ref b56, .ref b57])), (b21, .inl (G.2 0, 520, .inl b58))] (fun v w => ∃ (e0 : Int32), v = some (.int e0) ∧ w = [(b0, .inr (12, [.int b4, .ref b5, .ref b6, .ref b7, .ref b8, .int b9, .ref b10, .int b11, .int b12, .int b13, .int b14, .ref b15, .ref b16, .ref b17, .int b18, .ref b19, .ref b20, .ref b21, .ref b22, .ref b23, .ref b24, .ref b25, .ref b26, .ref b27, .ref b28, .ref b29, .ref b30, .int b31, .ref b32, .ref b33, .int b34, .int b35, .int b36, .int b37, .ref b38, .ref b39, .ref b40, .ref b41, .ref b42, .ref b43, .ref b44, .int b45, .ref b46, .ref b47, .int b48, .ref b49, .ref b50, .ref b51, .ref b52, .ref b53, .int b54, .ref b55, .ref b56, .ref b57])), (b21, .inl (G.2 0, 520, .inl b58))] ∧ (zI e0 0 240)) := by
  refine z_start (by decide +kernel) (Nat.le_of_ble_eq_true rfl) ?_
  intro p e s m below meth c A Z hr hnm hA hP hD hS ls hl
  have Z : zC p s m _ meth c prog_14_method_24_code 4 "TraceMachinesModel" G := Z
  obtain ⟨hx, hb, hml, hown, hts, hK, hN, hlocks⟩ := id Z
  have hl : lv_has ls 4 [(0, .ref b0), (1, .int b1), (2, .int b2), (3, .int b3)] := hl
  refine lv_aload_n hx hb d_Model_pathOf_0 rfl (lv_at hl 0 rfl) ?_
  refine va_get (D := G.1) (ci := 12) (v := .ref b21) (C := R_Model) (T := F_Model) (N := 54) hx hb hts i_Model hown hK hP 0 rfl rfl 17 (by decide) (hts _ q1126) (fun _ h9 => h9) rfl d_Model_pathOf_1 ?_
  refine lv_sipush (v := 260) hx hb d_Model_pathOf_4 (by decide) ?_
  refine lv_iload_n hx hb d_Model_pathOf_7 rfl (lv_at hl 1 rfl) ?_
  refine lv_imul hx hb d_Model_pathOf_8 ?_
  refine lv_topi (fun v_1 ev_1 => ?_)
  obtain ⟨qv_1, hv_1⟩ := zI_mul (l := 0) (h := 260) zc_260 hb1 ev_1 (by decide)
  rw [li_260] at qv_1
  refine lv_bipush (v := 13) hx hb d_Model_pathOf_9 (by decide) ?_
  refine lv_iload_n hx hb d_Model_pathOf_11 rfl (lv_at hl 2 rfl) ?_
  refine lv_imul hx hb d_Model_pathOf_12 ?_
  refine lv_topi (fun v_2 ev_2 => ?_)
  obtain ⟨qv_2, hv_2⟩ := zI_mul (l := 0) (h := 247) zc_13 hb2 ev_2 (by decide)
  rw [li_13] at qv_2
  refine lv_iadd hx hb d_Model_pathOf_13 ?_
  refine lv_topi (fun v_3 ev_3 => ?_)
  obtain ⟨qv_3, hv_3⟩ := zI_add (l := 0) (h := 507) hv_1 hv_2 ev_3 (by decide)
  refine lv_iload_n hx hb d_Model_pathOf_14 rfl (lv_at hl 3 rfl) ?_
  refine lv_iadd hx hb d_Model_pathOf_15 ?_
  refine lv_topi (fun v_4 ev_4 => ?_)
  obtain ⟨qv_4, hv_4⟩ := zI_add (l := 0) (h := 519) hv_3 hb3 ev_4 (by decide)
  refine va_iald hx hb hK hP 1 0 rfl rfl (zI.inn hv_4 (by decide)) d_Model_pathOf_16 ?_
  refine lv_topi (fun v_5 ev_5 => ?_)
  have hv_5 : zI v_5 0 240 := (hb58 _).eq ev_5
  exact z_iret hx hb hr hlocks hP hD hS (Nat.le_of_ble_eq_true rfl) (Nat.le_of_ble_eq_true rfl) d_Model_pathOf_17 ⟨v_5, rfl, rfl, hv_5⟩
theorem d_Model_stateAt_0 : decode prog_14_method_32_code 0 = .ok (.aload_n 0, 1) := by decide +kernel
theorem d_Model_stateAt_1 : decode prog_14_method_32_code 1 = .ok (.getfield 55, 3) := by decide +kernel
theorem d_Model_stateAt_4 : decode prog_14_method_32_code 4 = .ok (.sipush 241, 3) := by decide +kernel
theorem d_Model_stateAt_7 : decode prog_14_method_32_code 7 = .ok (.iload_n 1, 1) := by decide +kernel
theorem d_Model_stateAt_8 : decode prog_14_method_32_code 8 = .ok (.imul, 1) := by decide +kernel
theorem d_Model_stateAt_9 : decode prog_14_method_32_code 9 = .ok (.aload_n 0, 1) := by decide +kernel
theorem d_Model_stateAt_10 : decode prog_14_method_32_code 10 = .ok (.iload_n 1, 1) := by decide +kernel
theorem d_Model_stateAt_11 : decode prog_14_method_32_code 11 = .ok (.iload_n 2, 1) := by decide +kernel
theorem d_Model_stateAt_12 : decode prog_14_method_32_code 12 = .ok (.iload_n 3, 1) := by decide +kernel
theorem d_Model_stateAt_13 : decode prog_14_method_32_code 13 = .ok (.invokevirtual 211, 3) := by decide +kernel
theorem d_Model_stateAt_16 : decode prog_14_method_32_code 16 = .ok (.iadd, 1) := by decide +kernel
theorem d_Model_stateAt_17 : decode prog_14_method_32_code 17 = .ok (.iaload, 1) := by decide +kernel
theorem d_Model_stateAt_18 : decode prog_14_method_32_code 18 = .ok (.ireturn, 1) := by decide +kernel
theorem zc_241 : zI 241 241 241 := ⟨by decide +kernel, by decide +kernel⟩
theorem li_241 : (241 : Int32).toInt = 241 := by decide +kernel
abbrev m_s1_Model_stateAt : Room := { frames := 1, cells := 0, slots := 0, locals := 23 }
set_option maxHeartbeats 4000000 in
set_option maxRecDepth 100000 in
theorem s1_Model_stateAt (l : Launch) (G : zG) (b0 : Nat) (b1 : Int32) (b2 : Int32) (b3 : Int32) (b4 : Int32) (b5 : Nat) (b6 : Nat) (b7 : Nat) (b8 : Nat) (b9 : Int32) (b10 : Nat) (b11 : Int32) (b12 : Int32) (b13 : Int32) (b14 : Int32) (b15 : Nat) (b16 : Nat) (b17 : Nat) (b18 : Int32) (b19 : Nat) (b20 : Nat) (b21 : Nat) (b22 : Nat) (b23 : Nat) (b24 : Nat) (b25 : Nat) (b26 : Nat) (b27 : Nat) (b28 : Nat) (b29 : Nat) (b30 : Nat) (b31 : Int32) (b32 : Nat) (b33 : Nat) (b34 : Int32) (b35 : Int32) (b36 : Int32) (b37 : Int32) (b38 : Nat) (b39 : Nat) (b40 : Nat) (b41 : Nat) (b42 : Nat) (b43 : Nat) (b44 : Nat) (b45 : Int32) (b46 : Nat) (b47 : Nat) (b48 : Int32) (b49 : Nat) (b50 : Nat) (b51 : Nat) (b52 : Nat) (b53 : Nat) (b54 : Int32) (b55 : Nat) (b56 : Nat) (b57 : Nat) (b58 : Nat → Int32) (b59 : Nat → Int32) (hb1 : zI b1 0 1) (hb2 : zI b2 0 19) (hb3 : zI b3 0 12) (hb9 : zI b9 0 8) (hb11 : zI b11 0 240) (hb12 : zI b12 0 240) (hb14 : zI b14 0 1) (hb18 : zI b18 0 12) (hb31 : zI b31 0 1) (hb34 : zI b34 0 1) (hb58 : zR b58 0 240) (hb59 : zR b59 0 240) : zM l G y_Model_stateAt prog_14_method_32_code 4 (Option.some Jvm.ClassFile.FieldType.int) m_s1_Model_stateAt [.ref b0, .int b1, .int b2, .int b3] [(b0, .inr (12, [.int b4, .ref b5, .ref b6, .ref b7, .ref b8, .int b9, .ref b10, .int b11, .int b12, .int b13, .int b14, .ref b15, .ref b16, .ref b17, .int b18, .ref b19, .ref b20, .ref b21, .ref b22, .ref b23, .ref b24, .ref b25, .ref b26, .ref b27, .ref b28, .ref b29, .ref b30, .int b31, .ref b32, .ref b33, .int b34, .int b35, .int b36, .int b37, .ref b38, .ref b39, .ref b40, .ref b41, .ref b42, .ref b43, .ref b44, .int b45, .ref b46, .ref b47, .int b48, .ref b49, .ref b50, .ref b51, .ref b52, .ref b53, .int b54, .ref b55, .ref b56, .ref b57])), (b21, .inl (G.2 0, 520, .inl b58)), (b24, .inl (G.2 0, 482, .inl b59))] (fun v w => ∃ (e0 : Int32), v = some (.int e0) ∧ w = [(b0, .inr (12, [.int b4, .ref b5, .ref b6, .ref b7, .ref b8, .int b9, .ref b10, .int b11, .int b12, .int b13, .int b14, .ref b15, .ref b16, .ref b17, .int b18, .ref b19, .ref b20, .ref b21, .ref b22, .ref b23, .ref b24, .ref b25, .ref b26, .ref b27, .ref b28, .ref b29, .ref b30, .int b31, .ref b32, .ref b33, .int b34, .int b35, .int b36, .int b37, .ref b38, .ref b39, .ref b40, .ref b41, .ref b42, .ref b43, .ref b44, .int b45, .ref b46, .ref b47, .int b48, .ref b49, .ref b50, .ref b51, .ref b52, .ref b53, .int b54, .ref b55, .ref b56, .ref b57])), (b21, .inl (G.2 0, 520, .inl b58)), (b24, .inl (G.2 0, 482, .inl b59))] ∧ (zI e0 0 240)) := by
  refine z_start (by decide +kernel) (Nat.le_of_ble_eq_true rfl) ?_
  intro p e s m below meth c A Z hr hnm hA hP hD hS ls hl
  have Z : zC p s m _ meth c prog_14_method_32_code 4 "TraceMachinesModel" G := Z
  obtain ⟨hx, hb, hml, hown, hts, hK, hN, hlocks⟩ := id Z
  have hl : lv_has ls 4 [(0, .ref b0), (1, .int b1), (2, .int b2), (3, .int b3)] := hl
  refine lv_aload_n hx hb d_Model_stateAt_0 rfl (lv_at hl 0 rfl) ?_
  refine va_get (D := G.1) (ci := 12) (v := .ref b24) (C := R_Model) (T := F_Model) (N := 54) hx hb hts i_Model hown hK hP 0 rfl rfl 20 (by decide) (hts _ q1129) (fun _ h9 => h9) rfl d_Model_stateAt_1 ?_
  refine lv_sipush (v := 241) hx hb d_Model_stateAt_4 (by decide) ?_
  refine lv_iload_n hx hb d_Model_stateAt_7 rfl (lv_at hl 1 rfl) ?_
  refine lv_imul hx hb d_Model_stateAt_8 ?_
  refine lv_topi (fun v_1 ev_1 => ?_)
  obtain ⟨qv_1, hv_1⟩ := zI_mul (l := 0) (h := 241) zc_241 hb1 ev_1 (by decide)
  rw [li_241] at qv_1
  refine lv_aload_n hx hb d_Model_stateAt_9 rfl (lv_at hl 0 rfl) ?_
  refine lv_iload_n hx hb d_Model_stateAt_10 rfl (lv_at hl 1 rfl) ?_
  refine lv_iload_n hx hb d_Model_stateAt_11 rfl (lv_at hl 2 rfl) ?_
  refine lv_iload_n hx hb d_Model_stateAt_12 rfl (lv_at hl 3 rfl) ?_
  refine z_callV (index := 211) (As := [.int b1, .int b2, .int b3]) (rest := [.int v_1, .ref b24]) (wr := [(b24, .inl (G.2 0, 482, .inl b59))]) Z (s1_Model_pathOf l G (b0) (b1) (b2) (b3) (b4) (b5) (b6) (b7) (b8) (b9) (b10) (b11) (b12) (b13) (b14) (b15) (b16) (b17) (b18) (b19) (b20) (b21) (b22) (b23) (b24) (b25) (b26) (b27) (b28) (b29) (b30) (b31) (b32) (b33) (b34) (b35) (b36) (b37) (b38) (b39) (b40) (b41) (b42) (b43) (b44) (b45) (b46) (b47) (b48) (b49) (b50) (b51) (b52) (b53) (b54) (b55) (b56) (b57) (b58) hb1 hb2 hb3 hb9 hb11 hb12 hb14 hb18 hb31 hb34 hb58) hl.1 q1380 q1382 qs61 q14 q1383 ⟨by decide, by decide, by show _ = some 3; decide +kernel⟩ ⟨Nat.le_of_ble_eq_true rfl, Nat.le_of_ble_eq_true rfl⟩ ⟨Nat.le_of_ble_eq_true rfl, Nat.le_of_ble_eq_true rfl⟩ rfl (Nat.le_of_ble_eq_true rfl) d_Model_stateAt_13 hP hD hS hA 0 12 rfl rfl rfl [0, 1] [2] rfl rfl rfl rfl (by decide) (fun v w1 H locs hw_2 hP hD hS => ?_)
  obtain ⟨x_3, rfl, rfl, hx_3⟩ := hw_2
  have hP : va_P G.1 classes [(b24, .inl (G.2 0, 482, .inl b59)), (b0, .inr (12, [.int b4, .ref b5, .ref b6, .ref b7, .ref b8, .int b9, .ref b10, .int b11, .int b12, .int b13, .int b14, .ref b15, .ref b16, .ref b17, .int b18, .ref b19, .ref b20, .ref b21, .ref b22, .ref b23, .ref b24, .ref b25, .ref b26, .ref b27, .ref b28, .ref b29, .ref b30, .int b31, .ref b32, .ref b33, .int b34, .int b35, .int b36, .int b37, .ref b38, .ref b39, .ref b40, .ref b41, .ref b42, .ref b43, .ref b44, .int b45, .ref b46, .ref b47, .int b48, .ref b49, .ref b50, .ref b51, .ref b52, .ref b53, .int b54, .ref b55, .ref b56, .ref b57])), (b21, .inl (G.2 0, 520, .inl b58))] H := hP
  have hD := z_tie hP hD rfl
  refine W.widen (k := 0) (n := 0) (Nat.le_of_ble_eq_true rfl) (Nat.le_of_ble_eq_true rfl) ?_
  refine lv_iadd hx hb d_Model_stateAt_16 ?_
  refine lv_topi (fun v_4 ev_4 => ?_)
  obtain ⟨qv_4, hv_4⟩ := zI_add (l := 0) (h := 481) hv_1 hx_3 ev_4 (by decide)
  refine va_iald hx hb hK hP 0 0 rfl rfl (zI.inn hv_4 (by decide)) d_Model_stateAt_17 ?_
  refine lv_topi (fun v_5 ev_5 => ?_)
  have hv_5 : zI v_5 0 240 := (hb59 _).eq ev_5
  exact z_iret hx hb hr hlocks (hP.sub [1, 2, 0] rfl) (hD.sub [1, 2, 0] (by decide) rfl) hS (Nat.le_of_ble_eq_true rfl) (Nat.le_of_ble_eq_true rfl) d_Model_stateAt_18 ⟨v_5, rfl, rfl, hv_5⟩
theorem d_Model_areAlike_0 : decode prog_14_method_30_code 0 = .ok (.aload_n 0, 1) := by decide +kernel
theorem d_Model_areAlike_1 : decode prog_14_method_30_code 1 = .ok (.getfield 52, 3) := by decide +kernel
theorem d_Model_areAlike_4 : decode prog_14_method_30_code 4 = .ok (.iload_n 1, 1) := by decide +kernel
theorem d_Model_areAlike_5 : decode prog_14_method_30_code 5 = .ok (.iaload, 1) := by decide +kernel
theorem d_Model_areAlike_6 : decode prog_14_method_30_code 6 = .ok (.aload_n 0, 1) := by decide +kernel
theorem d_Model_areAlike_7 : decode prog_14_method_30_code 7 = .ok (.getfield 52, 3) := by decide +kernel
theorem d_Model_areAlike_10 : decode prog_14_method_30_code 10 = .ok (.iload_n 2, 1) := by decide +kernel
theorem d_Model_areAlike_11 : decode prog_14_method_30_code 11 = .ok (.iaload, 1) := by decide +kernel
theorem d_Model_areAlike_12 : decode prog_14_method_30_code 12 = .ok (.if_icmp .ne 7, 3) := by decide +kernel
theorem d_Model_areAlike_15 : decode prog_14_method_30_code 15 = .ok (.iconst 1, 1) := by decide +kernel
theorem d_Model_areAlike_16 : decode prog_14_method_30_code 16 = .ok (.goto 4, 3) := by decide +kernel
theorem d_Model_areAlike_19 : decode prog_14_method_30_code 19 = .ok (.iconst 0, 1) := by decide +kernel
theorem d_Model_areAlike_20 : decode prog_14_method_30_code 20 = .ok (.istore_n 3, 1) := by decide +kernel
theorem d_Model_areAlike_21 : decode prog_14_method_30_code 21 = .ok (.iconst 0, 1) := by decide +kernel
theorem d_Model_areAlike_22 : decode prog_14_method_30_code 22 = .ok (.istore 4, 2) := by decide +kernel
theorem d_Model_areAlike_24 : decode prog_14_method_30_code 24 = .ok (.iload_n 3, 1) := by decide +kernel
theorem d_Model_areAlike_25 : decode prog_14_method_30_code 25 = .ok (.ifCond .eq 53, 3) := by decide +kernel
theorem d_Model_areAlike_28 : decode prog_14_method_30_code 28 = .ok (.iload 4, 2) := by decide +kernel
theorem d_Model_areAlike_30 : decode prog_14_method_30_code 30 = .ok (.aload_n 0, 1) := by decide +kernel
theorem d_Model_areAlike_31 : decode prog_14_method_30_code 31 = .ok (.getfield 52, 3) := by decide +kernel
theorem d_Model_areAlike_34 : decode prog_14_method_30_code 34 = .ok (.iload_n 1, 1) := by decide +kernel
theorem d_Model_areAlike_35 : decode prog_14_method_30_code 35 = .ok (.iaload, 1) := by decide +kernel
theorem d_Model_areAlike_36 : decode prog_14_method_30_code 36 = .ok (.if_icmp .ge 42, 3) := by decide +kernel
theorem d_Model_areAlike_39 : decode prog_14_method_30_code 39 = .ok (.aload_n 0, 1) := by decide +kernel
theorem d_Model_areAlike_40 : decode prog_14_method_30_code 40 = .ok (.getfield 49, 3) := by decide +kernel
theorem d_Model_areAlike_43 : decode prog_14_method_30_code 43 = .ok (.bipush 20, 2) := by decide +kernel
theorem d_Model_areAlike_45 : decode prog_14_method_30_code 45 = .ok (.iload_n 1, 1) := by decide +kernel
theorem d_Model_areAlike_46 : decode prog_14_method_30_code 46 = .ok (.imul, 1) := by decide +kernel
theorem d_Model_areAlike_47 : decode prog_14_method_30_code 47 = .ok (.iload 4, 2) := by decide +kernel
theorem d_Model_areAlike_49 : decode prog_14_method_30_code 49 = .ok (.iadd, 1) := by decide +kernel
theorem d_Model_areAlike_50 : decode prog_14_method_30_code 50 = .ok (.iaload, 1) := by decide +kernel
theorem d_Model_areAlike_51 : decode prog_14_method_30_code 51 = .ok (.aload_n 0, 1) := by decide +kernel
theorem d_Model_areAlike_52 : decode prog_14_method_30_code 52 = .ok (.getfield 49, 3) := by decide +kernel
theorem d_Model_areAlike_55 : decode prog_14_method_30_code 55 = .ok (.bipush 20, 2) := by decide +kernel
theorem d_Model_areAlike_57 : decode prog_14_method_30_code 57 = .ok (.iload_n 2, 1) := by decide +kernel
theorem d_Model_areAlike_58 : decode prog_14_method_30_code 58 = .ok (.imul, 1) := by decide +kernel
theorem d_Model_areAlike_59 : decode prog_14_method_30_code 59 = .ok (.iload 4, 2) := by decide +kernel
theorem d_Model_areAlike_61 : decode prog_14_method_30_code 61 = .ok (.iadd, 1) := by decide +kernel
theorem d_Model_areAlike_62 : decode prog_14_method_30_code 62 = .ok (.iaload, 1) := by decide +kernel
theorem d_Model_areAlike_63 : decode prog_14_method_30_code 63 = .ok (.if_icmp .ne 7, 3) := by decide +kernel
theorem d_Model_areAlike_66 : decode prog_14_method_30_code 66 = .ok (.iconst 1, 1) := by decide +kernel
theorem d_Model_areAlike_67 : decode prog_14_method_30_code 67 = .ok (.goto 4, 3) := by decide +kernel
theorem d_Model_areAlike_70 : decode prog_14_method_30_code 70 = .ok (.iconst 0, 1) := by decide +kernel
theorem d_Model_areAlike_71 : decode prog_14_method_30_code 71 = .ok (.istore_n 3, 1) := by decide +kernel
theorem d_Model_areAlike_72 : decode prog_14_method_30_code 72 = .ok (.iinc 4 1, 3) := by decide +kernel
theorem d_Model_areAlike_75 : decode prog_14_method_30_code 75 = .ok (.goto (-51), 3) := by decide +kernel
theorem d_Model_areAlike_78 : decode prog_14_method_30_code 78 = .ok (.iload_n 3, 1) := by decide +kernel
theorem d_Model_areAlike_79 : decode prog_14_method_30_code 79 = .ok (.ireturn, 1) := by decide +kernel
abbrev m_s1_Model_areAlike : Room := { frames := 0, cells := 0, slots := 0, locals := 0 }
set_option maxHeartbeats 4000000 in
set_option maxRecDepth 100000 in
theorem s1_Model_areAlike (l : Launch) (G : zG) (b0 : Nat) (b1 : Int32) (b2 : Int32) (b3 : Int32) (b4 : Nat) (b5 : Nat) (b6 : Nat) (b7 : Nat) (b8 : Int32) (b9 : Nat) (b10 : Int32) (b11 : Int32) (b12 : Int32) (b13 : Int32) (b14 : Nat) (b15 : Nat) (b16 : Nat) (b17 : Int32) (b18 : Nat) (b19 : Nat) (b20 : Nat) (b21 : Nat) (b22 : Nat) (b23 : Nat) (b24 : Nat) (b25 : Nat) (b26 : Nat) (b27 : Nat) (b28 : Nat) (b29 : Nat) (b30 : Int32) (b31 : Nat) (b32 : Nat) (b33 : Int32) (b34 : Int32) (b35 : Int32) (b36 : Int32) (b37 : Nat) (b38 : Nat) (b39 : Nat) (b40 : Nat) (b41 : Nat) (b42 : Nat) (b43 : Nat) (b44 : Int32) (b45 : Nat) (b46 : Nat) (b47 : Int32) (b48 : Nat) (b49 : Nat) (b50 : Nat) (b51 : Nat) (b52 : Nat) (b53 : Int32) (b54 : Nat) (b55 : Nat) (b56 : Nat) (b57 : Nat → Int32) (b58 : Nat → Int32) (hb1 : zI b1 0 481) (hb2 : zI b2 0 481) (hb8 : zI b8 0 8) (hb10 : zI b10 0 240) (hb11 : zI b11 0 240) (hb13 : zI b13 0 1) (hb17 : zI b17 0 12) (hb30 : zI b30 0 1) (hb33 : zI b33 0 1) (hb58 : zR b58 0 20) : zM l G y_Model_areAlike prog_14_method_30_code 5 (Option.some Jvm.ClassFile.FieldType.boolean) m_s1_Model_areAlike [.ref b0, .int b1, .int b2] [(b0, .inr (12, [.int b3, .ref b4, .ref b5, .ref b6, .ref b7, .int b8, .ref b9, .int b10, .int b11, .int b12, .int b13, .ref b14, .ref b15, .ref b16, .int b17, .ref b18, .ref b19, .ref b20, .ref b21, .ref b22, .ref b23, .ref b24, .ref b25, .ref b26, .ref b27, .ref b28, .ref b29, .int b30, .ref b31, .ref b32, .int b33, .int b34, .int b35, .int b36, .ref b37, .ref b38, .ref b39, .ref b40, .ref b41, .ref b42, .ref b43, .int b44, .ref b45, .ref b46, .int b47, .ref b48, .ref b49, .ref b50, .ref b51, .ref b52, .int b53, .ref b54, .ref b55, .ref b56])), (b21, .inl (G.2 0, 9640, .inl b57)), (b22, .inl (G.2 0, 482, .inl b58))] (fun v w => ∃ (e0 : Int32), v = some (.int e0) ∧ w = [(b0, .inr (12, [.int b3, .ref b4, .ref b5, .ref b6, .ref b7, .int b8, .ref b9, .int b10, .int b11, .int b12, .int b13, .ref b14, .ref b15, .ref b16, .int b17, .ref b18, .ref b19, .ref b20, .ref b21, .ref b22, .ref b23, .ref b24, .ref b25, .ref b26, .ref b27, .ref b28, .ref b29, .int b30, .ref b31, .ref b32, .int b33, .int b34, .int b35, .int b36, .ref b37, .ref b38, .ref b39, .ref b40, .ref b41, .ref b42, .ref b43, .int b44, .ref b45, .ref b46, .int b47, .ref b48, .ref b49, .ref b50, .ref b51, .ref b52, .int b53, .ref b54, .ref b55, .ref b56])), (b21, .inl (G.2 0, 9640, .inl b57)), (b22, .inl (G.2 0, 482, .inl b58))] ∧ (zI e0 0 1)) := by
  refine z_start (by decide +kernel) (Nat.le_of_ble_eq_true rfl) ?_
  intro p e s m below meth c A Z hr hnm hA hP hD hS ls hl
  have Z : zC p s m _ meth c prog_14_method_30_code 5 "TraceMachinesModel" G := Z
  obtain ⟨hx, hb, hml, hown, hts, hK, hN, hlocks⟩ := id Z
  have hl : lv_has ls 5 [(0, .ref b0), (1, .int b1), (2, .int b2)] := hl
  refine lv_aload_n hx hb d_Model_areAlike_0 rfl (lv_at hl 0 rfl) ?_
  refine va_get (D := G.1) (ci := 12) (v := .ref b22) (C := R_Model) (T := F_Model) (N := 54) hx hb hts i_Model hown hK hP 0 rfl rfl 19 (by decide) (hts _ q1128) (fun _ h9 => h9) rfl d_Model_areAlike_1 ?_
  refine lv_iload_n hx hb d_Model_areAlike_4 rfl (lv_at hl 1 rfl) ?_
  refine va_iald hx hb hK hP 2 0 rfl rfl (zI.inn hb1 (by decide)) d_Model_areAlike_5 ?_
  refine lv_topi (fun v_1 ev_1 => ?_)
  have hv_1 : zI v_1 0 20 := (hb58 _).eq ev_1
  refine lv_aload_n hx hb d_Model_areAlike_6 rfl (lv_at hl 0 rfl) ?_
  refine va_get (D := G.1) (ci := 12) (v := .ref b22) (C := R_Model) (T := F_Model) (N := 54) hx hb hts i_Model hown hK hP 0 rfl rfl 19 (by decide) (hts _ q1128) (fun _ h9 => h9) rfl d_Model_areAlike_7 ?_
  refine lv_iload_n hx hb d_Model_areAlike_10 rfl (lv_at hl 2 rfl) ?_
  refine va_iald hx hb hK hP 2 0 rfl rfl (zI.inn hb2 (by decide)) d_Model_areAlike_11 ?_
  refine lv_topi (fun v_2 ev_2 => ?_)
  have hv_2 : zI v_2 0 20 := (hb58 _).eq ev_2
  refine lv_icmp_ne (tgt := 19) hx hb d_Model_areAlike_12 (by decide) (fun hc_3 => ?_) (fun hc_3 => ?_)
  · have _nhc_3 := hc_3
    have ni_4 := fun z => hc_3 ((fa_eq _ _).mpr z)
    refine lv_iconst (v := 0) hx hb d_Model_areAlike_19 (by decide) ?_
    refine lv_istore_n (lv' := [(3, .int 0), (0, .ref b0), (1, .int b1), (2, .int b2)]) hx hb d_Model_areAlike_20 rfl hl (by decide) rfl (fun ls hl => ?_)
    refine lv_iconst (v := 0) hx hb d_Model_areAlike_21 (by decide) ?_
    refine lv_istore (lv' := [(4, .int 0), (3, .int 0), (0, .ref b0), (1, .int b1), (2, .int b2)]) hx hb d_Model_areAlike_22 hl (by decide) rfl (fun ls hl => ?_)
    refine lv_iload_n hx hb d_Model_areAlike_24 rfl (lv_at hl 1 rfl) ?_
    refine lv_if_eq (tgt := 78) hx hb d_Model_areAlike_25 (by decide) (fun _ => ?_) (fun hc => absurd hc (by decide +kernel))
    refine lv_iload_n hx hb d_Model_areAlike_78 rfl (lv_at hl 1 rfl) ?_
    exact z_zret hx hb hr hlocks rfl hP hD hS (Nat.le_of_ble_eq_true rfl) (Nat.le_of_ble_eq_true rfl) d_Model_areAlike_79 ⟨0, rfl, rfl, (zI.wk (l' := 0) (h' := 1) zc_0 (by decide))⟩
  · have _nhc_3 := hc_3
    have ni_5 := (fa_eq _ _).mp hc_3
    refine lv_iconst (v := 1) hx hb d_Model_areAlike_15 (by decide) ?_
    refine lv_goto (tgt := 20) hx hb d_Model_areAlike_16 (by decide) ?_
    refine lv_istore_n (lv' := [(3, .int 1), (0, .ref b0), (1, .int b1), (2, .int b2)]) hx hb d_Model_areAlike_20 rfl hl (by decide) rfl (fun ls hl => ?_)
    refine lv_iconst (v := 0) hx hb d_Model_areAlike_21 (by decide) ?_
    refine lv_istore (lv' := [(4, .int 0), (3, .int 1), (0, .ref b0), (1, .int b1), (2, .int b2)]) hx hb d_Model_areAlike_22 hl (by decide) rfl (fun ls hl => ?_)
    suffices key : ∀ (k_141 : Nat) (y_142 : Int32) (y_143 : Int32) (H : Heap) (locs : List Loc) (ls : Array Slot), (zI y_142 0 20) → (zI y_143 0 1) → (20 : Int) - y_142.toInt < (k_141 : Int) → va_P G.1 classes [(b0, .inr (12, [.int b3, .ref b4, .ref b5, .ref b6, .ref b7, .int b8, .ref b9, .int b10, .int b11, .int b12, .int b13, .ref b14, .ref b15, .ref b16, .int b17, .ref b18, .ref b19, .ref b20, .ref b21, .ref b22, .ref b23, .ref b24, .ref b25, .ref b26, .ref b27, .ref b28, .ref b29, .int b30, .ref b31, .ref b32, .int b33, .int b34, .int b35, .int b36, .ref b37, .ref b38, .ref b39, .ref b40, .ref b41, .ref b42, .ref b43, .int b44, .ref b45, .ref b46, .int b47, .ref b48, .ref b49, .ref b50, .ref b51, .ref b52, .int b53, .ref b54, .ref b55, .ref b56])), (b21, .inl (G.2 0, 9640, .inl b57)), (b22, .inl (G.2 0, 482, .inl b58))] H → va_D A [(b0, .inr (12, [.int b3, .ref b4, .ref b5, .ref b6, .ref b7, .int b8, .ref b9, .int b10, .int b11, .int b12, .int b13, .ref b14, .ref b15, .ref b16, .int b17, .ref b18, .ref b19, .ref b20, .ref b21, .ref b22, .ref b23, .ref b24, .ref b25, .ref b26, .ref b27, .ref b28, .ref b29, .int b30, .ref b31, .ref b32, .int b33, .int b34, .int b35, .int b36, .ref b37, .ref b38, .ref b39, .ref b40, .ref b41, .ref b42, .ref b43, .int b44, .ref b45, .ref b46, .int b47, .ref b48, .ref b49, .ref b50, .ref b51, .ref b52, .int b53, .ref b54, .ref b55, .ref b56])), (b21, .inl (G.2 0, 9640, .inl b57)), (b22, .inl (G.2 0, 482, .inl b58))] → va_S A s.heap H locs → lv_has ls 5 [(4, .int y_142), (3, .int y_143), (0, .ref b0), (1, .int b1), (2, .int b2)] → W p l e m_s1_Model_areAlike s m ([.ref b0, .int b1, .int b2] : List Value).toArray below meth c H locs 0 0 (MQ below (zQ G (fun v w => ∃ (e0 : Int32), v = some (.int e0) ∧ w = [(b0, .inr (12, [.int b3, .ref b4, .ref b5, .ref b6, .ref b7, .int b8, .ref b9, .int b10, .int b11, .int b12, .int b13, .ref b14, .ref b15, .ref b16, .int b17, .ref b18, .ref b19, .ref b20, .ref b21, .ref b22, .ref b23, .ref b24, .ref b25, .ref b26, .ref b27, .ref b28, .ref b29, .int b30, .ref b31, .ref b32, .int b33, .int b34, .int b35, .int b36, .ref b37, .ref b38, .ref b39, .ref b40, .ref b41, .ref b42, .ref b43, .int b44, .ref b45, .ref b46, .int b47, .ref b48, .ref b49, .ref b50, .ref b51, .ref b52, .int b53, .ref b54, .ref b55, .ref b56])), (b21, .inl (G.2 0, 9640, .inl b57)), (b22, .inl (G.2 0, 482, .inl b58))] ∧ (zI e0 0 1)) A) ([.ref b0, .int b1, .int b2] : List Value).toArray s m_s1_Model_areAlike.cells m_s1_Model_areAlike.slots A) (F0 m 24 ls []) by
      exact key 21 (0) (1) _ _ _ (zI.wk (l' := 0) (h' := 20) zc_0 (by decide)) (zI.wk (l' := 0) (h' := 1) zc_1 (by decide)) (zm_upi (zI.wk (l' := 0) (h' := 20) zc_0 (by decide)) (by decide)) hP hD hS (lv_sub hl [0, 1, 2, 3, 4] rfl)
    intro k_141
    induction k_141 with
    | zero =>
      intro y_142 y_143 H locs ls hy_142 hy_143 hmk_141 hP hD hS hl
      exact (zm_up0 hy_142 hmk_141).elim
    | succ k_141 ihk_141 =>
      intro y_142 y_143 H locs ls hy_142 hy_143 hmk_141 hP hD hS hl
      refine lv_iload_n hx hb d_Model_areAlike_24 rfl (lv_at hl 1 rfl) ?_
      refine lv_if_eq (tgt := 78) hx hb d_Model_areAlike_25 (by decide) (fun hc_144 => ?_) (fun hc_144 => ?_)
      · have _nhc_144 := hc_144
        have ni_145 := (fa_eq _ _).mp hc_144
        rw [li_0] at ni_145
        have hv_146 : zI y_143 0 0 := zI.eq_l hy_143 zc_0 hc_144
        refine lv_iload_n hx hb d_Model_areAlike_78 rfl (lv_at hl 1 rfl) ?_
        exact z_zret hx hb hr hlocks (zi_nb (zI.wk (l' := 0) (h' := 1) hv_146 (by decide))) hP hD hS (Nat.le_of_ble_eq_true rfl) (Nat.le_of_ble_eq_true rfl) d_Model_areAlike_79 ⟨y_143, rfl, rfl, (zI.wk (l' := 0) (h' := 1) hv_146 (by decide))⟩
      · have _nhc_144 := hc_144
        have ni_147 := fun z => hc_144 ((fa_eq _ _).mpr z)
        simp only [li_0] at ni_147
        have hv_148 : zI y_143 1 1 := zI.ne_lo hy_143 zc_0 hc_144 (by decide)
        refine lv_iload hx hb d_Model_areAlike_28 (lv_at hl 0 rfl) ?_
        refine lv_aload_n hx hb d_Model_areAlike_30 rfl (lv_at hl 2 rfl) ?_
        refine va_get (D := G.1) (ci := 12) (v := .ref b22) (C := R_Model) (T := F_Model) (N := 54) hx hb hts i_Model hown hK hP 0 rfl rfl 19 (by decide) (hts _ q1128) (fun _ h9 => h9) rfl d_Model_areAlike_31 ?_
        refine lv_iload_n hx hb d_Model_areAlike_34 rfl (lv_at hl 3 rfl) ?_
        refine va_iald hx hb hK hP 2 0 rfl rfl (zI.inn hb1 (by decide)) d_Model_areAlike_35 ?_
        refine lv_topi (fun v_149 ev_149 => ?_)
        have hv_149 : zI v_149 0 20 := (hb58 _).eq ev_149
        refine lv_icmp_ge (tgt := 78) hx hb d_Model_areAlike_36 (by decide) (fun hc_150 => ?_) (fun hc_150 => ?_)
        · have _nhc_150 := hc_150
          have ni_151 := (fa_le _ _).mp hc_150
          refine lv_iload_n hx hb d_Model_areAlike_78 rfl (lv_at hl 1 rfl) ?_
          exact z_zret hx hb hr hlocks (zi_nb (zI.wk (l' := 0) (h' := 1) hv_148 (by decide))) hP hD hS (Nat.le_of_ble_eq_true rfl) (Nat.le_of_ble_eq_true rfl) d_Model_areAlike_79 ⟨y_143, rfl, rfl, (zI.wk (l' := 0) (h' := 1) hv_148 (by decide))⟩
        · have _nhc_150 := hc_150
          have ni_152 := (fa_lt _ _).mp (zi_nle hc_150)
          have hv_153 : zI y_142 0 19 := zI.lt_l hy_142 hv_149 (zi_nle hc_150) (by decide)
          have hv_154 : zI v_149 1 20 := zI.lt_r hy_142 hv_149 (zi_nle hc_150) (by decide)
          refine lv_aload_n hx hb d_Model_areAlike_39 rfl (lv_at hl 2 rfl) ?_
          refine va_get (D := G.1) (ci := 12) (v := .ref b21) (C := R_Model) (T := F_Model) (N := 54) hx hb hts i_Model hown hK hP 0 rfl rfl 18 (by decide) (hts _ q1127) (fun _ h9 => h9) rfl d_Model_areAlike_40 ?_
          refine lv_bipush (v := 20) hx hb d_Model_areAlike_43 (by decide) ?_
          refine lv_iload_n hx hb d_Model_areAlike_45 rfl (lv_at hl 3 rfl) ?_
          refine lv_imul hx hb d_Model_areAlike_46 ?_
          refine lv_topi (fun v_155 ev_155 => ?_)
          obtain ⟨qv_155, hv_155⟩ := zI_mul (l := 0) (h := 9620) zc_20 hb1 ev_155 (by decide)
          rw [li_20] at qv_155
          refine lv_iload hx hb d_Model_areAlike_47 (lv_at hl 0 rfl) ?_
          refine lv_iadd hx hb d_Model_areAlike_49 ?_
          refine lv_topi (fun v_156 ev_156 => ?_)
          obtain ⟨qv_156, hv_156⟩ := zI_add (l := 0) (h := 9639) hv_155 hv_153 ev_156 (by decide)
          refine va_iald hx hb hK hP 1 0 rfl rfl (zI.inn hv_156 (by decide)) d_Model_areAlike_50 ?_
          refine lv_topi (fun v_157 ev_157 => ?_)
          refine lv_aload_n hx hb d_Model_areAlike_51 rfl (lv_at hl 2 rfl) ?_
          refine va_get (D := G.1) (ci := 12) (v := .ref b21) (C := R_Model) (T := F_Model) (N := 54) hx hb hts i_Model hown hK hP 0 rfl rfl 18 (by decide) (hts _ q1127) (fun _ h9 => h9) rfl d_Model_areAlike_52 ?_
          refine lv_bipush (v := 20) hx hb d_Model_areAlike_55 (by decide) ?_
          refine lv_iload_n hx hb d_Model_areAlike_57 rfl (lv_at hl 4 rfl) ?_
          refine lv_imul hx hb d_Model_areAlike_58 ?_
          refine lv_topi (fun v_158 ev_158 => ?_)
          obtain ⟨qv_158, hv_158⟩ := zI_mul (l := 0) (h := 9620) zc_20 hb2 ev_158 (by decide)
          rw [li_20] at qv_158
          refine lv_iload hx hb d_Model_areAlike_59 (lv_at hl 0 rfl) ?_
          refine lv_iadd hx hb d_Model_areAlike_61 ?_
          refine lv_topi (fun v_159 ev_159 => ?_)
          obtain ⟨qv_159, hv_159⟩ := zI_add (l := 0) (h := 9639) hv_158 hv_153 ev_159 (by decide)
          refine va_iald hx hb hK hP 1 0 rfl rfl (zI.inn hv_159 (by decide)) d_Model_areAlike_62 ?_
          refine lv_topi (fun v_160 ev_160 => ?_)
          refine lv_icmp_ne (tgt := 70) hx hb d_Model_areAlike_63 (by decide) (fun hc_161 => ?_) (fun hc_161 => ?_)
          · have _nhc_161 := hc_161
            have ni_162 := fun z => hc_161 ((fa_eq _ _).mpr z)
            refine lv_iconst (v := 0) hx hb d_Model_areAlike_70 (by decide) ?_
            refine lv_istore_n (lv' := [(3, .int 0), (4, .int y_142), (0, .ref b0), (1, .int b1), (2, .int b2)]) hx hb d_Model_areAlike_71 rfl hl (by decide) rfl (fun ls hl => ?_)
            obtain ⟨v_163, ev_163⟩ : ∃ z : Int32, z = y_142 + 1 := ⟨_, rfl⟩
            obtain ⟨qv_163, hv_163⟩ := zI_add (l := 1) (h := 20) hv_153 zc_1 ev_163 (by decide)
            rw [li_1] at qv_163
            refine lv_iinc (v := v_163) (lv' := [(4, .int v_163), (3, .int 0), (0, .ref b0), (1, .int b1), (2, .int b2)]) hx hb d_Model_areAlike_72 hl (k := 1) rfl (by rw [ev_163]; rfl) (by decide) rfl (fun ls hl => ?_)
            refine lv_goto (tgt := 24) hx hb d_Model_areAlike_75 (by decide) ?_
            exact ihk_141 (v_163) (0) _ _ _ (zI.wk (l' := 0) (h' := 20) hv_163 (by decide)) (zI.wk (l' := 0) (h' := 1) zc_0 (by decide)) (zm_up qv_163 hmk_141 (by decide)) hP hD hS (lv_sub hl [0, 1, 2, 3, 4] rfl)
          · have _nhc_161 := hc_161
            have ni_164 := (fa_eq _ _).mp hc_161
            refine lv_iconst (v := 1) hx hb d_Model_areAlike_66 (by decide) ?_
            refine lv_goto (tgt := 71) hx hb d_Model_areAlike_67 (by decide) ?_
            refine lv_istore_n (lv' := [(3, .int 1), (4, .int y_142), (0, .ref b0), (1, .int b1), (2, .int b2)]) hx hb d_Model_areAlike_71 rfl hl (by decide) rfl (fun ls hl => ?_)
            obtain ⟨v_165, ev_165⟩ : ∃ z : Int32, z = y_142 + 1 := ⟨_, rfl⟩
            obtain ⟨qv_165, hv_165⟩ := zI_add (l := 1) (h := 20) hv_153 zc_1 ev_165 (by decide)
            rw [li_1] at qv_165
            refine lv_iinc (v := v_165) (lv' := [(4, .int v_165), (3, .int 1), (0, .ref b0), (1, .int b1), (2, .int b2)]) hx hb d_Model_areAlike_72 hl (k := 1) rfl (by rw [ev_165]; rfl) (by decide) rfl (fun ls hl => ?_)
            refine lv_goto (tgt := 24) hx hb d_Model_areAlike_75 (by decide) ?_
            exact ihk_141 (v_165) (1) _ _ _ (zI.wk (l' := 0) (h' := 20) hv_165 (by decide)) (zI.wk (l' := 0) (h' := 1) zc_1 (by decide)) (zm_up qv_165 hmk_141 (by decide)) hP hD hS (lv_sub hl [0, 1, 2, 3, 4] rfl)
theorem d_Model_keep_0 : decode prog_14_method_92_code 0 = .ok (.aload_n 0, 1) := by decide +kernel
theorem d_Model_keep_1 : decode prog_14_method_92_code 1 = .ok (.iconst 0, 1) := by decide +kernel
theorem d_Model_keep_2 : decode prog_14_method_92_code 2 = .ok (.putfield 1, 3) := by decide +kernel
theorem d_Model_keep_5 : decode prog_14_method_92_code 5 = .ok (.iload_n 1, 1) := by decide +kernel
theorem d_Model_keep_6 : decode prog_14_method_92_code 6 = .ok (.i2l, 1) := by decide +kernel
theorem d_Model_keep_7 : decode prog_14_method_92_code 7 = .ok (.lconst 0, 1) := by decide +kernel
theorem d_Model_keep_8 : decode prog_14_method_92_code 8 = .ok (.lconst 1, 1) := by decide +kernel
theorem d_Model_keep_9 : decode prog_14_method_92_code 9 = .ok (.invokestatic 138, 3) := by decide +kernel
theorem d_Model_keep_12 : decode prog_14_method_92_code 12 = .ok (.ifCond .ne 5, 3) := by decide +kernel
theorem d_Model_keep_15 : decode prog_14_method_92_code 15 = .ok (.iconst 0, 1) := by decide +kernel
theorem d_Model_keep_16 : decode prog_14_method_92_code 16 = .ok (.ireturn, 1) := by decide +kernel
theorem d_Model_keep_17 : decode prog_14_method_92_code 17 = .ok (.iconst 0, 1) := by decide +kernel
theorem d_Model_keep_18 : decode prog_14_method_92_code 18 = .ok (.istore_n 2, 1) := by decide +kernel
theorem d_Model_keep_19 : decode prog_14_method_92_code 19 = .ok (.iload_n 2, 1) := by decide +kernel
theorem d_Model_keep_20 : decode prog_14_method_92_code 20 = .ok (.sipush 503, 3) := by decide +kernel
theorem d_Model_keep_23 : decode prog_14_method_92_code 23 = .ok (.if_icmp .ge 27, 3) := by decide +kernel
theorem d_Model_keep_26 : decode prog_14_method_92_code 26 = .ok (.aload_n 0, 1) := by decide +kernel
theorem d_Model_keep_27 : decode prog_14_method_92_code 27 = .ok (.getfield 17, 3) := by decide +kernel
theorem d_Model_keep_30 : decode prog_14_method_92_code 30 = .ok (.sipush 503, 3) := by decide +kernel
theorem d_Model_keep_33 : decode prog_14_method_92_code 33 = .ok (.iload_n 1, 1) := by decide +kernel
theorem d_Model_keep_34 : decode prog_14_method_92_code 34 = .ok (.imul, 1) := by decide +kernel
theorem d_Model_keep_35 : decode prog_14_method_92_code 35 = .ok (.iload_n 2, 1) := by decide +kernel
theorem d_Model_keep_36 : decode prog_14_method_92_code 36 = .ok (.iadd, 1) := by decide +kernel
theorem d_Model_keep_37 : decode prog_14_method_92_code 37 = .ok (.aload_n 0, 1) := by decide +kernel
theorem d_Model_keep_38 : decode prog_14_method_92_code 38 = .ok (.getfield 13, 3) := by decide +kernel
theorem d_Model_keep_41 : decode prog_14_method_92_code 41 = .ok (.iload_n 2, 1) := by decide +kernel
theorem d_Model_keep_42 : decode prog_14_method_92_code 42 = .ok (.iaload, 1) := by decide +kernel
theorem d_Model_keep_43 : decode prog_14_method_92_code 43 = .ok (.iastore, 1) := by decide +kernel
theorem d_Model_keep_44 : decode prog_14_method_92_code 44 = .ok (.iinc 2 1, 3) := by decide +kernel
theorem d_Model_keep_47 : decode prog_14_method_92_code 47 = .ok (.goto (-28), 3) := by decide +kernel
theorem d_Model_keep_50 : decode prog_14_method_92_code 50 = .ok (.aload_n 0, 1) := by decide +kernel
theorem d_Model_keep_51 : decode prog_14_method_92_code 51 = .ok (.getfield 20, 3) := by decide +kernel
theorem d_Model_keep_54 : decode prog_14_method_92_code 54 = .ok (.iload_n 1, 1) := by decide +kernel
theorem d_Model_keep_55 : decode prog_14_method_92_code 55 = .ok (.iconst 1, 1) := by decide +kernel
theorem d_Model_keep_56 : decode prog_14_method_92_code 56 = .ok (.bastore, 1) := by decide +kernel
theorem d_Model_keep_57 : decode prog_14_method_92_code 57 = .ok (.iconst 1, 1) := by decide +kernel
theorem d_Model_keep_58 : decode prog_14_method_92_code 58 = .ok (.ireturn, 1) := by decide +kernel
abbrev m_s1_Model_keep : Room := { frames := 1, cells := 0, slots := 0, locals := 25 }
set_option maxHeartbeats 4000000 in
set_option maxRecDepth 100000 in
theorem s1_Model_keep (l : Launch) (G : zG) (b0 : Nat) (b1 : Int32) (b2 : Int32) (b3 : Nat) (b4 : Nat) (b5 : Nat) (b6 : Nat) (b7 : Int32) (b8 : Nat) (b9 : Int32) (b10 : Int32) (b11 : Int32) (b12 : Int32) (b13 : Nat) (b14 : Nat) (b15 : Nat) (b16 : Int32) (b17 : Nat) (b18 : Nat) (b19 : Nat) (b20 : Nat) (b21 : Nat) (b22 : Nat) (b23 : Nat) (b24 : Nat) (b25 : Nat) (b26 : Nat) (b27 : Nat) (b28 : Nat) (b29 : Int32) (b30 : Nat) (b31 : Nat) (b32 : Int32) (b33 : Int32) (b34 : Int32) (b35 : Int32) (b36 : Nat) (b37 : Nat) (b38 : Nat) (b39 : Nat) (b40 : Nat) (b41 : Nat) (b42 : Nat) (b43 : Int32) (b44 : Nat) (b45 : Nat) (b46 : Int32) (b47 : Nat) (b48 : Nat) (b49 : Nat) (b50 : Nat) (b51 : Nat) (b52 : Int32) (b53 : Nat) (b54 : Nat) (b55 : Nat) (b56 : Nat → Int32) (b57 : Nat → Int32) (b58 : Nat → Int32) (hb7 : zI b7 0 8) (hb9 : zI b9 0 240) (hb10 : zI b10 0 240) (hb12 : zI b12 0 1) (hb16 : zI b16 0 12) (hb29 : zI b29 0 1) (hb32 : zI b32 0 1) (hb56 : zW5 b56) (hb57 : zW5 b57) : zM l G y_Model_keep prog_14_method_92_code 3 (Option.some Jvm.ClassFile.FieldType.boolean) m_s1_Model_keep [.ref b0, .int b1] [(b0, .inr (12, [.int b2, .ref b3, .ref b4, .ref b5, .ref b6, .int b7, .ref b8, .int b9, .int b10, .int b11, .int b12, .ref b13, .ref b14, .ref b15, .int b16, .ref b17, .ref b18, .ref b19, .ref b20, .ref b21, .ref b22, .ref b23, .ref b24, .ref b25, .ref b26, .ref b27, .ref b28, .int b29, .ref b30, .ref b31, .int b32, .int b33, .int b34, .int b35, .ref b36, .ref b37, .ref b38, .ref b39, .ref b40, .ref b41, .ref b42, .int b43, .ref b44, .ref b45, .int b46, .ref b47, .ref b48, .ref b49, .ref b50, .ref b51, .int b52, .ref b53, .ref b54, .ref b55])), (b3, .inl (G.2 0, 503, .inl b56)), (b4, .inl (G.2 0, 1006, .inl b57)), (b5, .inl (G.2 4, 2, .inl b58))] (fun v w => ∃ (e0 : Int32), ∃ (e1 : Nat → Int32), ∃ (e2 : Nat → Int32), v = some (.int e0) ∧ w = [(b0, .inr (12, [.int 0, .ref b3, .ref b4, .ref b5, .ref b6, .int b7, .ref b8, .int b9, .int b10, .int b11, .int b12, .ref b13, .ref b14, .ref b15, .int b16, .ref b17, .ref b18, .ref b19, .ref b20, .ref b21, .ref b22, .ref b23, .ref b24, .ref b25, .ref b26, .ref b27, .ref b28, .int b29, .ref b30, .ref b31, .int b32, .int b33, .int b34, .int b35, .ref b36, .ref b37, .ref b38, .ref b39, .ref b40, .ref b41, .ref b42, .int b43, .ref b44, .ref b45, .int b46, .ref b47, .ref b48, .ref b49, .ref b50, .ref b51, .int b52, .ref b53, .ref b54, .ref b55])), (b3, .inl (G.2 0, 503, .inl b56)), (b4, .inl (G.2 0, 1006, .inl e1)), (b5, .inl (G.2 4, 2, .inl e2))] ∧ (zI e0 0 1) ∧ (zW5 e1)) := by
  refine z_start (by decide +kernel) (Nat.le_of_ble_eq_true rfl) ?_
  intro p e s m below meth c A Z hr hnm hA hP hD hS ls hl
  have Z : zC p s m _ meth c prog_14_method_92_code 3 "TraceMachinesModel" G := Z
  obtain ⟨hx, hb, hml, hown, hts, hK, hN, hlocks⟩ := id Z
  have hl : lv_has ls 3 [(0, .ref b0), (1, .int b1)] := hl
  refine lv_aload_n hx hb d_Model_keep_0 rfl (lv_at hl 0 rfl) ?_
  refine lv_iconst (v := 0) hx hb d_Model_keep_1 (by decide) ?_
  refine va_put (D := G.1) (ci := 12) (v := .int 0) (ty := .int) (C := R_Model) (T := F_Model) (N := 54) hx hb hts i_Model t_Model t_Model_ok n_Model hown hK hP hD hS 0 rfl rfl 0 (by decide) (hts _ q1109) (fun _ h9 => h9) rfl (by decide +kernel) rfl rfl (Nat.le_of_ble_eq_true rfl) d_Model_keep_2 (fun H locs hP hD hS => ?_)
  have hP : va_P G.1 classes [(b0, .inr (12, [.int 0, .ref b3, .ref b4, .ref b5, .ref b6, .int b7, .ref b8, .int b9, .int b10, .int b11, .int b12, .ref b13, .ref b14, .ref b15, .int b16, .ref b17, .ref b18, .ref b19, .ref b20, .ref b21, .ref b22, .ref b23, .ref b24, .ref b25, .ref b26, .ref b27, .ref b28, .int b29, .ref b30, .ref b31, .int b32, .int b33, .int b34, .int b35, .ref b36, .ref b37, .ref b38, .ref b39, .ref b40, .ref b41, .ref b42, .int b43, .ref b44, .ref b45, .int b46, .ref b47, .ref b48, .ref b49, .ref b50, .ref b51, .int b52, .ref b53, .ref b54, .ref b55])), (b3, .inl (G.2 0, 503, .inl b56)), (b4, .inl (G.2 0, 1006, .inl b57)), (b5, .inl (G.2 4, 2, .inl b58))] H := hP
  have hD := z_tie hP hD rfl
  refine lv_iload_n hx hb d_Model_keep_5 rfl (lv_at hl 1 rfl) ?_
  refine lv_i2l (v := b1.toInt64) hx hb d_Model_keep_6 rfl ?_
  refine lv_lconst (v := 0) hx hb d_Model_keep_7 (by decide) ?_
  refine lv_lconst (v := 1) hx hb d_Model_keep_8 (by decide) ?_
  refine z_callS (index := 138) (As := [.long b1.toInt64, .long 0, .long 1]) (rest := []) (wr := [(b0, .inr (12, [.int 0, .ref b3, .ref b4, .ref b5, .ref b6, .int b7, .ref b8, .int b9, .int b10, .int b11, .int b12, .ref b13, .ref b14, .ref b15, .int b16, .ref b17, .ref b18, .ref b19, .ref b20, .ref b21, .ref b22, .ref b23, .ref b24, .ref b25, .ref b26, .ref b27, .ref b28, .int b29, .ref b30, .ref b31, .int b32, .int b33, .int b34, .int b35, .ref b36, .ref b37, .ref b38, .ref b39, .ref b40, .ref b41, .ref b42, .int b43, .ref b44, .ref b45, .int b46, .ref b47, .ref b48, .ref b49, .ref b50, .ref b51, .int b52, .ref b53, .ref b54, .ref b55])), (b3, .inl (G.2 0, 503, .inl b56)), (b4, .inl (G.2 0, 1006, .inl b57)), (b5, .inl (G.2 4, 2, .inl b58))]) Z (s2_Model_in l G (b1.toInt64) (0) (1)) hl.1 q1281 q1282 q14 q1283 ⟨by decide, by decide, by show _ = some 3; decide +kernel⟩ ⟨Nat.le_of_ble_eq_true rfl, Nat.le_of_ble_eq_true rfl⟩ ⟨Nat.le_of_ble_eq_true rfl, Nat.le_of_ble_eq_true rfl⟩ rfl (Nat.le_of_ble_eq_true rfl) d_Model_keep_9 hP hD hS hA [] [0, 1, 2, 3] rfl rfl rfl rfl (by decide) (fun v w1 H locs hw_1 hP hD hS => ?_)
  rcases hw_1 with ⟨rfl, rfl, hq_2⟩ | ⟨rfl, rfl, hq_3, hq_4⟩ | ⟨rfl, rfl, hq_5, hq_6⟩
  · have hP : va_P G.1 classes [(b0, .inr (12, [.int 0, .ref b3, .ref b4, .ref b5, .ref b6, .int b7, .ref b8, .int b9, .int b10, .int b11, .int b12, .ref b13, .ref b14, .ref b15, .int b16, .ref b17, .ref b18, .ref b19, .ref b20, .ref b21, .ref b22, .ref b23, .ref b24, .ref b25, .ref b26, .ref b27, .ref b28, .int b29, .ref b30, .ref b31, .int b32, .int b33, .int b34, .int b35, .ref b36, .ref b37, .ref b38, .ref b39, .ref b40, .ref b41, .ref b42, .int b43, .ref b44, .ref b45, .int b46, .ref b47, .ref b48, .ref b49, .ref b50, .ref b51, .int b52, .ref b53, .ref b54, .ref b55])), (b3, .inl (G.2 0, 503, .inl b56)), (b4, .inl (G.2 0, 1006, .inl b57)), (b5, .inl (G.2 4, 2, .inl b58))] H := hP
    have hD := z_tie hP hD rfl
    try simp only [Int32.toInt_toInt64, ll_0] at hq_2
    have hv_7 : zI b1 (-2147483648) (-1) := by have _a := hq_2; have _b := (zI_all b1); have _c := zcl_0; simp only [Int32.toInt_toInt64] at *; exact ⟨by omega, by omega⟩
    refine W.widen (k := 0) (n := 0) (Nat.le_of_ble_eq_true rfl) (Nat.le_of_ble_eq_true rfl) ?_
    refine lv_if_ne (tgt := 17) hx hb d_Model_keep_12 (by decide) (fun hc => absurd hc (by decide +kernel)) (fun _ => ?_)
    refine lv_iconst (v := 0) hx hb d_Model_keep_15 (by decide) ?_
    exact z_zret hx hb hr hlocks rfl hP hD hS (Nat.le_of_ble_eq_true rfl) (Nat.le_of_ble_eq_true rfl) d_Model_keep_16 ⟨0, b57, b58, rfl, rfl, (zI.wk (l' := 0) (h' := 1) zc_0 (by decide)), hb57⟩
  · have hP : va_P G.1 classes [(b0, .inr (12, [.int 0, .ref b3, .ref b4, .ref b5, .ref b6, .int b7, .ref b8, .int b9, .int b10, .int b11, .int b12, .ref b13, .ref b14, .ref b15, .int b16, .ref b17, .ref b18, .ref b19, .ref b20, .ref b21, .ref b22, .ref b23, .ref b24, .ref b25, .ref b26, .ref b27, .ref b28, .int b29, .ref b30, .ref b31, .int b32, .int b33, .int b34, .int b35, .ref b36, .ref b37, .ref b38, .ref b39, .ref b40, .ref b41, .ref b42, .int b43, .ref b44, .ref b45, .int b46, .ref b47, .ref b48, .ref b49, .ref b50, .ref b51, .int b52, .ref b53, .ref b54, .ref b55])), (b3, .inl (G.2 0, 503, .inl b56)), (b4, .inl (G.2 0, 1006, .inl b57)), (b5, .inl (G.2 4, 2, .inl b58))] H := hP
    have hD := z_tie hP hD rfl
    try simp only [Int32.toInt_toInt64, ll_0] at hq_3
    have hv_8 : zI b1 0 2147483647 := by have _a := hq_3; have _b := (zI_all b1); have _c := zcl_0; simp only [Int32.toInt_toInt64] at *; exact ⟨by omega, by omega⟩
    try simp only [Int32.toInt_toInt64, ll_1] at hq_4
    have hv_9 : zI b1 2 2147483647 := by have _a := hq_4; have _b := hv_8; have _c := zcl_1; simp only [Int32.toInt_toInt64] at *; exact ⟨by omega, by omega⟩
    refine W.widen (k := 0) (n := 0) (Nat.le_of_ble_eq_true rfl) (Nat.le_of_ble_eq_true rfl) ?_
    refine lv_if_ne (tgt := 17) hx hb d_Model_keep_12 (by decide) (fun hc => absurd hc (by decide +kernel)) (fun _ => ?_)
    refine lv_iconst (v := 0) hx hb d_Model_keep_15 (by decide) ?_
    exact z_zret hx hb hr hlocks rfl hP hD hS (Nat.le_of_ble_eq_true rfl) (Nat.le_of_ble_eq_true rfl) d_Model_keep_16 ⟨0, b57, b58, rfl, rfl, (zI.wk (l' := 0) (h' := 1) zc_0 (by decide)), hb57⟩
  · have hP : va_P G.1 classes [(b0, .inr (12, [.int 0, .ref b3, .ref b4, .ref b5, .ref b6, .int b7, .ref b8, .int b9, .int b10, .int b11, .int b12, .ref b13, .ref b14, .ref b15, .int b16, .ref b17, .ref b18, .ref b19, .ref b20, .ref b21, .ref b22, .ref b23, .ref b24, .ref b25, .ref b26, .ref b27, .ref b28, .int b29, .ref b30, .ref b31, .int b32, .int b33, .int b34, .int b35, .ref b36, .ref b37, .ref b38, .ref b39, .ref b40, .ref b41, .ref b42, .int b43, .ref b44, .ref b45, .int b46, .ref b47, .ref b48, .ref b49, .ref b50, .ref b51, .int b52, .ref b53, .ref b54, .ref b55])), (b3, .inl (G.2 0, 503, .inl b56)), (b4, .inl (G.2 0, 1006, .inl b57)), (b5, .inl (G.2 4, 2, .inl b58))] H := hP
    have hD := z_tie hP hD rfl
    try simp only [Int32.toInt_toInt64, ll_0] at hq_5
    have hv_10 : zI b1 0 2147483647 := by have _a := hq_5; have _b := (zI_all b1); have _c := zcl_0; simp only [Int32.toInt_toInt64] at *; exact ⟨by omega, by omega⟩
    try simp only [Int32.toInt_toInt64, ll_1] at hq_6
    have hv_11 : zI b1 0 1 := by have _a := hq_6; have _b := hv_10; have _c := zcl_1; simp only [Int32.toInt_toInt64] at *; exact ⟨by omega, by omega⟩
    refine W.widen (k := 0) (n := 0) (Nat.le_of_ble_eq_true rfl) (Nat.le_of_ble_eq_true rfl) ?_
    refine lv_if_ne (tgt := 17) hx hb d_Model_keep_12 (by decide) (fun _ => ?_) (fun hc => absurd hc (by decide +kernel))
    refine lv_iconst (v := 0) hx hb d_Model_keep_17 (by decide) ?_
    refine lv_istore_n (lv' := [(2, .int 0), (0, .ref b0), (1, .int b1)]) hx hb d_Model_keep_18 rfl hl (by decide) rfl (fun ls hl => ?_)
    suffices key : ∀ (k_105 : Nat) (y_106 : Int32) (y_107 : Nat → Int32) (H : Heap) (locs : List Loc) (ls : Array Slot), (zI y_106 0 503) → (zW5 y_107) → (503 : Int) - y_106.toInt < (k_105 : Int) → va_P G.1 classes [(b0, .inr (12, [.int 0, .ref b3, .ref b4, .ref b5, .ref b6, .int b7, .ref b8, .int b9, .int b10, .int b11, .int b12, .ref b13, .ref b14, .ref b15, .int b16, .ref b17, .ref b18, .ref b19, .ref b20, .ref b21, .ref b22, .ref b23, .ref b24, .ref b25, .ref b26, .ref b27, .ref b28, .int b29, .ref b30, .ref b31, .int b32, .int b33, .int b34, .int b35, .ref b36, .ref b37, .ref b38, .ref b39, .ref b40, .ref b41, .ref b42, .int b43, .ref b44, .ref b45, .int b46, .ref b47, .ref b48, .ref b49, .ref b50, .ref b51, .int b52, .ref b53, .ref b54, .ref b55])), (b3, .inl (G.2 0, 503, .inl b56)), (b4, .inl (G.2 0, 1006, .inl y_107)), (b5, .inl (G.2 4, 2, .inl b58))] H → va_D A [(b0, .inr (12, [.int 0, .ref b3, .ref b4, .ref b5, .ref b6, .int b7, .ref b8, .int b9, .int b10, .int b11, .int b12, .ref b13, .ref b14, .ref b15, .int b16, .ref b17, .ref b18, .ref b19, .ref b20, .ref b21, .ref b22, .ref b23, .ref b24, .ref b25, .ref b26, .ref b27, .ref b28, .int b29, .ref b30, .ref b31, .int b32, .int b33, .int b34, .int b35, .ref b36, .ref b37, .ref b38, .ref b39, .ref b40, .ref b41, .ref b42, .int b43, .ref b44, .ref b45, .int b46, .ref b47, .ref b48, .ref b49, .ref b50, .ref b51, .int b52, .ref b53, .ref b54, .ref b55])), (b3, .inl (G.2 0, 503, .inl b56)), (b4, .inl (G.2 0, 1006, .inl y_107)), (b5, .inl (G.2 4, 2, .inl b58))] → va_S A s.heap H locs → lv_has ls 3 [(2, .int y_106), (0, .ref b0), (1, .int b1)] → W p l e m_s1_Model_keep s m ([.ref b0, .int b1] : List Value).toArray below meth c H locs 0 0 (MQ below (zQ G (fun v w => ∃ (e0 : Int32), ∃ (e1 : Nat → Int32), ∃ (e2 : Nat → Int32), v = some (.int e0) ∧ w = [(b0, .inr (12, [.int 0, .ref b3, .ref b4, .ref b5, .ref b6, .int b7, .ref b8, .int b9, .int b10, .int b11, .int b12, .ref b13, .ref b14, .ref b15, .int b16, .ref b17, .ref b18, .ref b19, .ref b20, .ref b21, .ref b22, .ref b23, .ref b24, .ref b25, .ref b26, .ref b27, .ref b28, .int b29, .ref b30, .ref b31, .int b32, .int b33, .int b34, .int b35, .ref b36, .ref b37, .ref b38, .ref b39, .ref b40, .ref b41, .ref b42, .int b43, .ref b44, .ref b45, .int b46, .ref b47, .ref b48, .ref b49, .ref b50, .ref b51, .int b52, .ref b53, .ref b54, .ref b55])), (b3, .inl (G.2 0, 503, .inl b56)), (b4, .inl (G.2 0, 1006, .inl e1)), (b5, .inl (G.2 4, 2, .inl e2))] ∧ (zI e0 0 1) ∧ (zW5 e1)) A) ([.ref b0, .int b1] : List Value).toArray s m_s1_Model_keep.cells m_s1_Model_keep.slots A) (F0 m 19 ls []) by
      exact key 504 (0) (b57) _ _ _ (zI.wk (l' := 0) (h' := 503) zc_0 (by decide)) hb57 (zm_upi (zI.wk (l' := 0) (h' := 503) zc_0 (by decide)) (by decide)) hP hD hS (lv_sub hl [0, 1, 2] rfl)
    intro k_105
    induction k_105 with
    | zero =>
      intro y_106 y_107 H locs ls hy_106 hy_107 hmk_105 hP hD hS hl
      exact (zm_up0 hy_106 hmk_105).elim
    | succ k_105 ihk_105 =>
      intro y_106 y_107 H locs ls hy_106 hy_107 hmk_105 hP hD hS hl
      refine lv_iload_n hx hb d_Model_keep_19 rfl (lv_at hl 0 rfl) ?_
      refine lv_sipush (v := 503) hx hb d_Model_keep_20 (by decide) ?_
      refine lv_icmp_ge (tgt := 50) hx hb d_Model_keep_23 (by decide) (fun hc_108 => ?_) (fun hc_108 => ?_)
      · have _nhc_108 := hc_108
        have ni_109 := (fa_le _ _).mp hc_108
        rw [li_503] at ni_109
        have hv_110 : zI y_106 503 503 := zI.le_r zc_503 hy_106 hc_108 (by decide)
        refine lv_aload_n hx hb d_Model_keep_50 rfl (lv_at hl 1 rfl) ?_
        refine va_get (D := G.1) (ci := 12) (v := .ref b5) (C := R_Model) (T := F_Model) (N := 54) hx hb hts i_Model hown hK hP 0 rfl rfl 3 (by decide) (hts _ q1112) (fun _ h9 => h9) rfl d_Model_keep_51 ?_
        refine lv_iload_n hx hb d_Model_keep_54 rfl (lv_at hl 2 rfl) ?_
        refine lv_iconst (v := 1) hx hb d_Model_keep_55 (by decide) ?_
        refine va_zast hx hb hK hP hD hS 3 4 rfl rfl (zI.inn hv_11 (by decide)) d_Model_keep_56 (fun H locs hP hD hS => ?_)
        obtain ⟨f_111, hP, hD⟩ := z_newF 3 hP hD rfl
        have hP : va_P G.1 classes [(b0, .inr (12, [.int 0, .ref b3, .ref b4, .ref b5, .ref b6, .int b7, .ref b8, .int b9, .int b10, .int b11, .int b12, .ref b13, .ref b14, .ref b15, .int b16, .ref b17, .ref b18, .ref b19, .ref b20, .ref b21, .ref b22, .ref b23, .ref b24, .ref b25, .ref b26, .ref b27, .ref b28, .int b29, .ref b30, .ref b31, .int b32, .int b33, .int b34, .int b35, .ref b36, .ref b37, .ref b38, .ref b39, .ref b40, .ref b41, .ref b42, .int b43, .ref b44, .ref b45, .int b46, .ref b47, .ref b48, .ref b49, .ref b50, .ref b51, .int b52, .ref b53, .ref b54, .ref b55])), (b3, .inl (G.2 0, 503, .inl b56)), (b4, .inl (G.2 0, 1006, .inl y_107)), (b5, .inl (G.2 4, 2, .inl f_111))] H := hP
        have hD := z_tie hP hD rfl
        refine lv_iconst (v := 1) hx hb d_Model_keep_57 (by decide) ?_
        exact z_zret hx hb hr hlocks rfl hP hD hS (Nat.le_of_ble_eq_true rfl) (Nat.le_of_ble_eq_true rfl) d_Model_keep_58 ⟨1, y_107, f_111, rfl, rfl, (zI.wk (l' := 0) (h' := 1) zc_1 (by decide)), hy_107⟩
      · have _nhc_108 := hc_108
        have ni_112 := (fa_lt _ _).mp (zi_nle hc_108)
        rw [li_503] at ni_112
        have hv_113 : zI y_106 0 502 := zI.lt_l hy_106 zc_503 (zi_nle hc_108) (by decide)
        refine lv_aload_n hx hb d_Model_keep_26 rfl (lv_at hl 1 rfl) ?_
        refine va_get (D := G.1) (ci := 12) (v := .ref b4) (C := R_Model) (T := F_Model) (N := 54) hx hb hts i_Model hown hK hP 0 rfl rfl 2 (by decide) (hts _ q1111) (fun _ h9 => h9) rfl d_Model_keep_27 ?_
        refine lv_sipush (v := 503) hx hb d_Model_keep_30 (by decide) ?_
        refine lv_iload_n hx hb d_Model_keep_33 rfl (lv_at hl 2 rfl) ?_
        refine lv_imul hx hb d_Model_keep_34 ?_
        refine lv_topi (fun v_114 ev_114 => ?_)
        obtain ⟨qv_114, hv_114⟩ := zI_mul (l := 0) (h := 503) zc_503 hv_11 ev_114 (by decide)
        rw [li_503] at qv_114
        refine lv_iload_n hx hb d_Model_keep_35 rfl (lv_at hl 0 rfl) ?_
        refine lv_iadd hx hb d_Model_keep_36 ?_
        refine lv_topi (fun v_115 ev_115 => ?_)
        obtain ⟨qv_115, hv_115⟩ := zI_add (l := 0) (h := 1005) hv_114 hv_113 ev_115 (by decide)
        refine lv_aload_n hx hb d_Model_keep_37 rfl (lv_at hl 1 rfl) ?_
        refine va_get (D := G.1) (ci := 12) (v := .ref b3) (C := R_Model) (T := F_Model) (N := 54) hx hb hts i_Model hown hK hP 0 rfl rfl 1 (by decide) (hts _ q1110) (fun _ h9 => h9) rfl d_Model_keep_38 ?_
        refine lv_iload_n hx hb d_Model_keep_41 rfl (lv_at hl 0 rfl) ?_
        refine va_iald hx hb hK hP 1 0 rfl rfl (zI.inn hv_113 (by decide)) d_Model_keep_42 ?_
        refine lv_topi (fun v_116 ev_116 => ?_)
        refine va_iast hx hb hK hP hD hS 2 0 rfl rfl (zI.inn hv_115 (by decide)) d_Model_keep_43 (fun H locs hP hD hS => ?_)
        obtain ⟨f_117, hf_117, gf_117, hP, hD⟩ := z_newfw 2 hP hD rfl hy_107 (zRk_s hb56 ev_116 hv_113 hv_115 (by decide) (by omega))
        have hP : va_P G.1 classes [(b0, .inr (12, [.int 0, .ref b3, .ref b4, .ref b5, .ref b6, .int b7, .ref b8, .int b9, .int b10, .int b11, .int b12, .ref b13, .ref b14, .ref b15, .int b16, .ref b17, .ref b18, .ref b19, .ref b20, .ref b21, .ref b22, .ref b23, .ref b24, .ref b25, .ref b26, .ref b27, .ref b28, .int b29, .ref b30, .ref b31, .int b32, .int b33, .int b34, .int b35, .ref b36, .ref b37, .ref b38, .ref b39, .ref b40, .ref b41, .ref b42, .int b43, .ref b44, .ref b45, .int b46, .ref b47, .ref b48, .ref b49, .ref b50, .ref b51, .int b52, .ref b53, .ref b54, .ref b55])), (b3, .inl (G.2 0, 503, .inl b56)), (b4, .inl (G.2 0, 1006, .inl f_117)), (b5, .inl (G.2 4, 2, .inl b58))] H := hP
        have hD := z_tie hP hD rfl
        obtain ⟨v_118, ev_118⟩ : ∃ z : Int32, z = y_106 + 1 := ⟨_, rfl⟩
        obtain ⟨qv_118, hv_118⟩ := zI_add (l := 1) (h := 503) hv_113 zc_1 ev_118 (by decide)
        rw [li_1] at qv_118
        refine lv_iinc (v := v_118) (lv' := [(2, .int v_118), (0, .ref b0), (1, .int b1)]) hx hb d_Model_keep_44 hl (k := 0) rfl (by rw [ev_118]; rfl) (by decide) rfl (fun ls hl => ?_)
        refine lv_goto (tgt := 19) hx hb d_Model_keep_47 (by decide) ?_
        exact ihk_105 (v_118) (f_117) _ _ _ (zI.wk (l' := 0) (h' := 503) hv_118 (by decide)) hf_117 (zm_up qv_118 hmk_105 (by decide)) hP hD hS (lv_sub hl [0, 1, 2] rfl)
theorem d_Model_again_0 : decode prog_14_method_93_code 0 = .ok (.aload_n 0, 1) := by decide +kernel
theorem d_Model_again_1 : decode prog_14_method_93_code 1 = .ok (.iconst 0, 1) := by decide +kernel
theorem d_Model_again_2 : decode prog_14_method_93_code 2 = .ok (.putfield 1, 3) := by decide +kernel
theorem d_Model_again_5 : decode prog_14_method_93_code 5 = .ok (.iload_n 1, 1) := by decide +kernel
theorem d_Model_again_6 : decode prog_14_method_93_code 6 = .ok (.i2l, 1) := by decide +kernel
theorem d_Model_again_7 : decode prog_14_method_93_code 7 = .ok (.lconst 0, 1) := by decide +kernel
theorem d_Model_again_8 : decode prog_14_method_93_code 8 = .ok (.lconst 1, 1) := by decide +kernel
theorem d_Model_again_9 : decode prog_14_method_93_code 9 = .ok (.invokestatic 138, 3) := by decide +kernel
theorem d_Model_again_12 : decode prog_14_method_93_code 12 = .ok (.ifCond .eq 12, 3) := by decide +kernel
theorem d_Model_again_15 : decode prog_14_method_93_code 15 = .ok (.aload_n 0, 1) := by decide +kernel
theorem d_Model_again_16 : decode prog_14_method_93_code 16 = .ok (.getfield 20, 3) := by decide +kernel
theorem d_Model_again_19 : decode prog_14_method_93_code 19 = .ok (.iload_n 1, 1) := by decide +kernel
theorem d_Model_again_20 : decode prog_14_method_93_code 20 = .ok (.baload, 1) := by decide +kernel
theorem d_Model_again_21 : decode prog_14_method_93_code 21 = .ok (.ifCond .ne 5, 3) := by decide +kernel
theorem d_Model_again_24 : decode prog_14_method_93_code 24 = .ok (.iconst 0, 1) := by decide +kernel
theorem d_Model_again_25 : decode prog_14_method_93_code 25 = .ok (.ireturn, 1) := by decide +kernel
theorem d_Model_again_26 : decode prog_14_method_93_code 26 = .ok (.iconst 0, 1) := by decide +kernel
theorem d_Model_again_27 : decode prog_14_method_93_code 27 = .ok (.istore_n 2, 1) := by decide +kernel
theorem d_Model_again_28 : decode prog_14_method_93_code 28 = .ok (.iload_n 2, 1) := by decide +kernel
theorem d_Model_again_29 : decode prog_14_method_93_code 29 = .ok (.sipush 503, 3) := by decide +kernel
theorem d_Model_again_32 : decode prog_14_method_93_code 32 = .ok (.if_icmp .ge 27, 3) := by decide +kernel
theorem d_Model_again_35 : decode prog_14_method_93_code 35 = .ok (.aload_n 0, 1) := by decide +kernel
theorem d_Model_again_36 : decode prog_14_method_93_code 36 = .ok (.getfield 13, 3) := by decide +kernel
theorem d_Model_again_39 : decode prog_14_method_93_code 39 = .ok (.iload_n 2, 1) := by decide +kernel
theorem d_Model_again_40 : decode prog_14_method_93_code 40 = .ok (.aload_n 0, 1) := by decide +kernel
theorem d_Model_again_41 : decode prog_14_method_93_code 41 = .ok (.getfield 17, 3) := by decide +kernel
theorem d_Model_again_44 : decode prog_14_method_93_code 44 = .ok (.sipush 503, 3) := by decide +kernel
theorem d_Model_again_47 : decode prog_14_method_93_code 47 = .ok (.iload_n 1, 1) := by decide +kernel
theorem d_Model_again_48 : decode prog_14_method_93_code 48 = .ok (.imul, 1) := by decide +kernel
theorem d_Model_again_49 : decode prog_14_method_93_code 49 = .ok (.iload_n 2, 1) := by decide +kernel
theorem d_Model_again_50 : decode prog_14_method_93_code 50 = .ok (.iadd, 1) := by decide +kernel
theorem d_Model_again_51 : decode prog_14_method_93_code 51 = .ok (.iaload, 1) := by decide +kernel
theorem d_Model_again_52 : decode prog_14_method_93_code 52 = .ok (.iastore, 1) := by decide +kernel
theorem d_Model_again_53 : decode prog_14_method_93_code 53 = .ok (.iinc 2 1, 3) := by decide +kernel
theorem d_Model_again_56 : decode prog_14_method_93_code 56 = .ok (.goto (-28), 3) := by decide +kernel
theorem d_Model_again_59 : decode prog_14_method_93_code 59 = .ok (.aload_n 0, 1) := by decide +kernel
theorem d_Model_again_60 : decode prog_14_method_93_code 60 = .ok (.iconst 0, 1) := by decide +kernel
theorem d_Model_again_61 : decode prog_14_method_93_code 61 = .ok (.putfield 179, 3) := by decide +kernel
theorem d_Model_again_64 : decode prog_14_method_93_code 64 = .ok (.iconst 1, 1) := by decide +kernel
theorem d_Model_again_65 : decode prog_14_method_93_code 65 = .ok (.ireturn, 1) := by decide +kernel
abbrev m_s1_Model_again : Room := { frames := 1, cells := 0, slots := 0, locals := 25 }
set_option maxHeartbeats 4000000 in
set_option maxRecDepth 100000 in
theorem s1_Model_again (l : Launch) (G : zG) (b0 : Nat) (b1 : Int32) (b2 : Int32) (b3 : Nat) (b4 : Nat) (b5 : Nat) (b6 : Nat) (b7 : Int32) (b8 : Nat) (b9 : Int32) (b10 : Int32) (b11 : Int32) (b12 : Int32) (b13 : Nat) (b14 : Nat) (b15 : Nat) (b16 : Int32) (b17 : Nat) (b18 : Nat) (b19 : Nat) (b20 : Nat) (b21 : Nat) (b22 : Nat) (b23 : Nat) (b24 : Nat) (b25 : Nat) (b26 : Nat) (b27 : Nat) (b28 : Nat) (b29 : Int32) (b30 : Nat) (b31 : Nat) (b32 : Int32) (b33 : Int32) (b34 : Int32) (b35 : Int32) (b36 : Nat) (b37 : Nat) (b38 : Nat) (b39 : Nat) (b40 : Nat) (b41 : Nat) (b42 : Nat) (b43 : Int32) (b44 : Nat) (b45 : Nat) (b46 : Int32) (b47 : Nat) (b48 : Nat) (b49 : Nat) (b50 : Nat) (b51 : Nat) (b52 : Int32) (b53 : Nat) (b54 : Nat) (b55 : Nat) (b56 : Nat → Int32) (b57 : Nat → Int32) (b58 : Nat → Int32) (hb7 : zI b7 0 8) (hb9 : zI b9 0 240) (hb10 : zI b10 0 240) (hb12 : zI b12 0 1) (hb16 : zI b16 0 12) (hb29 : zI b29 0 1) (hb32 : zI b32 0 1) (hb56 : zW5 b56) (hb57 : zW5 b57) : zM l G y_Model_again prog_14_method_93_code 3 (Option.some Jvm.ClassFile.FieldType.boolean) m_s1_Model_again [.ref b0, .int b1] [(b0, .inr (12, [.int b2, .ref b3, .ref b4, .ref b5, .ref b6, .int b7, .ref b8, .int b9, .int b10, .int b11, .int b12, .ref b13, .ref b14, .ref b15, .int b16, .ref b17, .ref b18, .ref b19, .ref b20, .ref b21, .ref b22, .ref b23, .ref b24, .ref b25, .ref b26, .ref b27, .ref b28, .int b29, .ref b30, .ref b31, .int b32, .int b33, .int b34, .int b35, .ref b36, .ref b37, .ref b38, .ref b39, .ref b40, .ref b41, .ref b42, .int b43, .ref b44, .ref b45, .int b46, .ref b47, .ref b48, .ref b49, .ref b50, .ref b51, .int b52, .ref b53, .ref b54, .ref b55])), (b3, .inl (G.2 0, 503, .inl b56)), (b4, .inl (G.2 0, 1006, .inl b57)), (b5, .inl (G.2 4, 2, .inl b58))] (fun v w => ∃ (e0 : Int32), ∃ (e1 : Int32), ∃ (e2 : Nat → Int32), v = some (.int e0) ∧ w = [(b0, .inr (12, [.int 0, .ref b3, .ref b4, .ref b5, .ref b6, .int e1, .ref b8, .int b9, .int b10, .int b11, .int b12, .ref b13, .ref b14, .ref b15, .int b16, .ref b17, .ref b18, .ref b19, .ref b20, .ref b21, .ref b22, .ref b23, .ref b24, .ref b25, .ref b26, .ref b27, .ref b28, .int b29, .ref b30, .ref b31, .int b32, .int b33, .int b34, .int b35, .ref b36, .ref b37, .ref b38, .ref b39, .ref b40, .ref b41, .ref b42, .int b43, .ref b44, .ref b45, .int b46, .ref b47, .ref b48, .ref b49, .ref b50, .ref b51, .int b52, .ref b53, .ref b54, .ref b55])), (b3, .inl (G.2 0, 503, .inl e2)), (b4, .inl (G.2 0, 1006, .inl b57)), (b5, .inl (G.2 4, 2, .inl b58))] ∧ (zI e0 0 1) ∧ (zI e1 0 8) ∧ (zW5 e2)) := by
  refine z_start (by decide +kernel) (Nat.le_of_ble_eq_true rfl) ?_
  intro p e s m below meth c A Z hr hnm hA hP hD hS ls hl
  have Z : zC p s m _ meth c prog_14_method_93_code 3 "TraceMachinesModel" G := Z
  obtain ⟨hx, hb, hml, hown, hts, hK, hN, hlocks⟩ := id Z
  have hl : lv_has ls 3 [(0, .ref b0), (1, .int b1)] := hl
  refine lv_aload_n hx hb d_Model_again_0 rfl (lv_at hl 0 rfl) ?_
  refine lv_iconst (v := 0) hx hb d_Model_again_1 (by decide) ?_
  refine va_put (D := G.1) (ci := 12) (v := .int 0) (ty := .int) (C := R_Model) (T := F_Model) (N := 54) hx hb hts i_Model t_Model t_Model_ok n_Model hown hK hP hD hS 0 rfl rfl 0 (by decide) (hts _ q1109) (fun _ h9 => h9) rfl (by decide +kernel) rfl rfl (Nat.le_of_ble_eq_true rfl) d_Model_again_2 (fun H locs hP hD hS => ?_)
  have hP : va_P G.1 classes [(b0, .inr (12, [.int 0, .ref b3, .ref b4, .ref b5, .ref b6, .int b7, .ref b8, .int b9, .int b10, .int b11, .int b12, .ref b13, .ref b14, .ref b15, .int b16, .ref b17, .ref b18, .ref b19, .ref b20, .ref b21, .ref b22, .ref b23, .ref b24, .ref b25, .ref b26, .ref b27, .ref b28, .int b29, .ref b30, .ref b31, .int b32, .int b33, .int b34, .int b35, .ref b36, .ref b37, .ref b38, .ref b39, .ref b40, .ref b41, .ref b42, .int b43, .ref b44, .ref b45, .int b46, .ref b47, .ref b48, .ref b49, .ref b50, .ref b51, .int b52, .ref b53, .ref b54, .ref b55])), (b3, .inl (G.2 0, 503, .inl b56)), (b4, .inl (G.2 0, 1006, .inl b57)), (b5, .inl (G.2 4, 2, .inl b58))] H := hP
  have hD := z_tie hP hD rfl
  refine lv_iload_n hx hb d_Model_again_5 rfl (lv_at hl 1 rfl) ?_
  refine lv_i2l (v := b1.toInt64) hx hb d_Model_again_6 rfl ?_
  refine lv_lconst (v := 0) hx hb d_Model_again_7 (by decide) ?_
  refine lv_lconst (v := 1) hx hb d_Model_again_8 (by decide) ?_
  refine z_callS (index := 138) (As := [.long b1.toInt64, .long 0, .long 1]) (rest := []) (wr := [(b0, .inr (12, [.int 0, .ref b3, .ref b4, .ref b5, .ref b6, .int b7, .ref b8, .int b9, .int b10, .int b11, .int b12, .ref b13, .ref b14, .ref b15, .int b16, .ref b17, .ref b18, .ref b19, .ref b20, .ref b21, .ref b22, .ref b23, .ref b24, .ref b25, .ref b26, .ref b27, .ref b28, .int b29, .ref b30, .ref b31, .int b32, .int b33, .int b34, .int b35, .ref b36, .ref b37, .ref b38, .ref b39, .ref b40, .ref b41, .ref b42, .int b43, .ref b44, .ref b45, .int b46, .ref b47, .ref b48, .ref b49, .ref b50, .ref b51, .int b52, .ref b53, .ref b54, .ref b55])), (b3, .inl (G.2 0, 503, .inl b56)), (b4, .inl (G.2 0, 1006, .inl b57)), (b5, .inl (G.2 4, 2, .inl b58))]) Z (s2_Model_in l G (b1.toInt64) (0) (1)) hl.1 q1281 q1282 q14 q1283 ⟨by decide, by decide, by show _ = some 3; decide +kernel⟩ ⟨Nat.le_of_ble_eq_true rfl, Nat.le_of_ble_eq_true rfl⟩ ⟨Nat.le_of_ble_eq_true rfl, Nat.le_of_ble_eq_true rfl⟩ rfl (Nat.le_of_ble_eq_true rfl) d_Model_again_9 hP hD hS hA [] [0, 1, 2, 3] rfl rfl rfl rfl (by decide) (fun v w1 H locs hw_1 hP hD hS => ?_)
  rcases hw_1 with ⟨rfl, rfl, hq_2⟩ | ⟨rfl, rfl, hq_3, hq_4⟩ | ⟨rfl, rfl, hq_5, hq_6⟩
  · have hP : va_P G.1 classes [(b0, .inr (12, [.int 0, .ref b3, .ref b4, .ref b5, .ref b6, .int b7, .ref b8, .int b9, .int b10, .int b11, .int b12, .ref b13, .ref b14, .ref b15, .int b16, .ref b17, .ref b18, .ref b19, .ref b20, .ref b21, .ref b22, .ref b23, .ref b24, .ref b25, .ref b26, .ref b27, .ref b28, .int b29, .ref b30, .ref b31, .int b32, .int b33, .int b34, .int b35, .ref b36, .ref b37, .ref b38, .ref b39, .ref b40, .ref b41, .ref b42, .int b43, .ref b44, .ref b45, .int b46, .ref b47, .ref b48, .ref b49, .ref b50, .ref b51, .int b52, .ref b53, .ref b54, .ref b55])), (b3, .inl (G.2 0, 503, .inl b56)), (b4, .inl (G.2 0, 1006, .inl b57)), (b5, .inl (G.2 4, 2, .inl b58))] H := hP
    have hD := z_tie hP hD rfl
    try simp only [Int32.toInt_toInt64, ll_0] at hq_2
    have hv_7 : zI b1 (-2147483648) (-1) := by have _a := hq_2; have _b := (zI_all b1); have _c := zcl_0; simp only [Int32.toInt_toInt64] at *; exact ⟨by omega, by omega⟩
    refine W.widen (k := 0) (n := 0) (Nat.le_of_ble_eq_true rfl) (Nat.le_of_ble_eq_true rfl) ?_
    refine lv_if_eq (tgt := 24) hx hb d_Model_again_12 (by decide) (fun _ => ?_) (fun hc => absurd hc (by decide +kernel))
    refine lv_iconst (v := 0) hx hb d_Model_again_24 (by decide) ?_
    exact z_zret hx hb hr hlocks rfl hP hD hS (Nat.le_of_ble_eq_true rfl) (Nat.le_of_ble_eq_true rfl) d_Model_again_25 ⟨0, b7, b56, rfl, rfl, (zI.wk (l' := 0) (h' := 1) zc_0 (by decide)), hb7, hb56⟩
  · have hP : va_P G.1 classes [(b0, .inr (12, [.int 0, .ref b3, .ref b4, .ref b5, .ref b6, .int b7, .ref b8, .int b9, .int b10, .int b11, .int b12, .ref b13, .ref b14, .ref b15, .int b16, .ref b17, .ref b18, .ref b19, .ref b20, .ref b21, .ref b22, .ref b23, .ref b24, .ref b25, .ref b26, .ref b27, .ref b28, .int b29, .ref b30, .ref b31, .int b32, .int b33, .int b34, .int b35, .ref b36, .ref b37, .ref b38, .ref b39, .ref b40, .ref b41, .ref b42, .int b43, .ref b44, .ref b45, .int b46, .ref b47, .ref b48, .ref b49, .ref b50, .ref b51, .int b52, .ref b53, .ref b54, .ref b55])), (b3, .inl (G.2 0, 503, .inl b56)), (b4, .inl (G.2 0, 1006, .inl b57)), (b5, .inl (G.2 4, 2, .inl b58))] H := hP
    have hD := z_tie hP hD rfl
    try simp only [Int32.toInt_toInt64, ll_0] at hq_3
    have hv_8 : zI b1 0 2147483647 := by have _a := hq_3; have _b := (zI_all b1); have _c := zcl_0; simp only [Int32.toInt_toInt64] at *; exact ⟨by omega, by omega⟩
    try simp only [Int32.toInt_toInt64, ll_1] at hq_4
    have hv_9 : zI b1 2 2147483647 := by have _a := hq_4; have _b := hv_8; have _c := zcl_1; simp only [Int32.toInt_toInt64] at *; exact ⟨by omega, by omega⟩
    refine W.widen (k := 0) (n := 0) (Nat.le_of_ble_eq_true rfl) (Nat.le_of_ble_eq_true rfl) ?_
    refine lv_if_eq (tgt := 24) hx hb d_Model_again_12 (by decide) (fun _ => ?_) (fun hc => absurd hc (by decide +kernel))
    refine lv_iconst (v := 0) hx hb d_Model_again_24 (by decide) ?_
    exact z_zret hx hb hr hlocks rfl hP hD hS (Nat.le_of_ble_eq_true rfl) (Nat.le_of_ble_eq_true rfl) d_Model_again_25 ⟨0, b7, b56, rfl, rfl, (zI.wk (l' := 0) (h' := 1) zc_0 (by decide)), hb7, hb56⟩
  · have hP : va_P G.1 classes [(b0, .inr (12, [.int 0, .ref b3, .ref b4, .ref b5, .ref b6, .int b7, .ref b8, .int b9, .int b10, .int b11, .int b12, .ref b13, .ref b14, .ref b15, .int b16, .ref b17, .ref b18, .ref b19, .ref b20, .ref b21, .ref b22, .ref b23, .ref b24, .ref b25, .ref b26, .ref b27, .ref b28, .int b29, .ref b30, .ref b31, .int b32, .int b33, .int b34, .int b35, .ref b36, .ref b37, .ref b38, .ref b39, .ref b40, .ref b41, .ref b42, .int b43, .ref b44, .ref b45, .int b46, .ref b47, .ref b48, .ref b49, .ref b50, .ref b51, .int b52, .ref b53, .ref b54, .ref b55])), (b3, .inl (G.2 0, 503, .inl b56)), (b4, .inl (G.2 0, 1006, .inl b57)), (b5, .inl (G.2 4, 2, .inl b58))] H := hP
    have hD := z_tie hP hD rfl
    try simp only [Int32.toInt_toInt64, ll_0] at hq_5
    have hv_10 : zI b1 0 2147483647 := by have _a := hq_5; have _b := (zI_all b1); have _c := zcl_0; simp only [Int32.toInt_toInt64] at *; exact ⟨by omega, by omega⟩
    try simp only [Int32.toInt_toInt64, ll_1] at hq_6
    have hv_11 : zI b1 0 1 := by have _a := hq_6; have _b := hv_10; have _c := zcl_1; simp only [Int32.toInt_toInt64] at *; exact ⟨by omega, by omega⟩
    refine W.widen (k := 0) (n := 0) (Nat.le_of_ble_eq_true rfl) (Nat.le_of_ble_eq_true rfl) ?_
    refine lv_if_eq (tgt := 24) hx hb d_Model_again_12 (by decide) (fun hc => absurd hc (by decide +kernel)) (fun _ => ?_)
    refine lv_aload_n hx hb d_Model_again_15 rfl (lv_at hl 0 rfl) ?_
    refine va_get (D := G.1) (ci := 12) (v := .ref b5) (C := R_Model) (T := F_Model) (N := 54) hx hb hts i_Model hown hK hP 0 rfl rfl 3 (by decide) (hts _ q1112) (fun _ h9 => h9) rfl d_Model_again_16 ?_
    refine lv_iload_n hx hb d_Model_again_19 rfl (lv_at hl 1 rfl) ?_
    refine va_zald hx hb hK hP 3 4 rfl rfl (zI.inn hv_11 (by decide)) d_Model_again_20 ?_
    refine lv_topi (fun v_12 ev_12 => ?_)
    refine lv_if_ne (tgt := 26) hx hb d_Model_again_21 (by decide) (fun hc_13 => ?_) (fun hc_13 => ?_)
    · have _nhc_13 := hc_13
      have ni_14 := fun z => hc_13 ((fa_eq _ _).mpr z)
      simp only [li_0] at ni_14
      refine lv_iconst (v := 0) hx hb d_Model_again_26 (by decide) ?_
      refine lv_istore_n (lv' := [(2, .int 0), (0, .ref b0), (1, .int b1)]) hx hb d_Model_again_27 rfl hl (by decide) rfl (fun ls hl => ?_)
      suffices key : ∀ (k_106 : Nat) (y_107 : Int32) (y_108 : Nat → Int32) (H : Heap) (locs : List Loc) (ls : Array Slot), (zI y_107 0 503) → (zW5 y_108) → (503 : Int) - y_107.toInt < (k_106 : Int) → va_P G.1 classes [(b0, .inr (12, [.int 0, .ref b3, .ref b4, .ref b5, .ref b6, .int b7, .ref b8, .int b9, .int b10, .int b11, .int b12, .ref b13, .ref b14, .ref b15, .int b16, .ref b17, .ref b18, .ref b19, .ref b20, .ref b21, .ref b22, .ref b23, .ref b24, .ref b25, .ref b26, .ref b27, .ref b28, .int b29, .ref b30, .ref b31, .int b32, .int b33, .int b34, .int b35, .ref b36, .ref b37, .ref b38, .ref b39, .ref b40, .ref b41, .ref b42, .int b43, .ref b44, .ref b45, .int b46, .ref b47, .ref b48, .ref b49, .ref b50, .ref b51, .int b52, .ref b53, .ref b54, .ref b55])), (b3, .inl (G.2 0, 503, .inl y_108)), (b4, .inl (G.2 0, 1006, .inl b57)), (b5, .inl (G.2 4, 2, .inl b58))] H → va_D A [(b0, .inr (12, [.int 0, .ref b3, .ref b4, .ref b5, .ref b6, .int b7, .ref b8, .int b9, .int b10, .int b11, .int b12, .ref b13, .ref b14, .ref b15, .int b16, .ref b17, .ref b18, .ref b19, .ref b20, .ref b21, .ref b22, .ref b23, .ref b24, .ref b25, .ref b26, .ref b27, .ref b28, .int b29, .ref b30, .ref b31, .int b32, .int b33, .int b34, .int b35, .ref b36, .ref b37, .ref b38, .ref b39, .ref b40, .ref b41, .ref b42, .int b43, .ref b44, .ref b45, .int b46, .ref b47, .ref b48, .ref b49, .ref b50, .ref b51, .int b52, .ref b53, .ref b54, .ref b55])), (b3, .inl (G.2 0, 503, .inl y_108)), (b4, .inl (G.2 0, 1006, .inl b57)), (b5, .inl (G.2 4, 2, .inl b58))] → va_S A s.heap H locs → lv_has ls 3 [(2, .int y_107), (0, .ref b0), (1, .int b1)] → W p l e m_s1_Model_again s m ([.ref b0, .int b1] : List Value).toArray below meth c H locs 0 0 (MQ below (zQ G (fun v w => ∃ (e0 : Int32), ∃ (e1 : Int32), ∃ (e2 : Nat → Int32), v = some (.int e0) ∧ w = [(b0, .inr (12, [.int 0, .ref b3, .ref b4, .ref b5, .ref b6, .int e1, .ref b8, .int b9, .int b10, .int b11, .int b12, .ref b13, .ref b14, .ref b15, .int b16, .ref b17, .ref b18, .ref b19, .ref b20, .ref b21, .ref b22, .ref b23, .ref b24, .ref b25, .ref b26, .ref b27, .ref b28, .int b29, .ref b30, .ref b31, .int b32, .int b33, .int b34, .int b35, .ref b36, .ref b37, .ref b38, .ref b39, .ref b40, .ref b41, .ref b42, .int b43, .ref b44, .ref b45, .int b46, .ref b47, .ref b48, .ref b49, .ref b50, .ref b51, .int b52, .ref b53, .ref b54, .ref b55])), (b3, .inl (G.2 0, 503, .inl e2)), (b4, .inl (G.2 0, 1006, .inl b57)), (b5, .inl (G.2 4, 2, .inl b58))] ∧ (zI e0 0 1) ∧ (zI e1 0 8) ∧ (zW5 e2)) A) ([.ref b0, .int b1] : List Value).toArray s m_s1_Model_again.cells m_s1_Model_again.slots A) (F0 m 28 ls []) by
        exact key 504 (0) (b56) _ _ _ (zI.wk (l' := 0) (h' := 503) zc_0 (by decide)) hb56 (zm_upi (zI.wk (l' := 0) (h' := 503) zc_0 (by decide)) (by decide)) hP hD hS (lv_sub hl [0, 1, 2] rfl)
      intro k_106
      induction k_106 with
      | zero =>
        intro y_107 y_108 H locs ls hy_107 hy_108 hmk_106 hP hD hS hl
        exact (zm_up0 hy_107 hmk_106).elim
      | succ k_106 ihk_106 =>
        intro y_107 y_108 H locs ls hy_107 hy_108 hmk_106 hP hD hS hl
        refine lv_iload_n hx hb d_Model_again_28 rfl (lv_at hl 0 rfl) ?_
        refine lv_sipush (v := 503) hx hb d_Model_again_29 (by decide) ?_
        refine lv_icmp_ge (tgt := 59) hx hb d_Model_again_32 (by decide) (fun hc_109 => ?_) (fun hc_109 => ?_)
        · have _nhc_109 := hc_109
          have ni_110 := (fa_le _ _).mp hc_109
          rw [li_503] at ni_110
          have hv_111 : zI y_107 503 503 := zI.le_r zc_503 hy_107 hc_109 (by decide)
          refine lv_aload_n hx hb d_Model_again_59 rfl (lv_at hl 1 rfl) ?_
          refine lv_iconst (v := 0) hx hb d_Model_again_60 (by decide) ?_
          refine va_put (D := G.1) (ci := 12) (v := .int 0) (ty := .int) (C := R_Model) (T := F_Model) (N := 54) hx hb hts i_Model t_Model t_Model_ok n_Model hown hK hP hD hS 0 rfl rfl 5 (by decide) (hts _ q1114) (fun _ h9 => h9) rfl (by decide +kernel) rfl rfl (Nat.le_of_ble_eq_true rfl) d_Model_again_61 (fun H locs hP hD hS => ?_)
          have hP : va_P G.1 classes [(b0, .inr (12, [.int 0, .ref b3, .ref b4, .ref b5, .ref b6, .int 0, .ref b8, .int b9, .int b10, .int b11, .int b12, .ref b13, .ref b14, .ref b15, .int b16, .ref b17, .ref b18, .ref b19, .ref b20, .ref b21, .ref b22, .ref b23, .ref b24, .ref b25, .ref b26, .ref b27, .ref b28, .int b29, .ref b30, .ref b31, .int b32, .int b33, .int b34, .int b35, .ref b36, .ref b37, .ref b38, .ref b39, .ref b40, .ref b41, .ref b42, .int b43, .ref b44, .ref b45, .int b46, .ref b47, .ref b48, .ref b49, .ref b50, .ref b51, .int b52, .ref b53, .ref b54, .ref b55])), (b3, .inl (G.2 0, 503, .inl y_108)), (b4, .inl (G.2 0, 1006, .inl b57)), (b5, .inl (G.2 4, 2, .inl b58))] H := hP
          have hD := z_tie hP hD rfl
          refine lv_iconst (v := 1) hx hb d_Model_again_64 (by decide) ?_
          exact z_zret hx hb hr hlocks rfl hP hD hS (Nat.le_of_ble_eq_true rfl) (Nat.le_of_ble_eq_true rfl) d_Model_again_65 ⟨1, 0, y_108, rfl, rfl, (zI.wk (l' := 0) (h' := 1) zc_1 (by decide)), (zI.wk (l' := 0) (h' := 8) zc_0 (by decide)), hy_108⟩
        · have _nhc_109 := hc_109
          have ni_112 := (fa_lt _ _).mp (zi_nle hc_109)
          rw [li_503] at ni_112
          have hv_113 : zI y_107 0 502 := zI.lt_l hy_107 zc_503 (zi_nle hc_109) (by decide)
          refine lv_aload_n hx hb d_Model_again_35 rfl (lv_at hl 1 rfl) ?_
          refine va_get (D := G.1) (ci := 12) (v := .ref b3) (C := R_Model) (T := F_Model) (N := 54) hx hb hts i_Model hown hK hP 0 rfl rfl 1 (by decide) (hts _ q1110) (fun _ h9 => h9) rfl d_Model_again_36 ?_
          refine lv_iload_n hx hb d_Model_again_39 rfl (lv_at hl 0 rfl) ?_
          refine lv_aload_n hx hb d_Model_again_40 rfl (lv_at hl 1 rfl) ?_
          refine va_get (D := G.1) (ci := 12) (v := .ref b4) (C := R_Model) (T := F_Model) (N := 54) hx hb hts i_Model hown hK hP 0 rfl rfl 2 (by decide) (hts _ q1111) (fun _ h9 => h9) rfl d_Model_again_41 ?_
          refine lv_sipush (v := 503) hx hb d_Model_again_44 (by decide) ?_
          refine lv_iload_n hx hb d_Model_again_47 rfl (lv_at hl 2 rfl) ?_
          refine lv_imul hx hb d_Model_again_48 ?_
          refine lv_topi (fun v_114 ev_114 => ?_)
          obtain ⟨qv_114, hv_114⟩ := zI_mul (l := 0) (h := 503) zc_503 hv_11 ev_114 (by decide)
          rw [li_503] at qv_114
          refine lv_iload_n hx hb d_Model_again_49 rfl (lv_at hl 0 rfl) ?_
          refine lv_iadd hx hb d_Model_again_50 ?_
          refine lv_topi (fun v_115 ev_115 => ?_)
          obtain ⟨qv_115, hv_115⟩ := zI_add (l := 0) (h := 1005) hv_114 hv_113 ev_115 (by decide)
          refine va_iald hx hb hK hP 2 0 rfl rfl (zI.inn hv_115 (by decide)) d_Model_again_51 ?_
          refine lv_topi (fun v_116 ev_116 => ?_)
          refine va_iast hx hb hK hP hD hS 1 0 rfl rfl (zI.inn hv_113 (by decide)) d_Model_again_52 (fun H locs hP hD hS => ?_)
          obtain ⟨f_117, hf_117, gf_117, hP, hD⟩ := z_newfw 1 hP hD rfl hy_108 (zRk_s hb57 ev_116 hv_115 hv_113 (by decide) (by omega))
          have hP : va_P G.1 classes [(b0, .inr (12, [.int 0, .ref b3, .ref b4, .ref b5, .ref b6, .int b7, .ref b8, .int b9, .int b10, .int b11, .int b12, .ref b13, .ref b14, .ref b15, .int b16, .ref b17, .ref b18, .ref b19, .ref b20, .ref b21, .ref b22, .ref b23, .ref b24, .ref b25, .ref b26, .ref b27, .ref b28, .int b29, .ref b30, .ref b31, .int b32, .int b33, .int b34, .int b35, .ref b36, .ref b37, .ref b38, .ref b39, .ref b40, .ref b41, .ref b42, .int b43, .ref b44, .ref b45, .int b46, .ref b47, .ref b48, .ref b49, .ref b50, .ref b51, .int b52, .ref b53, .ref b54, .ref b55])), (b3, .inl (G.2 0, 503, .inl f_117)), (b4, .inl (G.2 0, 1006, .inl b57)), (b5, .inl (G.2 4, 2, .inl b58))] H := hP
          have hD := z_tie hP hD rfl
          obtain ⟨v_118, ev_118⟩ : ∃ z : Int32, z = y_107 + 1 := ⟨_, rfl⟩
          obtain ⟨qv_118, hv_118⟩ := zI_add (l := 1) (h := 503) hv_113 zc_1 ev_118 (by decide)
          rw [li_1] at qv_118
          refine lv_iinc (v := v_118) (lv' := [(2, .int v_118), (0, .ref b0), (1, .int b1)]) hx hb d_Model_again_53 hl (k := 0) rfl (by rw [ev_118]; rfl) (by decide) rfl (fun ls hl => ?_)
          refine lv_goto (tgt := 28) hx hb d_Model_again_56 (by decide) ?_
          exact ihk_106 (v_118) (f_117) _ _ _ (zI.wk (l' := 0) (h' := 503) hv_118 (by decide)) hf_117 (zm_up qv_118 hmk_106 (by decide)) hP hD hS (lv_sub hl [0, 1, 2] rfl)
    · have _nhc_13 := hc_13
      have ni_119 := (fa_eq _ _).mp hc_13
      rw [li_0] at ni_119
      have hv_120 : zI v_12 0 0 := zI.eq_l (zI_all v_12) zc_0 hc_13
      refine lv_iconst (v := 0) hx hb d_Model_again_24 (by decide) ?_
      exact z_zret hx hb hr hlocks rfl hP hD hS (Nat.le_of_ble_eq_true rfl) (Nat.le_of_ble_eq_true rfl) d_Model_again_25 ⟨0, b7, b56, rfl, rfl, (zI.wk (l' := 0) (h' := 1) zc_0 (by decide)), hb7, hb56⟩
theorem d_Model_start_0 : decode prog_14_method_46_code 0 = .ok (.iconst 0, 1) := by decide +kernel
theorem d_Model_start_1 : decode prog_14_method_46_code 1 = .ok (.istore_n 2, 1) := by decide +kernel
theorem d_Model_start_2 : decode prog_14_method_46_code 2 = .ok (.iload_n 2, 1) := by decide +kernel
theorem d_Model_start_3 : decode prog_14_method_46_code 3 = .ok (.iconst 4, 1) := by decide +kernel
theorem d_Model_start_4 : decode prog_14_method_46_code 4 = .ok (.if_icmp .ge 16, 3) := by decide +kernel
theorem d_Model_start_7 : decode prog_14_method_46_code 7 = .ok (.aload_n 0, 1) := by decide +kernel
theorem d_Model_start_8 : decode prog_14_method_46_code 8 = .ok (.getfield 76, 3) := by decide +kernel
theorem d_Model_start_11 : decode prog_14_method_46_code 11 = .ok (.iload_n 2, 1) := by decide +kernel
theorem d_Model_start_12 : decode prog_14_method_46_code 12 = .ok (.lconst 0, 1) := by decide +kernel
theorem d_Model_start_13 : decode prog_14_method_46_code 13 = .ok (.lastore, 1) := by decide +kernel
theorem d_Model_start_14 : decode prog_14_method_46_code 14 = .ok (.iinc 2 1, 3) := by decide +kernel
theorem d_Model_start_17 : decode prog_14_method_46_code 17 = .ok (.goto (-15), 3) := by decide +kernel
theorem d_Model_start_20 : decode prog_14_method_46_code 20 = .ok (.aload_n 0, 1) := by decide +kernel
theorem d_Model_start_21 : decode prog_14_method_46_code 21 = .ok (.getfield 76, 3) := by decide +kernel
theorem d_Model_start_24 : decode prog_14_method_46_code 24 = .ok (.iconst 0, 1) := by decide +kernel
theorem d_Model_start_25 : decode prog_14_method_46_code 25 = .ok (.aload_n 0, 1) := by decide +kernel
theorem d_Model_start_26 : decode prog_14_method_46_code 26 = .ok (.getfield 58, 3) := by decide +kernel
theorem d_Model_start_29 : decode prog_14_method_46_code 29 = .ok (.iload_n 1, 1) := by decide +kernel
theorem d_Model_start_30 : decode prog_14_method_46_code 30 = .ok (.iaload, 1) := by decide +kernel
theorem d_Model_start_31 : decode prog_14_method_46_code 31 = .ok (.ifCond .le 7, 3) := by decide +kernel
theorem d_Model_start_34 : decode prog_14_method_46_code 34 = .ok (.lconst 1, 1) := by decide +kernel
theorem d_Model_start_35 : decode prog_14_method_46_code 35 = .ok (.goto 4, 3) := by decide +kernel
theorem d_Model_start_38 : decode prog_14_method_46_code 38 = .ok (.lconst 0, 1) := by decide +kernel
theorem d_Model_start_39 : decode prog_14_method_46_code 39 = .ok (.lastore, 1) := by decide +kernel
theorem d_Model_start_40 : decode prog_14_method_46_code 40 = .ok (.return_, 1) := by decide +kernel
abbrev m_s1_Model_start : Room := { frames := 0, cells := 0, slots := 0, locals := 0 }
set_option maxHeartbeats 4000000 in
set_option maxRecDepth 100000 in
theorem s1_Model_start (l : Launch) (G : zG) (b0 : Nat) (b1 : Int32) (b2 : Int32) (b3 : Nat) (b4 : Nat) (b5 : Nat) (b6 : Nat) (b7 : Int32) (b8 : Nat) (b9 : Int32) (b10 : Int32) (b11 : Int32) (b12 : Int32) (b13 : Nat) (b14 : Nat) (b15 : Nat) (b16 : Int32) (b17 : Nat) (b18 : Nat) (b19 : Nat) (b20 : Nat) (b21 : Nat) (b22 : Nat) (b23 : Nat) (b24 : Nat) (b25 : Nat) (b26 : Nat) (b27 : Nat) (b28 : Nat) (b29 : Int32) (b30 : Nat) (b31 : Nat) (b32 : Int32) (b33 : Int32) (b34 : Int32) (b35 : Int32) (b36 : Nat) (b37 : Nat) (b38 : Nat) (b39 : Nat) (b40 : Nat) (b41 : Nat) (b42 : Nat) (b43 : Int32) (b44 : Nat) (b45 : Nat) (b46 : Int32) (b47 : Nat) (b48 : Nat) (b49 : Nat) (b50 : Nat) (b51 : Nat) (b52 : Int32) (b53 : Nat) (b54 : Nat) (b55 : Nat) (b56 : Nat → Int32) (b57 : Nat → Int64) (hb1 : zI b1 0 1) (hb7 : zI b7 0 8) (hb9 : zI b9 0 240) (hb10 : zI b10 0 240) (hb12 : zI b12 0 1) (hb16 : zI b16 0 12) (hb29 : zI b29 0 1) (hb32 : zI b32 0 1) (hb56 : zR b56 0 241) : zM l G y_Model_start prog_14_method_46_code 3 (Option.none : Option Jvm.ClassFile.FieldType) m_s1_Model_start [.ref b0, .int b1] [(b0, .inr (12, [.int b2, .ref b3, .ref b4, .ref b5, .ref b6, .int b7, .ref b8, .int b9, .int b10, .int b11, .int b12, .ref b13, .ref b14, .ref b15, .int b16, .ref b17, .ref b18, .ref b19, .ref b20, .ref b21, .ref b22, .ref b23, .ref b24, .ref b25, .ref b26, .ref b27, .ref b28, .int b29, .ref b30, .ref b31, .int b32, .int b33, .int b34, .int b35, .ref b36, .ref b37, .ref b38, .ref b39, .ref b40, .ref b41, .ref b42, .int b43, .ref b44, .ref b45, .int b46, .ref b47, .ref b48, .ref b49, .ref b50, .ref b51, .int b52, .ref b53, .ref b54, .ref b55])), (b23, .inl (G.2 0, 2, .inl b56)), (b30, .inl (G.2 1, 4, .inr (.inl b57)))] (fun v w => ∃ (e0 : Nat → Int64), v = none ∧ w = [(b0, .inr (12, [.int b2, .ref b3, .ref b4, .ref b5, .ref b6, .int b7, .ref b8, .int b9, .int b10, .int b11, .int b12, .ref b13, .ref b14, .ref b15, .int b16, .ref b17, .ref b18, .ref b19, .ref b20, .ref b21, .ref b22, .ref b23, .ref b24, .ref b25, .ref b26, .ref b27, .ref b28, .int b29, .ref b30, .ref b31, .int b32, .int b33, .int b34, .int b35, .ref b36, .ref b37, .ref b38, .ref b39, .ref b40, .ref b41, .ref b42, .int b43, .ref b44, .ref b45, .int b46, .ref b47, .ref b48, .ref b49, .ref b50, .ref b51, .int b52, .ref b53, .ref b54, .ref b55])), (b23, .inl (G.2 0, 2, .inl b56)), (b30, .inl (G.2 1, 4, .inr (.inl e0)))]) := by
  refine z_start (by decide +kernel) (Nat.le_of_ble_eq_true rfl) ?_
  intro p e s m below meth c A Z hr hnm hA hP hD hS ls hl
  have Z : zC p s m _ meth c prog_14_method_46_code 3 "TraceMachinesModel" G := Z
  obtain ⟨hx, hb, hml, hown, hts, hK, hN, hlocks⟩ := id Z
  have hl : lv_has ls 3 [(0, .ref b0), (1, .int b1)] := hl
  refine lv_iconst (v := 0) hx hb d_Model_start_0 (by decide) ?_
  refine lv_istore_n (lv' := [(2, .int 0), (0, .ref b0), (1, .int b1)]) hx hb d_Model_start_1 rfl hl (by decide) rfl (fun ls hl => ?_)
  suffices key : ∀ (k_48 : Nat) (y_49 : Int32) (y_50 : Nat → Int64) (H : Heap) (locs : List Loc) (ls : Array Slot), (zI y_49 0 4) → (4 : Int) - y_49.toInt < (k_48 : Int) → va_P G.1 classes [(b0, .inr (12, [.int b2, .ref b3, .ref b4, .ref b5, .ref b6, .int b7, .ref b8, .int b9, .int b10, .int b11, .int b12, .ref b13, .ref b14, .ref b15, .int b16, .ref b17, .ref b18, .ref b19, .ref b20, .ref b21, .ref b22, .ref b23, .ref b24, .ref b25, .ref b26, .ref b27, .ref b28, .int b29, .ref b30, .ref b31, .int b32, .int b33, .int b34, .int b35, .ref b36, .ref b37, .ref b38, .ref b39, .ref b40, .ref b41, .ref b42, .int b43, .ref b44, .ref b45, .int b46, .ref b47, .ref b48, .ref b49, .ref b50, .ref b51, .int b52, .ref b53, .ref b54, .ref b55])), (b23, .inl (G.2 0, 2, .inl b56)), (b30, .inl (G.2 1, 4, .inr (.inl y_50)))] H → va_D A [(b0, .inr (12, [.int b2, .ref b3, .ref b4, .ref b5, .ref b6, .int b7, .ref b8, .int b9, .int b10, .int b11, .int b12, .ref b13, .ref b14, .ref b15, .int b16, .ref b17, .ref b18, .ref b19, .ref b20, .ref b21, .ref b22, .ref b23, .ref b24, .ref b25, .ref b26, .ref b27, .ref b28, .int b29, .ref b30, .ref b31, .int b32, .int b33, .int b34, .int b35, .ref b36, .ref b37, .ref b38, .ref b39, .ref b40, .ref b41, .ref b42, .int b43, .ref b44, .ref b45, .int b46, .ref b47, .ref b48, .ref b49, .ref b50, .ref b51, .int b52, .ref b53, .ref b54, .ref b55])), (b23, .inl (G.2 0, 2, .inl b56)), (b30, .inl (G.2 1, 4, .inr (.inl y_50)))] → va_S A s.heap H locs → lv_has ls 3 [(2, .int y_49), (0, .ref b0), (1, .int b1)] → W p l e m_s1_Model_start s m ([.ref b0, .int b1] : List Value).toArray below meth c H locs 0 0 (MQ below (zQ G (fun v w => ∃ (e0 : Nat → Int64), v = none ∧ w = [(b0, .inr (12, [.int b2, .ref b3, .ref b4, .ref b5, .ref b6, .int b7, .ref b8, .int b9, .int b10, .int b11, .int b12, .ref b13, .ref b14, .ref b15, .int b16, .ref b17, .ref b18, .ref b19, .ref b20, .ref b21, .ref b22, .ref b23, .ref b24, .ref b25, .ref b26, .ref b27, .ref b28, .int b29, .ref b30, .ref b31, .int b32, .int b33, .int b34, .int b35, .ref b36, .ref b37, .ref b38, .ref b39, .ref b40, .ref b41, .ref b42, .int b43, .ref b44, .ref b45, .int b46, .ref b47, .ref b48, .ref b49, .ref b50, .ref b51, .int b52, .ref b53, .ref b54, .ref b55])), (b23, .inl (G.2 0, 2, .inl b56)), (b30, .inl (G.2 1, 4, .inr (.inl e0)))]) A) ([.ref b0, .int b1] : List Value).toArray s m_s1_Model_start.cells m_s1_Model_start.slots A) (F0 m 2 ls []) by
    exact key 5 (0) (b57) _ _ _ (zI.wk (l' := 0) (h' := 4) zc_0 (by decide)) (zm_upi (zI.wk (l' := 0) (h' := 4) zc_0 (by decide)) (by decide)) hP hD hS (lv_sub hl [0, 1, 2] rfl)
  intro k_48
  induction k_48 with
  | zero =>
    intro y_49 y_50 H locs ls hy_49 hmk_48 hP hD hS hl
    exact (zm_up0 hy_49 hmk_48).elim
  | succ k_48 ihk_48 =>
    intro y_49 y_50 H locs ls hy_49 hmk_48 hP hD hS hl
    refine lv_iload_n hx hb d_Model_start_2 rfl (lv_at hl 0 rfl) ?_
    refine lv_iconst (v := 4) hx hb d_Model_start_3 (by decide) ?_
    refine lv_icmp_ge (tgt := 20) hx hb d_Model_start_4 (by decide) (fun hc_51 => ?_) (fun hc_51 => ?_)
    · have _nhc_51 := hc_51
      have ni_52 := (fa_le _ _).mp hc_51
      rw [li_4] at ni_52
      have hv_53 : zI y_49 4 4 := zI.le_r zc_4 hy_49 hc_51 (by decide)
      refine lv_aload_n hx hb d_Model_start_20 rfl (lv_at hl 1 rfl) ?_
      refine va_get (D := G.1) (ci := 12) (v := .ref b30) (C := R_Model) (T := F_Model) (N := 54) hx hb hts i_Model hown hK hP 0 rfl rfl 28 (by decide) (hts _ q1137) (fun _ h9 => h9) rfl d_Model_start_21 ?_
      refine lv_iconst (v := 0) hx hb d_Model_start_24 (by decide) ?_
      refine lv_aload_n hx hb d_Model_start_25 rfl (lv_at hl 1 rfl) ?_
      refine va_get (D := G.1) (ci := 12) (v := .ref b23) (C := R_Model) (T := F_Model) (N := 54) hx hb hts i_Model hown hK hP 0 rfl rfl 21 (by decide) (hts _ q1130) (fun _ h9 => h9) rfl d_Model_start_26 ?_
      refine lv_iload_n hx hb d_Model_start_29 rfl (lv_at hl 2 rfl) ?_
      refine va_iald hx hb hK hP 1 0 rfl rfl (zI.inn hb1 (by decide)) d_Model_start_30 ?_
      refine lv_topi (fun v_54 ev_54 => ?_)
      have hv_54 : zI v_54 0 241 := (hb56 _).eq ev_54
      refine lv_if_le (tgt := 38) hx hb d_Model_start_31 (by decide) (fun hc_55 => ?_) (fun hc_55 => ?_)
      · have _nhc_55 := hc_55
        have ni_56 := (fa_le _ _).mp hc_55
        rw [li_0] at ni_56
        have hv_57 : zI v_54 0 0 := zI.le_l hv_54 zc_0 hc_55 (by decide)
        refine lv_lconst (v := 0) hx hb d_Model_start_38 (by decide) ?_
        refine va_last hx hb hK hP hD hS 2 1 rfl rfl (i := 0) (z_in rfl) d_Model_start_39 (fun H locs hP hD hS => ?_)
        obtain ⟨f_58, hP, hD⟩ := z_newL 2 hP hD rfl
        have hP : va_P G.1 classes [(b0, .inr (12, [.int b2, .ref b3, .ref b4, .ref b5, .ref b6, .int b7, .ref b8, .int b9, .int b10, .int b11, .int b12, .ref b13, .ref b14, .ref b15, .int b16, .ref b17, .ref b18, .ref b19, .ref b20, .ref b21, .ref b22, .ref b23, .ref b24, .ref b25, .ref b26, .ref b27, .ref b28, .int b29, .ref b30, .ref b31, .int b32, .int b33, .int b34, .int b35, .ref b36, .ref b37, .ref b38, .ref b39, .ref b40, .ref b41, .ref b42, .int b43, .ref b44, .ref b45, .int b46, .ref b47, .ref b48, .ref b49, .ref b50, .ref b51, .int b52, .ref b53, .ref b54, .ref b55])), (b23, .inl (G.2 0, 2, .inl b56)), (b30, .inl (G.2 1, 4, .inr (.inl f_58)))] H := hP
        have hD := z_tie hP hD rfl
        exact z_vret hx hb hr hlocks hP hD hS (Nat.le_of_ble_eq_true rfl) (Nat.le_of_ble_eq_true rfl) d_Model_start_40 ⟨f_58, rfl, rfl⟩
      · have _nhc_55 := hc_55
        have ni_59 := (fa_lt _ _).mp (zi_nle hc_55)
        rw [li_0] at ni_59
        have hv_60 : zI v_54 1 241 := zI.lt_r zc_0 hv_54 (zi_nle hc_55) (by decide)
        refine lv_lconst (v := 1) hx hb d_Model_start_34 (by decide) ?_
        refine lv_goto (tgt := 39) hx hb d_Model_start_35 (by decide) ?_
        refine va_last hx hb hK hP hD hS 2 1 rfl rfl (i := 0) (z_in rfl) d_Model_start_39 (fun H locs hP hD hS => ?_)
        obtain ⟨f_61, hP, hD⟩ := z_newL 2 hP hD rfl
        have hP : va_P G.1 classes [(b0, .inr (12, [.int b2, .ref b3, .ref b4, .ref b5, .ref b6, .int b7, .ref b8, .int b9, .int b10, .int b11, .int b12, .ref b13, .ref b14, .ref b15, .int b16, .ref b17, .ref b18, .ref b19, .ref b20, .ref b21, .ref b22, .ref b23, .ref b24, .ref b25, .ref b26, .ref b27, .ref b28, .int b29, .ref b30, .ref b31, .int b32, .int b33, .int b34, .int b35, .ref b36, .ref b37, .ref b38, .ref b39, .ref b40, .ref b41, .ref b42, .int b43, .ref b44, .ref b45, .int b46, .ref b47, .ref b48, .ref b49, .ref b50, .ref b51, .int b52, .ref b53, .ref b54, .ref b55])), (b23, .inl (G.2 0, 2, .inl b56)), (b30, .inl (G.2 1, 4, .inr (.inl f_61)))] H := hP
        have hD := z_tie hP hD rfl
        exact z_vret hx hb hr hlocks hP hD hS (Nat.le_of_ble_eq_true rfl) (Nat.le_of_ble_eq_true rfl) d_Model_start_40 ⟨f_61, rfl, rfl⟩
    · have _nhc_51 := hc_51
      have ni_62 := (fa_lt _ _).mp (zi_nle hc_51)
      rw [li_4] at ni_62
      have hv_63 : zI y_49 0 3 := zI.lt_l hy_49 zc_4 (zi_nle hc_51) (by decide)
      refine lv_aload_n hx hb d_Model_start_7 rfl (lv_at hl 1 rfl) ?_
      refine va_get (D := G.1) (ci := 12) (v := .ref b30) (C := R_Model) (T := F_Model) (N := 54) hx hb hts i_Model hown hK hP 0 rfl rfl 28 (by decide) (hts _ q1137) (fun _ h9 => h9) rfl d_Model_start_8 ?_
      refine lv_iload_n hx hb d_Model_start_11 rfl (lv_at hl 0 rfl) ?_
      refine lv_lconst (v := 0) hx hb d_Model_start_12 (by decide) ?_
      refine va_last hx hb hK hP hD hS 2 1 rfl rfl (zI.inn hv_63 (by decide)) d_Model_start_13 (fun H locs hP hD hS => ?_)
      obtain ⟨f_64, hP, hD⟩ := z_newL 2 hP hD rfl
      have hP : va_P G.1 classes [(b0, .inr (12, [.int b2, .ref b3, .ref b4, .ref b5, .ref b6, .int b7, .ref b8, .int b9, .int b10, .int b11, .int b12, .ref b13, .ref b14, .ref b15, .int b16, .ref b17, .ref b18, .ref b19, .ref b20, .ref b21, .ref b22, .ref b23, .ref b24, .ref b25, .ref b26, .ref b27, .ref b28, .int b29, .ref b30, .ref b31, .int b32, .int b33, .int b34, .int b35, .ref b36, .ref b37, .ref b38, .ref b39, .ref b40, .ref b41, .ref b42, .int b43, .ref b44, .ref b45, .int b46, .ref b47, .ref b48, .ref b49, .ref b50, .ref b51, .int b52, .ref b53, .ref b54, .ref b55])), (b23, .inl (G.2 0, 2, .inl b56)), (b30, .inl (G.2 1, 4, .inr (.inl f_64)))] H := hP
      have hD := z_tie hP hD rfl
      obtain ⟨v_65, ev_65⟩ : ∃ z : Int32, z = y_49 + 1 := ⟨_, rfl⟩
      obtain ⟨qv_65, hv_65⟩ := zI_add (l := 1) (h := 4) hv_63 zc_1 ev_65 (by decide)
      rw [li_1] at qv_65
      refine lv_iinc (v := v_65) (lv' := [(2, .int v_65), (0, .ref b0), (1, .int b1)]) hx hb d_Model_start_14 hl (k := 0) rfl (by rw [ev_65]; rfl) (by decide) rfl (fun ls hl => ?_)
      refine lv_goto (tgt := 2) hx hb d_Model_start_17 (by decide) ?_
      exact ihk_48 (v_65) (f_64) _ _ _ (zI.wk (l' := 0) (h' := 4) hv_65 (by decide)) (zm_up qv_65 hmk_48 (by decide)) hP hD hS (lv_sub hl [0, 1, 2] rfl)
theorem d_Model_rule_0 : decode prog_14_method_80_code 0 = .ok (.aload_n 0, 1) := by decide +kernel
theorem d_Model_rule_1 : decode prog_14_method_80_code 1 = .ok (.iconst 0, 1) := by decide +kernel
theorem d_Model_rule_2 : decode prog_14_method_80_code 2 = .ok (.putfield 1, 3) := by decide +kernel
theorem d_Model_rule_5 : decode prog_14_method_80_code 5 = .ok (.iload_n 1, 1) := by decide +kernel
theorem d_Model_rule_6 : decode prog_14_method_80_code 6 = .ok (.i2l, 1) := by decide +kernel
theorem d_Model_rule_7 : decode prog_14_method_80_code 7 = .ok (.lconst 0, 1) := by decide +kernel
theorem d_Model_rule_8 : decode prog_14_method_80_code 8 = .ok (.ldc2_w 263, 3) := by decide +kernel
theorem d_Model_rule_11 : decode prog_14_method_80_code 11 = .ok (.invokestatic 138, 3) := by decide +kernel
theorem d_Model_rule_14 : decode prog_14_method_80_code 14 = .ok (.ifCond .eq 33, 3) := by decide +kernel
theorem d_Model_rule_17 : decode prog_14_method_80_code 17 = .ok (.iload_n 2, 1) := by decide +kernel
theorem d_Model_rule_18 : decode prog_14_method_80_code 18 = .ok (.invokestatic 391, 3) := by decide +kernel
theorem d_Model_rule_21 : decode prog_14_method_80_code 21 = .ok (.ifCond .eq 26, 3) := by decide +kernel
theorem d_Model_rule_24 : decode prog_14_method_80_code 24 = .ok (.iload_n 3, 1) := by decide +kernel
theorem d_Model_rule_25 : decode prog_14_method_80_code 25 = .ok (.invokestatic 391, 3) := by decide +kernel
theorem d_Model_rule_28 : decode prog_14_method_80_code 28 = .ok (.ifCond .eq 19, 3) := by decide +kernel
theorem d_Model_rule_31 : decode prog_14_method_80_code 31 = .ok (.iload_n 2, 1) := by decide +kernel
theorem d_Model_rule_32 : decode prog_14_method_80_code 32 = .ok (.iload_n 3, 1) := by decide +kernel
theorem d_Model_rule_33 : decode prog_14_method_80_code 33 = .ok (.if_icmp .eq 14, 3) := by decide +kernel
theorem d_Model_rule_36 : decode prog_14_method_80_code 36 = .ok (.iload 4, 2) := by decide +kernel
theorem d_Model_rule_38 : decode prog_14_method_80_code 38 = .ok (.i2l, 1) := by decide +kernel
theorem d_Model_rule_39 : decode prog_14_method_80_code 39 = .ok (.lconst 0, 1) := by decide +kernel
theorem d_Model_rule_40 : decode prog_14_method_80_code 40 = .ok (.lconst 1, 1) := by decide +kernel
theorem d_Model_rule_41 : decode prog_14_method_80_code 41 = .ok (.invokestatic 138, 3) := by decide +kernel
theorem d_Model_rule_44 : decode prog_14_method_80_code 44 = .ok (.ifCond .ne 5, 3) := by decide +kernel
theorem d_Model_rule_47 : decode prog_14_method_80_code 47 = .ok (.iconst (-1), 1) := by decide +kernel
theorem d_Model_rule_48 : decode prog_14_method_80_code 48 = .ok (.ireturn, 1) := by decide +kernel
theorem d_Model_rule_49 : decode prog_14_method_80_code 49 = .ok (.aload_n 0, 1) := by decide +kernel
theorem d_Model_rule_50 : decode prog_14_method_80_code 50 = .ok (.iload_n 1, 1) := by decide +kernel
theorem d_Model_rule_51 : decode prog_14_method_80_code 51 = .ok (.iload_n 2, 1) := by decide +kernel
theorem d_Model_rule_52 : decode prog_14_method_80_code 52 = .ok (.iload_n 3, 1) := by decide +kernel
theorem d_Model_rule_53 : decode prog_14_method_80_code 53 = .ok (.iload 4, 2) := by decide +kernel
theorem d_Model_rule_55 : decode prog_14_method_80_code 55 = .ok (.iconst 1, 1) := by decide +kernel
theorem d_Model_rule_56 : decode prog_14_method_80_code 56 = .ok (.if_icmp .ne 7, 3) := by decide +kernel
theorem d_Model_rule_59 : decode prog_14_method_80_code 59 = .ok (.iconst 1, 1) := by decide +kernel
theorem d_Model_rule_60 : decode prog_14_method_80_code 60 = .ok (.goto 4, 3) := by decide +kernel
theorem d_Model_rule_63 : decode prog_14_method_80_code 63 = .ok (.iconst 0, 1) := by decide +kernel
theorem d_Model_rule_64 : decode prog_14_method_80_code 64 = .ok (.invokevirtual 394, 3) := by decide +kernel
theorem d_Model_isLetter_0 : decode prog_14_method_79_code 0 = .ok (.iload_n 0, 1) := by decide +kernel
theorem d_Model_isLetter_1 : decode prog_14_method_79_code 1 = .ok (.i2l, 1) := by decide +kernel
theorem d_Model_isLetter_2 : decode prog_14_method_79_code 2 = .ok (.lconst 0, 1) := by decide +kernel
theorem d_Model_isLetter_3 : decode prog_14_method_79_code 3 = .ok (.ldc2_w 389, 3) := by decide +kernel
theorem d_Model_isLetter_6 : decode prog_14_method_79_code 6 = .ok (.invokestatic 138, 3) := by decide +kernel
theorem d_Model_isLetter_9 : decode prog_14_method_79_code 9 = .ok (.ireturn, 1) := by decide +kernel
theorem ll_5 : (5 : Int64).toInt = 5 := by decide +kernel
theorem zcl_5 : zJ 5 5 5 := ⟨by decide +kernel, by decide +kernel⟩
theorem ll_9 : (9 : Int64).toInt = 9 := by decide +kernel
theorem zcl_9 : zJ 9 9 9 := ⟨by decide +kernel, by decide +kernel⟩
abbrev m_s2_Model_isLetter : Room := { frames := 1, cells := 0, slots := 0, locals := 25 }
set_option maxHeartbeats 4000000 in
set_option maxRecDepth 100000 in
theorem s2_Model_isLetter (l : Launch) (G : zG) (b0 : Int32)  : zM l G y_Model_isLetter prog_14_method_79_code 1 (Option.some Jvm.ClassFile.FieldType.boolean) m_s2_Model_isLetter [.int b0] [] (fun v w => ∃ (e0 : Int32), v = some (.int e0) ∧ w = [] ∧ (zI e0 0 1)) := by
  refine z_start (by decide +kernel) (Nat.le_of_ble_eq_true rfl) ?_
  intro p e s m below meth c A Z hr hnm hA hP hD hS ls hl
  have Z : zC p s m _ meth c prog_14_method_79_code 1 "TraceMachinesModel" G := Z
  obtain ⟨hx, hb, hml, hown, hts, hK, hN, hlocks⟩ := id Z
  have hl : lv_has ls 1 [(0, .int b0)] := hl
  refine lv_iload_n hx hb d_Model_isLetter_0 rfl (lv_at hl 0 rfl) ?_
  refine lv_i2l (v := b0.toInt64) hx hb d_Model_isLetter_1 rfl ?_
  refine lv_lconst (v := 0) hx hb d_Model_isLetter_2 (by decide) ?_
  refine lv_ldc2 hx hb hown (hts _ q1552) d_Model_isLetter_3 ?_
  refine z_callS (index := 138) (As := [.long b0.toInt64, .long 0, .long 9]) (rest := []) (wr := []) Z (s2_Model_in l G (b0.toInt64) (0) (9)) hl.1 q1281 q1282 q14 q1283 ⟨by decide, by decide, by show _ = some 3; decide +kernel⟩ ⟨Nat.le_of_ble_eq_true rfl, Nat.le_of_ble_eq_true rfl⟩ ⟨Nat.le_of_ble_eq_true rfl, Nat.le_of_ble_eq_true rfl⟩ rfl (Nat.le_of_ble_eq_true rfl) d_Model_isLetter_6 hP hD hS hA [] [] rfl rfl rfl rfl (by decide) (fun v w1 H locs hw_1 hP hD hS => ?_)
  rcases hw_1 with ⟨rfl, rfl, hq_2⟩ | ⟨rfl, rfl, hq_3, hq_4⟩ | ⟨rfl, rfl, hq_5, hq_6⟩
  · have hP : va_P G.1 classes [] H := hP
    have hD := z_tie hP hD rfl
    try simp only [Int32.toInt_toInt64, ll_0] at hq_2
    have hv_7 : zI b0 (-2147483648) (-1) := by have _a := hq_2; have _b := (zI_all b0); have _c := zcl_0; simp only [Int32.toInt_toInt64] at *; exact ⟨by omega, by omega⟩
    refine W.widen (k := 0) (n := 0) (Nat.le_of_ble_eq_true rfl) (Nat.le_of_ble_eq_true rfl) ?_
    exact z_zret hx hb hr hlocks rfl hP hD hS (Nat.le_of_ble_eq_true rfl) (Nat.le_of_ble_eq_true rfl) d_Model_isLetter_9 ⟨0, rfl, rfl, (zI.wk (l' := 0) (h' := 1) zc_0 (by decide))⟩
  · have hP : va_P G.1 classes [] H := hP
    have hD := z_tie hP hD rfl
    try simp only [Int32.toInt_toInt64, ll_0] at hq_3
    have hv_8 : zI b0 0 2147483647 := by have _a := hq_3; have _b := (zI_all b0); have _c := zcl_0; simp only [Int32.toInt_toInt64] at *; exact ⟨by omega, by omega⟩
    try simp only [Int32.toInt_toInt64, ll_9] at hq_4
    have hv_9 : zI b0 10 2147483647 := by have _a := hq_4; have _b := hv_8; have _c := zcl_9; simp only [Int32.toInt_toInt64] at *; exact ⟨by omega, by omega⟩
    refine W.widen (k := 0) (n := 0) (Nat.le_of_ble_eq_true rfl) (Nat.le_of_ble_eq_true rfl) ?_
    exact z_zret hx hb hr hlocks rfl hP hD hS (Nat.le_of_ble_eq_true rfl) (Nat.le_of_ble_eq_true rfl) d_Model_isLetter_9 ⟨0, rfl, rfl, (zI.wk (l' := 0) (h' := 1) zc_0 (by decide))⟩
  · have hP : va_P G.1 classes [] H := hP
    have hD := z_tie hP hD rfl
    try simp only [Int32.toInt_toInt64, ll_0] at hq_5
    have hv_10 : zI b0 0 2147483647 := by have _a := hq_5; have _b := (zI_all b0); have _c := zcl_0; simp only [Int32.toInt_toInt64] at *; exact ⟨by omega, by omega⟩
    try simp only [Int32.toInt_toInt64, ll_9] at hq_6
    have hv_11 : zI b0 0 9 := by have _a := hq_6; have _b := hv_10; have _c := zcl_9; simp only [Int32.toInt_toInt64] at *; exact ⟨by omega, by omega⟩
    refine W.widen (k := 0) (n := 0) (Nat.le_of_ble_eq_true rfl) (Nat.le_of_ble_eq_true rfl) ?_
    exact z_zret hx hb hr hlocks rfl hP hD hS (Nat.le_of_ble_eq_true rfl) (Nat.le_of_ble_eq_true rfl) d_Model_isLetter_9 ⟨1, rfl, rfl, (zI.wk (l' := 0) (h' := 1) zc_1 (by decide))⟩
theorem d_Model_rule_67 : decode prog_14_method_80_code 67 = .ok (.ireturn, 1) := by decide +kernel
abbrev m_s1_Model_rule : Room := { frames := 4, cells := 0, slots := 0, locals := 99 }
set_option maxHeartbeats 4000000 in
set_option maxRecDepth 100000 in
theorem s1_Model_rule (l : Launch) (G : zG) (b0 : Nat) (b1 : Int32) (b2 : Int32) (b3 : Int32) (b4 : Int32) (b5 : Int32) (b6 : Nat) (b7 : Nat) (b8 : Nat) (b9 : Nat) (b10 : Int32) (b11 : Nat) (b12 : Int32) (b13 : Int32) (b14 : Int32) (b15 : Int32) (b16 : Nat) (b17 : Nat) (b18 : Nat) (b19 : Int32) (b20 : Nat) (b21 : Nat) (b22 : Nat) (b23 : Nat) (b24 : Nat) (b25 : Nat) (b26 : Nat) (b27 : Nat) (b28 : Nat) (b29 : Nat) (b30 : Nat) (b31 : Nat) (b32 : Int32) (b33 : Nat) (b34 : Nat) (b35 : Int32) (b36 : Int32) (b37 : Int32) (b38 : Int32) (b39 : Nat) (b40 : Nat) (b41 : Nat) (b42 : Nat) (b43 : Nat) (b44 : Nat) (b45 : Nat) (b46 : Int32) (b47 : Nat) (b48 : Nat) (b49 : Int32) (b50 : Nat) (b51 : Nat) (b52 : Nat) (b53 : Nat) (b54 : Nat) (b55 : Int32) (b56 : Nat) (b57 : Nat) (b58 : Nat) (b59 : Nat → Int32) (hb10 : zI b10 0 8) (hb12 : zI b12 0 240) (hb13 : zI b13 0 240) (hb15 : zI b15 0 1) (hb19 : zI b19 0 12) (hb32 : zI b32 0 1) (hb35 : zI b35 0 1) (hb59 : zW5 b59) : zM l G y_Model_rule prog_14_method_80_code 5 (Option.some Jvm.ClassFile.FieldType.int) m_s1_Model_rule [.ref b0, .int b1, .int b2, .int b3, .int b4] [(b0, .inr (12, [.int b5, .ref b6, .ref b7, .ref b8, .ref b9, .int b10, .ref b11, .int b12, .int b13, .int b14, .int b15, .ref b16, .ref b17, .ref b18, .int b19, .ref b20, .ref b21, .ref b22, .ref b23, .ref b24, .ref b25, .ref b26, .ref b27, .ref b28, .ref b29, .ref b30, .ref b31, .int b32, .ref b33, .ref b34, .int b35, .int b36, .int b37, .int b38, .ref b39, .ref b40, .ref b41, .ref b42, .ref b43, .ref b44, .ref b45, .int b46, .ref b47, .ref b48, .int b49, .ref b50, .ref b51, .ref b52, .ref b53, .ref b54, .int b55, .ref b56, .ref b57, .ref b58])), (b6, .inl (G.2 0, 503, .inl b59))] (fun v w => ∃ (e0 : Int32), v = some (.int e0) ∧ w = [(b0, .inr (12, [.int 0, .ref b6, .ref b7, .ref b8, .ref b9, .int b10, .ref b11, .int b12, .int b13, .int b14, .int b15, .ref b16, .ref b17, .ref b18, .int b19, .ref b20, .ref b21, .ref b22, .ref b23, .ref b24, .ref b25, .ref b26, .ref b27, .ref b28, .ref b29, .ref b30, .ref b31, .int b32, .ref b33, .ref b34, .int b35, .int b36, .int b37, .int b38, .ref b39, .ref b40, .ref b41, .ref b42, .ref b43, .ref b44, .ref b45, .int b46, .ref b47, .ref b48, .int b49, .ref b50, .ref b51, .ref b52, .ref b53, .ref b54, .int b55, .ref b56, .ref b57, .ref b58])), (b6, .inl (G.2 0, 503, .inl b59))]) := by
  refine z_start (by decide +kernel) (Nat.le_of_ble_eq_true rfl) ?_
  intro p e s m below meth c A Z hr hnm hA hP hD hS ls hl
  have Z : zC p s m _ meth c prog_14_method_80_code 5 "TraceMachinesModel" G := Z
  obtain ⟨hx, hb, hml, hown, hts, hK, hN, hlocks⟩ := id Z
  have hl : lv_has ls 5 [(0, .ref b0), (1, .int b1), (2, .int b2), (3, .int b3), (4, .int b4)] := hl
  refine lv_aload_n hx hb d_Model_rule_0 rfl (lv_at hl 0 rfl) ?_
  refine lv_iconst (v := 0) hx hb d_Model_rule_1 (by decide) ?_
  refine va_put (D := G.1) (ci := 12) (v := .int 0) (ty := .int) (C := R_Model) (T := F_Model) (N := 54) hx hb hts i_Model t_Model t_Model_ok n_Model hown hK hP hD hS 0 rfl rfl 0 (by decide) (hts _ q1109) (fun _ h9 => h9) rfl (by decide +kernel) rfl rfl (Nat.le_of_ble_eq_true rfl) d_Model_rule_2 (fun H locs hP hD hS => ?_)
  have hP : va_P G.1 classes [(b0, .inr (12, [.int 0, .ref b6, .ref b7, .ref b8, .ref b9, .int b10, .ref b11, .int b12, .int b13, .int b14, .int b15, .ref b16, .ref b17, .ref b18, .int b19, .ref b20, .ref b21, .ref b22, .ref b23, .ref b24, .ref b25, .ref b26, .ref b27, .ref b28, .ref b29, .ref b30, .ref b31, .int b32, .ref b33, .ref b34, .int b35, .int b36, .int b37, .int b38, .ref b39, .ref b40, .ref b41, .ref b42, .ref b43, .ref b44, .ref b45, .int b46, .ref b47, .ref b48, .int b49, .ref b50, .ref b51, .ref b52, .ref b53, .ref b54, .int b55, .ref b56, .ref b57, .ref b58])), (b6, .inl (G.2 0, 503, .inl b59))] H := hP
  have hD := z_tie hP hD rfl
  refine lv_iload_n hx hb d_Model_rule_5 rfl (lv_at hl 1 rfl) ?_
  refine lv_i2l (v := b1.toInt64) hx hb d_Model_rule_6 rfl ?_
  refine lv_lconst (v := 0) hx hb d_Model_rule_7 (by decide) ?_
  refine lv_ldc2 hx hb hown (hts _ q1432) d_Model_rule_8 ?_
  refine z_callS (index := 138) (As := [.long b1.toInt64, .long 0, .long 5]) (rest := []) (wr := [(b0, .inr (12, [.int 0, .ref b6, .ref b7, .ref b8, .ref b9, .int b10, .ref b11, .int b12, .int b13, .int b14, .int b15, .ref b16, .ref b17, .ref b18, .int b19, .ref b20, .ref b21, .ref b22, .ref b23, .ref b24, .ref b25, .ref b26, .ref b27, .ref b28, .ref b29, .ref b30, .ref b31, .int b32, .ref b33, .ref b34, .int b35, .int b36, .int b37, .int b38, .ref b39, .ref b40, .ref b41, .ref b42, .ref b43, .ref b44, .ref b45, .int b46, .ref b47, .ref b48, .int b49, .ref b50, .ref b51, .ref b52, .ref b53, .ref b54, .int b55, .ref b56, .ref b57, .ref b58])), (b6, .inl (G.2 0, 503, .inl b59))]) Z (s2_Model_in l G (b1.toInt64) (0) (5)) hl.1 q1281 q1282 q14 q1283 ⟨by decide, by decide, by show _ = some 3; decide +kernel⟩ ⟨Nat.le_of_ble_eq_true rfl, Nat.le_of_ble_eq_true rfl⟩ ⟨Nat.le_of_ble_eq_true rfl, Nat.le_of_ble_eq_true rfl⟩ rfl (Nat.le_of_ble_eq_true rfl) d_Model_rule_11 hP hD hS hA [] [0, 1] rfl rfl rfl rfl (by decide) (fun v w1 H locs hw_1 hP hD hS => ?_)
  rcases hw_1 with ⟨rfl, rfl, hq_2⟩ | ⟨rfl, rfl, hq_3, hq_4⟩ | ⟨rfl, rfl, hq_5, hq_6⟩
  · have hP : va_P G.1 classes [(b0, .inr (12, [.int 0, .ref b6, .ref b7, .ref b8, .ref b9, .int b10, .ref b11, .int b12, .int b13, .int b14, .int b15, .ref b16, .ref b17, .ref b18, .int b19, .ref b20, .ref b21, .ref b22, .ref b23, .ref b24, .ref b25, .ref b26, .ref b27, .ref b28, .ref b29, .ref b30, .ref b31, .int b32, .ref b33, .ref b34, .int b35, .int b36, .int b37, .int b38, .ref b39, .ref b40, .ref b41, .ref b42, .ref b43, .ref b44, .ref b45, .int b46, .ref b47, .ref b48, .int b49, .ref b50, .ref b51, .ref b52, .ref b53, .ref b54, .int b55, .ref b56, .ref b57, .ref b58])), (b6, .inl (G.2 0, 503, .inl b59))] H := hP
    have hD := z_tie hP hD rfl
    try simp only [Int32.toInt_toInt64, ll_0] at hq_2
    have hv_7 : zI b1 (-2147483648) (-1) := by have _a := hq_2; have _b := (zI_all b1); have _c := zcl_0; simp only [Int32.toInt_toInt64] at *; exact ⟨by omega, by omega⟩
    refine W.widen (k := 0) (n := 0) (Nat.le_of_ble_eq_true rfl) (Nat.le_of_ble_eq_true rfl) ?_
    refine lv_if_eq (tgt := 47) hx hb d_Model_rule_14 (by decide) (fun _ => ?_) (fun hc => absurd hc (by decide +kernel))
    refine lv_iconst (v := (-1)) hx hb d_Model_rule_47 (by decide) ?_
    exact z_iret hx hb hr hlocks hP hD hS (Nat.le_of_ble_eq_true rfl) (Nat.le_of_ble_eq_true rfl) d_Model_rule_48 ⟨(-1), rfl, rfl⟩
  · have hP : va_P G.1 classes [(b0, .inr (12, [.int 0, .ref b6, .ref b7, .ref b8, .ref b9, .int b10, .ref b11, .int b12, .int b13, .int b14, .int b15, .ref b16, .ref b17, .ref b18, .int b19, .ref b20, .ref b21, .ref b22, .ref b23, .ref b24, .ref b25, .ref b26, .ref b27, .ref b28, .ref b29, .ref b30, .ref b31, .int b32, .ref b33, .ref b34, .int b35, .int b36, .int b37, .int b38, .ref b39, .ref b40, .ref b41, .ref b42, .ref b43, .ref b44, .ref b45, .int b46, .ref b47, .ref b48, .int b49, .ref b50, .ref b51, .ref b52, .ref b53, .ref b54, .int b55, .ref b56, .ref b57, .ref b58])), (b6, .inl (G.2 0, 503, .inl b59))] H := hP
    have hD := z_tie hP hD rfl
    try simp only [Int32.toInt_toInt64, ll_0] at hq_3
    have hv_8 : zI b1 0 2147483647 := by have _a := hq_3; have _b := (zI_all b1); have _c := zcl_0; simp only [Int32.toInt_toInt64] at *; exact ⟨by omega, by omega⟩
    try simp only [Int32.toInt_toInt64, ll_5] at hq_4
    have hv_9 : zI b1 6 2147483647 := by have _a := hq_4; have _b := hv_8; have _c := zcl_5; simp only [Int32.toInt_toInt64] at *; exact ⟨by omega, by omega⟩
    refine W.widen (k := 0) (n := 0) (Nat.le_of_ble_eq_true rfl) (Nat.le_of_ble_eq_true rfl) ?_
    refine lv_if_eq (tgt := 47) hx hb d_Model_rule_14 (by decide) (fun _ => ?_) (fun hc => absurd hc (by decide +kernel))
    refine lv_iconst (v := (-1)) hx hb d_Model_rule_47 (by decide) ?_
    exact z_iret hx hb hr hlocks hP hD hS (Nat.le_of_ble_eq_true rfl) (Nat.le_of_ble_eq_true rfl) d_Model_rule_48 ⟨(-1), rfl, rfl⟩
  · have hP : va_P G.1 classes [(b0, .inr (12, [.int 0, .ref b6, .ref b7, .ref b8, .ref b9, .int b10, .ref b11, .int b12, .int b13, .int b14, .int b15, .ref b16, .ref b17, .ref b18, .int b19, .ref b20, .ref b21, .ref b22, .ref b23, .ref b24, .ref b25, .ref b26, .ref b27, .ref b28, .ref b29, .ref b30, .ref b31, .int b32, .ref b33, .ref b34, .int b35, .int b36, .int b37, .int b38, .ref b39, .ref b40, .ref b41, .ref b42, .ref b43, .ref b44, .ref b45, .int b46, .ref b47, .ref b48, .int b49, .ref b50, .ref b51, .ref b52, .ref b53, .ref b54, .int b55, .ref b56, .ref b57, .ref b58])), (b6, .inl (G.2 0, 503, .inl b59))] H := hP
    have hD := z_tie hP hD rfl
    try simp only [Int32.toInt_toInt64, ll_0] at hq_5
    have hv_10 : zI b1 0 2147483647 := by have _a := hq_5; have _b := (zI_all b1); have _c := zcl_0; simp only [Int32.toInt_toInt64] at *; exact ⟨by omega, by omega⟩
    try simp only [Int32.toInt_toInt64, ll_5] at hq_6
    have hv_11 : zI b1 0 5 := by have _a := hq_6; have _b := hv_10; have _c := zcl_5; simp only [Int32.toInt_toInt64] at *; exact ⟨by omega, by omega⟩
    refine W.widen (k := 0) (n := 0) (Nat.le_of_ble_eq_true rfl) (Nat.le_of_ble_eq_true rfl) ?_
    refine lv_if_eq (tgt := 47) hx hb d_Model_rule_14 (by decide) (fun hc => absurd hc (by decide +kernel)) (fun _ => ?_)
    refine lv_iload_n hx hb d_Model_rule_17 rfl (lv_at hl 2 rfl) ?_
    refine z_callS (index := 391) (As := [.int b2]) (rest := []) (wr := [(b0, .inr (12, [.int 0, .ref b6, .ref b7, .ref b8, .ref b9, .int b10, .ref b11, .int b12, .int b13, .int b14, .int b15, .ref b16, .ref b17, .ref b18, .int b19, .ref b20, .ref b21, .ref b22, .ref b23, .ref b24, .ref b25, .ref b26, .ref b27, .ref b28, .ref b29, .ref b30, .ref b31, .int b32, .ref b33, .ref b34, .int b35, .int b36, .int b37, .int b38, .ref b39, .ref b40, .ref b41, .ref b42, .ref b43, .ref b44, .ref b45, .int b46, .ref b47, .ref b48, .int b49, .ref b50, .ref b51, .ref b52, .ref b53, .ref b54, .int b55, .ref b56, .ref b57, .ref b58])), (b6, .inl (G.2 0, 503, .inl b59))]) Z (s2_Model_isLetter l G (b2)) hl.1 q1549 q1550 q14 q1551 ⟨by decide, by decide, by show _ = some 1; decide +kernel⟩ ⟨Nat.le_of_ble_eq_true rfl, Nat.le_of_ble_eq_true rfl⟩ ⟨Nat.le_of_ble_eq_true rfl, Nat.le_of_ble_eq_true rfl⟩ rfl (Nat.le_of_ble_eq_true rfl) d_Model_rule_18 hP hD hS hA [] [0, 1] rfl rfl rfl rfl (by decide) (fun v w1 H locs hw_12 hP hD hS => ?_)
    obtain ⟨x_13, rfl, rfl, hx_13⟩ := hw_12
    have hP : va_P G.1 classes [(b0, .inr (12, [.int 0, .ref b6, .ref b7, .ref b8, .ref b9, .int b10, .ref b11, .int b12, .int b13, .int b14, .int b15, .ref b16, .ref b17, .ref b18, .int b19, .ref b20, .ref b21, .ref b22, .ref b23, .ref b24, .ref b25, .ref b26, .ref b27, .ref b28, .ref b29, .ref b30, .ref b31, .int b32, .ref b33, .ref b34, .int b35, .int b36, .int b37, .int b38, .ref b39, .ref b40, .ref b41, .ref b42, .ref b43, .ref b44, .ref b45, .int b46, .ref b47, .ref b48, .int b49, .ref b50, .ref b51, .ref b52, .ref b53, .ref b54, .int b55, .ref b56, .ref b57, .ref b58])), (b6, .inl (G.2 0, 503, .inl b59))] H := hP
    have hD := z_tie hP hD rfl
    refine W.widen (k := 0) (n := 0) (Nat.le_of_ble_eq_true rfl) (Nat.le_of_ble_eq_true rfl) ?_
    refine lv_if_eq (tgt := 47) hx hb d_Model_rule_21 (by decide) (fun hc_14 => ?_) (fun hc_14 => ?_)
    · have _nhc_14 := hc_14
      have ni_15 := (fa_eq _ _).mp hc_14
      rw [li_0] at ni_15
      have hv_16 : zI x_13 0 0 := zI.eq_l hx_13 zc_0 hc_14
      refine lv_iconst (v := (-1)) hx hb d_Model_rule_47 (by decide) ?_
      exact z_iret hx hb hr hlocks hP hD hS (Nat.le_of_ble_eq_true rfl) (Nat.le_of_ble_eq_true rfl) d_Model_rule_48 ⟨(-1), rfl, rfl⟩
    · have _nhc_14 := hc_14
      have ni_17 := fun z => hc_14 ((fa_eq _ _).mpr z)
      simp only [li_0] at ni_17
      have hv_18 : zI x_13 1 1 := zI.ne_lo hx_13 zc_0 hc_14 (by decide)
      refine lv_iload_n hx hb d_Model_rule_24 rfl (lv_at hl 3 rfl) ?_
      refine z_callS (index := 391) (As := [.int b3]) (rest := []) (wr := [(b0, .inr (12, [.int 0, .ref b6, .ref b7, .ref b8, .ref b9, .int b10, .ref b11, .int b12, .int b13, .int b14, .int b15, .ref b16, .ref b17, .ref b18, .int b19, .ref b20, .ref b21, .ref b22, .ref b23, .ref b24, .ref b25, .ref b26, .ref b27, .ref b28, .ref b29, .ref b30, .ref b31, .int b32, .ref b33, .ref b34, .int b35, .int b36, .int b37, .int b38, .ref b39, .ref b40, .ref b41, .ref b42, .ref b43, .ref b44, .ref b45, .int b46, .ref b47, .ref b48, .int b49, .ref b50, .ref b51, .ref b52, .ref b53, .ref b54, .int b55, .ref b56, .ref b57, .ref b58])), (b6, .inl (G.2 0, 503, .inl b59))]) Z (s2_Model_isLetter l G (b3)) hl.1 q1549 q1550 q14 q1551 ⟨by decide, by decide, by show _ = some 1; decide +kernel⟩ ⟨Nat.le_of_ble_eq_true rfl, Nat.le_of_ble_eq_true rfl⟩ ⟨Nat.le_of_ble_eq_true rfl, Nat.le_of_ble_eq_true rfl⟩ rfl (Nat.le_of_ble_eq_true rfl) d_Model_rule_25 hP hD hS hA [] [0, 1] rfl rfl rfl rfl (by decide) (fun v w1 H locs hw_19 hP hD hS => ?_)
      obtain ⟨x_20, rfl, rfl, hx_20⟩ := hw_19
      have hP : va_P G.1 classes [(b0, .inr (12, [.int 0, .ref b6, .ref b7, .ref b8, .ref b9, .int b10, .ref b11, .int b12, .int b13, .int b14, .int b15, .ref b16, .ref b17, .ref b18, .int b19, .ref b20, .ref b21, .ref b22, .ref b23, .ref b24, .ref b25, .ref b26, .ref b27, .ref b28, .ref b29, .ref b30, .ref b31, .int b32, .ref b33, .ref b34, .int b35, .int b36, .int b37, .int b38, .ref b39, .ref b40, .ref b41, .ref b42, .ref b43, .ref b44, .ref b45, .int b46, .ref b47, .ref b48, .int b49, .ref b50, .ref b51, .ref b52, .ref b53, .ref b54, .int b55, .ref b56, .ref b57, .ref b58])), (b6, .inl (G.2 0, 503, .inl b59))] H := hP
      have hD := z_tie hP hD rfl
      refine W.widen (k := 0) (n := 0) (Nat.le_of_ble_eq_true rfl) (Nat.le_of_ble_eq_true rfl) ?_
      refine lv_if_eq (tgt := 47) hx hb d_Model_rule_28 (by decide) (fun hc_21 => ?_) (fun hc_21 => ?_)
      · have _nhc_21 := hc_21
        have ni_22 := (fa_eq _ _).mp hc_21
        rw [li_0] at ni_22
        have hv_23 : zI x_20 0 0 := zI.eq_l hx_20 zc_0 hc_21
        refine lv_iconst (v := (-1)) hx hb d_Model_rule_47 (by decide) ?_
        exact z_iret hx hb hr hlocks hP hD hS (Nat.le_of_ble_eq_true rfl) (Nat.le_of_ble_eq_true rfl) d_Model_rule_48 ⟨(-1), rfl, rfl⟩
      · have _nhc_21 := hc_21
        have ni_24 := fun z => hc_21 ((fa_eq _ _).mpr z)
        simp only [li_0] at ni_24
        have hv_25 : zI x_20 1 1 := zI.ne_lo hx_20 zc_0 hc_21 (by decide)
        refine lv_iload_n hx hb d_Model_rule_31 rfl (lv_at hl 2 rfl) ?_
        refine lv_iload_n hx hb d_Model_rule_32 rfl (lv_at hl 3 rfl) ?_
        refine lv_icmp_eq (tgt := 47) hx hb d_Model_rule_33 (by decide) (fun hc_26 => ?_) (fun hc_26 => ?_)
        · have _nhc_26 := hc_26
          have ni_27 := (fa_eq _ _).mp hc_26
          refine lv_iconst (v := (-1)) hx hb d_Model_rule_47 (by decide) ?_
          exact z_iret hx hb hr hlocks hP hD hS (Nat.le_of_ble_eq_true rfl) (Nat.le_of_ble_eq_true rfl) d_Model_rule_48 ⟨(-1), rfl, rfl⟩
        · have _nhc_26 := hc_26
          have ni_28 := fun z => hc_26 ((fa_eq _ _).mpr z)
          refine lv_iload hx hb d_Model_rule_36 (lv_at hl 4 rfl) ?_
          refine lv_i2l (v := b4.toInt64) hx hb d_Model_rule_38 rfl ?_
          refine lv_lconst (v := 0) hx hb d_Model_rule_39 (by decide) ?_
          refine lv_lconst (v := 1) hx hb d_Model_rule_40 (by decide) ?_
          refine z_callS (index := 138) (As := [.long b4.toInt64, .long 0, .long 1]) (rest := []) (wr := [(b0, .inr (12, [.int 0, .ref b6, .ref b7, .ref b8, .ref b9, .int b10, .ref b11, .int b12, .int b13, .int b14, .int b15, .ref b16, .ref b17, .ref b18, .int b19, .ref b20, .ref b21, .ref b22, .ref b23, .ref b24, .ref b25, .ref b26, .ref b27, .ref b28, .ref b29, .ref b30, .ref b31, .int b32, .ref b33, .ref b34, .int b35, .int b36, .int b37, .int b38, .ref b39, .ref b40, .ref b41, .ref b42, .ref b43, .ref b44, .ref b45, .int b46, .ref b47, .ref b48, .int b49, .ref b50, .ref b51, .ref b52, .ref b53, .ref b54, .int b55, .ref b56, .ref b57, .ref b58])), (b6, .inl (G.2 0, 503, .inl b59))]) Z (s2_Model_in l G (b4.toInt64) (0) (1)) hl.1 q1281 q1282 q14 q1283 ⟨by decide, by decide, by show _ = some 3; decide +kernel⟩ ⟨Nat.le_of_ble_eq_true rfl, Nat.le_of_ble_eq_true rfl⟩ ⟨Nat.le_of_ble_eq_true rfl, Nat.le_of_ble_eq_true rfl⟩ rfl (Nat.le_of_ble_eq_true rfl) d_Model_rule_41 hP hD hS hA [] [0, 1] rfl rfl rfl rfl (by decide) (fun v w1 H locs hw_29 hP hD hS => ?_)
          rcases hw_29 with ⟨rfl, rfl, hq_30⟩ | ⟨rfl, rfl, hq_31, hq_32⟩ | ⟨rfl, rfl, hq_33, hq_34⟩
          · have hP : va_P G.1 classes [(b0, .inr (12, [.int 0, .ref b6, .ref b7, .ref b8, .ref b9, .int b10, .ref b11, .int b12, .int b13, .int b14, .int b15, .ref b16, .ref b17, .ref b18, .int b19, .ref b20, .ref b21, .ref b22, .ref b23, .ref b24, .ref b25, .ref b26, .ref b27, .ref b28, .ref b29, .ref b30, .ref b31, .int b32, .ref b33, .ref b34, .int b35, .int b36, .int b37, .int b38, .ref b39, .ref b40, .ref b41, .ref b42, .ref b43, .ref b44, .ref b45, .int b46, .ref b47, .ref b48, .int b49, .ref b50, .ref b51, .ref b52, .ref b53, .ref b54, .int b55, .ref b56, .ref b57, .ref b58])), (b6, .inl (G.2 0, 503, .inl b59))] H := hP
            have hD := z_tie hP hD rfl
            try simp only [Int32.toInt_toInt64, ll_0] at hq_30
            have hv_35 : zI b4 (-2147483648) (-1) := by have _a := hq_30; have _b := (zI_all b4); have _c := zcl_0; simp only [Int32.toInt_toInt64] at *; exact ⟨by omega, by omega⟩
            refine W.widen (k := 0) (n := 0) (Nat.le_of_ble_eq_true rfl) (Nat.le_of_ble_eq_true rfl) ?_
            refine lv_if_ne (tgt := 49) hx hb d_Model_rule_44 (by decide) (fun hc => absurd hc (by decide +kernel)) (fun _ => ?_)
            refine lv_iconst (v := (-1)) hx hb d_Model_rule_47 (by decide) ?_
            exact z_iret hx hb hr hlocks hP hD hS (Nat.le_of_ble_eq_true rfl) (Nat.le_of_ble_eq_true rfl) d_Model_rule_48 ⟨(-1), rfl, rfl⟩
          · have hP : va_P G.1 classes [(b0, .inr (12, [.int 0, .ref b6, .ref b7, .ref b8, .ref b9, .int b10, .ref b11, .int b12, .int b13, .int b14, .int b15, .ref b16, .ref b17, .ref b18, .int b19, .ref b20, .ref b21, .ref b22, .ref b23, .ref b24, .ref b25, .ref b26, .ref b27, .ref b28, .ref b29, .ref b30, .ref b31, .int b32, .ref b33, .ref b34, .int b35, .int b36, .int b37, .int b38, .ref b39, .ref b40, .ref b41, .ref b42, .ref b43, .ref b44, .ref b45, .int b46, .ref b47, .ref b48, .int b49, .ref b50, .ref b51, .ref b52, .ref b53, .ref b54, .int b55, .ref b56, .ref b57, .ref b58])), (b6, .inl (G.2 0, 503, .inl b59))] H := hP
            have hD := z_tie hP hD rfl
            try simp only [Int32.toInt_toInt64, ll_0] at hq_31
            have hv_36 : zI b4 0 2147483647 := by have _a := hq_31; have _b := (zI_all b4); have _c := zcl_0; simp only [Int32.toInt_toInt64] at *; exact ⟨by omega, by omega⟩
            try simp only [Int32.toInt_toInt64, ll_1] at hq_32
            have hv_37 : zI b4 2 2147483647 := by have _a := hq_32; have _b := hv_36; have _c := zcl_1; simp only [Int32.toInt_toInt64] at *; exact ⟨by omega, by omega⟩
            refine W.widen (k := 0) (n := 0) (Nat.le_of_ble_eq_true rfl) (Nat.le_of_ble_eq_true rfl) ?_
            refine lv_if_ne (tgt := 49) hx hb d_Model_rule_44 (by decide) (fun hc => absurd hc (by decide +kernel)) (fun _ => ?_)
            refine lv_iconst (v := (-1)) hx hb d_Model_rule_47 (by decide) ?_
            exact z_iret hx hb hr hlocks hP hD hS (Nat.le_of_ble_eq_true rfl) (Nat.le_of_ble_eq_true rfl) d_Model_rule_48 ⟨(-1), rfl, rfl⟩
          · have hP : va_P G.1 classes [(b0, .inr (12, [.int 0, .ref b6, .ref b7, .ref b8, .ref b9, .int b10, .ref b11, .int b12, .int b13, .int b14, .int b15, .ref b16, .ref b17, .ref b18, .int b19, .ref b20, .ref b21, .ref b22, .ref b23, .ref b24, .ref b25, .ref b26, .ref b27, .ref b28, .ref b29, .ref b30, .ref b31, .int b32, .ref b33, .ref b34, .int b35, .int b36, .int b37, .int b38, .ref b39, .ref b40, .ref b41, .ref b42, .ref b43, .ref b44, .ref b45, .int b46, .ref b47, .ref b48, .int b49, .ref b50, .ref b51, .ref b52, .ref b53, .ref b54, .int b55, .ref b56, .ref b57, .ref b58])), (b6, .inl (G.2 0, 503, .inl b59))] H := hP
            have hD := z_tie hP hD rfl
            try simp only [Int32.toInt_toInt64, ll_0] at hq_33
            have hv_38 : zI b4 0 2147483647 := by have _a := hq_33; have _b := (zI_all b4); have _c := zcl_0; simp only [Int32.toInt_toInt64] at *; exact ⟨by omega, by omega⟩
            try simp only [Int32.toInt_toInt64, ll_1] at hq_34
            have hv_39 : zI b4 0 1 := by have _a := hq_34; have _b := hv_38; have _c := zcl_1; simp only [Int32.toInt_toInt64] at *; exact ⟨by omega, by omega⟩
            refine W.widen (k := 0) (n := 0) (Nat.le_of_ble_eq_true rfl) (Nat.le_of_ble_eq_true rfl) ?_
            refine lv_if_ne (tgt := 49) hx hb d_Model_rule_44 (by decide) (fun _ => ?_) (fun hc => absurd hc (by decide +kernel))
            refine lv_aload_n hx hb d_Model_rule_49 rfl (lv_at hl 0 rfl) ?_
            refine lv_iload_n hx hb d_Model_rule_50 rfl (lv_at hl 1 rfl) ?_
            refine lv_iload_n hx hb d_Model_rule_51 rfl (lv_at hl 2 rfl) ?_
            refine lv_iload_n hx hb d_Model_rule_52 rfl (lv_at hl 3 rfl) ?_
            refine lv_iload hx hb d_Model_rule_53 (lv_at hl 4 rfl) ?_
            refine lv_iconst (v := 1) hx hb d_Model_rule_55 (by decide) ?_
            refine lv_icmp_ne (tgt := 63) hx hb d_Model_rule_56 (by decide) (fun hc_40 => ?_) (fun hc_40 => ?_)
            · have _nhc_40 := hc_40
              have ni_41 := fun z => hc_40 ((fa_eq _ _).mpr z)
              simp only [li_1] at ni_41
              have hv_42 : zI b4 0 0 := zI.ne_hi hv_39 zc_1 hc_40 (by decide)
              refine lv_iconst (v := 0) hx hb d_Model_rule_63 (by decide) ?_
              refine z_callV (index := 394) (As := [.int b1, .int b2, .int b3, .int 0]) (rest := []) (wr := []) Z (s1_Model_asked l G (b0) (b1) (b2) (b3) (0) (0) (b6) (b7) (b8) (b9) (b10) (b11) (b12) (b13) (b14) (b15) (b16) (b17) (b18) (b19) (b20) (b21) (b22) (b23) (b24) (b25) (b26) (b27) (b28) (b29) (b30) (b31) (b32) (b33) (b34) (b35) (b36) (b37) (b38) (b39) (b40) (b41) (b42) (b43) (b44) (b45) (b46) (b47) (b48) (b49) (b50) (b51) (b52) (b53) (b54) (b55) (b56) (b57) (b58) (b59) hb10 hb12 hb13 hb15 hb19 hb32 hb35 hb59) hl.1 q1553 q1555 qs87 q14 q1556 ⟨by decide, by decide, by show _ = some 4; decide +kernel⟩ ⟨Nat.le_of_ble_eq_true rfl, Nat.le_of_ble_eq_true rfl⟩ ⟨Nat.le_of_ble_eq_true rfl, Nat.le_of_ble_eq_true rfl⟩ rfl (Nat.le_of_ble_eq_true rfl) d_Model_rule_64 hP hD hS hA 0 12 rfl rfl rfl [0, 1] [] rfl rfl rfl rfl (by decide) (fun v w1 H locs hw_43 hP hD hS => ?_)
              obtain ⟨x_44, rfl, rfl⟩ := hw_43
              have hP : va_P G.1 classes [(b0, .inr (12, [.int 0, .ref b6, .ref b7, .ref b8, .ref b9, .int b10, .ref b11, .int b12, .int b13, .int b14, .int b15, .ref b16, .ref b17, .ref b18, .int b19, .ref b20, .ref b21, .ref b22, .ref b23, .ref b24, .ref b25, .ref b26, .ref b27, .ref b28, .ref b29, .ref b30, .ref b31, .int b32, .ref b33, .ref b34, .int b35, .int b36, .int b37, .int b38, .ref b39, .ref b40, .ref b41, .ref b42, .ref b43, .ref b44, .ref b45, .int b46, .ref b47, .ref b48, .int b49, .ref b50, .ref b51, .ref b52, .ref b53, .ref b54, .int b55, .ref b56, .ref b57, .ref b58])), (b6, .inl (G.2 0, 503, .inl b59))] H := hP
              have hD := z_tie hP hD rfl
              refine W.widen (k := 0) (n := 0) (Nat.le_of_ble_eq_true rfl) (Nat.le_of_ble_eq_true rfl) ?_
              exact z_iret hx hb hr hlocks hP hD hS (Nat.le_of_ble_eq_true rfl) (Nat.le_of_ble_eq_true rfl) d_Model_rule_67 ⟨x_44, rfl, rfl⟩
            · have _nhc_40 := hc_40
              have ni_45 := (fa_eq _ _).mp hc_40
              rw [li_1] at ni_45
              have hv_46 : zI b4 1 1 := zI.eq_l hv_39 zc_1 hc_40
              refine lv_iconst (v := 1) hx hb d_Model_rule_59 (by decide) ?_
              refine lv_goto (tgt := 64) hx hb d_Model_rule_60 (by decide) ?_
              refine z_callV (index := 394) (As := [.int b1, .int b2, .int b3, .int 1]) (rest := []) (wr := []) Z (s1_Model_asked l G (b0) (b1) (b2) (b3) (1) (0) (b6) (b7) (b8) (b9) (b10) (b11) (b12) (b13) (b14) (b15) (b16) (b17) (b18) (b19) (b20) (b21) (b22) (b23) (b24) (b25) (b26) (b27) (b28) (b29) (b30) (b31) (b32) (b33) (b34) (b35) (b36) (b37) (b38) (b39) (b40) (b41) (b42) (b43) (b44) (b45) (b46) (b47) (b48) (b49) (b50) (b51) (b52) (b53) (b54) (b55) (b56) (b57) (b58) (b59) hb10 hb12 hb13 hb15 hb19 hb32 hb35 hb59) hl.1 q1553 q1555 qs87 q14 q1556 ⟨by decide, by decide, by show _ = some 4; decide +kernel⟩ ⟨Nat.le_of_ble_eq_true rfl, Nat.le_of_ble_eq_true rfl⟩ ⟨Nat.le_of_ble_eq_true rfl, Nat.le_of_ble_eq_true rfl⟩ rfl (Nat.le_of_ble_eq_true rfl) d_Model_rule_64 hP hD hS hA 0 12 rfl rfl rfl [0, 1] [] rfl rfl rfl rfl (by decide) (fun v w1 H locs hw_47 hP hD hS => ?_)
              obtain ⟨x_48, rfl, rfl⟩ := hw_47
              have hP : va_P G.1 classes [(b0, .inr (12, [.int 0, .ref b6, .ref b7, .ref b8, .ref b9, .int b10, .ref b11, .int b12, .int b13, .int b14, .int b15, .ref b16, .ref b17, .ref b18, .int b19, .ref b20, .ref b21, .ref b22, .ref b23, .ref b24, .ref b25, .ref b26, .ref b27, .ref b28, .ref b29, .ref b30, .ref b31, .int b32, .ref b33, .ref b34, .int b35, .int b36, .int b37, .int b38, .ref b39, .ref b40, .ref b41, .ref b42, .ref b43, .ref b44, .ref b45, .int b46, .ref b47, .ref b48, .int b49, .ref b50, .ref b51, .ref b52, .ref b53, .ref b54, .int b55, .ref b56, .ref b57, .ref b58])), (b6, .inl (G.2 0, 503, .inl b59))] H := hP
              have hD := z_tie hP hD rfl
              refine W.widen (k := 0) (n := 0) (Nat.le_of_ble_eq_true rfl) (Nat.le_of_ble_eq_true rfl) ?_
              exact z_iret hx hb hr hlocks hP hD hS (Nat.le_of_ble_eq_true rfl) (Nat.le_of_ble_eq_true rfl) d_Model_rule_67 ⟨x_48, rfl, rfl⟩
theorem d_Model_rules_0 : decode prog_14_method_81_code 0 = .ok (.aload_n 0, 1) := by decide +kernel
theorem d_Model_rules_1 : decode prog_14_method_81_code 1 = .ok (.iconst 0, 1) := by decide +kernel
theorem d_Model_rules_2 : decode prog_14_method_81_code 2 = .ok (.putfield 1, 3) := by decide +kernel
theorem d_Model_rules_5 : decode prog_14_method_81_code 5 = .ok (.iload_n 1, 1) := by decide +kernel
theorem d_Model_rules_6 : decode prog_14_method_81_code 6 = .ok (.i2l, 1) := by decide +kernel
theorem d_Model_rules_7 : decode prog_14_method_81_code 7 = .ok (.lconst 0, 1) := by decide +kernel
theorem d_Model_rules_8 : decode prog_14_method_81_code 8 = .ok (.ldc2_w 263, 3) := by decide +kernel
theorem d_Model_rules_11 : decode prog_14_method_81_code 11 = .ok (.invokestatic 138, 3) := by decide +kernel
theorem d_Model_rules_14 : decode prog_14_method_81_code 14 = .ok (.ifCond .eq 20, 3) := by decide +kernel
theorem d_Model_rules_17 : decode prog_14_method_81_code 17 = .ok (.iload_n 2, 1) := by decide +kernel
theorem d_Model_rules_18 : decode prog_14_method_81_code 18 = .ok (.i2l, 1) := by decide +kernel
theorem d_Model_rules_19 : decode prog_14_method_81_code 19 = .ok (.lconst 1, 1) := by decide +kernel
theorem d_Model_rules_20 : decode prog_14_method_81_code 20 = .ok (.ldc2_w 398, 3) := by decide +kernel
theorem d_Model_rules_23 : decode prog_14_method_81_code 23 = .ok (.invokestatic 138, 3) := by decide +kernel
theorem d_Model_rules_26 : decode prog_14_method_81_code 26 = .ok (.ifCond .eq 8, 3) := by decide +kernel
theorem d_Model_rules_29 : decode prog_14_method_81_code 29 = .ok (.iload_n 3, 1) := by decide +kernel
theorem d_Model_rules_30 : decode prog_14_method_81_code 30 = .ok (.iconst (-1), 1) := by decide +kernel
theorem d_Model_rules_31 : decode prog_14_method_81_code 31 = .ok (.if_icmp .ge 5, 3) := by decide +kernel
theorem d_Model_rules_34 : decode prog_14_method_81_code 34 = .ok (.iconst (-1), 1) := by decide +kernel
theorem d_Model_rules_35 : decode prog_14_method_81_code 35 = .ok (.ireturn, 1) := by decide +kernel
theorem d_Model_rules_36 : decode prog_14_method_81_code 36 = .ok (.iconst 0, 1) := by decide +kernel
theorem d_Model_rules_37 : decode prog_14_method_81_code 37 = .ok (.istore 4, 2) := by decide +kernel
theorem d_Model_rules_39 : decode prog_14_method_81_code 39 = .ok (.iconst 0, 1) := by decide +kernel
theorem d_Model_rules_40 : decode prog_14_method_81_code 40 = .ok (.istore 5, 2) := by decide +kernel
theorem d_Model_rules_42 : decode prog_14_method_81_code 42 = .ok (.iload 5, 2) := by decide +kernel
theorem d_Model_rules_44 : decode prog_14_method_81_code 44 = .ok (.bipush 100, 2) := by decide +kernel
theorem d_Model_rules_46 : decode prog_14_method_81_code 46 = .ok (.if_icmp .ge 79, 3) := by decide +kernel
theorem d_Model_rules_49 : decode prog_14_method_81_code 49 = .ok (.iload 5, 2) := by decide +kernel
theorem d_Model_rules_51 : decode prog_14_method_81_code 51 = .ok (.bipush 10, 2) := by decide +kernel
theorem d_Model_rules_53 : decode prog_14_method_81_code 53 = .ok (.idiv, 1) := by decide +kernel
theorem d_Model_rules_54 : decode prog_14_method_81_code 54 = .ok (.istore 6, 2) := by decide +kernel
theorem d_Model_rules_56 : decode prog_14_method_81_code 56 = .ok (.iload 5, 2) := by decide +kernel
theorem d_Model_rules_58 : decode prog_14_method_81_code 58 = .ok (.bipush 10, 2) := by decide +kernel
theorem d_Model_rules_60 : decode prog_14_method_81_code 60 = .ok (.irem, 1) := by decide +kernel
theorem d_Model_rules_61 : decode prog_14_method_81_code 61 = .ok (.istore 7, 2) := by decide +kernel
theorem d_Model_rules_63 : decode prog_14_method_81_code 63 = .ok (.iload 6, 2) := by decide +kernel
theorem d_Model_rules_65 : decode prog_14_method_81_code 65 = .ok (.iload 7, 2) := by decide +kernel
theorem d_Model_rules_67 : decode prog_14_method_81_code 67 = .ok (.if_icmp .ne 7, 3) := by decide +kernel
theorem d_Model_rules_70 : decode prog_14_method_81_code 70 = .ok (.iconst 0, 1) := by decide +kernel
theorem d_Model_rules_71 : decode prog_14_method_81_code 71 = .ok (.goto 13, 3) := by decide +kernel
theorem d_Model_rules_74 : decode prog_14_method_81_code 74 = .ok (.aload_n 0, 1) := by decide +kernel
theorem d_Model_rules_75 : decode prog_14_method_81_code 75 = .ok (.iload_n 1, 1) := by decide +kernel
theorem d_Model_rules_76 : decode prog_14_method_81_code 76 = .ok (.iload 6, 2) := by decide +kernel
theorem d_Model_rules_78 : decode prog_14_method_81_code 78 = .ok (.iload 7, 2) := by decide +kernel
theorem d_Model_rules_80 : decode prog_14_method_81_code 80 = .ok (.iconst 0, 1) := by decide +kernel
theorem d_Model_rules_81 : decode prog_14_method_81_code 81 = .ok (.invokevirtual 394, 3) := by decide +kernel
theorem d_Model_rules_84 : decode prog_14_method_81_code 84 = .ok (.istore 8, 2) := by decide +kernel
theorem d_Model_rules_86 : decode prog_14_method_81_code 86 = .ok (.iload 8, 2) := by decide +kernel
theorem d_Model_rules_88 : decode prog_14_method_81_code 88 = .ok (.iload_n 2, 1) := by decide +kernel
theorem d_Model_rules_89 : decode prog_14_method_81_code 89 = .ok (.if_icmp .lt 30, 3) := by decide +kernel
theorem d_Model_rules_92 : decode prog_14_method_81_code 92 = .ok (.iload 8, 2) := by decide +kernel
theorem d_Model_rules_94 : decode prog_14_method_81_code 94 = .ok (.aload_n 0, 1) := by decide +kernel
theorem d_Model_rules_95 : decode prog_14_method_81_code 95 = .ok (.iload_n 1, 1) := by decide +kernel
theorem d_Model_rules_96 : decode prog_14_method_81_code 96 = .ok (.iload 6, 2) := by decide +kernel
theorem d_Model_rules_98 : decode prog_14_method_81_code 98 = .ok (.iload 7, 2) := by decide +kernel
theorem d_Model_rules_100 : decode prog_14_method_81_code 100 = .ok (.iconst 1, 1) := by decide +kernel
theorem d_Model_rules_101 : decode prog_14_method_81_code 101 = .ok (.invokevirtual 394, 3) := by decide +kernel
theorem d_Model_rules_104 : decode prog_14_method_81_code 104 = .ok (.if_icmp .ne 15, 3) := by decide +kernel
theorem d_Model_rules_107 : decode prog_14_method_81_code 107 = .ok (.iload 4, 2) := by decide +kernel
theorem d_Model_rules_109 : decode prog_14_method_81_code 109 = .ok (.iload_n 3, 1) := by decide +kernel
theorem d_Model_rules_110 : decode prog_14_method_81_code 110 = .ok (.if_icmp .ne 6, 3) := by decide +kernel
theorem d_Model_rules_113 : decode prog_14_method_81_code 113 = .ok (.iload 5, 2) := by decide +kernel
theorem d_Model_rules_115 : decode prog_14_method_81_code 115 = .ok (.ireturn, 1) := by decide +kernel
theorem d_Model_rules_116 : decode prog_14_method_81_code 116 = .ok (.iinc 4 1, 3) := by decide +kernel
theorem d_Model_rules_119 : decode prog_14_method_81_code 119 = .ok (.iinc 5 1, 3) := by decide +kernel
theorem d_Model_rules_122 : decode prog_14_method_81_code 122 = .ok (.goto (-80), 3) := by decide +kernel
theorem d_Model_rules_125 : decode prog_14_method_81_code 125 = .ok (.iload_n 3, 1) := by decide +kernel
theorem d_Model_rules_126 : decode prog_14_method_81_code 126 = .ok (.iconst (-1), 1) := by decide +kernel
theorem d_Model_rules_127 : decode prog_14_method_81_code 127 = .ok (.if_icmp .ne 8, 3) := by decide +kernel
theorem d_Model_rules_130 : decode prog_14_method_81_code 130 = .ok (.iload 4, 2) := by decide +kernel
theorem d_Model_rules_132 : decode prog_14_method_81_code 132 = .ok (.goto 4, 3) := by decide +kernel
theorem d_Model_rules_135 : decode prog_14_method_81_code 135 = .ok (.iconst (-1), 1) := by decide +kernel
theorem d_Model_rules_136 : decode prog_14_method_81_code 136 = .ok (.ireturn, 1) := by decide +kernel
theorem zc_100 : zI 100 100 100 := ⟨by decide +kernel, by decide +kernel⟩
theorem li_100 : (100 : Int32).toInt = 100 := by decide +kernel
abbrev m_s1_Model_rules : Room := { frames := 4, cells := 0, slots := 0, locals := 99 }
set_option maxHeartbeats 4000000 in
set_option maxRecDepth 100000 in
theorem s1_Model_rules (l : Launch) (G : zG) (b0 : Nat) (b1 : Int32) (b2 : Int32) (b3 : Int32) (b4 : Int32) (b5 : Nat) (b6 : Nat) (b7 : Nat) (b8 : Nat) (b9 : Int32) (b10 : Nat) (b11 : Int32) (b12 : Int32) (b13 : Int32) (b14 : Int32) (b15 : Nat) (b16 : Nat) (b17 : Nat) (b18 : Int32) (b19 : Nat) (b20 : Nat) (b21 : Nat) (b22 : Nat) (b23 : Nat) (b24 : Nat) (b25 : Nat) (b26 : Nat) (b27 : Nat) (b28 : Nat) (b29 : Nat) (b30 : Nat) (b31 : Int32) (b32 : Nat) (b33 : Nat) (b34 : Int32) (b35 : Int32) (b36 : Int32) (b37 : Int32) (b38 : Nat) (b39 : Nat) (b40 : Nat) (b41 : Nat) (b42 : Nat) (b43 : Nat) (b44 : Nat) (b45 : Int32) (b46 : Nat) (b47 : Nat) (b48 : Int32) (b49 : Nat) (b50 : Nat) (b51 : Nat) (b52 : Nat) (b53 : Nat) (b54 : Int32) (b55 : Nat) (b56 : Nat) (b57 : Nat) (b58 : Nat → Int32) (hb9 : zI b9 0 8) (hb11 : zI b11 0 240) (hb12 : zI b12 0 240) (hb14 : zI b14 0 1) (hb18 : zI b18 0 12) (hb31 : zI b31 0 1) (hb34 : zI b34 0 1) (hb58 : zW5 b58) : zM l G y_Model_rules prog_14_method_81_code 9 (Option.some Jvm.ClassFile.FieldType.int) m_s1_Model_rules [.ref b0, .int b1, .int b2, .int b3] [(b0, .inr (12, [.int b4, .ref b5, .ref b6, .ref b7, .ref b8, .int b9, .ref b10, .int b11, .int b12, .int b13, .int b14, .ref b15, .ref b16, .ref b17, .int b18, .ref b19, .ref b20, .ref b21, .ref b22, .ref b23, .ref b24, .ref b25, .ref b26, .ref b27, .ref b28, .ref b29, .ref b30, .int b31, .ref b32, .ref b33, .int b34, .int b35, .int b36, .int b37, .ref b38, .ref b39, .ref b40, .ref b41, .ref b42, .ref b43, .ref b44, .int b45, .ref b46, .ref b47, .int b48, .ref b49, .ref b50, .ref b51, .ref b52, .ref b53, .int b54, .ref b55, .ref b56, .ref b57])), (b5, .inl (G.2 0, 503, .inl b58))] (fun v w => ∃ (e0 : Int32), v = some (.int e0) ∧ w = [(b0, .inr (12, [.int 0, .ref b5, .ref b6, .ref b7, .ref b8, .int b9, .ref b10, .int b11, .int b12, .int b13, .int b14, .ref b15, .ref b16, .ref b17, .int b18, .ref b19, .ref b20, .ref b21, .ref b22, .ref b23, .ref b24, .ref b25, .ref b26, .ref b27, .ref b28, .ref b29, .ref b30, .int b31, .ref b32, .ref b33, .int b34, .int b35, .int b36, .int b37, .ref b38, .ref b39, .ref b40, .ref b41, .ref b42, .ref b43, .ref b44, .int b45, .ref b46, .ref b47, .int b48, .ref b49, .ref b50, .ref b51, .ref b52, .ref b53, .int b54, .ref b55, .ref b56, .ref b57])), (b5, .inl (G.2 0, 503, .inl b58))]) := by
  refine z_start (by decide +kernel) (Nat.le_of_ble_eq_true rfl) ?_
  intro p e s m below meth c A Z hr hnm hA hP hD hS ls hl
  have Z : zC p s m _ meth c prog_14_method_81_code 9 "TraceMachinesModel" G := Z
  obtain ⟨hx, hb, hml, hown, hts, hK, hN, hlocks⟩ := id Z
  have hl : lv_has ls 9 [(0, .ref b0), (1, .int b1), (2, .int b2), (3, .int b3)] := hl
  refine lv_aload_n hx hb d_Model_rules_0 rfl (lv_at hl 0 rfl) ?_
  refine lv_iconst (v := 0) hx hb d_Model_rules_1 (by decide) ?_
  refine va_put (D := G.1) (ci := 12) (v := .int 0) (ty := .int) (C := R_Model) (T := F_Model) (N := 54) hx hb hts i_Model t_Model t_Model_ok n_Model hown hK hP hD hS 0 rfl rfl 0 (by decide) (hts _ q1109) (fun _ h9 => h9) rfl (by decide +kernel) rfl rfl (Nat.le_of_ble_eq_true rfl) d_Model_rules_2 (fun H locs hP hD hS => ?_)
  have hP : va_P G.1 classes [(b0, .inr (12, [.int 0, .ref b5, .ref b6, .ref b7, .ref b8, .int b9, .ref b10, .int b11, .int b12, .int b13, .int b14, .ref b15, .ref b16, .ref b17, .int b18, .ref b19, .ref b20, .ref b21, .ref b22, .ref b23, .ref b24, .ref b25, .ref b26, .ref b27, .ref b28, .ref b29, .ref b30, .int b31, .ref b32, .ref b33, .int b34, .int b35, .int b36, .int b37, .ref b38, .ref b39, .ref b40, .ref b41, .ref b42, .ref b43, .ref b44, .int b45, .ref b46, .ref b47, .int b48, .ref b49, .ref b50, .ref b51, .ref b52, .ref b53, .int b54, .ref b55, .ref b56, .ref b57])), (b5, .inl (G.2 0, 503, .inl b58))] H := hP
  have hD := z_tie hP hD rfl
  refine lv_iload_n hx hb d_Model_rules_5 rfl (lv_at hl 1 rfl) ?_
  refine lv_i2l (v := b1.toInt64) hx hb d_Model_rules_6 rfl ?_
  refine lv_lconst (v := 0) hx hb d_Model_rules_7 (by decide) ?_
  refine lv_ldc2 hx hb hown (hts _ q1432) d_Model_rules_8 ?_
  refine z_callS (index := 138) (As := [.long b1.toInt64, .long 0, .long 5]) (rest := []) (wr := [(b0, .inr (12, [.int 0, .ref b5, .ref b6, .ref b7, .ref b8, .int b9, .ref b10, .int b11, .int b12, .int b13, .int b14, .ref b15, .ref b16, .ref b17, .int b18, .ref b19, .ref b20, .ref b21, .ref b22, .ref b23, .ref b24, .ref b25, .ref b26, .ref b27, .ref b28, .ref b29, .ref b30, .int b31, .ref b32, .ref b33, .int b34, .int b35, .int b36, .int b37, .ref b38, .ref b39, .ref b40, .ref b41, .ref b42, .ref b43, .ref b44, .int b45, .ref b46, .ref b47, .int b48, .ref b49, .ref b50, .ref b51, .ref b52, .ref b53, .int b54, .ref b55, .ref b56, .ref b57])), (b5, .inl (G.2 0, 503, .inl b58))]) Z (s2_Model_in l G (b1.toInt64) (0) (5)) hl.1 q1281 q1282 q14 q1283 ⟨by decide, by decide, by show _ = some 3; decide +kernel⟩ ⟨Nat.le_of_ble_eq_true rfl, Nat.le_of_ble_eq_true rfl⟩ ⟨Nat.le_of_ble_eq_true rfl, Nat.le_of_ble_eq_true rfl⟩ rfl (Nat.le_of_ble_eq_true rfl) d_Model_rules_11 hP hD hS hA [] [0, 1] rfl rfl rfl rfl (by decide) (fun v w1 H locs hw_1 hP hD hS => ?_)
  rcases hw_1 with ⟨rfl, rfl, hq_2⟩ | ⟨rfl, rfl, hq_3, hq_4⟩ | ⟨rfl, rfl, hq_5, hq_6⟩
  · have hP : va_P G.1 classes [(b0, .inr (12, [.int 0, .ref b5, .ref b6, .ref b7, .ref b8, .int b9, .ref b10, .int b11, .int b12, .int b13, .int b14, .ref b15, .ref b16, .ref b17, .int b18, .ref b19, .ref b20, .ref b21, .ref b22, .ref b23, .ref b24, .ref b25, .ref b26, .ref b27, .ref b28, .ref b29, .ref b30, .int b31, .ref b32, .ref b33, .int b34, .int b35, .int b36, .int b37, .ref b38, .ref b39, .ref b40, .ref b41, .ref b42, .ref b43, .ref b44, .int b45, .ref b46, .ref b47, .int b48, .ref b49, .ref b50, .ref b51, .ref b52, .ref b53, .int b54, .ref b55, .ref b56, .ref b57])), (b5, .inl (G.2 0, 503, .inl b58))] H := hP
    have hD := z_tie hP hD rfl
    try simp only [Int32.toInt_toInt64, ll_0] at hq_2
    have hv_7 : zI b1 (-2147483648) (-1) := by have _a := hq_2; have _b := (zI_all b1); have _c := zcl_0; simp only [Int32.toInt_toInt64] at *; exact ⟨by omega, by omega⟩
    refine W.widen (k := 0) (n := 0) (Nat.le_of_ble_eq_true rfl) (Nat.le_of_ble_eq_true rfl) ?_
    refine lv_if_eq (tgt := 34) hx hb d_Model_rules_14 (by decide) (fun _ => ?_) (fun hc => absurd hc (by decide +kernel))
    refine lv_iconst (v := (-1)) hx hb d_Model_rules_34 (by decide) ?_
    exact z_iret hx hb hr hlocks hP hD hS (Nat.le_of_ble_eq_true rfl) (Nat.le_of_ble_eq_true rfl) d_Model_rules_35 ⟨(-1), rfl, rfl⟩
  · have hP : va_P G.1 classes [(b0, .inr (12, [.int 0, .ref b5, .ref b6, .ref b7, .ref b8, .int b9, .ref b10, .int b11, .int b12, .int b13, .int b14, .ref b15, .ref b16, .ref b17, .int b18, .ref b19, .ref b20, .ref b21, .ref b22, .ref b23, .ref b24, .ref b25, .ref b26, .ref b27, .ref b28, .ref b29, .ref b30, .int b31, .ref b32, .ref b33, .int b34, .int b35, .int b36, .int b37, .ref b38, .ref b39, .ref b40, .ref b41, .ref b42, .ref b43, .ref b44, .int b45, .ref b46, .ref b47, .int b48, .ref b49, .ref b50, .ref b51, .ref b52, .ref b53, .int b54, .ref b55, .ref b56, .ref b57])), (b5, .inl (G.2 0, 503, .inl b58))] H := hP
    have hD := z_tie hP hD rfl
    try simp only [Int32.toInt_toInt64, ll_0] at hq_3
    have hv_8 : zI b1 0 2147483647 := by have _a := hq_3; have _b := (zI_all b1); have _c := zcl_0; simp only [Int32.toInt_toInt64] at *; exact ⟨by omega, by omega⟩
    try simp only [Int32.toInt_toInt64, ll_5] at hq_4
    have hv_9 : zI b1 6 2147483647 := by have _a := hq_4; have _b := hv_8; have _c := zcl_5; simp only [Int32.toInt_toInt64] at *; exact ⟨by omega, by omega⟩
    refine W.widen (k := 0) (n := 0) (Nat.le_of_ble_eq_true rfl) (Nat.le_of_ble_eq_true rfl) ?_
    refine lv_if_eq (tgt := 34) hx hb d_Model_rules_14 (by decide) (fun _ => ?_) (fun hc => absurd hc (by decide +kernel))
    refine lv_iconst (v := (-1)) hx hb d_Model_rules_34 (by decide) ?_
    exact z_iret hx hb hr hlocks hP hD hS (Nat.le_of_ble_eq_true rfl) (Nat.le_of_ble_eq_true rfl) d_Model_rules_35 ⟨(-1), rfl, rfl⟩
  · have hP : va_P G.1 classes [(b0, .inr (12, [.int 0, .ref b5, .ref b6, .ref b7, .ref b8, .int b9, .ref b10, .int b11, .int b12, .int b13, .int b14, .ref b15, .ref b16, .ref b17, .int b18, .ref b19, .ref b20, .ref b21, .ref b22, .ref b23, .ref b24, .ref b25, .ref b26, .ref b27, .ref b28, .ref b29, .ref b30, .int b31, .ref b32, .ref b33, .int b34, .int b35, .int b36, .int b37, .ref b38, .ref b39, .ref b40, .ref b41, .ref b42, .ref b43, .ref b44, .int b45, .ref b46, .ref b47, .int b48, .ref b49, .ref b50, .ref b51, .ref b52, .ref b53, .int b54, .ref b55, .ref b56, .ref b57])), (b5, .inl (G.2 0, 503, .inl b58))] H := hP
    have hD := z_tie hP hD rfl
    try simp only [Int32.toInt_toInt64, ll_0] at hq_5
    have hv_10 : zI b1 0 2147483647 := by have _a := hq_5; have _b := (zI_all b1); have _c := zcl_0; simp only [Int32.toInt_toInt64] at *; exact ⟨by omega, by omega⟩
    try simp only [Int32.toInt_toInt64, ll_5] at hq_6
    have hv_11 : zI b1 0 5 := by have _a := hq_6; have _b := hv_10; have _c := zcl_5; simp only [Int32.toInt_toInt64] at *; exact ⟨by omega, by omega⟩
    refine W.widen (k := 0) (n := 0) (Nat.le_of_ble_eq_true rfl) (Nat.le_of_ble_eq_true rfl) ?_
    refine lv_if_eq (tgt := 34) hx hb d_Model_rules_14 (by decide) (fun hc => absurd hc (by decide +kernel)) (fun _ => ?_)
    refine lv_iload_n hx hb d_Model_rules_17 rfl (lv_at hl 2 rfl) ?_
    refine lv_i2l (v := b2.toInt64) hx hb d_Model_rules_18 rfl ?_
    refine lv_lconst (v := 1) hx hb d_Model_rules_19 (by decide) ?_
    refine lv_ldc2 hx hb hown (hts _ q1593) d_Model_rules_20 ?_
    refine z_callS (index := 138) (As := [.long b2.toInt64, .long 1, .long 20]) (rest := []) (wr := [(b0, .inr (12, [.int 0, .ref b5, .ref b6, .ref b7, .ref b8, .int b9, .ref b10, .int b11, .int b12, .int b13, .int b14, .ref b15, .ref b16, .ref b17, .int b18, .ref b19, .ref b20, .ref b21, .ref b22, .ref b23, .ref b24, .ref b25, .ref b26, .ref b27, .ref b28, .ref b29, .ref b30, .int b31, .ref b32, .ref b33, .int b34, .int b35, .int b36, .int b37, .ref b38, .ref b39, .ref b40, .ref b41, .ref b42, .ref b43, .ref b44, .int b45, .ref b46, .ref b47, .int b48, .ref b49, .ref b50, .ref b51, .ref b52, .ref b53, .int b54, .ref b55, .ref b56, .ref b57])), (b5, .inl (G.2 0, 503, .inl b58))]) Z (s2_Model_in l G (b2.toInt64) (1) (20)) hl.1 q1281 q1282 q14 q1283 ⟨by decide, by decide, by show _ = some 3; decide +kernel⟩ ⟨Nat.le_of_ble_eq_true rfl, Nat.le_of_ble_eq_true rfl⟩ ⟨Nat.le_of_ble_eq_true rfl, Nat.le_of_ble_eq_true rfl⟩ rfl (Nat.le_of_ble_eq_true rfl) d_Model_rules_23 hP hD hS hA [] [0, 1] rfl rfl rfl rfl (by decide) (fun v w1 H locs hw_12 hP hD hS => ?_)
    rcases hw_12 with ⟨rfl, rfl, hq_13⟩ | ⟨rfl, rfl, hq_14, hq_15⟩ | ⟨rfl, rfl, hq_16, hq_17⟩
    · have hP : va_P G.1 classes [(b0, .inr (12, [.int 0, .ref b5, .ref b6, .ref b7, .ref b8, .int b9, .ref b10, .int b11, .int b12, .int b13, .int b14, .ref b15, .ref b16, .ref b17, .int b18, .ref b19, .ref b20, .ref b21, .ref b22, .ref b23, .ref b24, .ref b25, .ref b26, .ref b27, .ref b28, .ref b29, .ref b30, .int b31, .ref b32, .ref b33, .int b34, .int b35, .int b36, .int b37, .ref b38, .ref b39, .ref b40, .ref b41, .ref b42, .ref b43, .ref b44, .int b45, .ref b46, .ref b47, .int b48, .ref b49, .ref b50, .ref b51, .ref b52, .ref b53, .int b54, .ref b55, .ref b56, .ref b57])), (b5, .inl (G.2 0, 503, .inl b58))] H := hP
      have hD := z_tie hP hD rfl
      try simp only [Int32.toInt_toInt64, ll_1] at hq_13
      have hv_18 : zI b2 (-2147483648) 0 := by have _a := hq_13; have _b := (zI_all b2); have _c := zcl_1; simp only [Int32.toInt_toInt64] at *; exact ⟨by omega, by omega⟩
      refine W.widen (k := 0) (n := 0) (Nat.le_of_ble_eq_true rfl) (Nat.le_of_ble_eq_true rfl) ?_
      refine lv_if_eq (tgt := 34) hx hb d_Model_rules_26 (by decide) (fun _ => ?_) (fun hc => absurd hc (by decide +kernel))
      refine lv_iconst (v := (-1)) hx hb d_Model_rules_34 (by decide) ?_
      exact z_iret hx hb hr hlocks hP hD hS (Nat.le_of_ble_eq_true rfl) (Nat.le_of_ble_eq_true rfl) d_Model_rules_35 ⟨(-1), rfl, rfl⟩
    · have hP : va_P G.1 classes [(b0, .inr (12, [.int 0, .ref b5, .ref b6, .ref b7, .ref b8, .int b9, .ref b10, .int b11, .int b12, .int b13, .int b14, .ref b15, .ref b16, .ref b17, .int b18, .ref b19, .ref b20, .ref b21, .ref b22, .ref b23, .ref b24, .ref b25, .ref b26, .ref b27, .ref b28, .ref b29, .ref b30, .int b31, .ref b32, .ref b33, .int b34, .int b35, .int b36, .int b37, .ref b38, .ref b39, .ref b40, .ref b41, .ref b42, .ref b43, .ref b44, .int b45, .ref b46, .ref b47, .int b48, .ref b49, .ref b50, .ref b51, .ref b52, .ref b53, .int b54, .ref b55, .ref b56, .ref b57])), (b5, .inl (G.2 0, 503, .inl b58))] H := hP
      have hD := z_tie hP hD rfl
      try simp only [Int32.toInt_toInt64, ll_1] at hq_14
      have hv_19 : zI b2 1 2147483647 := by have _a := hq_14; have _b := (zI_all b2); have _c := zcl_1; simp only [Int32.toInt_toInt64] at *; exact ⟨by omega, by omega⟩
      try simp only [Int32.toInt_toInt64, ll_20] at hq_15
      have hv_20 : zI b2 21 2147483647 := by have _a := hq_15; have _b := hv_19; have _c := zcl_20; simp only [Int32.toInt_toInt64] at *; exact ⟨by omega, by omega⟩
      refine W.widen (k := 0) (n := 0) (Nat.le_of_ble_eq_true rfl) (Nat.le_of_ble_eq_true rfl) ?_
      refine lv_if_eq (tgt := 34) hx hb d_Model_rules_26 (by decide) (fun _ => ?_) (fun hc => absurd hc (by decide +kernel))
      refine lv_iconst (v := (-1)) hx hb d_Model_rules_34 (by decide) ?_
      exact z_iret hx hb hr hlocks hP hD hS (Nat.le_of_ble_eq_true rfl) (Nat.le_of_ble_eq_true rfl) d_Model_rules_35 ⟨(-1), rfl, rfl⟩
    · have hP : va_P G.1 classes [(b0, .inr (12, [.int 0, .ref b5, .ref b6, .ref b7, .ref b8, .int b9, .ref b10, .int b11, .int b12, .int b13, .int b14, .ref b15, .ref b16, .ref b17, .int b18, .ref b19, .ref b20, .ref b21, .ref b22, .ref b23, .ref b24, .ref b25, .ref b26, .ref b27, .ref b28, .ref b29, .ref b30, .int b31, .ref b32, .ref b33, .int b34, .int b35, .int b36, .int b37, .ref b38, .ref b39, .ref b40, .ref b41, .ref b42, .ref b43, .ref b44, .int b45, .ref b46, .ref b47, .int b48, .ref b49, .ref b50, .ref b51, .ref b52, .ref b53, .int b54, .ref b55, .ref b56, .ref b57])), (b5, .inl (G.2 0, 503, .inl b58))] H := hP
      have hD := z_tie hP hD rfl
      try simp only [Int32.toInt_toInt64, ll_1] at hq_16
      have hv_21 : zI b2 1 2147483647 := by have _a := hq_16; have _b := (zI_all b2); have _c := zcl_1; simp only [Int32.toInt_toInt64] at *; exact ⟨by omega, by omega⟩
      try simp only [Int32.toInt_toInt64, ll_20] at hq_17
      have hv_22 : zI b2 1 20 := by have _a := hq_17; have _b := hv_21; have _c := zcl_20; simp only [Int32.toInt_toInt64] at *; exact ⟨by omega, by omega⟩
      refine W.widen (k := 0) (n := 0) (Nat.le_of_ble_eq_true rfl) (Nat.le_of_ble_eq_true rfl) ?_
      refine lv_if_eq (tgt := 34) hx hb d_Model_rules_26 (by decide) (fun hc => absurd hc (by decide +kernel)) (fun _ => ?_)
      refine lv_iload_n hx hb d_Model_rules_29 rfl (lv_at hl 3 rfl) ?_
      refine lv_iconst (v := (-1)) hx hb d_Model_rules_30 (by decide) ?_
      refine lv_icmp_ge (tgt := 36) hx hb d_Model_rules_31 (by decide) (fun hc_23 => ?_) (fun hc_23 => ?_)
      · have _nhc_23 := hc_23
        have ni_24 := (fa_le _ _).mp hc_23
        rw [li_m1] at ni_24
        have hv_25 : zI b3 (-1) 2147483647 := zI.le_r zc_m1 (zI_all b3) hc_23 (by decide)
        refine lv_iconst (v := 0) hx hb d_Model_rules_36 (by decide) ?_
        refine lv_istore (lv' := [(4, .int 0), (0, .ref b0), (1, .int b1), (2, .int b2), (3, .int b3)]) hx hb d_Model_rules_37 hl (by decide) rfl (fun ls hl => ?_)
        refine lv_iconst (v := 0) hx hb d_Model_rules_39 (by decide) ?_
        refine lv_istore (lv' := [(5, .int 0), (4, .int 0), (0, .ref b0), (1, .int b1), (2, .int b2), (3, .int b3)]) hx hb d_Model_rules_40 hl (by decide) rfl (fun ls hl => ?_)
        suffices key : ∀ (k_603 : Nat) (y_604 : Int32) (y_605 : Int32) (H : Heap) (locs : List Loc) (ls : Array Slot), (zI y_604 0 100) → (100 : Int) - y_604.toInt < (k_603 : Int) → va_P G.1 classes [(b0, .inr (12, [.int 0, .ref b5, .ref b6, .ref b7, .ref b8, .int b9, .ref b10, .int b11, .int b12, .int b13, .int b14, .ref b15, .ref b16, .ref b17, .int b18, .ref b19, .ref b20, .ref b21, .ref b22, .ref b23, .ref b24, .ref b25, .ref b26, .ref b27, .ref b28, .ref b29, .ref b30, .int b31, .ref b32, .ref b33, .int b34, .int b35, .int b36, .int b37, .ref b38, .ref b39, .ref b40, .ref b41, .ref b42, .ref b43, .ref b44, .int b45, .ref b46, .ref b47, .int b48, .ref b49, .ref b50, .ref b51, .ref b52, .ref b53, .int b54, .ref b55, .ref b56, .ref b57])), (b5, .inl (G.2 0, 503, .inl b58))] H → va_D A [(b0, .inr (12, [.int 0, .ref b5, .ref b6, .ref b7, .ref b8, .int b9, .ref b10, .int b11, .int b12, .int b13, .int b14, .ref b15, .ref b16, .ref b17, .int b18, .ref b19, .ref b20, .ref b21, .ref b22, .ref b23, .ref b24, .ref b25, .ref b26, .ref b27, .ref b28, .ref b29, .ref b30, .int b31, .ref b32, .ref b33, .int b34, .int b35, .int b36, .int b37, .ref b38, .ref b39, .ref b40, .ref b41, .ref b42, .ref b43, .ref b44, .int b45, .ref b46, .ref b47, .int b48, .ref b49, .ref b50, .ref b51, .ref b52, .ref b53, .int b54, .ref b55, .ref b56, .ref b57])), (b5, .inl (G.2 0, 503, .inl b58))] → va_S A s.heap H locs → lv_has ls 9 [(5, .int y_604), (4, .int y_605), (0, .ref b0), (1, .int b1), (2, .int b2), (3, .int b3)] → W p l e m_s1_Model_rules s m ([.ref b0, .int b1, .int b2, .int b3] : List Value).toArray below meth c H locs 0 0 (MQ below (zQ G (fun v w => ∃ (e0 : Int32), v = some (.int e0) ∧ w = [(b0, .inr (12, [.int 0, .ref b5, .ref b6, .ref b7, .ref b8, .int b9, .ref b10, .int b11, .int b12, .int b13, .int b14, .ref b15, .ref b16, .ref b17, .int b18, .ref b19, .ref b20, .ref b21, .ref b22, .ref b23, .ref b24, .ref b25, .ref b26, .ref b27, .ref b28, .ref b29, .ref b30, .int b31, .ref b32, .ref b33, .int b34, .int b35, .int b36, .int b37, .ref b38, .ref b39, .ref b40, .ref b41, .ref b42, .ref b43, .ref b44, .int b45, .ref b46, .ref b47, .int b48, .ref b49, .ref b50, .ref b51, .ref b52, .ref b53, .int b54, .ref b55, .ref b56, .ref b57])), (b5, .inl (G.2 0, 503, .inl b58))]) A) ([.ref b0, .int b1, .int b2, .int b3] : List Value).toArray s m_s1_Model_rules.cells m_s1_Model_rules.slots A) (F0 m 42 ls []) by
          exact key 101 (0) (0) _ _ _ (zI.wk (l' := 0) (h' := 100) zc_0 (by decide)) (zm_upi (zI.wk (l' := 0) (h' := 100) zc_0 (by decide)) (by decide)) hP hD hS (lv_sub hl [0, 1, 2, 3, 4, 5] rfl)
        intro k_603
        induction k_603 with
        | zero =>
          intro y_604 y_605 H locs ls hy_604 hmk_603 hP hD hS hl
          exact (zm_up0 hy_604 hmk_603).elim
        | succ k_603 ihk_603 =>
          intro y_604 y_605 H locs ls hy_604 hmk_603 hP hD hS hl
          refine lv_iload hx hb d_Model_rules_42 (lv_at hl 0 rfl) ?_
          refine lv_bipush (v := 100) hx hb d_Model_rules_44 (by decide) ?_
          refine lv_icmp_ge (tgt := 125) hx hb d_Model_rules_46 (by decide) (fun hc_606 => ?_) (fun hc_606 => ?_)
          · have _nhc_606 := hc_606
            have ni_607 := (fa_le _ _).mp hc_606
            rw [li_100] at ni_607
            have hv_608 : zI y_604 100 100 := zI.le_r zc_100 hy_604 hc_606 (by decide)
            refine lv_iload_n hx hb d_Model_rules_125 rfl (lv_at hl 5 rfl) ?_
            refine lv_iconst (v := (-1)) hx hb d_Model_rules_126 (by decide) ?_
            refine lv_icmp_ne (tgt := 135) hx hb d_Model_rules_127 (by decide) (fun hc_609 => ?_) (fun hc_609 => ?_)
            · have _nhc_609 := hc_609
              have ni_610 := fun z => hc_609 ((fa_eq _ _).mpr z)
              simp only [li_m1] at ni_610
              have hv_611 : zI b3 0 2147483647 := zI.ne_lo hv_25 zc_m1 hc_609 (by decide)
              refine lv_iconst (v := (-1)) hx hb d_Model_rules_135 (by decide) ?_
              exact z_iret hx hb hr hlocks hP hD hS (Nat.le_of_ble_eq_true rfl) (Nat.le_of_ble_eq_true rfl) d_Model_rules_136 ⟨(-1), rfl, rfl⟩
            · have _nhc_609 := hc_609
              have ni_612 := (fa_eq _ _).mp hc_609
              rw [li_m1] at ni_612
              have hv_613 : zI b3 (-1) (-1) := zI.eq_l hv_25 zc_m1 hc_609
              refine lv_iload hx hb d_Model_rules_130 (lv_at hl 1 rfl) ?_
              refine lv_goto (tgt := 136) hx hb d_Model_rules_132 (by decide) ?_
              exact z_iret hx hb hr hlocks hP hD hS (Nat.le_of_ble_eq_true rfl) (Nat.le_of_ble_eq_true rfl) d_Model_rules_136 ⟨y_605, rfl, rfl⟩
          · have _nhc_606 := hc_606
            have ni_614 := (fa_lt _ _).mp (zi_nle hc_606)
            rw [li_100] at ni_614
            have hv_615 : zI y_604 0 99 := zI.lt_l hy_604 zc_100 (zi_nle hc_606) (by decide)
            refine lv_iload hx hb d_Model_rules_49 (lv_at hl 0 rfl) ?_
            refine lv_bipush (v := 10) hx hb d_Model_rules_51 (by decide) ?_
            refine lv_idiv hx hb d_Model_rules_53 (by decide +kernel) ?_
            refine lv_topi (fun v_616 ev_616 => ?_)
            obtain ⟨qv_616, hv_616⟩ := zI_div (l := 0) (h := 9) (d := 10) hv_615 rfl ev_616 (by decide)
            refine lv_istore (lv' := [(6, .int v_616), (5, .int y_604), (4, .int y_605), (0, .ref b0), (1, .int b1), (2, .int b2), (3, .int b3)]) hx hb d_Model_rules_54 hl (by decide) rfl (fun ls hl => ?_)
            refine lv_iload hx hb d_Model_rules_56 (lv_at hl 1 rfl) ?_
            refine lv_bipush (v := 10) hx hb d_Model_rules_58 (by decide) ?_
            refine lv_irem hx hb d_Model_rules_60 (by decide +kernel) ?_
            refine lv_topi (fun v_617 ev_617 => ?_)
            obtain ⟨qv_617, hv_617⟩ := zI_rem (h := 9) (d := 10) hv_615 rfl ev_617 (by decide)
            refine lv_istore (lv' := [(7, .int v_617), (6, .int v_616), (5, .int y_604), (4, .int y_605), (0, .ref b0), (1, .int b1), (2, .int b2), (3, .int b3)]) hx hb d_Model_rules_61 hl (by decide) rfl (fun ls hl => ?_)
            refine lv_iload hx hb d_Model_rules_63 (lv_at hl 1 rfl) ?_
            refine lv_iload hx hb d_Model_rules_65 (lv_at hl 0 rfl) ?_
            refine lv_icmp_ne (tgt := 74) hx hb d_Model_rules_67 (by decide) (fun hc_618 => ?_) (fun hc_618 => ?_)
            · have _nhc_618 := hc_618
              have ni_619 := fun z => hc_618 ((fa_eq _ _).mpr z)
              refine lv_aload_n hx hb d_Model_rules_74 rfl (lv_at hl 4 rfl) ?_
              refine lv_iload_n hx hb d_Model_rules_75 rfl (lv_at hl 5 rfl) ?_
              refine lv_iload hx hb d_Model_rules_76 (lv_at hl 1 rfl) ?_
              refine lv_iload hx hb d_Model_rules_78 (lv_at hl 0 rfl) ?_
              refine lv_iconst (v := 0) hx hb d_Model_rules_80 (by decide) ?_
              refine z_callV (index := 394) (As := [.int b1, .int v_616, .int v_617, .int 0]) (rest := []) (wr := []) Z (s1_Model_asked l G (b0) (b1) (v_616) (v_617) (0) (0) (b5) (b6) (b7) (b8) (b9) (b10) (b11) (b12) (b13) (b14) (b15) (b16) (b17) (b18) (b19) (b20) (b21) (b22) (b23) (b24) (b25) (b26) (b27) (b28) (b29) (b30) (b31) (b32) (b33) (b34) (b35) (b36) (b37) (b38) (b39) (b40) (b41) (b42) (b43) (b44) (b45) (b46) (b47) (b48) (b49) (b50) (b51) (b52) (b53) (b54) (b55) (b56) (b57) (b58) hb9 hb11 hb12 hb14 hb18 hb31 hb34 hb58) hl.1 q1553 q1555 qs87 q14 q1556 ⟨by decide, by decide, by show _ = some 4; decide +kernel⟩ ⟨Nat.le_of_ble_eq_true rfl, Nat.le_of_ble_eq_true rfl⟩ ⟨Nat.le_of_ble_eq_true rfl, Nat.le_of_ble_eq_true rfl⟩ rfl (Nat.le_of_ble_eq_true rfl) d_Model_rules_81 hP hD hS hA 0 12 rfl rfl rfl [0, 1] [] rfl rfl rfl rfl (by decide) (fun v w1 H locs hw_620 hP hD hS => ?_)
              obtain ⟨x_621, rfl, rfl⟩ := hw_620
              have hP : va_P G.1 classes [(b0, .inr (12, [.int 0, .ref b5, .ref b6, .ref b7, .ref b8, .int b9, .ref b10, .int b11, .int b12, .int b13, .int b14, .ref b15, .ref b16, .ref b17, .int b18, .ref b19, .ref b20, .ref b21, .ref b22, .ref b23, .ref b24, .ref b25, .ref b26, .ref b27, .ref b28, .ref b29, .ref b30, .int b31, .ref b32, .ref b33, .int b34, .int b35, .int b36, .int b37, .ref b38, .ref b39, .ref b40, .ref b41, .ref b42, .ref b43, .ref b44, .int b45, .ref b46, .ref b47, .int b48, .ref b49, .ref b50, .ref b51, .ref b52, .ref b53, .int b54, .ref b55, .ref b56, .ref b57])), (b5, .inl (G.2 0, 503, .inl b58))] H := hP
              have hD := z_tie hP hD rfl
              refine W.widen (k := 0) (n := 0) (Nat.le_of_ble_eq_true rfl) (Nat.le_of_ble_eq_true rfl) ?_
              refine lv_istore (lv' := [(8, .int x_621), (7, .int v_617), (6, .int v_616), (5, .int y_604), (4, .int y_605), (0, .ref b0), (1, .int b1), (2, .int b2), (3, .int b3)]) hx hb d_Model_rules_84 hl (by decide) rfl (fun ls hl => ?_)
              refine lv_iload hx hb d_Model_rules_86 (lv_at hl 0 rfl) ?_
              refine lv_iload_n hx hb d_Model_rules_88 rfl (lv_at hl 7 rfl) ?_
              refine lv_icmp_lt (tgt := 119) hx hb d_Model_rules_89 (by decide) (fun hc_622 => ?_) (fun hc_622 => ?_)
              · have _nhc_622 := hc_622
                have ni_623 := (fa_lt _ _).mp hc_622
                have hv_624 : zI x_621 (-2147483648) 19 := zI.lt_l (zI_all x_621) hv_22 hc_622 (by decide)
                obtain ⟨v_625, ev_625⟩ : ∃ z : Int32, z = y_604 + 1 := ⟨_, rfl⟩
                obtain ⟨qv_625, hv_625⟩ := zI_add (l := 1) (h := 100) hv_615 zc_1 ev_625 (by decide)
                rw [li_1] at qv_625
                refine lv_iinc (v := v_625) (lv' := [(5, .int v_625), (8, .int x_621), (7, .int v_617), (6, .int v_616), (4, .int y_605), (0, .ref b0), (1, .int b1), (2, .int b2), (3, .int b3)]) hx hb d_Model_rules_119 hl (k := 3) rfl (by rw [ev_625]; rfl) (by decide) rfl (fun ls hl => ?_)
                refine lv_goto (tgt := 42) hx hb d_Model_rules_122 (by decide) ?_
                exact ihk_603 (v_625) (y_605) _ _ _ (zI.wk (l' := 0) (h' := 100) hv_625 (by decide)) (zm_up qv_625 hmk_603 (by decide)) hP hD hS (lv_sub hl [0, 4, 5, 6, 7, 8] rfl)
              · have _nhc_622 := hc_622
                have ni_626 := (fa_le _ _).mp (zi_nlt hc_622)
                have hv_627 : zI x_621 1 2147483647 := zI.le_r hv_22 (zI_all x_621) (zi_nlt hc_622) (by decide)
                refine lv_iload hx hb d_Model_rules_92 (lv_at hl 0 rfl) ?_
                refine lv_aload_n hx hb d_Model_rules_94 rfl (lv_at hl 5 rfl) ?_
                refine lv_iload_n hx hb d_Model_rules_95 rfl (lv_at hl 6 rfl) ?_
                refine lv_iload hx hb d_Model_rules_96 (lv_at hl 2 rfl) ?_
                refine lv_iload hx hb d_Model_rules_98 (lv_at hl 1 rfl) ?_
                refine lv_iconst (v := 1) hx hb d_Model_rules_100 (by decide) ?_
                refine z_callV (index := 394) (As := [.int b1, .int v_616, .int v_617, .int 1]) (rest := [.int x_621]) (wr := []) Z (s1_Model_asked l G (b0) (b1) (v_616) (v_617) (1) (0) (b5) (b6) (b7) (b8) (b9) (b10) (b11) (b12) (b13) (b14) (b15) (b16) (b17) (b18) (b19) (b20) (b21) (b22) (b23) (b24) (b25) (b26) (b27) (b28) (b29) (b30) (b31) (b32) (b33) (b34) (b35) (b36) (b37) (b38) (b39) (b40) (b41) (b42) (b43) (b44) (b45) (b46) (b47) (b48) (b49) (b50) (b51) (b52) (b53) (b54) (b55) (b56) (b57) (b58) hb9 hb11 hb12 hb14 hb18 hb31 hb34 hb58) hl.1 q1553 q1555 qs87 q14 q1556 ⟨by decide, by decide, by show _ = some 4; decide +kernel⟩ ⟨Nat.le_of_ble_eq_true rfl, Nat.le_of_ble_eq_true rfl⟩ ⟨Nat.le_of_ble_eq_true rfl, Nat.le_of_ble_eq_true rfl⟩ rfl (Nat.le_of_ble_eq_true rfl) d_Model_rules_101 hP hD hS hA 0 12 rfl rfl rfl [0, 1] [] rfl rfl rfl rfl (by decide) (fun v w1 H locs hw_628 hP hD hS => ?_)
                obtain ⟨x_629, rfl, rfl⟩ := hw_628
                have hP : va_P G.1 classes [(b0, .inr (12, [.int 0, .ref b5, .ref b6, .ref b7, .ref b8, .int b9, .ref b10, .int b11, .int b12, .int b13, .int b14, .ref b15, .ref b16, .ref b17, .int b18, .ref b19, .ref b20, .ref b21, .ref b22, .ref b23, .ref b24, .ref b25, .ref b26, .ref b27, .ref b28, .ref b29, .ref b30, .int b31, .ref b32, .ref b33, .int b34, .int b35, .int b36, .int b37, .ref b38, .ref b39, .ref b40, .ref b41, .ref b42, .ref b43, .ref b44, .int b45, .ref b46, .ref b47, .int b48, .ref b49, .ref b50, .ref b51, .ref b52, .ref b53, .int b54, .ref b55, .ref b56, .ref b57])), (b5, .inl (G.2 0, 503, .inl b58))] H := hP
                have hD := z_tie hP hD rfl
                refine W.widen (k := 0) (n := 0) (Nat.le_of_ble_eq_true rfl) (Nat.le_of_ble_eq_true rfl) ?_
                refine lv_icmp_ne (tgt := 119) hx hb d_Model_rules_104 (by decide) (fun hc_630 => ?_) (fun hc_630 => ?_)
                · have _nhc_630 := hc_630
                  have ni_631 := fun z => hc_630 ((fa_eq _ _).mpr z)
                  obtain ⟨v_632, ev_632⟩ : ∃ z : Int32, z = y_604 + 1 := ⟨_, rfl⟩
                  obtain ⟨qv_632, hv_632⟩ := zI_add (l := 1) (h := 100) hv_615 zc_1 ev_632 (by decide)
                  rw [li_1] at qv_632
                  refine lv_iinc (v := v_632) (lv' := [(5, .int v_632), (8, .int x_621), (7, .int v_617), (6, .int v_616), (4, .int y_605), (0, .ref b0), (1, .int b1), (2, .int b2), (3, .int b3)]) hx hb d_Model_rules_119 hl (k := 3) rfl (by rw [ev_632]; rfl) (by decide) rfl (fun ls hl => ?_)
                  refine lv_goto (tgt := 42) hx hb d_Model_rules_122 (by decide) ?_
                  exact ihk_603 (v_632) (y_605) _ _ _ (zI.wk (l' := 0) (h' := 100) hv_632 (by decide)) (zm_up qv_632 hmk_603 (by decide)) hP hD hS (lv_sub hl [0, 4, 5, 6, 7, 8] rfl)
                · have _nhc_630 := hc_630
                  have ni_633 := (fa_eq _ _).mp hc_630
                  have hv_634 : zI x_629 1 2147483647 := zI.eq_l (zI_all x_629) hv_627 hc_630.symm
                  refine lv_iload hx hb d_Model_rules_107 (lv_at hl 4 rfl) ?_
                  refine lv_iload_n hx hb d_Model_rules_109 rfl (lv_at hl 8 rfl) ?_
                  refine lv_icmp_ne (tgt := 116) hx hb d_Model_rules_110 (by decide) (fun hc_635 => ?_) (fun hc_635 => ?_)
                  · have _nhc_635 := hc_635
                    have ni_636 := fun z => hc_635 ((fa_eq _ _).mpr z)
                    obtain ⟨v_637, ev_637⟩ : ∃ z : Int32, z = y_605 + 1 := ⟨_, rfl⟩
                    refine lv_iinc (v := v_637) (lv' := [(4, .int v_637), (8, .int x_621), (7, .int v_617), (6, .int v_616), (5, .int y_604), (0, .ref b0), (1, .int b1), (2, .int b2), (3, .int b3)]) hx hb d_Model_rules_116 hl (k := 4) rfl (by rw [ev_637]; rfl) (by decide) rfl (fun ls hl => ?_)
                    obtain ⟨v_638, ev_638⟩ : ∃ z : Int32, z = y_604 + 1 := ⟨_, rfl⟩
                    obtain ⟨qv_638, hv_638⟩ := zI_add (l := 1) (h := 100) hv_615 zc_1 ev_638 (by decide)
                    rw [li_1] at qv_638
                    refine lv_iinc (v := v_638) (lv' := [(5, .int v_638), (4, .int v_637), (8, .int x_621), (7, .int v_617), (6, .int v_616), (0, .ref b0), (1, .int b1), (2, .int b2), (3, .int b3)]) hx hb d_Model_rules_119 hl (k := 4) rfl (by rw [ev_638]; rfl) (by decide) rfl (fun ls hl => ?_)
                    refine lv_goto (tgt := 42) hx hb d_Model_rules_122 (by decide) ?_
                    exact ihk_603 (v_638) (v_637) _ _ _ (zI.wk (l' := 0) (h' := 100) hv_638 (by decide)) (zm_up qv_638 hmk_603 (by decide)) hP hD hS (lv_sub hl [0, 1, 5, 6, 7, 8] rfl)
                  · have _nhc_635 := hc_635
                    have ni_639 := (fa_eq _ _).mp hc_635
                    have hv_640 : zI y_605 (-1) 2147483647 := zI.eq_l (zI_all y_605) hv_25 hc_635
                    refine lv_iload hx hb d_Model_rules_113 (lv_at hl 3 rfl) ?_
                    exact z_iret hx hb hr hlocks hP hD hS (Nat.le_of_ble_eq_true rfl) (Nat.le_of_ble_eq_true rfl) d_Model_rules_115 ⟨y_604, rfl, rfl⟩
            · have _nhc_618 := hc_618
              have ni_641 := (fa_eq _ _).mp hc_618
              refine lv_iconst (v := 0) hx hb d_Model_rules_70 (by decide) ?_
              refine lv_goto (tgt := 84) hx hb d_Model_rules_71 (by decide) ?_
              refine lv_istore (lv' := [(8, .int 0), (7, .int v_617), (6, .int v_616), (5, .int y_604), (4, .int y_605), (0, .ref b0), (1, .int b1), (2, .int b2), (3, .int b3)]) hx hb d_Model_rules_84 hl (by decide) rfl (fun ls hl => ?_)
              refine lv_iload hx hb d_Model_rules_86 (lv_at hl 0 rfl) ?_
              refine lv_iload_n hx hb d_Model_rules_88 rfl (lv_at hl 7 rfl) ?_
              refine lv_icmp_lt (tgt := 119) hx hb d_Model_rules_89 (by decide) (fun _ => ?_) (fun hc => zI.no_le hv_22 zc_0 (zi_nlt hc) (by decide))
              obtain ⟨v_642, ev_642⟩ : ∃ z : Int32, z = y_604 + 1 := ⟨_, rfl⟩
              obtain ⟨qv_642, hv_642⟩ := zI_add (l := 1) (h := 100) hv_615 zc_1 ev_642 (by decide)
              rw [li_1] at qv_642
              refine lv_iinc (v := v_642) (lv' := [(5, .int v_642), (8, .int 0), (7, .int v_617), (6, .int v_616), (4, .int y_605), (0, .ref b0), (1, .int b1), (2, .int b2), (3, .int b3)]) hx hb d_Model_rules_119 hl (k := 3) rfl (by rw [ev_642]; rfl) (by decide) rfl (fun ls hl => ?_)
              refine lv_goto (tgt := 42) hx hb d_Model_rules_122 (by decide) ?_
              exact ihk_603 (v_642) (y_605) _ _ _ (zI.wk (l' := 0) (h' := 100) hv_642 (by decide)) (zm_up qv_642 hmk_603 (by decide)) hP hD hS (lv_sub hl [0, 4, 5, 6, 7, 8] rfl)
      · have _nhc_23 := hc_23
        have ni_643 := (fa_lt _ _).mp (zi_nle hc_23)
        rw [li_m1] at ni_643
        have hv_644 : zI b3 (-2147483648) (-2) := zI.lt_l (zI_all b3) zc_m1 (zi_nle hc_23) (by decide)
        refine lv_iconst (v := (-1)) hx hb d_Model_rules_34 (by decide) ?_
        exact z_iret hx hb hr hlocks hP hD hS (Nat.le_of_ble_eq_true rfl) (Nat.le_of_ble_eq_true rfl) d_Model_rules_35 ⟨(-1), rfl, rfl⟩
theorem d_Model_finals_0 : decode prog_14_method_95_code 0 = .ok (.iconst 0, 1) := by decide +kernel
theorem d_Model_finals_1 : decode prog_14_method_95_code 1 = .ok (.istore_n 1, 1) := by decide +kernel
theorem d_Model_finals_2 : decode prog_14_method_95_code 2 = .ok (.iconst 0, 1) := by decide +kernel
theorem d_Model_finals_3 : decode prog_14_method_95_code 3 = .ok (.istore_n 2, 1) := by decide +kernel
theorem d_Model_finals_4 : decode prog_14_method_95_code 4 = .ok (.iload_n 2, 1) := by decide +kernel
theorem d_Model_finals_5 : decode prog_14_method_95_code 5 = .ok (.aload_n 0, 1) := by decide +kernel
theorem d_Model_finals_6 : decode prog_14_method_95_code 6 = .ok (.getfield 58, 3) := by decide +kernel
theorem d_Model_finals_9 : decode prog_14_method_95_code 9 = .ok (.iconst 0, 1) := by decide +kernel
theorem d_Model_finals_10 : decode prog_14_method_95_code 10 = .ok (.iaload, 1) := by decide +kernel
theorem d_Model_finals_11 : decode prog_14_method_95_code 11 = .ok (.if_icmp .ge 26, 3) := by decide +kernel
theorem d_Model_finals_14 : decode prog_14_method_95_code 14 = .ok (.iload_n 1, 1) := by decide +kernel
theorem d_Model_finals_15 : decode prog_14_method_95_code 15 = .ok (.aload_n 0, 1) := by decide +kernel
theorem d_Model_finals_16 : decode prog_14_method_95_code 16 = .ok (.iconst 0, 1) := by decide +kernel
theorem d_Model_finals_17 : decode prog_14_method_95_code 17 = .ok (.iload_n 2, 1) := by decide +kernel
theorem d_Model_finals_18 : decode prog_14_method_95_code 18 = .ok (.invokevirtual 256, 3) := by decide +kernel
theorem d_Model_finals_21 : decode prog_14_method_95_code 21 = .ok (.ifCond .eq 7, 3) := by decide +kernel
theorem d_Model_finals_24 : decode prog_14_method_95_code 24 = .ok (.iconst 1, 1) := by decide +kernel
theorem d_Model_finals_25 : decode prog_14_method_95_code 25 = .ok (.goto 4, 3) := by decide +kernel
theorem d_Model_finals_28 : decode prog_14_method_95_code 28 = .ok (.iconst 0, 1) := by decide +kernel
theorem d_Model_finals_29 : decode prog_14_method_95_code 29 = .ok (.iadd, 1) := by decide +kernel
theorem d_Model_finals_30 : decode prog_14_method_95_code 30 = .ok (.istore_n 1, 1) := by decide +kernel
theorem d_Model_finals_31 : decode prog_14_method_95_code 31 = .ok (.iinc 2 1, 3) := by decide +kernel
theorem d_Model_finals_34 : decode prog_14_method_95_code 34 = .ok (.goto (-30), 3) := by decide +kernel
theorem d_Model_finals_37 : decode prog_14_method_95_code 37 = .ok (.iload_n 1, 1) := by decide +kernel
theorem d_Model_finals_38 : decode prog_14_method_95_code 38 = .ok (.ireturn, 1) := by decide +kernel
theorem d_Model_isFinal_0 : decode prog_14_method_37_code 0 = .ok (.aload_n 0, 1) := by decide +kernel
theorem d_Model_isFinal_1 : decode prog_14_method_37_code 1 = .ok (.getfield 67, 3) := by decide +kernel
theorem d_Model_isFinal_4 : decode prog_14_method_37_code 4 = .ok (.sipush 241, 3) := by decide +kernel
theorem d_Model_isFinal_7 : decode prog_14_method_37_code 7 = .ok (.iload_n 1, 1) := by decide +kernel
theorem d_Model_isFinal_8 : decode prog_14_method_37_code 8 = .ok (.imul, 1) := by decide +kernel
theorem d_Model_isFinal_9 : decode prog_14_method_37_code 9 = .ok (.iload_n 2, 1) := by decide +kernel
theorem d_Model_isFinal_10 : decode prog_14_method_37_code 10 = .ok (.iadd, 1) := by decide +kernel
theorem d_Model_isFinal_11 : decode prog_14_method_37_code 11 = .ok (.iaload, 1) := by decide +kernel
theorem d_Model_isFinal_12 : decode prog_14_method_37_code 12 = .ok (.ifCond .le 7, 3) := by decide +kernel
theorem d_Model_isFinal_15 : decode prog_14_method_37_code 15 = .ok (.iconst 1, 1) := by decide +kernel
theorem d_Model_isFinal_16 : decode prog_14_method_37_code 16 = .ok (.goto 4, 3) := by decide +kernel
theorem d_Model_isFinal_19 : decode prog_14_method_37_code 19 = .ok (.iconst 0, 1) := by decide +kernel
theorem d_Model_isFinal_20 : decode prog_14_method_37_code 20 = .ok (.ireturn, 1) := by decide +kernel
abbrev m_s9_Model_isFinal : Room := { frames := 0, cells := 0, slots := 0, locals := 0 }
set_option maxHeartbeats 4000000 in
set_option maxRecDepth 100000 in
theorem s9_Model_isFinal (l : Launch) (G : zG) (b0 : Nat) (b1 : Int32) (b2 : Int32) (b3 : Int32) (b4 : Nat) (b5 : Nat) (b6 : Nat) (b7 : Nat) (b8 : Int32) (b9 : Nat) (b10 : Int32) (b11 : Int32) (b12 : Int32) (b13 : Int32) (b14 : Nat) (b15 : Nat) (b16 : Nat) (b17 : Int32) (b18 : Nat) (b19 : Nat) (b20 : Nat) (b21 : Nat) (b22 : Nat) (b23 : Nat) (b24 : Nat) (b25 : Nat) (b26 : Nat) (b27 : Nat) (b28 : Nat) (b29 : Nat) (b30 : Int32) (b31 : Nat) (b32 : Nat) (b33 : Int32) (b34 : Int32) (b35 : Int32) (b36 : Int32) (b37 : Nat) (b38 : Nat) (b39 : Nat) (b40 : Nat) (b41 : Nat) (b42 : Nat) (b43 : Nat) (b44 : Int32) (b45 : Nat) (b46 : Nat) (b47 : Int32) (b48 : Nat) (b49 : Nat) (b50 : Nat) (b51 : Nat) (b52 : Nat) (b53 : Int32) (b54 : Nat) (b55 : Nat) (b56 : Nat) (b57 : Nat → Int32) (hb1 : zI b1 0 0) (hb2 : zI b2 0 240) (hb8 : zI b8 0 8) (hb10 : zI b10 0 240) (hb11 : zI b11 0 240) (hb13 : zI b13 0 1) (hb17 : zI b17 0 12) (hb30 : zI b30 0 1) (hb33 : zI b33 0 1) : zM l G y_Model_isFinal prog_14_method_37_code 3 (Option.some Jvm.ClassFile.FieldType.boolean) m_s9_Model_isFinal [.ref b0, .int b1, .int b2] [(b0, .inr (12, [.int b3, .ref b4, .ref b5, .ref b6, .ref b7, .int b8, .ref b9, .int b10, .int b11, .int b12, .int b13, .ref b14, .ref b15, .ref b16, .int b17, .ref b18, .ref b19, .ref b20, .ref b21, .ref b22, .ref b23, .ref b24, .ref b25, .ref b26, .ref b27, .ref b28, .ref b29, .int b30, .ref b31, .ref b32, .int b33, .int b34, .int b35, .int b36, .ref b37, .ref b38, .ref b39, .ref b40, .ref b41, .ref b42, .ref b43, .int b44, .ref b45, .ref b46, .int b47, .ref b48, .ref b49, .ref b50, .ref b51, .ref b52, .int b53, .ref b54, .ref b55, .ref b56])), (b27, .inl (G.2 0, 482, .inl b57))] (fun v w => ∃ (e0 : Int32), v = some (.int e0) ∧ w = [(b0, .inr (12, [.int b3, .ref b4, .ref b5, .ref b6, .ref b7, .int b8, .ref b9, .int b10, .int b11, .int b12, .int b13, .ref b14, .ref b15, .ref b16, .int b17, .ref b18, .ref b19, .ref b20, .ref b21, .ref b22, .ref b23, .ref b24, .ref b25, .ref b26, .ref b27, .ref b28, .ref b29, .int b30, .ref b31, .ref b32, .int b33, .int b34, .int b35, .int b36, .ref b37, .ref b38, .ref b39, .ref b40, .ref b41, .ref b42, .ref b43, .int b44, .ref b45, .ref b46, .int b47, .ref b48, .ref b49, .ref b50, .ref b51, .ref b52, .int b53, .ref b54, .ref b55, .ref b56])), (b27, .inl (G.2 0, 482, .inl b57))] ∧ (zI e0 0 1)) := by
  refine z_start (by decide +kernel) (Nat.le_of_ble_eq_true rfl) ?_
  intro p e s m below meth c A Z hr hnm hA hP hD hS ls hl
  have Z : zC p s m _ meth c prog_14_method_37_code 3 "TraceMachinesModel" G := Z
  obtain ⟨hx, hb, hml, hown, hts, hK, hN, hlocks⟩ := id Z
  have hl : lv_has ls 3 [(0, .ref b0), (1, .int b1), (2, .int b2)] := hl
  refine lv_aload_n hx hb d_Model_isFinal_0 rfl (lv_at hl 0 rfl) ?_
  refine va_get (D := G.1) (ci := 12) (v := .ref b27) (C := R_Model) (T := F_Model) (N := 54) hx hb hts i_Model hown hK hP 0 rfl rfl 24 (by decide) (hts _ q1133) (fun _ h9 => h9) rfl d_Model_isFinal_1 ?_
  refine lv_sipush (v := 241) hx hb d_Model_isFinal_4 (by decide) ?_
  refine lv_iload_n hx hb d_Model_isFinal_7 rfl (lv_at hl 1 rfl) ?_
  refine lv_imul hx hb d_Model_isFinal_8 ?_
  refine lv_topi (fun v_1 ev_1 => ?_)
  obtain ⟨qv_1, hv_1⟩ := zI_mul (l := 0) (h := 0) zc_241 hb1 ev_1 (by decide)
  rw [li_241] at qv_1
  refine lv_iload_n hx hb d_Model_isFinal_9 rfl (lv_at hl 2 rfl) ?_
  refine lv_iadd hx hb d_Model_isFinal_10 ?_
  refine lv_topi (fun v_2 ev_2 => ?_)
  obtain ⟨qv_2, hv_2⟩ := zI_add (l := 0) (h := 240) hv_1 hb2 ev_2 (by decide)
  refine va_iald hx hb hK hP 1 0 rfl rfl (zI.inn hv_2 (by decide)) d_Model_isFinal_11 ?_
  refine lv_topi (fun v_3 ev_3 => ?_)
  refine lv_if_le (tgt := 19) hx hb d_Model_isFinal_12 (by decide) (fun hc_4 => ?_) (fun hc_4 => ?_)
  · have _nhc_4 := hc_4
    have ni_5 := (fa_le _ _).mp hc_4
    rw [li_0] at ni_5
    have hv_6 : zI v_3 (-2147483648) 0 := zI.le_l (zI_all v_3) zc_0 hc_4 (by decide)
    refine lv_iconst (v := 0) hx hb d_Model_isFinal_19 (by decide) ?_
    exact z_zret hx hb hr hlocks rfl hP hD hS (Nat.le_of_ble_eq_true rfl) (Nat.le_of_ble_eq_true rfl) d_Model_isFinal_20 ⟨0, rfl, rfl, (zI.wk (l' := 0) (h' := 1) zc_0 (by decide))⟩
  · have _nhc_4 := hc_4
    have ni_7 := (fa_lt _ _).mp (zi_nle hc_4)
    rw [li_0] at ni_7
    have hv_8 : zI v_3 1 2147483647 := zI.lt_r zc_0 (zI_all v_3) (zi_nle hc_4) (by decide)
    refine lv_iconst (v := 1) hx hb d_Model_isFinal_15 (by decide) ?_
    refine lv_goto (tgt := 20) hx hb d_Model_isFinal_16 (by decide) ?_
    exact z_zret hx hb hr hlocks rfl hP hD hS (Nat.le_of_ble_eq_true rfl) (Nat.le_of_ble_eq_true rfl) d_Model_isFinal_20 ⟨1, rfl, rfl, (zI.wk (l' := 0) (h' := 1) zc_1 (by decide))⟩
abbrev m_s1_Model_finals : Room := { frames := 1, cells := 0, slots := 0, locals := 22 }
set_option maxHeartbeats 4000000 in
set_option maxRecDepth 100000 in
theorem s1_Model_finals (l : Launch) (G : zG) (b0 : Nat) (b1 : Int32) (b2 : Nat) (b3 : Nat) (b4 : Nat) (b5 : Nat) (b6 : Int32) (b7 : Nat) (b8 : Int32) (b9 : Int32) (b10 : Int32) (b11 : Int32) (b12 : Nat) (b13 : Nat) (b14 : Nat) (b15 : Int32) (b16 : Nat) (b17 : Nat) (b18 : Nat) (b19 : Nat) (b20 : Nat) (b21 : Nat) (b22 : Nat) (b23 : Nat) (b24 : Nat) (b25 : Nat) (b26 : Nat) (b27 : Nat) (b28 : Int32) (b29 : Nat) (b30 : Nat) (b31 : Int32) (b32 : Int32) (b33 : Int32) (b34 : Int32) (b35 : Nat) (b36 : Nat) (b37 : Nat) (b38 : Nat) (b39 : Nat) (b40 : Nat) (b41 : Nat) (b42 : Int32) (b43 : Nat) (b44 : Nat) (b45 : Int32) (b46 : Nat) (b47 : Nat) (b48 : Nat) (b49 : Nat) (b50 : Nat) (b51 : Int32) (b52 : Nat) (b53 : Nat) (b54 : Nat) (b55 : Nat → Int32) (b56 : Nat → Int32) (hb6 : zI b6 0 8) (hb8 : zI b8 0 240) (hb9 : zI b9 0 240) (hb11 : zI b11 0 1) (hb15 : zI b15 0 12) (hb28 : zI b28 0 1) (hb31 : zI b31 0 1) (hb55 : zR b55 0 241) : zM l G y_Model_finals prog_14_method_95_code 3 (Option.some Jvm.ClassFile.FieldType.int) m_s1_Model_finals [.ref b0] [(b0, .inr (12, [.int b1, .ref b2, .ref b3, .ref b4, .ref b5, .int b6, .ref b7, .int b8, .int b9, .int b10, .int b11, .ref b12, .ref b13, .ref b14, .int b15, .ref b16, .ref b17, .ref b18, .ref b19, .ref b20, .ref b21, .ref b22, .ref b23, .ref b24, .ref b25, .ref b26, .ref b27, .int b28, .ref b29, .ref b30, .int b31, .int b32, .int b33, .int b34, .ref b35, .ref b36, .ref b37, .ref b38, .ref b39, .ref b40, .ref b41, .int b42, .ref b43, .ref b44, .int b45, .ref b46, .ref b47, .ref b48, .ref b49, .ref b50, .int b51, .ref b52, .ref b53, .ref b54])), (b22, .inl (G.2 0, 2, .inl b55)), (b25, .inl (G.2 0, 482, .inl b56))] (fun v w => ∃ (e0 : Int32), v = some (.int e0) ∧ w = [(b0, .inr (12, [.int b1, .ref b2, .ref b3, .ref b4, .ref b5, .int b6, .ref b7, .int b8, .int b9, .int b10, .int b11, .ref b12, .ref b13, .ref b14, .int b15, .ref b16, .ref b17, .ref b18, .ref b19, .ref b20, .ref b21, .ref b22, .ref b23, .ref b24, .ref b25, .ref b26, .ref b27, .int b28, .ref b29, .ref b30, .int b31, .int b32, .int b33, .int b34, .ref b35, .ref b36, .ref b37, .ref b38, .ref b39, .ref b40, .ref b41, .int b42, .ref b43, .ref b44, .int b45, .ref b46, .ref b47, .ref b48, .ref b49, .ref b50, .int b51, .ref b52, .ref b53, .ref b54])), (b22, .inl (G.2 0, 2, .inl b55)), (b25, .inl (G.2 0, 482, .inl b56))]) := by
  refine z_start (by decide +kernel) (Nat.le_of_ble_eq_true rfl) ?_
  intro p e s m below meth c A Z hr hnm hA hP hD hS ls hl
  have Z : zC p s m _ meth c prog_14_method_95_code 3 "TraceMachinesModel" G := Z
  obtain ⟨hx, hb, hml, hown, hts, hK, hN, hlocks⟩ := id Z
  have hl : lv_has ls 3 [(0, .ref b0)] := hl
  refine lv_iconst (v := 0) hx hb d_Model_finals_0 (by decide) ?_
  refine lv_istore_n (lv' := [(1, .int 0), (0, .ref b0)]) hx hb d_Model_finals_1 rfl hl (by decide) rfl (fun ls hl => ?_)
  refine lv_iconst (v := 0) hx hb d_Model_finals_2 (by decide) ?_
  refine lv_istore_n (lv' := [(2, .int 0), (1, .int 0), (0, .ref b0)]) hx hb d_Model_finals_3 rfl hl (by decide) rfl (fun ls hl => ?_)
  suffices key : ∀ (k_318 : Nat) (y_319 : Int32) (y_320 : Int32) (H : Heap) (locs : List Loc) (ls : Array Slot), (zI y_319 0 241) → (241 : Int) - y_319.toInt < (k_318 : Int) → va_P G.1 classes [(b0, .inr (12, [.int b1, .ref b2, .ref b3, .ref b4, .ref b5, .int b6, .ref b7, .int b8, .int b9, .int b10, .int b11, .ref b12, .ref b13, .ref b14, .int b15, .ref b16, .ref b17, .ref b18, .ref b19, .ref b20, .ref b21, .ref b22, .ref b23, .ref b24, .ref b25, .ref b26, .ref b27, .int b28, .ref b29, .ref b30, .int b31, .int b32, .int b33, .int b34, .ref b35, .ref b36, .ref b37, .ref b38, .ref b39, .ref b40, .ref b41, .int b42, .ref b43, .ref b44, .int b45, .ref b46, .ref b47, .ref b48, .ref b49, .ref b50, .int b51, .ref b52, .ref b53, .ref b54])), (b22, .inl (G.2 0, 2, .inl b55)), (b25, .inl (G.2 0, 482, .inl b56))] H → va_D A [(b0, .inr (12, [.int b1, .ref b2, .ref b3, .ref b4, .ref b5, .int b6, .ref b7, .int b8, .int b9, .int b10, .int b11, .ref b12, .ref b13, .ref b14, .int b15, .ref b16, .ref b17, .ref b18, .ref b19, .ref b20, .ref b21, .ref b22, .ref b23, .ref b24, .ref b25, .ref b26, .ref b27, .int b28, .ref b29, .ref b30, .int b31, .int b32, .int b33, .int b34, .ref b35, .ref b36, .ref b37, .ref b38, .ref b39, .ref b40, .ref b41, .int b42, .ref b43, .ref b44, .int b45, .ref b46, .ref b47, .ref b48, .ref b49, .ref b50, .int b51, .ref b52, .ref b53, .ref b54])), (b22, .inl (G.2 0, 2, .inl b55)), (b25, .inl (G.2 0, 482, .inl b56))] → va_S A s.heap H locs → lv_has ls 3 [(2, .int y_319), (1, .int y_320), (0, .ref b0)] → W p l e m_s1_Model_finals s m ([.ref b0] : List Value).toArray below meth c H locs 0 0 (MQ below (zQ G (fun v w => ∃ (e0 : Int32), v = some (.int e0) ∧ w = [(b0, .inr (12, [.int b1, .ref b2, .ref b3, .ref b4, .ref b5, .int b6, .ref b7, .int b8, .int b9, .int b10, .int b11, .ref b12, .ref b13, .ref b14, .int b15, .ref b16, .ref b17, .ref b18, .ref b19, .ref b20, .ref b21, .ref b22, .ref b23, .ref b24, .ref b25, .ref b26, .ref b27, .int b28, .ref b29, .ref b30, .int b31, .int b32, .int b33, .int b34, .ref b35, .ref b36, .ref b37, .ref b38, .ref b39, .ref b40, .ref b41, .int b42, .ref b43, .ref b44, .int b45, .ref b46, .ref b47, .ref b48, .ref b49, .ref b50, .int b51, .ref b52, .ref b53, .ref b54])), (b22, .inl (G.2 0, 2, .inl b55)), (b25, .inl (G.2 0, 482, .inl b56))]) A) ([.ref b0] : List Value).toArray s m_s1_Model_finals.cells m_s1_Model_finals.slots A) (F0 m 4 ls []) by
    exact key 242 (0) (0) _ _ _ (zI.wk (l' := 0) (h' := 241) zc_0 (by decide)) (zm_upi (zI.wk (l' := 0) (h' := 241) zc_0 (by decide)) (by decide)) hP hD hS (lv_sub hl [0, 1, 2] rfl)
  intro k_318
  induction k_318 with
  | zero =>
    intro y_319 y_320 H locs ls hy_319 hmk_318 hP hD hS hl
    exact (zm_up0 hy_319 hmk_318).elim
  | succ k_318 ihk_318 =>
    intro y_319 y_320 H locs ls hy_319 hmk_318 hP hD hS hl
    refine lv_iload_n hx hb d_Model_finals_4 rfl (lv_at hl 0 rfl) ?_
    refine lv_aload_n hx hb d_Model_finals_5 rfl (lv_at hl 2 rfl) ?_
    refine va_get (D := G.1) (ci := 12) (v := .ref b22) (C := R_Model) (T := F_Model) (N := 54) hx hb hts i_Model hown hK hP 0 rfl rfl 21 (by decide) (hts _ q1130) (fun _ h9 => h9) rfl d_Model_finals_6 ?_
    refine lv_iconst (v := 0) hx hb d_Model_finals_9 (by decide) ?_
    refine va_iald hx hb hK hP 1 0 rfl rfl (i := 0) (z_in rfl) d_Model_finals_10 ?_
    refine lv_topi (fun v_321 ev_321 => ?_)
    have hv_321 : zI v_321 0 241 := (hb55 _).eq ev_321
    refine lv_icmp_ge (tgt := 37) hx hb d_Model_finals_11 (by decide) (fun hc_322 => ?_) (fun hc_322 => ?_)
    · have _nhc_322 := hc_322
      have ni_323 := (fa_le _ _).mp hc_322
      refine lv_iload_n hx hb d_Model_finals_37 rfl (lv_at hl 1 rfl) ?_
      exact z_iret hx hb hr hlocks hP hD hS (Nat.le_of_ble_eq_true rfl) (Nat.le_of_ble_eq_true rfl) d_Model_finals_38 ⟨y_320, rfl, rfl⟩
    · have _nhc_322 := hc_322
      have ni_324 := (fa_lt _ _).mp (zi_nle hc_322)
      have hv_325 : zI y_319 0 240 := zI.lt_l hy_319 hv_321 (zi_nle hc_322) (by decide)
      have hv_326 : zI v_321 1 241 := zI.lt_r hy_319 hv_321 (zi_nle hc_322) (by decide)
      refine lv_iload_n hx hb d_Model_finals_14 rfl (lv_at hl 1 rfl) ?_
      refine lv_aload_n hx hb d_Model_finals_15 rfl (lv_at hl 2 rfl) ?_
      refine lv_iconst (v := 0) hx hb d_Model_finals_16 (by decide) ?_
      refine lv_iload_n hx hb d_Model_finals_17 rfl (lv_at hl 0 rfl) ?_
      refine z_callV (index := 256) (As := [.int 0, .int y_319]) (rest := [.int y_320]) (wr := [(b22, .inl (G.2 0, 2, .inl b55))]) Z (s9_Model_isFinal l G (b0) (0) (y_319) (b1) (b2) (b3) (b4) (b5) (b6) (b7) (b8) (b9) (b10) (b11) (b12) (b13) (b14) (b15) (b16) (b17) (b18) (b19) (b20) (b21) (b22) (b23) (b24) (b25) (b26) (b27) (b28) (b29) (b30) (b31) (b32) (b33) (b34) (b35) (b36) (b37) (b38) (b39) (b40) (b41) (b42) (b43) (b44) (b45) (b46) (b47) (b48) (b49) (b50) (b51) (b52) (b53) (b54) (b56) zc_0 hv_325 hb6 hb8 hb9 hb11 hb15 hb28 hb31) hl.1 q1420 q1422 qs70 q14 q1423 ⟨by decide, by decide, by show _ = some 2; decide +kernel⟩ ⟨Nat.le_of_ble_eq_true rfl, Nat.le_of_ble_eq_true rfl⟩ ⟨Nat.le_of_ble_eq_true rfl, Nat.le_of_ble_eq_true rfl⟩ rfl (Nat.le_of_ble_eq_true rfl) d_Model_finals_18 hP hD hS hA 0 12 rfl rfl rfl [0, 2] [1] rfl rfl rfl rfl (by decide) (fun v w1 H locs hw_327 hP hD hS => ?_)
      obtain ⟨x_328, rfl, rfl, hx_328⟩ := hw_327
      have hP : va_P G.1 classes [(b22, .inl (G.2 0, 2, .inl b55)), (b0, .inr (12, [.int b1, .ref b2, .ref b3, .ref b4, .ref b5, .int b6, .ref b7, .int b8, .int b9, .int b10, .int b11, .ref b12, .ref b13, .ref b14, .int b15, .ref b16, .ref b17, .ref b18, .ref b19, .ref b20, .ref b21, .ref b22, .ref b23, .ref b24, .ref b25, .ref b26, .ref b27, .int b28, .ref b29, .ref b30, .int b31, .int b32, .int b33, .int b34, .ref b35, .ref b36, .ref b37, .ref b38, .ref b39, .ref b40, .ref b41, .int b42, .ref b43, .ref b44, .int b45, .ref b46, .ref b47, .ref b48, .ref b49, .ref b50, .int b51, .ref b52, .ref b53, .ref b54])), (b25, .inl (G.2 0, 482, .inl b56))] H := hP
      have hD := z_tie hP hD rfl
      refine W.widen (k := 0) (n := 0) (Nat.le_of_ble_eq_true rfl) (Nat.le_of_ble_eq_true rfl) ?_
      refine lv_if_eq (tgt := 28) hx hb d_Model_finals_21 (by decide) (fun hc_329 => ?_) (fun hc_329 => ?_)
      · have _nhc_329 := hc_329
        have ni_330 := (fa_eq _ _).mp hc_329
        rw [li_0] at ni_330
        have hv_331 : zI x_328 0 0 := zI.eq_l hx_328 zc_0 hc_329
        refine lv_iconst (v := 0) hx hb d_Model_finals_28 (by decide) ?_
        refine lv_iadd hx hb d_Model_finals_29 ?_
        refine lv_topi (fun v_332 ev_332 => ?_)
        obtain ⟨qv_332, hv_332⟩ := zI_add (l := -2147483648) (h := 2147483647) (zI_all y_320) zc_0 ev_332 (by decide)
        rw [li_0] at qv_332
        refine lv_istore_n (lv' := [(1, .int v_332), (2, .int y_319), (0, .ref b0)]) hx hb d_Model_finals_30 rfl hl (by decide) rfl (fun ls hl => ?_)
        obtain ⟨v_333, ev_333⟩ : ∃ z : Int32, z = y_319 + 1 := ⟨_, rfl⟩
        obtain ⟨qv_333, hv_333⟩ := zI_add (l := 1) (h := 241) hv_325 zc_1 ev_333 (by decide)
        rw [li_1] at qv_333
        refine lv_iinc (v := v_333) (lv' := [(2, .int v_333), (1, .int v_332), (0, .ref b0)]) hx hb d_Model_finals_31 hl (k := 1) rfl (by rw [ev_333]; rfl) (by decide) rfl (fun ls hl => ?_)
        refine lv_goto (tgt := 4) hx hb d_Model_finals_34 (by decide) ?_
        exact ihk_318 (v_333) (v_332) _ _ _ (zI.wk (l' := 0) (h' := 241) hv_333 (by decide)) (zm_up qv_333 hmk_318 (by decide)) (hP.sub [1, 0, 2] rfl) (hD.sub [1, 0, 2] (by decide) rfl) hS (lv_sub hl [0, 1, 2] rfl)
      · have _nhc_329 := hc_329
        have ni_334 := fun z => hc_329 ((fa_eq _ _).mpr z)
        simp only [li_0] at ni_334
        have hv_335 : zI x_328 1 1 := zI.ne_lo hx_328 zc_0 hc_329 (by decide)
        refine lv_iconst (v := 1) hx hb d_Model_finals_24 (by decide) ?_
        refine lv_goto (tgt := 29) hx hb d_Model_finals_25 (by decide) ?_
        refine lv_iadd hx hb d_Model_finals_29 ?_
        refine lv_topi (fun v_336 ev_336 => ?_)
        refine lv_istore_n (lv' := [(1, .int v_336), (2, .int y_319), (0, .ref b0)]) hx hb d_Model_finals_30 rfl hl (by decide) rfl (fun ls hl => ?_)
        obtain ⟨v_337, ev_337⟩ : ∃ z : Int32, z = y_319 + 1 := ⟨_, rfl⟩
        obtain ⟨qv_337, hv_337⟩ := zI_add (l := 1) (h := 241) hv_325 zc_1 ev_337 (by decide)
        rw [li_1] at qv_337
        refine lv_iinc (v := v_337) (lv' := [(2, .int v_337), (1, .int v_336), (0, .ref b0)]) hx hb d_Model_finals_31 hl (k := 1) rfl (by rw [ev_337]; rfl) (by decide) rfl (fun ls hl => ?_)
        refine lv_goto (tgt := 4) hx hb d_Model_finals_34 (by decide) ?_
        exact ihk_318 (v_337) (v_336) _ _ _ (zI.wk (l' := 0) (h' := 241) hv_337 (by decide)) (zm_up qv_337 hmk_318 (by decide)) (hP.sub [1, 0, 2] rfl) (hD.sub [1, 0, 2] (by decide) rfl) hS (lv_sub hl [0, 1, 2] rfl)
theorem d_X_ran_0 : decode prog_1_method_14_code 0 = .ok (.iload_n 1, 1) := by decide +kernel
theorem d_X_ran_1 : decode prog_1_method_14_code 1 = .ok (.ifCond .lt 21, 3) := by decide +kernel
theorem d_X_ran_4 : decode prog_1_method_14_code 4 = .ok (.iload_n 1, 1) := by decide +kernel
theorem d_X_ran_5 : decode prog_1_method_14_code 5 = .ok (.aload_n 0, 1) := by decide +kernel
theorem d_X_ran_6 : decode prog_1_method_14_code 6 = .ok (.getfield 70, 3) := by decide +kernel
theorem d_X_ran_9 : decode prog_1_method_14_code 9 = .ok (.arraylength, 1) := by decide +kernel
theorem d_X_ran_10 : decode prog_1_method_14_code 10 = .ok (.if_icmp .ge 12, 3) := by decide +kernel
theorem d_X_ran_13 : decode prog_1_method_14_code 13 = .ok (.aload_n 0, 1) := by decide +kernel
theorem d_X_ran_14 : decode prog_1_method_14_code 14 = .ok (.getfield 70, 3) := by decide +kernel
theorem d_X_ran_17 : decode prog_1_method_14_code 17 = .ok (.iload_n 1, 1) := by decide +kernel
theorem d_X_ran_18 : decode prog_1_method_14_code 18 = .ok (.iaload, 1) := by decide +kernel
theorem d_X_ran_19 : decode prog_1_method_14_code 19 = .ok (.goto 4, 3) := by decide +kernel
theorem d_X_ran_22 : decode prog_1_method_14_code 22 = .ok (.iconst (-1), 1) := by decide +kernel
theorem d_X_ran_23 : decode prog_1_method_14_code 23 = .ok (.ireturn, 1) := by decide +kernel
abbrev m_s1_X_ran : Room := { frames := 0, cells := 0, slots := 0, locals := 0 }
set_option maxHeartbeats 4000000 in
set_option maxRecDepth 100000 in
theorem s1_X_ran (l : Launch) (G : zG) (b0 : Nat) (b1 : Int32) (b2 : Nat) (b3 : Nat) (b4 : Nat) (b5 : Nat) (b6 : Int32) (b7 : Int32) (b8 : Nat) (b9 : Nat) (b10 : Nat) (b11 : Nat) (b12 : Nat) (b13 : Nat) (b14 : Nat) (b15 : Nat) (b16 : Nat) (b17 : Nat) (b18 : Nat) (b19 : Nat) (b20 : Nat) (b21 : Nat) (b22 : Nat → Int32) (hb6 : zI b6 0 7) (hb7 : zI b7 0 8) : zM l G y_X_ran prog_1_method_14_code 2 (Option.some Jvm.ClassFile.FieldType.int) m_s1_X_ran [.ref b0, .int b1] [(b0, .inr (0, [.ref b2, .ref b3, .ref b4, .ref b5, .int b6, .int b7, .ref b8, .ref b9, .ref b10, .ref b11, .ref b12, .ref b13, .ref b14, .ref b15, .ref b16, .ref b17, .ref b18, .ref b19, .ref b20, .ref b21])), (b15, .inl (G.2 0, 3, .inl b22))] (fun v w => ∃ (e0 : Int32), v = some (.int e0) ∧ w = [(b0, .inr (0, [.ref b2, .ref b3, .ref b4, .ref b5, .int b6, .int b7, .ref b8, .ref b9, .ref b10, .ref b11, .ref b12, .ref b13, .ref b14, .ref b15, .ref b16, .ref b17, .ref b18, .ref b19, .ref b20, .ref b21])), (b15, .inl (G.2 0, 3, .inl b22))]) := by
  refine z_start (by decide +kernel) (Nat.le_of_ble_eq_true rfl) ?_
  intro p e s m below meth c A Z hr hnm hA hP hD hS ls hl
  have Z : zC p s m _ meth c prog_1_method_14_code 2 "TraceMachines" G := Z
  obtain ⟨hx, hb, hml, hown, hts, hK, hN, hlocks⟩ := id Z
  have hl : lv_has ls 2 [(0, .ref b0), (1, .int b1)] := hl
  refine lv_iload_n hx hb d_X_ran_0 rfl (lv_at hl 1 rfl) ?_
  refine lv_if_lt (tgt := 22) hx hb d_X_ran_1 (by decide) (fun hc_1 => ?_) (fun hc_1 => ?_)
  · have _nhc_1 := hc_1
    have ni_2 := (fa_lt _ _).mp hc_1
    rw [li_0] at ni_2
    have hv_3 : zI b1 (-2147483648) (-1) := zI.lt_l (zI_all b1) zc_0 hc_1 (by decide)
    refine lv_iconst (v := (-1)) hx hb d_X_ran_22 (by decide) ?_
    exact z_iret hx hb hr hlocks hP hD hS (Nat.le_of_ble_eq_true rfl) (Nat.le_of_ble_eq_true rfl) d_X_ran_23 ⟨(-1), rfl, rfl⟩
  · have _nhc_1 := hc_1
    have ni_4 := (fa_le _ _).mp (zi_nlt hc_1)
    rw [li_0] at ni_4
    have hv_5 : zI b1 0 2147483647 := zI.le_r zc_0 (zI_all b1) (zi_nlt hc_1) (by decide)
    refine lv_iload_n hx hb d_X_ran_4 rfl (lv_at hl 1 rfl) ?_
    refine lv_aload_n hx hb d_X_ran_5 rfl (lv_at hl 0 rfl) ?_
    refine va_get (D := G.1) (ci := 0) (v := .ref b15) (C := R_X) (T := F_X) (N := 20) hx hb hts i_X hown hK hP 0 rfl rfl 13 (by decide) (hts _ q430) (fun _ h9 => h9) rfl d_X_ran_6 ?_
    refine va_alen hx hb hK hP 1 0 rfl rfl (v := 3) (show Int32.ofNat 3 = 3 from by decide +kernel) d_X_ran_9 ?_
    refine lv_icmp_ge (tgt := 22) hx hb d_X_ran_10 (by decide) (fun hc_6 => ?_) (fun hc_6 => ?_)
    · have _nhc_6 := hc_6
      have ni_7 := (fa_le _ _).mp hc_6
      rw [li_3] at ni_7
      have hv_8 : zI b1 3 2147483647 := zI.le_r zc_3 hv_5 hc_6 (by decide)
      refine lv_iconst (v := (-1)) hx hb d_X_ran_22 (by decide) ?_
      exact z_iret hx hb hr hlocks hP hD hS (Nat.le_of_ble_eq_true rfl) (Nat.le_of_ble_eq_true rfl) d_X_ran_23 ⟨(-1), rfl, rfl⟩
    · have _nhc_6 := hc_6
      have ni_9 := (fa_lt _ _).mp (zi_nle hc_6)
      rw [li_3] at ni_9
      have hv_10 : zI b1 0 2 := zI.lt_l hv_5 zc_3 (zi_nle hc_6) (by decide)
      refine lv_aload_n hx hb d_X_ran_13 rfl (lv_at hl 0 rfl) ?_
      refine va_get (D := G.1) (ci := 0) (v := .ref b15) (C := R_X) (T := F_X) (N := 20) hx hb hts i_X hown hK hP 0 rfl rfl 13 (by decide) (hts _ q430) (fun _ h9 => h9) rfl d_X_ran_14 ?_
      refine lv_iload_n hx hb d_X_ran_17 rfl (lv_at hl 1 rfl) ?_
      refine va_iald hx hb hK hP 1 0 rfl rfl (zI.inn hv_10 (by decide)) d_X_ran_18 ?_
      refine lv_topi (fun v_11 ev_11 => ?_)
      refine lv_goto (tgt := 23) hx hb d_X_ran_19 (by decide) ?_
      exact z_iret hx hb hr hlocks hP hD hS (Nat.le_of_ble_eq_true rfl) (Nat.le_of_ble_eq_true rfl) d_X_ran_23 ⟨v_11, rfl, rfl⟩
theorem d_X_sign_0 : decode prog_1_method_2_code 0 = .ok (.aload_n 0, 1) := by decide +kernel
theorem d_X_sign_1 : decode prog_1_method_2_code 1 = .ok (.getfield 12, 3) := by decide +kernel
theorem d_X_sign_4 : decode prog_1_method_2_code 4 = .ok (.iload_n 1, 1) := by decide +kernel
theorem d_X_sign_5 : decode prog_1_method_2_code 5 = .ok (.invokevirtual 118, 3) := by decide +kernel
theorem d_X_sign_8 : decode prog_1_method_2_code 8 = .ok (.ifCond .eq 13, 3) := by decide +kernel
theorem d_X_sign_11 : decode prog_1_method_2_code 11 = .ok (.aload_n 0, 1) := by decide +kernel
theorem d_X_sign_12 : decode prog_1_method_2_code 12 = .ok (.getfield 12, 3) := by decide +kernel
theorem d_X_sign_15 : decode prog_1_method_2_code 15 = .ok (.getfield 122, 3) := by decide +kernel
theorem d_X_sign_18 : decode prog_1_method_2_code 18 = .ok (.goto 4, 3) := by decide +kernel
theorem d_X_sign_21 : decode prog_1_method_2_code 21 = .ok (.iconst (-1), 1) := by decide +kernel
theorem d_X_sign_22 : decode prog_1_method_2_code 22 = .ok (.ireturn, 1) := by decide +kernel
abbrev m_s1_X_sign : Room := { frames := 1, cells := 0, slots := 0, locals := 22 }
set_option maxHeartbeats 4000000 in
set_option maxRecDepth 100000 in
theorem s1_X_sign (l : Launch) (G : zG) (b0 : Nat) (b1 : Int32) (b2 : Nat) (b3 : Nat) (b4 : Nat) (b5 : Nat) (b6 : Int32) (b7 : Int32) (b8 : Nat) (b9 : Nat) (b10 : Nat) (b11 : Nat) (b12 : Nat) (b13 : Nat) (b14 : Nat) (b15 : Nat) (b16 : Nat) (b17 : Nat) (b18 : Nat) (b19 : Nat) (b20 : Nat) (b21 : Nat) (b22 : Int32) (b23 : Nat) (b24 : Nat → Int32) (hb6 : zI b6 0 7) (hb7 : zI b7 0 8) (hb22 : zI b22 0 240) : zM l G y_X_sign prog_1_method_2_code 2 (Option.some Jvm.ClassFile.FieldType.int) m_s1_X_sign [.ref b0, .int b1] [(b0, .inr (0, [.ref b2, .ref b3, .ref b4, .ref b5, .int b6, .int b7, .ref b8, .ref b9, .ref b10, .ref b11, .ref b12, .ref b13, .ref b14, .ref b15, .ref b16, .ref b17, .ref b18, .ref b19, .ref b20, .ref b21])), (b2, .inr (1, [.int b22, .ref b23])), (b23, .inl (G.2 2, 240, .inl b24))] (fun v w => ∃ (e0 : Int32), ∃ (e1 : Int32), ∃ (e2 : Nat → Int32), v = some (.int e0) ∧ w = [(b0, .inr (0, [.ref b2, .ref b3, .ref b4, .ref b5, .int b6, .int b7, .ref b8, .ref b9, .ref b10, .ref b11, .ref b12, .ref b13, .ref b14, .ref b15, .ref b16, .ref b17, .ref b18, .ref b19, .ref b20, .ref b21])), (b2, .inr (1, [.int e1, .ref b23])), (b23, .inl (G.2 2, 240, .inl e2))] ∧ (zI e0 (-1) 240) ∧ (zI e1 0 240)) := by
  refine z_start (by decide +kernel) (Nat.le_of_ble_eq_true rfl) ?_
  intro p e s m below meth c A Z hr hnm hA hP hD hS ls hl
  have Z : zC p s m _ meth c prog_1_method_2_code 2 "TraceMachines" G := Z
  obtain ⟨hx, hb, hml, hown, hts, hK, hN, hlocks⟩ := id Z
  have hl : lv_has ls 2 [(0, .ref b0), (1, .int b1)] := hl
  refine lv_aload_n hx hb d_X_sign_0 rfl (lv_at hl 0 rfl) ?_
  refine va_get (D := G.1) (ci := 0) (v := .ref b2) (C := R_X) (T := F_X) (N := 20) hx hb hts i_X hown hK hP 0 rfl rfl 0 (by decide) (hts _ q417) (fun _ h9 => h9) rfl d_X_sign_1 ?_
  refine lv_iload_n hx hb d_X_sign_4 rfl (lv_at hl 1 rfl) ?_
  refine z_callV (index := 118) (As := [.int b1]) (rest := []) (wr := [(b0, .inr (0, [.ref b2, .ref b3, .ref b4, .ref b5, .int b6, .int b7, .ref b8, .ref b9, .ref b10, .ref b11, .ref b12, .ref b13, .ref b14, .ref b15, .ref b16, .ref b17, .ref b18, .ref b19, .ref b20, .ref b21]))]) Z (s1_Text_put l G (b2) (b1) (b22) (b23) (b24) hb22) hl.1 q482 q483 q484 q2 q485 ⟨by decide, by decide, by show _ = some 1; decide +kernel⟩ ⟨Nat.le_of_ble_eq_true rfl, Nat.le_of_ble_eq_true rfl⟩ ⟨Nat.le_of_ble_eq_true rfl, Nat.le_of_ble_eq_true rfl⟩ rfl (Nat.le_of_ble_eq_true rfl) d_X_sign_5 hP hD hS hA 1 1 rfl rfl rfl [1, 2] [0] rfl rfl rfl rfl (by decide) (fun v w1 H locs hw_1 hP hD hS => ?_)
  obtain ⟨x_2, x_3, f_4, rfl, rfl, hx_2, hx_3⟩ := hw_1
  have hP : va_P G.1 classes [(b0, .inr (0, [.ref b2, .ref b3, .ref b4, .ref b5, .int b6, .int b7, .ref b8, .ref b9, .ref b10, .ref b11, .ref b12, .ref b13, .ref b14, .ref b15, .ref b16, .ref b17, .ref b18, .ref b19, .ref b20, .ref b21])), (b2, .inr (1, [.int x_3, .ref b23])), (b23, .inl (G.2 2, 240, .inl f_4))] H := hP
  have hD := z_tie hP hD rfl
  refine W.widen (k := 0) (n := 0) (Nat.le_of_ble_eq_true rfl) (Nat.le_of_ble_eq_true rfl) ?_
  refine lv_if_eq (tgt := 21) hx hb d_X_sign_8 (by decide) (fun hc_5 => ?_) (fun hc_5 => ?_)
  · have _nhc_5 := hc_5
    have ni_6 := (fa_eq _ _).mp hc_5
    rw [li_0] at ni_6
    have hv_7 : zI x_2 0 0 := zI.eq_l hx_2 zc_0 hc_5
    refine lv_iconst (v := (-1)) hx hb d_X_sign_21 (by decide) ?_
    exact z_iret hx hb hr hlocks hP hD hS (Nat.le_of_ble_eq_true rfl) (Nat.le_of_ble_eq_true rfl) d_X_sign_22 ⟨(-1), x_3, f_4, rfl, rfl, (zI.wk (l' := (-1)) (h' := 240) zc_m1 (by decide)), hx_3⟩
  · have _nhc_5 := hc_5
    have ni_8 := fun z => hc_5 ((fa_eq _ _).mpr z)
    simp only [li_0] at ni_8
    have hv_9 : zI x_2 1 1 := zI.ne_lo hx_2 zc_0 hc_5 (by decide)
    refine lv_aload_n hx hb d_X_sign_11 rfl (lv_at hl 0 rfl) ?_
    refine va_get (D := G.1) (ci := 0) (v := .ref b2) (C := R_X) (T := F_X) (N := 20) hx hb hts i_X hown hK hP 0 rfl rfl 0 (by decide) (hts _ q417) (fun _ h9 => h9) rfl d_X_sign_12 ?_
    refine va_get (D := G.1) (ci := 1) (v := .int x_3) (C := R_Text) (T := F_Text) (N := 2) hx hb hts i_Text hown hK hP 1 rfl rfl 0 (by decide) (hts _ q38) (fun _ h9 => h9) rfl d_X_sign_15 ?_
    refine lv_goto (tgt := 22) hx hb d_X_sign_18 (by decide) ?_
    exact z_iret hx hb hr hlocks hP hD hS (Nat.le_of_ble_eq_true rfl) (Nat.le_of_ble_eq_true rfl) d_X_sign_22 ⟨x_3, x_3, f_4, rfl, rfl, (zI.wk (l' := (-1)) (h' := 240) hx_3 (by decide)), hx_3⟩
theorem d_X_end_0 : decode prog_1_method_3_code 0 = .ok (.aload_n 0, 1) := by decide +kernel
theorem d_X_end_1 : decode prog_1_method_3_code 1 = .ok (.getfield 12, 3) := by decide +kernel
theorem d_X_end_4 : decode prog_1_method_3_code 4 = .ok (.iload_n 1, 1) := by decide +kernel
theorem d_X_end_5 : decode prog_1_method_3_code 5 = .ok (.invokevirtual 126, 3) := by decide +kernel
theorem d_X_end_8 : decode prog_1_method_3_code 8 = .ok (.ireturn, 1) := by decide +kernel
abbrev m_s1_X_end : Room := { frames := 1, cells := 0, slots := 0, locals := 21 }
set_option maxHeartbeats 4000000 in
set_option maxRecDepth 100000 in
theorem s1_X_end (l : Launch) (G : zG) (b0 : Nat) (b1 : Int32) (b2 : Nat) (b3 : Nat) (b4 : Nat) (b5 : Nat) (b6 : Int32) (b7 : Int32) (b8 : Nat) (b9 : Nat) (b10 : Nat) (b11 : Nat) (b12 : Nat) (b13 : Nat) (b14 : Nat) (b15 : Nat) (b16 : Nat) (b17 : Nat) (b18 : Nat) (b19 : Nat) (b20 : Nat) (b21 : Nat) (b22 : Int32) (b23 : Nat) (hb6 : zI b6 0 7) (hb7 : zI b7 0 8) (hb22 : zI b22 0 240) : zM l G y_X_end prog_1_method_3_code 2 (Option.some Jvm.ClassFile.FieldType.boolean) m_s1_X_end [.ref b0, .int b1] [(b0, .inr (0, [.ref b2, .ref b3, .ref b4, .ref b5, .int b6, .int b7, .ref b8, .ref b9, .ref b10, .ref b11, .ref b12, .ref b13, .ref b14, .ref b15, .ref b16, .ref b17, .ref b18, .ref b19, .ref b20, .ref b21])), (b2, .inr (1, [.int b22, .ref b23]))] (fun v w => ∃ (e0 : Int32), ∃ (e1 : Int32), v = some (.int e0) ∧ w = [(b0, .inr (0, [.ref b2, .ref b3, .ref b4, .ref b5, .int b6, .int b7, .ref b8, .ref b9, .ref b10, .ref b11, .ref b12, .ref b13, .ref b14, .ref b15, .ref b16, .ref b17, .ref b18, .ref b19, .ref b20, .ref b21])), (b2, .inr (1, [.int e1, .ref b23]))] ∧ (zI e0 0 1) ∧ (zI e1 0 240)) := by
  refine z_start (by decide +kernel) (Nat.le_of_ble_eq_true rfl) ?_
  intro p e s m below meth c A Z hr hnm hA hP hD hS ls hl
  have Z : zC p s m _ meth c prog_1_method_3_code 2 "TraceMachines" G := Z
  obtain ⟨hx, hb, hml, hown, hts, hK, hN, hlocks⟩ := id Z
  have hl : lv_has ls 2 [(0, .ref b0), (1, .int b1)] := hl
  refine lv_aload_n hx hb d_X_end_0 rfl (lv_at hl 0 rfl) ?_
  refine va_get (D := G.1) (ci := 0) (v := .ref b2) (C := R_X) (T := F_X) (N := 20) hx hb hts i_X hown hK hP 0 rfl rfl 0 (by decide) (hts _ q417) (fun _ h9 => h9) rfl d_X_end_1 ?_
  refine lv_iload_n hx hb d_X_end_4 rfl (lv_at hl 1 rfl) ?_
  refine z_callV (index := 126) (As := [.int b1]) (rest := []) (wr := [(b0, .inr (0, [.ref b2, .ref b3, .ref b4, .ref b5, .int b6, .int b7, .ref b8, .ref b9, .ref b10, .ref b11, .ref b12, .ref b13, .ref b14, .ref b15, .ref b16, .ref b17, .ref b18, .ref b19, .ref b20, .ref b21]))]) Z (s1_Text_cut l G (b2) (b1) (b22) (b23) hb22) hl.1 q490 q491 q492 q2 q493 ⟨by decide, by decide, by show _ = some 1; decide +kernel⟩ ⟨Nat.le_of_ble_eq_true rfl, Nat.le_of_ble_eq_true rfl⟩ ⟨Nat.le_of_ble_eq_true rfl, Nat.le_of_ble_eq_true rfl⟩ rfl (Nat.le_of_ble_eq_true rfl) d_X_end_5 hP hD hS hA 1 1 rfl rfl rfl [1] [0] rfl rfl rfl rfl (by decide) (fun v w1 H locs hw_1 hP hD hS => ?_)
  obtain ⟨x_2, x_3, rfl, rfl, hx_2, hx_3⟩ := hw_1
  have hP : va_P G.1 classes [(b0, .inr (0, [.ref b2, .ref b3, .ref b4, .ref b5, .int b6, .int b7, .ref b8, .ref b9, .ref b10, .ref b11, .ref b12, .ref b13, .ref b14, .ref b15, .ref b16, .ref b17, .ref b18, .ref b19, .ref b20, .ref b21])), (b2, .inr (1, [.int x_3, .ref b23]))] H := hP
  have hD := z_tie hP hD rfl
  refine W.widen (k := 0) (n := 0) (Nat.le_of_ble_eq_true rfl) (Nat.le_of_ble_eq_true rfl) ?_
  exact z_zret hx hb hr hlocks (zi_nb hx_2) hP hD hS (Nat.le_of_ble_eq_true rfl) (Nat.le_of_ble_eq_true rfl) d_X_end_8 ⟨x_2, x_3, rfl, rfl, hx_2, hx_3⟩
theorem d_X_rule_0 : decode prog_1_method_20_code 0 = .ok (.iload_n 1, 1) := by decide +kernel
theorem d_X_rule_1 : decode prog_1_method_20_code 1 = .ok (.invokestatic 305, 3) := by decide +kernel
theorem d_X_rule_4 : decode prog_1_method_20_code 4 = .ok (.ifCond .eq 22, 3) := by decide +kernel
theorem d_X_rule_7 : decode prog_1_method_20_code 7 = .ok (.iload_n 2, 1) := by decide +kernel
theorem d_X_rule_8 : decode prog_1_method_20_code 8 = .ok (.invokestatic 308, 3) := by decide +kernel
theorem d_X_rule_11 : decode prog_1_method_20_code 11 = .ok (.ifCond .eq 15, 3) := by decide +kernel
theorem d_X_rule_14 : decode prog_1_method_20_code 14 = .ok (.iload_n 3, 1) := by decide +kernel
theorem d_X_rule_15 : decode prog_1_method_20_code 15 = .ok (.invokestatic 308, 3) := by decide +kernel
theorem d_X_rule_18 : decode prog_1_method_20_code 18 = .ok (.ifCond .eq 8, 3) := by decide +kernel
theorem d_X_rule_21 : decode prog_1_method_20_code 21 = .ok (.iload_n 2, 1) := by decide +kernel
theorem d_X_rule_22 : decode prog_1_method_20_code 22 = .ok (.iload_n 3, 1) := by decide +kernel
theorem d_X_rule_23 : decode prog_1_method_20_code 23 = .ok (.if_icmp .ne 5, 3) := by decide +kernel
theorem d_X_rule_26 : decode prog_1_method_20_code 26 = .ok (.iconst (-1), 1) := by decide +kernel
theorem d_X_rule_28 : decode prog_1_method_20_code 28 = .ok (.iload 4, 2) := by decide +kernel
theorem d_X_rule_30 : decode prog_1_method_20_code 30 = .ok (.ifCond .eq 11, 3) := by decide +kernel
theorem d_X_rule_33 : decode prog_1_method_20_code 33 = .ok (.iload 4, 2) := by decide +kernel
theorem d_X_rule_35 : decode prog_1_method_20_code 35 = .ok (.iconst 1, 1) := by decide +kernel
theorem d_X_rule_36 : decode prog_1_method_20_code 36 = .ok (.if_icmp .eq 5, 3) := by decide +kernel
theorem d_X_rule_39 : decode prog_1_method_20_code 39 = .ok (.iconst (-1), 1) := by decide +kernel
theorem d_X_rule_41 : decode prog_1_method_20_code 41 = .ok (.aload_n 0, 1) := by decide +kernel
theorem d_X_rule_42 : decode prog_1_method_20_code 42 = .ok (.getfield 98, 3) := by decide +kernel
theorem d_X_rule_45 : decode prog_1_method_20_code 45 = .ok (.aload_n 0, 1) := by decide +kernel
theorem d_X_rule_46 : decode prog_1_method_20_code 46 = .ok (.getfield 19, 3) := by decide +kernel
theorem d_X_rule_49 : decode prog_1_method_20_code 49 = .ok (.iload_n 1, 1) := by decide +kernel
theorem d_X_rule_50 : decode prog_1_method_20_code 50 = .ok (.iload_n 2, 1) := by decide +kernel
theorem d_X_rule_51 : decode prog_1_method_20_code 51 = .ok (.iload_n 3, 1) := by decide +kernel
theorem d_X_rule_52 : decode prog_1_method_20_code 52 = .ok (.invokevirtual 311, 3) := by decide +kernel
theorem d_X_rule_55 : decode prog_1_method_20_code 55 = .ok (.iload 4, 2) := by decide +kernel
theorem d_X_rule_57 : decode prog_1_method_20_code 57 = .ok (.ifCond .ne 13, 3) := by decide +kernel
theorem d_X_rule_60 : decode prog_1_method_20_code 60 = .ok (.aload_n 0, 1) := by decide +kernel
theorem d_X_rule_61 : decode prog_1_method_20_code 61 = .ok (.getfield 98, 3) := by decide +kernel
theorem d_X_rule_64 : decode prog_1_method_20_code 64 = .ok (.getfield 315, 3) := by decide +kernel
theorem d_X_rule_67 : decode prog_1_method_20_code 67 = .ok (.goto 10, 3) := by decide +kernel
theorem d_X_rule_70 : decode prog_1_method_20_code 70 = .ok (.aload_n 0, 1) := by decide +kernel
theorem d_X_rule_71 : decode prog_1_method_20_code 71 = .ok (.getfield 98, 3) := by decide +kernel
theorem d_X_rule_74 : decode prog_1_method_20_code 74 = .ok (.getfield 318, 3) := by decide +kernel
theorem d_X_isKind_0 : decode prog_1_method_31_code 0 = .ok (.iload_n 0, 1) := by decide +kernel
theorem d_X_isKind_1 : decode prog_1_method_31_code 1 = .ok (.ifCond .lt 13, 3) := by decide +kernel
theorem d_X_isKind_4 : decode prog_1_method_31_code 4 = .ok (.iload_n 0, 1) := by decide +kernel
theorem d_X_isKind_5 : decode prog_1_method_31_code 5 = .ok (.bipush 6, 2) := by decide +kernel
theorem d_X_isKind_7 : decode prog_1_method_31_code 7 = .ok (.if_icmp .ge 7, 3) := by decide +kernel
theorem d_X_isKind_10 : decode prog_1_method_31_code 10 = .ok (.iconst 1, 1) := by decide +kernel
theorem d_X_isKind_11 : decode prog_1_method_31_code 11 = .ok (.goto 4, 3) := by decide +kernel
theorem d_X_isKind_14 : decode prog_1_method_31_code 14 = .ok (.iconst 0, 1) := by decide +kernel
theorem d_X_isKind_15 : decode prog_1_method_31_code 15 = .ok (.ireturn, 1) := by decide +kernel
abbrev m_s2_X_isKind : Room := { frames := 0, cells := 0, slots := 0, locals := 0 }
set_option maxHeartbeats 4000000 in
set_option maxRecDepth 100000 in
theorem s2_X_isKind (l : Launch) (G : zG) (b0 : Int32)  : zM l G y_X_isKind prog_1_method_31_code 1 (Option.some Jvm.ClassFile.FieldType.boolean) m_s2_X_isKind [.int b0] [] (fun v w => (v = some (.int 0) ∧ w = [] ∧ b0.toInt < 0) ∨ (v = some (.int 0) ∧ w = [] ∧ 0 ≤ b0.toInt ∧ 6 ≤ b0.toInt) ∨ (v = some (.int 1) ∧ w = [] ∧ 0 ≤ b0.toInt ∧ b0.toInt < 6)) := by
  refine z_start (by decide +kernel) (Nat.le_of_ble_eq_true rfl) ?_
  intro p e s m below meth c A Z hr hnm hA hP hD hS ls hl
  have Z : zC p s m _ meth c prog_1_method_31_code 1 "TraceMachines" G := Z
  obtain ⟨hx, hb, hml, hown, hts, hK, hN, hlocks⟩ := id Z
  have hl : lv_has ls 1 [(0, .int b0)] := hl
  refine lv_iload_n hx hb d_X_isKind_0 rfl (lv_at hl 0 rfl) ?_
  refine lv_if_lt (tgt := 14) hx hb d_X_isKind_1 (by decide) (fun hc_1 => ?_) (fun hc_1 => ?_)
  · have _nhc_1 := hc_1
    have ni_2 := (fa_lt _ _).mp hc_1
    rw [li_0] at ni_2
    have hv_3 : zI b0 (-2147483648) (-1) := zI.lt_l (zI_all b0) zc_0 hc_1 (by decide)
    refine lv_iconst (v := 0) hx hb d_X_isKind_14 (by decide) ?_
    exact z_zret hx hb hr hlocks rfl hP hD hS (Nat.le_of_ble_eq_true rfl) (Nat.le_of_ble_eq_true rfl) d_X_isKind_15 (Or.inl ⟨rfl, rfl, by omega⟩)
  · have _nhc_1 := hc_1
    have ni_4 := (fa_le _ _).mp (zi_nlt hc_1)
    rw [li_0] at ni_4
    have hv_5 : zI b0 0 2147483647 := zI.le_r zc_0 (zI_all b0) (zi_nlt hc_1) (by decide)
    refine lv_iload_n hx hb d_X_isKind_4 rfl (lv_at hl 0 rfl) ?_
    refine lv_bipush (v := 6) hx hb d_X_isKind_5 (by decide) ?_
    refine lv_icmp_ge (tgt := 14) hx hb d_X_isKind_7 (by decide) (fun hc_6 => ?_) (fun hc_6 => ?_)
    · have _nhc_6 := hc_6
      have ni_7 := (fa_le _ _).mp hc_6
      rw [li_6] at ni_7
      have hv_8 : zI b0 6 2147483647 := zI.le_r zc_6 hv_5 hc_6 (by decide)
      refine lv_iconst (v := 0) hx hb d_X_isKind_14 (by decide) ?_
      exact z_zret hx hb hr hlocks rfl hP hD hS (Nat.le_of_ble_eq_true rfl) (Nat.le_of_ble_eq_true rfl) d_X_isKind_15 (Or.inr (Or.inl ⟨rfl, rfl, by omega, by omega⟩))
    · have _nhc_6 := hc_6
      have ni_9 := (fa_lt _ _).mp (zi_nle hc_6)
      rw [li_6] at ni_9
      have hv_10 : zI b0 0 5 := zI.lt_l hv_5 zc_6 (zi_nle hc_6) (by decide)
      refine lv_iconst (v := 1) hx hb d_X_isKind_10 (by decide) ?_
      refine lv_goto (tgt := 15) hx hb d_X_isKind_11 (by decide) ?_
      exact z_zret hx hb hr hlocks rfl hP hD hS (Nat.le_of_ble_eq_true rfl) (Nat.le_of_ble_eq_true rfl) d_X_isKind_15 (Or.inr (Or.inr (⟨rfl, rfl, by omega, by omega⟩)))
theorem d_X_rule_27 : decode prog_1_method_20_code 27 = .ok (.ireturn, 1) := by decide +kernel
theorem d_X_rule_40 : decode prog_1_method_20_code 40 = .ok (.ireturn, 1) := by decide +kernel
theorem d_X_rule_77 : decode prog_1_method_20_code 77 = .ok (.ireturn, 1) := by decide +kernel
abbrev m_s1_X_rule : Room := { frames := 3, cells := 0, slots := 0, locals := 74 }
set_option maxHeartbeats 4000000 in
set_option maxRecDepth 100000 in
theorem s1_X_rule (l : Launch) (G : zG) (b0 : Nat) (b1 : Int32) (b2 : Int32) (b3 : Int32) (b4 : Int32) (b5 : Nat) (b6 : Nat) (b7 : Nat) (b8 : Nat) (b9 : Int32) (b10 : Int32) (b11 : Nat) (b12 : Nat) (b13 : Nat) (b14 : Nat) (b15 : Nat) (b16 : Nat) (b17 : Nat) (b18 : Nat) (b19 : Nat) (b20 : Nat) (b21 : Nat) (b22 : Nat) (b23 : Nat) (b24 : Nat) (b25 : Int32) (b26 : Int32) (b27 : Int32) (b28 : Nat) (b29 : Nat) (b30 : Nat) (b31 : Nat → Int32) (b32 : Nat → Int32) (b33 : Int32) (b34 : Int32) (b35 : Int32) (b36 : Int32) (b37 : Int32) (b38 : Int32) (b39 : Int32) (b40 : Int32) (b41 : Int32) (b42 : Int32) (hb9 : zI b9 0 7) (hb10 : zI b10 0 8) (hb25 : zI b25 0 20) (hb26 : zI b26 0 3) (hb27 : zI b27 0 20) (hb41 : zI b41 0 1) (hb42 : zI b42 0 1) (hb31 : zR b31 0 12) (hb32 : zR b32 0 9) : zM l G y_X_rule prog_1_method_20_code 5 (Option.some Jvm.ClassFile.FieldType.int) m_s1_X_rule [.ref b0, .int b1, .int b2, .int b3, .int b4] [(b0, .inr (0, [.ref b5, .ref b6, .ref b7, .ref b8, .int b9, .int b10, .ref b11, .ref b12, .ref b13, .ref b14, .ref b15, .ref b16, .ref b17, .ref b18, .ref b19, .ref b20, .ref b21, .ref b22, .ref b23, .ref b24])), (b6, .inr (2, [.int b25, .int b26, .int b27, .ref b28, .ref b29, .ref b30])), (b28, .inl (G.2 0, 20, .inl b31)), (b29, .inl (G.2 0, 240, .inl b32)), (b22, .inr (10, [.int b33, .int b34, .int b35, .int b36, .int b37, .int b38, .int b39, .int b40, .int b41, .int b42]))] (fun v w => ∃ (e0 : Int32), ∃ (e1 : Int32), ∃ (e2 : Int32), ∃ (e3 : Int32), ∃ (e4 : Int32), ∃ (e5 : Int32), ∃ (e6 : Int32), ∃ (e7 : Int32), ∃ (e8 : Int32), ∃ (e9 : Int32), ∃ (e10 : Int32), v = some (.int e0) ∧ w = [(b0, .inr (0, [.ref b5, .ref b6, .ref b7, .ref b8, .int b9, .int b10, .ref b11, .ref b12, .ref b13, .ref b14, .ref b15, .ref b16, .ref b17, .ref b18, .ref b19, .ref b20, .ref b21, .ref b22, .ref b23, .ref b24])), (b6, .inr (2, [.int b25, .int b26, .int b27, .ref b28, .ref b29, .ref b30])), (b28, .inl (G.2 0, 20, .inl b31)), (b29, .inl (G.2 0, 240, .inl b32)), (b22, .inr (10, [.int e1, .int e2, .int e3, .int e4, .int e5, .int e6, .int e7, .int e8, .int e9, .int e10]))] ∧ (zI e9 0 1) ∧ (zI e10 0 1)) := by
  refine z_start (by decide +kernel) (Nat.le_of_ble_eq_true rfl) ?_
  intro p e s m below meth c A Z hr hnm hA hP hD hS ls hl
  have Z : zC p s m _ meth c prog_1_method_20_code 5 "TraceMachines" G := Z
  obtain ⟨hx, hb, hml, hown, hts, hK, hN, hlocks⟩ := id Z
  have hl : lv_has ls 5 [(0, .ref b0), (1, .int b1), (2, .int b2), (3, .int b3), (4, .int b4)] := hl
  refine lv_iload_n hx hb d_X_rule_0 rfl (lv_at hl 1 rfl) ?_
  refine z_callS (index := 305) (As := [.int b1]) (rest := []) (wr := [(b0, .inr (0, [.ref b5, .ref b6, .ref b7, .ref b8, .int b9, .int b10, .ref b11, .ref b12, .ref b13, .ref b14, .ref b15, .ref b16, .ref b17, .ref b18, .ref b19, .ref b20, .ref b21, .ref b22, .ref b23, .ref b24])), (b6, .inr (2, [.int b25, .int b26, .int b27, .ref b28, .ref b29, .ref b30])), (b28, .inl (G.2 0, 20, .inl b31)), (b29, .inl (G.2 0, 240, .inl b32)), (b22, .inr (10, [.int b33, .int b34, .int b35, .int b36, .int b37, .int b38, .int b39, .int b40, .int b41, .int b42]))]) Z (s2_X_isKind l G (b1)) hl.1 q915 q916 q1 q917 ⟨by decide, by decide, by show _ = some 1; decide +kernel⟩ ⟨Nat.le_of_ble_eq_true rfl, Nat.le_of_ble_eq_true rfl⟩ ⟨Nat.le_of_ble_eq_true rfl, Nat.le_of_ble_eq_true rfl⟩ rfl (Nat.le_of_ble_eq_true rfl) d_X_rule_1 hP hD hS hA [] [0, 1, 2, 3, 4] rfl rfl rfl rfl (by decide) (fun v w1 H locs hw_1 hP hD hS => ?_)
  rcases hw_1 with ⟨rfl, rfl, hq_2⟩ | ⟨rfl, rfl, hq_3, hq_4⟩ | ⟨rfl, rfl, hq_5, hq_6⟩
  · have hP : va_P G.1 classes [(b0, .inr (0, [.ref b5, .ref b6, .ref b7, .ref b8, .int b9, .int b10, .ref b11, .ref b12, .ref b13, .ref b14, .ref b15, .ref b16, .ref b17, .ref b18, .ref b19, .ref b20, .ref b21, .ref b22, .ref b23, .ref b24])), (b6, .inr (2, [.int b25, .int b26, .int b27, .ref b28, .ref b29, .ref b30])), (b28, .inl (G.2 0, 20, .inl b31)), (b29, .inl (G.2 0, 240, .inl b32)), (b22, .inr (10, [.int b33, .int b34, .int b35, .int b36, .int b37, .int b38, .int b39, .int b40, .int b41, .int b42]))] H := hP
    have hD := z_tie hP hD rfl
    have hv_7 : zI b1 (-2147483648) (-1) := by have _a := hq_2; have _b := (zI_all b1); have _c := zc_0; exact ⟨by omega, by omega⟩
    refine W.widen (k := 0) (n := 0) (Nat.le_of_ble_eq_true rfl) (Nat.le_of_ble_eq_true rfl) ?_
    refine lv_if_eq (tgt := 26) hx hb d_X_rule_4 (by decide) (fun _ => ?_) (fun hc => absurd hc (by decide +kernel))
    refine lv_iconst (v := (-1)) hx hb d_X_rule_26 (by decide) ?_
    exact z_iret hx hb hr hlocks hP hD hS (Nat.le_of_ble_eq_true rfl) (Nat.le_of_ble_eq_true rfl) d_X_rule_27 ⟨(-1), b33, b34, b35, b36, b37, b38, b39, b40, b41, b42, rfl, rfl, hb41, hb42⟩
  · have hP : va_P G.1 classes [(b0, .inr (0, [.ref b5, .ref b6, .ref b7, .ref b8, .int b9, .int b10, .ref b11, .ref b12, .ref b13, .ref b14, .ref b15, .ref b16, .ref b17, .ref b18, .ref b19, .ref b20, .ref b21, .ref b22, .ref b23, .ref b24])), (b6, .inr (2, [.int b25, .int b26, .int b27, .ref b28, .ref b29, .ref b30])), (b28, .inl (G.2 0, 20, .inl b31)), (b29, .inl (G.2 0, 240, .inl b32)), (b22, .inr (10, [.int b33, .int b34, .int b35, .int b36, .int b37, .int b38, .int b39, .int b40, .int b41, .int b42]))] H := hP
    have hD := z_tie hP hD rfl
    have hv_8 : zI b1 0 2147483647 := by have _a := hq_3; have _b := (zI_all b1); have _c := zc_0; exact ⟨by omega, by omega⟩
    have hv_9 : zI b1 6 2147483647 := by have _a := hq_4; have _b := hv_8; have _c := zc_6; exact ⟨by omega, by omega⟩
    refine W.widen (k := 0) (n := 0) (Nat.le_of_ble_eq_true rfl) (Nat.le_of_ble_eq_true rfl) ?_
    refine lv_if_eq (tgt := 26) hx hb d_X_rule_4 (by decide) (fun _ => ?_) (fun hc => absurd hc (by decide +kernel))
    refine lv_iconst (v := (-1)) hx hb d_X_rule_26 (by decide) ?_
    exact z_iret hx hb hr hlocks hP hD hS (Nat.le_of_ble_eq_true rfl) (Nat.le_of_ble_eq_true rfl) d_X_rule_27 ⟨(-1), b33, b34, b35, b36, b37, b38, b39, b40, b41, b42, rfl, rfl, hb41, hb42⟩
  · have hP : va_P G.1 classes [(b0, .inr (0, [.ref b5, .ref b6, .ref b7, .ref b8, .int b9, .int b10, .ref b11, .ref b12, .ref b13, .ref b14, .ref b15, .ref b16, .ref b17, .ref b18, .ref b19, .ref b20, .ref b21, .ref b22, .ref b23, .ref b24])), (b6, .inr (2, [.int b25, .int b26, .int b27, .ref b28, .ref b29, .ref b30])), (b28, .inl (G.2 0, 20, .inl b31)), (b29, .inl (G.2 0, 240, .inl b32)), (b22, .inr (10, [.int b33, .int b34, .int b35, .int b36, .int b37, .int b38, .int b39, .int b40, .int b41, .int b42]))] H := hP
    have hD := z_tie hP hD rfl
    have hv_10 : zI b1 0 2147483647 := by have _a := hq_5; have _b := (zI_all b1); have _c := zc_0; exact ⟨by omega, by omega⟩
    have hv_11 : zI b1 0 5 := by have _a := hq_6; have _b := hv_10; have _c := zc_6; exact ⟨by omega, by omega⟩
    refine W.widen (k := 0) (n := 0) (Nat.le_of_ble_eq_true rfl) (Nat.le_of_ble_eq_true rfl) ?_
    refine lv_if_eq (tgt := 26) hx hb d_X_rule_4 (by decide) (fun hc => absurd hc (by decide +kernel)) (fun _ => ?_)
    refine lv_iload_n hx hb d_X_rule_7 rfl (lv_at hl 2 rfl) ?_
    refine z_callS (index := 308) (As := [.int b2]) (rest := []) (wr := [(b0, .inr (0, [.ref b5, .ref b6, .ref b7, .ref b8, .int b9, .int b10, .ref b11, .ref b12, .ref b13, .ref b14, .ref b15, .ref b16, .ref b17, .ref b18, .ref b19, .ref b20, .ref b21, .ref b22, .ref b23, .ref b24])), (b6, .inr (2, [.int b25, .int b26, .int b27, .ref b28, .ref b29, .ref b30])), (b28, .inl (G.2 0, 20, .inl b31)), (b29, .inl (G.2 0, 240, .inl b32)), (b22, .inr (10, [.int b33, .int b34, .int b35, .int b36, .int b37, .int b38, .int b39, .int b40, .int b41, .int b42]))]) Z (s2_X_isLetter l G (b2)) hl.1 q918 q518 q1 q519 ⟨by decide, by decide, by show _ = some 1; decide +kernel⟩ ⟨Nat.le_of_ble_eq_true rfl, Nat.le_of_ble_eq_true rfl⟩ ⟨Nat.le_of_ble_eq_true rfl, Nat.le_of_ble_eq_true rfl⟩ rfl (Nat.le_of_ble_eq_true rfl) d_X_rule_8 hP hD hS hA [] [0, 1, 2, 3, 4] rfl rfl rfl rfl (by decide) (fun v w1 H locs hw_12 hP hD hS => ?_)
    rcases hw_12 with ⟨rfl, rfl, hq_13⟩ | ⟨rfl, rfl, hq_14, hq_15⟩ | ⟨rfl, rfl, hq_16, hq_17⟩
    · have hP : va_P G.1 classes [(b0, .inr (0, [.ref b5, .ref b6, .ref b7, .ref b8, .int b9, .int b10, .ref b11, .ref b12, .ref b13, .ref b14, .ref b15, .ref b16, .ref b17, .ref b18, .ref b19, .ref b20, .ref b21, .ref b22, .ref b23, .ref b24])), (b6, .inr (2, [.int b25, .int b26, .int b27, .ref b28, .ref b29, .ref b30])), (b28, .inl (G.2 0, 20, .inl b31)), (b29, .inl (G.2 0, 240, .inl b32)), (b22, .inr (10, [.int b33, .int b34, .int b35, .int b36, .int b37, .int b38, .int b39, .int b40, .int b41, .int b42]))] H := hP
      have hD := z_tie hP hD rfl
      have hv_18 : zI b2 (-2147483648) (-1) := by have _a := hq_13; have _b := (zI_all b2); have _c := zc_0; exact ⟨by omega, by omega⟩
      refine W.widen (k := 0) (n := 0) (Nat.le_of_ble_eq_true rfl) (Nat.le_of_ble_eq_true rfl) ?_
      refine lv_if_eq (tgt := 26) hx hb d_X_rule_11 (by decide) (fun _ => ?_) (fun hc => absurd hc (by decide +kernel))
      refine lv_iconst (v := (-1)) hx hb d_X_rule_26 (by decide) ?_
      exact z_iret hx hb hr hlocks hP hD hS (Nat.le_of_ble_eq_true rfl) (Nat.le_of_ble_eq_true rfl) d_X_rule_27 ⟨(-1), b33, b34, b35, b36, b37, b38, b39, b40, b41, b42, rfl, rfl, hb41, hb42⟩
    · have hP : va_P G.1 classes [(b0, .inr (0, [.ref b5, .ref b6, .ref b7, .ref b8, .int b9, .int b10, .ref b11, .ref b12, .ref b13, .ref b14, .ref b15, .ref b16, .ref b17, .ref b18, .ref b19, .ref b20, .ref b21, .ref b22, .ref b23, .ref b24])), (b6, .inr (2, [.int b25, .int b26, .int b27, .ref b28, .ref b29, .ref b30])), (b28, .inl (G.2 0, 20, .inl b31)), (b29, .inl (G.2 0, 240, .inl b32)), (b22, .inr (10, [.int b33, .int b34, .int b35, .int b36, .int b37, .int b38, .int b39, .int b40, .int b41, .int b42]))] H := hP
      have hD := z_tie hP hD rfl
      have hv_19 : zI b2 0 2147483647 := by have _a := hq_14; have _b := (zI_all b2); have _c := zc_0; exact ⟨by omega, by omega⟩
      have hv_20 : zI b2 10 2147483647 := by have _a := hq_15; have _b := hv_19; have _c := zc_10; exact ⟨by omega, by omega⟩
      refine W.widen (k := 0) (n := 0) (Nat.le_of_ble_eq_true rfl) (Nat.le_of_ble_eq_true rfl) ?_
      refine lv_if_eq (tgt := 26) hx hb d_X_rule_11 (by decide) (fun _ => ?_) (fun hc => absurd hc (by decide +kernel))
      refine lv_iconst (v := (-1)) hx hb d_X_rule_26 (by decide) ?_
      exact z_iret hx hb hr hlocks hP hD hS (Nat.le_of_ble_eq_true rfl) (Nat.le_of_ble_eq_true rfl) d_X_rule_27 ⟨(-1), b33, b34, b35, b36, b37, b38, b39, b40, b41, b42, rfl, rfl, hb41, hb42⟩
    · have hP : va_P G.1 classes [(b0, .inr (0, [.ref b5, .ref b6, .ref b7, .ref b8, .int b9, .int b10, .ref b11, .ref b12, .ref b13, .ref b14, .ref b15, .ref b16, .ref b17, .ref b18, .ref b19, .ref b20, .ref b21, .ref b22, .ref b23, .ref b24])), (b6, .inr (2, [.int b25, .int b26, .int b27, .ref b28, .ref b29, .ref b30])), (b28, .inl (G.2 0, 20, .inl b31)), (b29, .inl (G.2 0, 240, .inl b32)), (b22, .inr (10, [.int b33, .int b34, .int b35, .int b36, .int b37, .int b38, .int b39, .int b40, .int b41, .int b42]))] H := hP
      have hD := z_tie hP hD rfl
      have hv_21 : zI b2 0 2147483647 := by have _a := hq_16; have _b := (zI_all b2); have _c := zc_0; exact ⟨by omega, by omega⟩
      have hv_22 : zI b2 0 9 := by have _a := hq_17; have _b := hv_21; have _c := zc_10; exact ⟨by omega, by omega⟩
      refine W.widen (k := 0) (n := 0) (Nat.le_of_ble_eq_true rfl) (Nat.le_of_ble_eq_true rfl) ?_
      refine lv_if_eq (tgt := 26) hx hb d_X_rule_11 (by decide) (fun hc => absurd hc (by decide +kernel)) (fun _ => ?_)
      refine lv_iload_n hx hb d_X_rule_14 rfl (lv_at hl 3 rfl) ?_
      refine z_callS (index := 308) (As := [.int b3]) (rest := []) (wr := [(b0, .inr (0, [.ref b5, .ref b6, .ref b7, .ref b8, .int b9, .int b10, .ref b11, .ref b12, .ref b13, .ref b14, .ref b15, .ref b16, .ref b17, .ref b18, .ref b19, .ref b20, .ref b21, .ref b22, .ref b23, .ref b24])), (b6, .inr (2, [.int b25, .int b26, .int b27, .ref b28, .ref b29, .ref b30])), (b28, .inl (G.2 0, 20, .inl b31)), (b29, .inl (G.2 0, 240, .inl b32)), (b22, .inr (10, [.int b33, .int b34, .int b35, .int b36, .int b37, .int b38, .int b39, .int b40, .int b41, .int b42]))]) Z (s2_X_isLetter l G (b3)) hl.1 q918 q518 q1 q519 ⟨by decide, by decide, by show _ = some 1; decide +kernel⟩ ⟨Nat.le_of_ble_eq_true rfl, Nat.le_of_ble_eq_true rfl⟩ ⟨Nat.le_of_ble_eq_true rfl, Nat.le_of_ble_eq_true rfl⟩ rfl (Nat.le_of_ble_eq_true rfl) d_X_rule_15 hP hD hS hA [] [0, 1, 2, 3, 4] rfl rfl rfl rfl (by decide) (fun v w1 H locs hw_23 hP hD hS => ?_)
      rcases hw_23 with ⟨rfl, rfl, hq_24⟩ | ⟨rfl, rfl, hq_25, hq_26⟩ | ⟨rfl, rfl, hq_27, hq_28⟩
      · have hP : va_P G.1 classes [(b0, .inr (0, [.ref b5, .ref b6, .ref b7, .ref b8, .int b9, .int b10, .ref b11, .ref b12, .ref b13, .ref b14, .ref b15, .ref b16, .ref b17, .ref b18, .ref b19, .ref b20, .ref b21, .ref b22, .ref b23, .ref b24])), (b6, .inr (2, [.int b25, .int b26, .int b27, .ref b28, .ref b29, .ref b30])), (b28, .inl (G.2 0, 20, .inl b31)), (b29, .inl (G.2 0, 240, .inl b32)), (b22, .inr (10, [.int b33, .int b34, .int b35, .int b36, .int b37, .int b38, .int b39, .int b40, .int b41, .int b42]))] H := hP
        have hD := z_tie hP hD rfl
        have hv_29 : zI b3 (-2147483648) (-1) := by have _a := hq_24; have _b := (zI_all b3); have _c := zc_0; exact ⟨by omega, by omega⟩
        refine W.widen (k := 0) (n := 0) (Nat.le_of_ble_eq_true rfl) (Nat.le_of_ble_eq_true rfl) ?_
        refine lv_if_eq (tgt := 26) hx hb d_X_rule_18 (by decide) (fun _ => ?_) (fun hc => absurd hc (by decide +kernel))
        refine lv_iconst (v := (-1)) hx hb d_X_rule_26 (by decide) ?_
        exact z_iret hx hb hr hlocks hP hD hS (Nat.le_of_ble_eq_true rfl) (Nat.le_of_ble_eq_true rfl) d_X_rule_27 ⟨(-1), b33, b34, b35, b36, b37, b38, b39, b40, b41, b42, rfl, rfl, hb41, hb42⟩
      · have hP : va_P G.1 classes [(b0, .inr (0, [.ref b5, .ref b6, .ref b7, .ref b8, .int b9, .int b10, .ref b11, .ref b12, .ref b13, .ref b14, .ref b15, .ref b16, .ref b17, .ref b18, .ref b19, .ref b20, .ref b21, .ref b22, .ref b23, .ref b24])), (b6, .inr (2, [.int b25, .int b26, .int b27, .ref b28, .ref b29, .ref b30])), (b28, .inl (G.2 0, 20, .inl b31)), (b29, .inl (G.2 0, 240, .inl b32)), (b22, .inr (10, [.int b33, .int b34, .int b35, .int b36, .int b37, .int b38, .int b39, .int b40, .int b41, .int b42]))] H := hP
        have hD := z_tie hP hD rfl
        have hv_30 : zI b3 0 2147483647 := by have _a := hq_25; have _b := (zI_all b3); have _c := zc_0; exact ⟨by omega, by omega⟩
        have hv_31 : zI b3 10 2147483647 := by have _a := hq_26; have _b := hv_30; have _c := zc_10; exact ⟨by omega, by omega⟩
        refine W.widen (k := 0) (n := 0) (Nat.le_of_ble_eq_true rfl) (Nat.le_of_ble_eq_true rfl) ?_
        refine lv_if_eq (tgt := 26) hx hb d_X_rule_18 (by decide) (fun _ => ?_) (fun hc => absurd hc (by decide +kernel))
        refine lv_iconst (v := (-1)) hx hb d_X_rule_26 (by decide) ?_
        exact z_iret hx hb hr hlocks hP hD hS (Nat.le_of_ble_eq_true rfl) (Nat.le_of_ble_eq_true rfl) d_X_rule_27 ⟨(-1), b33, b34, b35, b36, b37, b38, b39, b40, b41, b42, rfl, rfl, hb41, hb42⟩
      · have hP : va_P G.1 classes [(b0, .inr (0, [.ref b5, .ref b6, .ref b7, .ref b8, .int b9, .int b10, .ref b11, .ref b12, .ref b13, .ref b14, .ref b15, .ref b16, .ref b17, .ref b18, .ref b19, .ref b20, .ref b21, .ref b22, .ref b23, .ref b24])), (b6, .inr (2, [.int b25, .int b26, .int b27, .ref b28, .ref b29, .ref b30])), (b28, .inl (G.2 0, 20, .inl b31)), (b29, .inl (G.2 0, 240, .inl b32)), (b22, .inr (10, [.int b33, .int b34, .int b35, .int b36, .int b37, .int b38, .int b39, .int b40, .int b41, .int b42]))] H := hP
        have hD := z_tie hP hD rfl
        have hv_32 : zI b3 0 2147483647 := by have _a := hq_27; have _b := (zI_all b3); have _c := zc_0; exact ⟨by omega, by omega⟩
        have hv_33 : zI b3 0 9 := by have _a := hq_28; have _b := hv_32; have _c := zc_10; exact ⟨by omega, by omega⟩
        refine W.widen (k := 0) (n := 0) (Nat.le_of_ble_eq_true rfl) (Nat.le_of_ble_eq_true rfl) ?_
        refine lv_if_eq (tgt := 26) hx hb d_X_rule_18 (by decide) (fun hc => absurd hc (by decide +kernel)) (fun _ => ?_)
        refine lv_iload_n hx hb d_X_rule_21 rfl (lv_at hl 2 rfl) ?_
        refine lv_iload_n hx hb d_X_rule_22 rfl (lv_at hl 3 rfl) ?_
        refine lv_icmp_ne (tgt := 28) hx hb d_X_rule_23 (by decide) (fun hc_34 => ?_) (fun hc_34 => ?_)
        · have _nhc_34 := hc_34
          have ni_35 := fun z => hc_34 ((fa_eq _ _).mpr z)
          refine lv_iload hx hb d_X_rule_28 (lv_at hl 4 rfl) ?_
          refine lv_if_eq (tgt := 41) hx hb d_X_rule_30 (by decide) (fun hc_36 => ?_) (fun hc_36 => ?_)
          · have _nhc_36 := hc_36
            have ni_37 := (fa_eq _ _).mp hc_36
            rw [li_0] at ni_37
            have hv_38 : zI b4 0 0 := zI.eq_l (zI_all b4) zc_0 hc_36
            refine lv_aload_n hx hb d_X_rule_41 rfl (lv_at hl 0 rfl) ?_
            refine va_get (D := G.1) (ci := 0) (v := .ref b22) (C := R_X) (T := F_X) (N := 20) hx hb hts i_X hown hK hP 0 rfl rfl 17 (by decide) (hts _ q434) (fun _ h9 => h9) rfl d_X_rule_42 ?_
            refine lv_aload_n hx hb d_X_rule_45 rfl (lv_at hl 0 rfl) ?_
            refine va_get (D := G.1) (ci := 0) (v := .ref b6) (C := R_X) (T := F_X) (N := 20) hx hb hts i_X hown hK hP 0 rfl rfl 1 (by decide) (hts _ q418) (fun _ h9 => h9) rfl d_X_rule_46 ?_
            refine lv_iload_n hx hb d_X_rule_49 rfl (lv_at hl 1 rfl) ?_
            refine lv_iload_n hx hb d_X_rule_50 rfl (lv_at hl 2 rfl) ?_
            refine lv_iload_n hx hb d_X_rule_51 rfl (lv_at hl 3 rfl) ?_
            refine z_callV (index := 311) (As := [.ref b6, .int b1, .int b2, .int b3]) (rest := []) (wr := [(b0, .inr (0, [.ref b5, .ref b6, .ref b7, .ref b8, .int b9, .int b10, .ref b11, .ref b12, .ref b13, .ref b14, .ref b15, .ref b16, .ref b17, .ref b18, .ref b19, .ref b20, .ref b21, .ref b22, .ref b23, .ref b24]))]) Z (s1_Pair_tally l G (b22) (b6) (b1) (b2) (b3) (b33) (b34) (b35) (b36) (b37) (b38) (b39) (b40) (b41) (b42) (b25) (b26) (b27) (b28) (b29) (b30) (b31) (b32) hb41 hb42 hb25 hb26 hb27 hb31 hb32) hl.1 q919 q920 q921 q11 q922 ⟨by decide, by decide, by show _ = some 4; decide +kernel⟩ ⟨Nat.le_of_ble_eq_true rfl, Nat.le_of_ble_eq_true rfl⟩ ⟨Nat.le_of_ble_eq_true rfl, Nat.le_of_ble_eq_true rfl⟩ rfl (Nat.le_of_ble_eq_true rfl) d_X_rule_52 hP hD hS hA 4 10 rfl rfl rfl [4, 1, 2, 3] [0] rfl rfl rfl rfl (by decide) (fun v w1 H locs hw_39 hP hD hS => ?_)
            obtain ⟨x_40, x_41, x_42, x_43, x_44, x_45, x_46, x_47, x_48, x_49, rfl, rfl, hx_48, hx_49⟩ := hw_39
            have hP : va_P G.1 classes [(b0, .inr (0, [.ref b5, .ref b6, .ref b7, .ref b8, .int b9, .int b10, .ref b11, .ref b12, .ref b13, .ref b14, .ref b15, .ref b16, .ref b17, .ref b18, .ref b19, .ref b20, .ref b21, .ref b22, .ref b23, .ref b24])), (b22, .inr (10, [.int x_40, .int x_41, .int x_42, .int x_43, .int x_44, .int x_45, .int x_46, .int x_47, .int x_48, .int x_49])), (b6, .inr (2, [.int b25, .int b26, .int b27, .ref b28, .ref b29, .ref b30])), (b28, .inl (G.2 0, 20, .inl b31)), (b29, .inl (G.2 0, 240, .inl b32))] H := hP
            have hD := z_tie hP hD rfl
            refine W.widen (k := 0) (n := 0) (Nat.le_of_ble_eq_true rfl) (Nat.le_of_ble_eq_true rfl) ?_
            refine lv_iload hx hb d_X_rule_55 (lv_at hl 4 rfl) ?_
            refine lv_if_ne (tgt := 70) hx hb d_X_rule_57 (by decide) (fun hc => zI.no_ne hv_38 zc_0 hc) (fun _ => ?_)
            refine lv_aload_n hx hb d_X_rule_60 rfl (lv_at hl 0 rfl) ?_
            refine va_get (D := G.1) (ci := 0) (v := .ref b22) (C := R_X) (T := F_X) (N := 20) hx hb hts i_X hown hK hP 0 rfl rfl 17 (by decide) (hts _ q434) (fun _ h9 => h9) rfl d_X_rule_61 ?_
            refine va_get (D := G.1) (ci := 10) (v := .int x_40) (C := R_Pair) (T := F_Pair) (N := 10) hx hb hts i_Pair hown hK hP 1 rfl rfl 0 (by decide) (hts _ q364) (fun _ h9 => h9) rfl d_X_rule_64 ?_
            refine lv_goto (tgt := 77) hx hb d_X_rule_67 (by decide) ?_
            exact z_iret hx hb hr hlocks (hP.sub [0, 2, 3, 4, 1] rfl) (hD.sub [0, 2, 3, 4, 1] (by decide) rfl) hS (Nat.le_of_ble_eq_true rfl) (Nat.le_of_ble_eq_true rfl) d_X_rule_77 ⟨x_40, x_40, x_41, x_42, x_43, x_44, x_45, x_46, x_47, x_48, x_49, rfl, rfl, hx_48, hx_49⟩
          · have _nhc_36 := hc_36
            have ni_50 := fun z => hc_36 ((fa_eq _ _).mpr z)
            simp only [li_0] at ni_50
            refine lv_iload hx hb d_X_rule_33 (lv_at hl 4 rfl) ?_
            refine lv_iconst (v := 1) hx hb d_X_rule_35 (by decide) ?_
            refine lv_icmp_eq (tgt := 41) hx hb d_X_rule_36 (by decide) (fun hc_51 => ?_) (fun hc_51 => ?_)
            · have _nhc_51 := hc_51
              have ni_52 := (fa_eq _ _).mp hc_51
              rw [li_1] at ni_52
              have hv_53 : zI b4 1 1 := zI.eq_l (zI_all b4) zc_1 hc_51
              refine lv_aload_n hx hb d_X_rule_41 rfl (lv_at hl 0 rfl) ?_
              refine va_get (D := G.1) (ci := 0) (v := .ref b22) (C := R_X) (T := F_X) (N := 20) hx hb hts i_X hown hK hP 0 rfl rfl 17 (by decide) (hts _ q434) (fun _ h9 => h9) rfl d_X_rule_42 ?_
              refine lv_aload_n hx hb d_X_rule_45 rfl (lv_at hl 0 rfl) ?_
              refine va_get (D := G.1) (ci := 0) (v := .ref b6) (C := R_X) (T := F_X) (N := 20) hx hb hts i_X hown hK hP 0 rfl rfl 1 (by decide) (hts _ q418) (fun _ h9 => h9) rfl d_X_rule_46 ?_
              refine lv_iload_n hx hb d_X_rule_49 rfl (lv_at hl 1 rfl) ?_
              refine lv_iload_n hx hb d_X_rule_50 rfl (lv_at hl 2 rfl) ?_
              refine lv_iload_n hx hb d_X_rule_51 rfl (lv_at hl 3 rfl) ?_
              refine z_callV (index := 311) (As := [.ref b6, .int b1, .int b2, .int b3]) (rest := []) (wr := [(b0, .inr (0, [.ref b5, .ref b6, .ref b7, .ref b8, .int b9, .int b10, .ref b11, .ref b12, .ref b13, .ref b14, .ref b15, .ref b16, .ref b17, .ref b18, .ref b19, .ref b20, .ref b21, .ref b22, .ref b23, .ref b24]))]) Z (s1_Pair_tally l G (b22) (b6) (b1) (b2) (b3) (b33) (b34) (b35) (b36) (b37) (b38) (b39) (b40) (b41) (b42) (b25) (b26) (b27) (b28) (b29) (b30) (b31) (b32) hb41 hb42 hb25 hb26 hb27 hb31 hb32) hl.1 q919 q920 q921 q11 q922 ⟨by decide, by decide, by show _ = some 4; decide +kernel⟩ ⟨Nat.le_of_ble_eq_true rfl, Nat.le_of_ble_eq_true rfl⟩ ⟨Nat.le_of_ble_eq_true rfl, Nat.le_of_ble_eq_true rfl⟩ rfl (Nat.le_of_ble_eq_true rfl) d_X_rule_52 hP hD hS hA 4 10 rfl rfl rfl [4, 1, 2, 3] [0] rfl rfl rfl rfl (by decide) (fun v w1 H locs hw_54 hP hD hS => ?_)
              obtain ⟨x_55, x_56, x_57, x_58, x_59, x_60, x_61, x_62, x_63, x_64, rfl, rfl, hx_63, hx_64⟩ := hw_54
              have hP : va_P G.1 classes [(b0, .inr (0, [.ref b5, .ref b6, .ref b7, .ref b8, .int b9, .int b10, .ref b11, .ref b12, .ref b13, .ref b14, .ref b15, .ref b16, .ref b17, .ref b18, .ref b19, .ref b20, .ref b21, .ref b22, .ref b23, .ref b24])), (b22, .inr (10, [.int x_55, .int x_56, .int x_57, .int x_58, .int x_59, .int x_60, .int x_61, .int x_62, .int x_63, .int x_64])), (b6, .inr (2, [.int b25, .int b26, .int b27, .ref b28, .ref b29, .ref b30])), (b28, .inl (G.2 0, 20, .inl b31)), (b29, .inl (G.2 0, 240, .inl b32))] H := hP
              have hD := z_tie hP hD rfl
              refine W.widen (k := 0) (n := 0) (Nat.le_of_ble_eq_true rfl) (Nat.le_of_ble_eq_true rfl) ?_
              refine lv_iload hx hb d_X_rule_55 (lv_at hl 4 rfl) ?_
              refine lv_if_ne (tgt := 70) hx hb d_X_rule_57 (by decide) (fun _ => ?_) (fun hc => zI.no_eq hv_53 zc_0 hc (by decide))
              refine lv_aload_n hx hb d_X_rule_70 rfl (lv_at hl 0 rfl) ?_
              refine va_get (D := G.1) (ci := 0) (v := .ref b22) (C := R_X) (T := F_X) (N := 20) hx hb hts i_X hown hK hP 0 rfl rfl 17 (by decide) (hts _ q434) (fun _ h9 => h9) rfl d_X_rule_71 ?_
              refine va_get (D := G.1) (ci := 10) (v := .int x_56) (C := R_Pair) (T := F_Pair) (N := 10) hx hb hts i_Pair hown hK hP 1 rfl rfl 1 (by decide) (hts _ q366) (fun _ h9 => h9) rfl d_X_rule_74 ?_
              exact z_iret hx hb hr hlocks (hP.sub [0, 2, 3, 4, 1] rfl) (hD.sub [0, 2, 3, 4, 1] (by decide) rfl) hS (Nat.le_of_ble_eq_true rfl) (Nat.le_of_ble_eq_true rfl) d_X_rule_77 ⟨x_56, x_55, x_56, x_57, x_58, x_59, x_60, x_61, x_62, x_63, x_64, rfl, rfl, hx_63, hx_64⟩
            · have _nhc_51 := hc_51
              have ni_65 := fun z => hc_51 ((fa_eq _ _).mpr z)
              simp only [li_1] at ni_65
              refine lv_iconst (v := (-1)) hx hb d_X_rule_39 (by decide) ?_
              exact z_iret hx hb hr hlocks hP hD hS (Nat.le_of_ble_eq_true rfl) (Nat.le_of_ble_eq_true rfl) d_X_rule_40 ⟨(-1), b33, b34, b35, b36, b37, b38, b39, b40, b41, b42, rfl, rfl, hb41, hb42⟩
        · have _nhc_34 := hc_34
          have ni_66 := (fa_eq _ _).mp hc_34
          refine lv_iconst (v := (-1)) hx hb d_X_rule_26 (by decide) ?_
          exact z_iret hx hb hr hlocks hP hD hS (Nat.le_of_ble_eq_true rfl) (Nat.le_of_ble_eq_true rfl) d_X_rule_27 ⟨(-1), b33, b34, b35, b36, b37, b38, b39, b40, b41, b42, rfl, rfl, hb41, hb42⟩
theorem d_X_rules_0 : decode prog_1_method_21_code 0 = .ok (.iload_n 1, 1) := by decide +kernel
theorem d_X_rules_1 : decode prog_1_method_21_code 1 = .ok (.invokestatic 305, 3) := by decide +kernel
theorem d_X_rules_4 : decode prog_1_method_21_code 4 = .ok (.ifCond .eq 19, 3) := by decide +kernel
theorem d_X_rules_7 : decode prog_1_method_21_code 7 = .ok (.iload_n 2, 1) := by decide +kernel
theorem d_X_rules_8 : decode prog_1_method_21_code 8 = .ok (.iconst 1, 1) := by decide +kernel
theorem d_X_rules_9 : decode prog_1_method_21_code 9 = .ok (.if_icmp .lt 14, 3) := by decide +kernel
theorem d_X_rules_12 : decode prog_1_method_21_code 12 = .ok (.iload_n 2, 1) := by decide +kernel
theorem d_X_rules_13 : decode prog_1_method_21_code 13 = .ok (.bipush 20, 2) := by decide +kernel
theorem d_X_rules_15 : decode prog_1_method_21_code 15 = .ok (.if_icmp .gt 8, 3) := by decide +kernel
theorem d_X_rules_18 : decode prog_1_method_21_code 18 = .ok (.iload_n 3, 1) := by decide +kernel
theorem d_X_rules_19 : decode prog_1_method_21_code 19 = .ok (.iconst (-1), 1) := by decide +kernel
theorem d_X_rules_20 : decode prog_1_method_21_code 20 = .ok (.if_icmp .ge 5, 3) := by decide +kernel
theorem d_X_rules_23 : decode prog_1_method_21_code 23 = .ok (.iconst (-1), 1) := by decide +kernel
theorem d_X_rules_24 : decode prog_1_method_21_code 24 = .ok (.ireturn, 1) := by decide +kernel
theorem d_X_rules_25 : decode prog_1_method_21_code 25 = .ok (.iconst 0, 1) := by decide +kernel
theorem d_X_rules_26 : decode prog_1_method_21_code 26 = .ok (.istore 4, 2) := by decide +kernel
theorem d_X_rules_28 : decode prog_1_method_21_code 28 = .ok (.iconst 0, 1) := by decide +kernel
theorem d_X_rules_29 : decode prog_1_method_21_code 29 = .ok (.istore 5, 2) := by decide +kernel
theorem d_X_rules_31 : decode prog_1_method_21_code 31 = .ok (.iload 5, 2) := by decide +kernel
theorem d_X_rules_33 : decode prog_1_method_21_code 33 = .ok (.bipush 100, 2) := by decide +kernel
theorem d_X_rules_35 : decode prog_1_method_21_code 35 = .ok (.if_icmp .ge 62, 3) := by decide +kernel
theorem d_X_rules_38 : decode prog_1_method_21_code 38 = .ok (.iload 5, 2) := by decide +kernel
theorem d_X_rules_40 : decode prog_1_method_21_code 40 = .ok (.bipush 10, 2) := by decide +kernel
theorem d_X_rules_42 : decode prog_1_method_21_code 42 = .ok (.idiv, 1) := by decide +kernel
theorem d_X_rules_43 : decode prog_1_method_21_code 43 = .ok (.istore 6, 2) := by decide +kernel
theorem d_X_rules_45 : decode prog_1_method_21_code 45 = .ok (.iload 5, 2) := by decide +kernel
theorem d_X_rules_47 : decode prog_1_method_21_code 47 = .ok (.bipush 10, 2) := by decide +kernel
theorem d_X_rules_49 : decode prog_1_method_21_code 49 = .ok (.irem, 1) := by decide +kernel
theorem d_X_rules_50 : decode prog_1_method_21_code 50 = .ok (.istore 7, 2) := by decide +kernel
theorem d_X_rules_52 : decode prog_1_method_21_code 52 = .ok (.iload 6, 2) := by decide +kernel
theorem d_X_rules_54 : decode prog_1_method_21_code 54 = .ok (.iload 7, 2) := by decide +kernel
theorem d_X_rules_56 : decode prog_1_method_21_code 56 = .ok (.if_icmp .eq 35, 3) := by decide +kernel
theorem d_X_rules_59 : decode prog_1_method_21_code 59 = .ok (.aload_n 0, 1) := by decide +kernel
theorem d_X_rules_60 : decode prog_1_method_21_code 60 = .ok (.getfield 98, 3) := by decide +kernel
theorem d_X_rules_63 : decode prog_1_method_21_code 63 = .ok (.aload_n 0, 1) := by decide +kernel
theorem d_X_rules_64 : decode prog_1_method_21_code 64 = .ok (.getfield 19, 3) := by decide +kernel
theorem d_X_rules_67 : decode prog_1_method_21_code 67 = .ok (.iload_n 1, 1) := by decide +kernel
theorem d_X_rules_68 : decode prog_1_method_21_code 68 = .ok (.iload 6, 2) := by decide +kernel
theorem d_X_rules_70 : decode prog_1_method_21_code 70 = .ok (.iload 7, 2) := by decide +kernel
theorem d_X_rules_72 : decode prog_1_method_21_code 72 = .ok (.iload_n 2, 1) := by decide +kernel
theorem d_X_rules_73 : decode prog_1_method_21_code 73 = .ok (.invokevirtual 321, 3) := by decide +kernel
theorem d_X_rules_76 : decode prog_1_method_21_code 76 = .ok (.ifCond .eq 15, 3) := by decide +kernel
theorem d_X_rules_79 : decode prog_1_method_21_code 79 = .ok (.iload 4, 2) := by decide +kernel
theorem d_X_rules_81 : decode prog_1_method_21_code 81 = .ok (.iload_n 3, 1) := by decide +kernel
theorem d_X_rules_82 : decode prog_1_method_21_code 82 = .ok (.if_icmp .ne 6, 3) := by decide +kernel
theorem d_X_rules_85 : decode prog_1_method_21_code 85 = .ok (.iload 5, 2) := by decide +kernel
theorem d_X_rules_87 : decode prog_1_method_21_code 87 = .ok (.ireturn, 1) := by decide +kernel
theorem d_X_rules_88 : decode prog_1_method_21_code 88 = .ok (.iinc 4 1, 3) := by decide +kernel
theorem d_X_rules_91 : decode prog_1_method_21_code 91 = .ok (.iinc 5 1, 3) := by decide +kernel
theorem d_X_rules_94 : decode prog_1_method_21_code 94 = .ok (.goto (-63), 3) := by decide +kernel
theorem d_X_rules_97 : decode prog_1_method_21_code 97 = .ok (.iload_n 3, 1) := by decide +kernel
theorem d_X_rules_98 : decode prog_1_method_21_code 98 = .ok (.iconst (-1), 1) := by decide +kernel
theorem d_X_rules_99 : decode prog_1_method_21_code 99 = .ok (.if_icmp .ne 8, 3) := by decide +kernel
theorem d_X_rules_102 : decode prog_1_method_21_code 102 = .ok (.iload 4, 2) := by decide +kernel
theorem d_X_rules_104 : decode prog_1_method_21_code 104 = .ok (.goto 4, 3) := by decide +kernel
theorem d_X_rules_107 : decode prog_1_method_21_code 107 = .ok (.iconst (-1), 1) := by decide +kernel
theorem d_X_rules_108 : decode prog_1_method_21_code 108 = .ok (.ireturn, 1) := by decide +kernel
abbrev m_s1_X_rules : Room := { frames := 4, cells := 0, slots := 0, locals := 99 }
set_option maxHeartbeats 4000000 in
set_option maxRecDepth 100000 in
theorem s1_X_rules (l : Launch) (G : zG) (b0 : Nat) (b1 : Int32) (b2 : Int32) (b3 : Int32) (b4 : Nat) (b5 : Nat) (b6 : Nat) (b7 : Nat) (b8 : Int32) (b9 : Int32) (b10 : Nat) (b11 : Nat) (b12 : Nat) (b13 : Nat) (b14 : Nat) (b15 : Nat) (b16 : Nat) (b17 : Nat) (b18 : Nat) (b19 : Nat) (b20 : Nat) (b21 : Nat) (b22 : Nat) (b23 : Nat) (b24 : Int32) (b25 : Int32) (b26 : Int32) (b27 : Nat) (b28 : Nat) (b29 : Nat) (b30 : Nat → Int32) (b31 : Nat → Int32) (b32 : Int32) (b33 : Int32) (b34 : Int32) (b35 : Int32) (b36 : Int32) (b37 : Int32) (b38 : Int32) (b39 : Int32) (b40 : Int32) (b41 : Int32) (hb8 : zI b8 0 7) (hb9 : zI b9 0 8) (hb24 : zI b24 0 20) (hb25 : zI b25 0 3) (hb26 : zI b26 0 20) (hb40 : zI b40 0 1) (hb41 : zI b41 0 1) (hb30 : zR b30 0 12) (hb31 : zR b31 0 9) : zM l G y_X_rules prog_1_method_21_code 8 (Option.some Jvm.ClassFile.FieldType.int) m_s1_X_rules [.ref b0, .int b1, .int b2, .int b3] [(b0, .inr (0, [.ref b4, .ref b5, .ref b6, .ref b7, .int b8, .int b9, .ref b10, .ref b11, .ref b12, .ref b13, .ref b14, .ref b15, .ref b16, .ref b17, .ref b18, .ref b19, .ref b20, .ref b21, .ref b22, .ref b23])), (b5, .inr (2, [.int b24, .int b25, .int b26, .ref b27, .ref b28, .ref b29])), (b27, .inl (G.2 0, 20, .inl b30)), (b28, .inl (G.2 0, 240, .inl b31)), (b21, .inr (10, [.int b32, .int b33, .int b34, .int b35, .int b36, .int b37, .int b38, .int b39, .int b40, .int b41]))] (fun v w => ∃ (e0 : Int32), ∃ (e1 : Int32), ∃ (e2 : Int32), ∃ (e3 : Int32), ∃ (e4 : Int32), ∃ (e5 : Int32), ∃ (e6 : Int32), ∃ (e7 : Int32), ∃ (e8 : Int32), ∃ (e9 : Int32), ∃ (e10 : Int32), v = some (.int e0) ∧ w = [(b0, .inr (0, [.ref b4, .ref b5, .ref b6, .ref b7, .int b8, .int b9, .ref b10, .ref b11, .ref b12, .ref b13, .ref b14, .ref b15, .ref b16, .ref b17, .ref b18, .ref b19, .ref b20, .ref b21, .ref b22, .ref b23])), (b5, .inr (2, [.int b24, .int b25, .int b26, .ref b27, .ref b28, .ref b29])), (b27, .inl (G.2 0, 20, .inl b30)), (b28, .inl (G.2 0, 240, .inl b31)), (b21, .inr (10, [.int e1, .int e2, .int e3, .int e4, .int e5, .int e6, .int e7, .int e8, .int e9, .int e10]))] ∧ (zI e9 0 1) ∧ (zI e10 0 1)) := by
  refine z_start (by decide +kernel) (Nat.le_of_ble_eq_true rfl) ?_
  intro p e s m below meth c A Z hr hnm hA hP hD hS ls hl
  have Z : zC p s m _ meth c prog_1_method_21_code 8 "TraceMachines" G := Z
  obtain ⟨hx, hb, hml, hown, hts, hK, hN, hlocks⟩ := id Z
  have hl : lv_has ls 8 [(0, .ref b0), (1, .int b1), (2, .int b2), (3, .int b3)] := hl
  refine lv_iload_n hx hb d_X_rules_0 rfl (lv_at hl 1 rfl) ?_
  refine z_callS (index := 305) (As := [.int b1]) (rest := []) (wr := [(b0, .inr (0, [.ref b4, .ref b5, .ref b6, .ref b7, .int b8, .int b9, .ref b10, .ref b11, .ref b12, .ref b13, .ref b14, .ref b15, .ref b16, .ref b17, .ref b18, .ref b19, .ref b20, .ref b21, .ref b22, .ref b23])), (b5, .inr (2, [.int b24, .int b25, .int b26, .ref b27, .ref b28, .ref b29])), (b27, .inl (G.2 0, 20, .inl b30)), (b28, .inl (G.2 0, 240, .inl b31)), (b21, .inr (10, [.int b32, .int b33, .int b34, .int b35, .int b36, .int b37, .int b38, .int b39, .int b40, .int b41]))]) Z (s2_X_isKind l G (b1)) hl.1 q915 q916 q1 q917 ⟨by decide, by decide, by show _ = some 1; decide +kernel⟩ ⟨Nat.le_of_ble_eq_true rfl, Nat.le_of_ble_eq_true rfl⟩ ⟨Nat.le_of_ble_eq_true rfl, Nat.le_of_ble_eq_true rfl⟩ rfl (Nat.le_of_ble_eq_true rfl) d_X_rules_1 hP hD hS hA [] [0, 1, 2, 3, 4] rfl rfl rfl rfl (by decide) (fun v w1 H locs hw_1 hP hD hS => ?_)
  rcases hw_1 with ⟨rfl, rfl, hq_2⟩ | ⟨rfl, rfl, hq_3, hq_4⟩ | ⟨rfl, rfl, hq_5, hq_6⟩
  · have hP : va_P G.1 classes [(b0, .inr (0, [.ref b4, .ref b5, .ref b6, .ref b7, .int b8, .int b9, .ref b10, .ref b11, .ref b12, .ref b13, .ref b14, .ref b15, .ref b16, .ref b17, .ref b18, .ref b19, .ref b20, .ref b21, .ref b22, .ref b23])), (b5, .inr (2, [.int b24, .int b25, .int b26, .ref b27, .ref b28, .ref b29])), (b27, .inl (G.2 0, 20, .inl b30)), (b28, .inl (G.2 0, 240, .inl b31)), (b21, .inr (10, [.int b32, .int b33, .int b34, .int b35, .int b36, .int b37, .int b38, .int b39, .int b40, .int b41]))] H := hP
    have hD := z_tie hP hD rfl
    have hv_7 : zI b1 (-2147483648) (-1) := by have _a := hq_2; have _b := (zI_all b1); have _c := zc_0; exact ⟨by omega, by omega⟩
    refine W.widen (k := 0) (n := 0) (Nat.le_of_ble_eq_true rfl) (Nat.le_of_ble_eq_true rfl) ?_
    refine lv_if_eq (tgt := 23) hx hb d_X_rules_4 (by decide) (fun _ => ?_) (fun hc => absurd hc (by decide +kernel))
    refine lv_iconst (v := (-1)) hx hb d_X_rules_23 (by decide) ?_
    exact z_iret hx hb hr hlocks hP hD hS (Nat.le_of_ble_eq_true rfl) (Nat.le_of_ble_eq_true rfl) d_X_rules_24 ⟨(-1), b32, b33, b34, b35, b36, b37, b38, b39, b40, b41, rfl, rfl, hb40, hb41⟩
  · have hP : va_P G.1 classes [(b0, .inr (0, [.ref b4, .ref b5, .ref b6, .ref b7, .int b8, .int b9, .ref b10, .ref b11, .ref b12, .ref b13, .ref b14, .ref b15, .ref b16, .ref b17, .ref b18, .ref b19, .ref b20, .ref b21, .ref b22, .ref b23])), (b5, .inr (2, [.int b24, .int b25, .int b26, .ref b27, .ref b28, .ref b29])), (b27, .inl (G.2 0, 20, .inl b30)), (b28, .inl (G.2 0, 240, .inl b31)), (b21, .inr (10, [.int b32, .int b33, .int b34, .int b35, .int b36, .int b37, .int b38, .int b39, .int b40, .int b41]))] H := hP
    have hD := z_tie hP hD rfl
    have hv_8 : zI b1 0 2147483647 := by have _a := hq_3; have _b := (zI_all b1); have _c := zc_0; exact ⟨by omega, by omega⟩
    have hv_9 : zI b1 6 2147483647 := by have _a := hq_4; have _b := hv_8; have _c := zc_6; exact ⟨by omega, by omega⟩
    refine W.widen (k := 0) (n := 0) (Nat.le_of_ble_eq_true rfl) (Nat.le_of_ble_eq_true rfl) ?_
    refine lv_if_eq (tgt := 23) hx hb d_X_rules_4 (by decide) (fun _ => ?_) (fun hc => absurd hc (by decide +kernel))
    refine lv_iconst (v := (-1)) hx hb d_X_rules_23 (by decide) ?_
    exact z_iret hx hb hr hlocks hP hD hS (Nat.le_of_ble_eq_true rfl) (Nat.le_of_ble_eq_true rfl) d_X_rules_24 ⟨(-1), b32, b33, b34, b35, b36, b37, b38, b39, b40, b41, rfl, rfl, hb40, hb41⟩
  · have hP : va_P G.1 classes [(b0, .inr (0, [.ref b4, .ref b5, .ref b6, .ref b7, .int b8, .int b9, .ref b10, .ref b11, .ref b12, .ref b13, .ref b14, .ref b15, .ref b16, .ref b17, .ref b18, .ref b19, .ref b20, .ref b21, .ref b22, .ref b23])), (b5, .inr (2, [.int b24, .int b25, .int b26, .ref b27, .ref b28, .ref b29])), (b27, .inl (G.2 0, 20, .inl b30)), (b28, .inl (G.2 0, 240, .inl b31)), (b21, .inr (10, [.int b32, .int b33, .int b34, .int b35, .int b36, .int b37, .int b38, .int b39, .int b40, .int b41]))] H := hP
    have hD := z_tie hP hD rfl
    have hv_10 : zI b1 0 2147483647 := by have _a := hq_5; have _b := (zI_all b1); have _c := zc_0; exact ⟨by omega, by omega⟩
    have hv_11 : zI b1 0 5 := by have _a := hq_6; have _b := hv_10; have _c := zc_6; exact ⟨by omega, by omega⟩
    refine W.widen (k := 0) (n := 0) (Nat.le_of_ble_eq_true rfl) (Nat.le_of_ble_eq_true rfl) ?_
    refine lv_if_eq (tgt := 23) hx hb d_X_rules_4 (by decide) (fun hc => absurd hc (by decide +kernel)) (fun _ => ?_)
    refine lv_iload_n hx hb d_X_rules_7 rfl (lv_at hl 2 rfl) ?_
    refine lv_iconst (v := 1) hx hb d_X_rules_8 (by decide) ?_
    refine lv_icmp_lt (tgt := 23) hx hb d_X_rules_9 (by decide) (fun hc_12 => ?_) (fun hc_12 => ?_)
    · have _nhc_12 := hc_12
      have ni_13 := (fa_lt _ _).mp hc_12
      rw [li_1] at ni_13
      have hv_14 : zI b2 (-2147483648) 0 := zI.lt_l (zI_all b2) zc_1 hc_12 (by decide)
      refine lv_iconst (v := (-1)) hx hb d_X_rules_23 (by decide) ?_
      exact z_iret hx hb hr hlocks hP hD hS (Nat.le_of_ble_eq_true rfl) (Nat.le_of_ble_eq_true rfl) d_X_rules_24 ⟨(-1), b32, b33, b34, b35, b36, b37, b38, b39, b40, b41, rfl, rfl, hb40, hb41⟩
    · have _nhc_12 := hc_12
      have ni_15 := (fa_le _ _).mp (zi_nlt hc_12)
      rw [li_1] at ni_15
      have hv_16 : zI b2 1 2147483647 := zI.le_r zc_1 (zI_all b2) (zi_nlt hc_12) (by decide)
      refine lv_iload_n hx hb d_X_rules_12 rfl (lv_at hl 2 rfl) ?_
      refine lv_bipush (v := 20) hx hb d_X_rules_13 (by decide) ?_
      refine lv_icmp_gt (tgt := 23) hx hb d_X_rules_15 (by decide) (fun hc_17 => ?_) (fun hc_17 => ?_)
      · have _nhc_17 := hc_17
        have ni_18 := (fa_lt _ _).mp hc_17
        rw [li_20] at ni_18
        have hv_19 : zI b2 21 2147483647 := zI.lt_r zc_20 hv_16 hc_17 (by decide)
        refine lv_iconst (v := (-1)) hx hb d_X_rules_23 (by decide) ?_
        exact z_iret hx hb hr hlocks hP hD hS (Nat.le_of_ble_eq_true rfl) (Nat.le_of_ble_eq_true rfl) d_X_rules_24 ⟨(-1), b32, b33, b34, b35, b36, b37, b38, b39, b40, b41, rfl, rfl, hb40, hb41⟩
      · have _nhc_17 := hc_17
        have ni_20 := (fa_le _ _).mp (zi_nlt hc_17)
        rw [li_20] at ni_20
        have hv_21 : zI b2 1 20 := zI.le_l hv_16 zc_20 (zi_nlt hc_17) (by decide)
        refine lv_iload_n hx hb d_X_rules_18 rfl (lv_at hl 3 rfl) ?_
        refine lv_iconst (v := (-1)) hx hb d_X_rules_19 (by decide) ?_
        refine lv_icmp_ge (tgt := 25) hx hb d_X_rules_20 (by decide) (fun hc_22 => ?_) (fun hc_22 => ?_)
        · have _nhc_22 := hc_22
          have ni_23 := (fa_le _ _).mp hc_22
          rw [li_m1] at ni_23
          have hv_24 : zI b3 (-1) 2147483647 := zI.le_r zc_m1 (zI_all b3) hc_22 (by decide)
          refine lv_iconst (v := 0) hx hb d_X_rules_25 (by decide) ?_
          refine lv_istore (lv' := [(4, .int 0), (0, .ref b0), (1, .int b1), (2, .int b2), (3, .int b3)]) hx hb d_X_rules_26 hl (by decide) rfl (fun ls hl => ?_)
          refine lv_iconst (v := 0) hx hb d_X_rules_28 (by decide) ?_
          refine lv_istore (lv' := [(5, .int 0), (4, .int 0), (0, .ref b0), (1, .int b1), (2, .int b2), (3, .int b3)]) hx hb d_X_rules_29 hl (by decide) rfl (fun ls hl => ?_)
          suffices key : ∀ (k_800 : Nat) (y_801 : Int32) (y_802 : Int32) (y_803 : Int32) (y_804 : Int32) (y_805 : Int32) (y_806 : Int32) (y_807 : Int32) (y_808 : Int32) (y_809 : Int32) (y_810 : Int32) (y_811 : Int32) (y_812 : Int32) (H : Heap) (locs : List Loc) (ls : Array Slot), (zI y_801 0 100) → (zI y_810 0 1) → (zI y_811 0 1) → (100 : Int) - y_801.toInt < (k_800 : Int) → va_P G.1 classes [(b0, .inr (0, [.ref b4, .ref b5, .ref b6, .ref b7, .int b8, .int b9, .ref b10, .ref b11, .ref b12, .ref b13, .ref b14, .ref b15, .ref b16, .ref b17, .ref b18, .ref b19, .ref b20, .ref b21, .ref b22, .ref b23])), (b5, .inr (2, [.int b24, .int b25, .int b26, .ref b27, .ref b28, .ref b29])), (b27, .inl (G.2 0, 20, .inl b30)), (b28, .inl (G.2 0, 240, .inl b31)), (b21, .inr (10, [.int y_802, .int y_803, .int y_804, .int y_805, .int y_806, .int y_807, .int y_808, .int y_809, .int y_810, .int y_811]))] H → va_D A [(b0, .inr (0, [.ref b4, .ref b5, .ref b6, .ref b7, .int b8, .int b9, .ref b10, .ref b11, .ref b12, .ref b13, .ref b14, .ref b15, .ref b16, .ref b17, .ref b18, .ref b19, .ref b20, .ref b21, .ref b22, .ref b23])), (b5, .inr (2, [.int b24, .int b25, .int b26, .ref b27, .ref b28, .ref b29])), (b27, .inl (G.2 0, 20, .inl b30)), (b28, .inl (G.2 0, 240, .inl b31)), (b21, .inr (10, [.int y_802, .int y_803, .int y_804, .int y_805, .int y_806, .int y_807, .int y_808, .int y_809, .int y_810, .int y_811]))] → va_S A s.heap H locs → lv_has ls 8 [(5, .int y_801), (4, .int y_812), (0, .ref b0), (1, .int b1), (2, .int b2), (3, .int b3)] → W p l e m_s1_X_rules s m ([.ref b0, .int b1, .int b2, .int b3] : List Value).toArray below meth c H locs 0 0 (MQ below (zQ G (fun v w => ∃ (e0 : Int32), ∃ (e1 : Int32), ∃ (e2 : Int32), ∃ (e3 : Int32), ∃ (e4 : Int32), ∃ (e5 : Int32), ∃ (e6 : Int32), ∃ (e7 : Int32), ∃ (e8 : Int32), ∃ (e9 : Int32), ∃ (e10 : Int32), v = some (.int e0) ∧ w = [(b0, .inr (0, [.ref b4, .ref b5, .ref b6, .ref b7, .int b8, .int b9, .ref b10, .ref b11, .ref b12, .ref b13, .ref b14, .ref b15, .ref b16, .ref b17, .ref b18, .ref b19, .ref b20, .ref b21, .ref b22, .ref b23])), (b5, .inr (2, [.int b24, .int b25, .int b26, .ref b27, .ref b28, .ref b29])), (b27, .inl (G.2 0, 20, .inl b30)), (b28, .inl (G.2 0, 240, .inl b31)), (b21, .inr (10, [.int e1, .int e2, .int e3, .int e4, .int e5, .int e6, .int e7, .int e8, .int e9, .int e10]))] ∧ (zI e9 0 1) ∧ (zI e10 0 1)) A) ([.ref b0, .int b1, .int b2, .int b3] : List Value).toArray s m_s1_X_rules.cells m_s1_X_rules.slots A) (F0 m 31 ls []) by
            exact key 101 (0) (b32) (b33) (b34) (b35) (b36) (b37) (b38) (b39) (b40) (b41) (0) _ _ _ (zI.wk (l' := 0) (h' := 100) zc_0 (by decide)) hb40 hb41 (zm_upi (zI.wk (l' := 0) (h' := 100) zc_0 (by decide)) (by decide)) hP hD hS (lv_sub hl [0, 1, 2, 3, 4, 5] rfl)
          intro k_800
          induction k_800 with
          | zero =>
            intro y_801 y_802 y_803 y_804 y_805 y_806 y_807 y_808 y_809 y_810 y_811 y_812 H locs ls hy_801 hy_810 hy_811 hmk_800 hP hD hS hl
            exact (zm_up0 hy_801 hmk_800).elim
          | succ k_800 ihk_800 =>
            intro y_801 y_802 y_803 y_804 y_805 y_806 y_807 y_808 y_809 y_810 y_811 y_812 H locs ls hy_801 hy_810 hy_811 hmk_800 hP hD hS hl
            refine lv_iload hx hb d_X_rules_31 (lv_at hl 0 rfl) ?_
            refine lv_bipush (v := 100) hx hb d_X_rules_33 (by decide) ?_
            refine lv_icmp_ge (tgt := 97) hx hb d_X_rules_35 (by decide) (fun hc_813 => ?_) (fun hc_813 => ?_)
            · have _nhc_813 := hc_813
              have ni_814 := (fa_le _ _).mp hc_813
              rw [li_100] at ni_814
              have hv_815 : zI y_801 100 100 := zI.le_r zc_100 hy_801 hc_813 (by decide)
              refine lv_iload_n hx hb d_X_rules_97 rfl (lv_at hl 5 rfl) ?_
              refine lv_iconst (v := (-1)) hx hb d_X_rules_98 (by decide) ?_
              refine lv_icmp_ne (tgt := 107) hx hb d_X_rules_99 (by decide) (fun hc_816 => ?_) (fun hc_816 => ?_)
              · have _nhc_816 := hc_816
                have ni_817 := fun z => hc_816 ((fa_eq _ _).mpr z)
                simp only [li_m1] at ni_817
                have hv_818 : zI b3 0 2147483647 := zI.ne_lo hv_24 zc_m1 hc_816 (by decide)
                refine lv_iconst (v := (-1)) hx hb d_X_rules_107 (by decide) ?_
                exact z_iret hx hb hr hlocks hP hD hS (Nat.le_of_ble_eq_true rfl) (Nat.le_of_ble_eq_true rfl) d_X_rules_108 ⟨(-1), y_802, y_803, y_804, y_805, y_806, y_807, y_808, y_809, y_810, y_811, rfl, rfl, hy_810, hy_811⟩
              · have _nhc_816 := hc_816
                have ni_819 := (fa_eq _ _).mp hc_816
                rw [li_m1] at ni_819
                have hv_820 : zI b3 (-1) (-1) := zI.eq_l hv_24 zc_m1 hc_816
                refine lv_iload hx hb d_X_rules_102 (lv_at hl 1 rfl) ?_
                refine lv_goto (tgt := 108) hx hb d_X_rules_104 (by decide) ?_
                exact z_iret hx hb hr hlocks hP hD hS (Nat.le_of_ble_eq_true rfl) (Nat.le_of_ble_eq_true rfl) d_X_rules_108 ⟨y_812, y_802, y_803, y_804, y_805, y_806, y_807, y_808, y_809, y_810, y_811, rfl, rfl, hy_810, hy_811⟩
            · have _nhc_813 := hc_813
              have ni_821 := (fa_lt _ _).mp (zi_nle hc_813)
              rw [li_100] at ni_821
              have hv_822 : zI y_801 0 99 := zI.lt_l hy_801 zc_100 (zi_nle hc_813) (by decide)
              refine lv_iload hx hb d_X_rules_38 (lv_at hl 0 rfl) ?_
              refine lv_bipush (v := 10) hx hb d_X_rules_40 (by decide) ?_
              refine lv_idiv hx hb d_X_rules_42 (by decide +kernel) ?_
              refine lv_topi (fun v_823 ev_823 => ?_)
              obtain ⟨qv_823, hv_823⟩ := zI_div (l := 0) (h := 9) (d := 10) hv_822 rfl ev_823 (by decide)
              refine lv_istore (lv' := [(6, .int v_823), (5, .int y_801), (4, .int y_812), (0, .ref b0), (1, .int b1), (2, .int b2), (3, .int b3)]) hx hb d_X_rules_43 hl (by decide) rfl (fun ls hl => ?_)
              refine lv_iload hx hb d_X_rules_45 (lv_at hl 1 rfl) ?_
              refine lv_bipush (v := 10) hx hb d_X_rules_47 (by decide) ?_
              refine lv_irem hx hb d_X_rules_49 (by decide +kernel) ?_
              refine lv_topi (fun v_824 ev_824 => ?_)
              obtain ⟨qv_824, hv_824⟩ := zI_rem (h := 9) (d := 10) hv_822 rfl ev_824 (by decide)
              refine lv_istore (lv' := [(7, .int v_824), (6, .int v_823), (5, .int y_801), (4, .int y_812), (0, .ref b0), (1, .int b1), (2, .int b2), (3, .int b3)]) hx hb d_X_rules_50 hl (by decide) rfl (fun ls hl => ?_)
              refine lv_iload hx hb d_X_rules_52 (lv_at hl 1 rfl) ?_
              refine lv_iload hx hb d_X_rules_54 (lv_at hl 0 rfl) ?_
              refine lv_icmp_eq (tgt := 91) hx hb d_X_rules_56 (by decide) (fun hc_825 => ?_) (fun hc_825 => ?_)
              · have _nhc_825 := hc_825
                have ni_826 := (fa_eq _ _).mp hc_825
                obtain ⟨v_827, ev_827⟩ : ∃ z : Int32, z = y_801 + 1 := ⟨_, rfl⟩
                obtain ⟨qv_827, hv_827⟩ := zI_add (l := 1) (h := 100) hv_822 zc_1 ev_827 (by decide)
                rw [li_1] at qv_827
                refine lv_iinc (v := v_827) (lv' := [(5, .int v_827), (7, .int v_824), (6, .int v_823), (4, .int y_812), (0, .ref b0), (1, .int b1), (2, .int b2), (3, .int b3)]) hx hb d_X_rules_91 hl (k := 2) rfl (by rw [ev_827]; rfl) (by decide) rfl (fun ls hl => ?_)
                refine lv_goto (tgt := 31) hx hb d_X_rules_94 (by decide) ?_
                exact ihk_800 (v_827) (y_802) (y_803) (y_804) (y_805) (y_806) (y_807) (y_808) (y_809) (y_810) (y_811) (y_812) _ _ _ (zI.wk (l' := 0) (h' := 100) hv_827 (by decide)) hy_810 hy_811 (zm_up qv_827 hmk_800 (by decide)) hP hD hS (lv_sub hl [0, 3, 4, 5, 6, 7] rfl)
              · have _nhc_825 := hc_825
                have ni_828 := fun z => hc_825 ((fa_eq _ _).mpr z)
                refine lv_aload_n hx hb d_X_rules_59 rfl (lv_at hl 4 rfl) ?_
                refine va_get (D := G.1) (ci := 0) (v := .ref b21) (C := R_X) (T := F_X) (N := 20) hx hb hts i_X hown hK hP 0 rfl rfl 17 (by decide) (hts _ q434) (fun _ h9 => h9) rfl d_X_rules_60 ?_
                refine lv_aload_n hx hb d_X_rules_63 rfl (lv_at hl 4 rfl) ?_
                refine va_get (D := G.1) (ci := 0) (v := .ref b5) (C := R_X) (T := F_X) (N := 20) hx hb hts i_X hown hK hP 0 rfl rfl 1 (by decide) (hts _ q418) (fun _ h9 => h9) rfl d_X_rules_64 ?_
                refine lv_iload_n hx hb d_X_rules_67 rfl (lv_at hl 5 rfl) ?_
                refine lv_iload hx hb d_X_rules_68 (lv_at hl 1 rfl) ?_
                refine lv_iload hx hb d_X_rules_70 (lv_at hl 0 rfl) ?_
                refine lv_iload_n hx hb d_X_rules_72 rfl (lv_at hl 6 rfl) ?_
                refine z_callV (index := 321) (As := [.ref b5, .int b1, .int v_823, .int v_824, .int b2]) (rest := []) (wr := [(b0, .inr (0, [.ref b4, .ref b5, .ref b6, .ref b7, .int b8, .int b9, .ref b10, .ref b11, .ref b12, .ref b13, .ref b14, .ref b15, .ref b16, .ref b17, .ref b18, .ref b19, .ref b20, .ref b21, .ref b22, .ref b23]))]) Z (s1_Pair_stands l G (b21) (b5) (b1) (v_823) (v_824) (b2) (y_802) (y_803) (y_804) (y_805) (y_806) (y_807) (y_808) (y_809) (y_810) (y_811) (b24) (b25) (b26) (b27) (b28) (b29) (b30) (b31) hy_810 hy_811 hb24 hb25 hb26 hb30 hb31) hl.1 q952 q953 q954 q11 q955 ⟨by decide, by decide, by show _ = some 5; decide +kernel⟩ ⟨Nat.le_of_ble_eq_true rfl, Nat.le_of_ble_eq_true rfl⟩ ⟨Nat.le_of_ble_eq_true rfl, Nat.le_of_ble_eq_true rfl⟩ rfl (Nat.le_of_ble_eq_true rfl) d_X_rules_73 hP hD hS hA 4 10 rfl rfl rfl [4, 1, 2, 3] [0] rfl rfl rfl rfl (by decide) (fun v w1 H locs hw_829 hP hD hS => ?_)
                obtain ⟨x_830, x_831, x_832, x_833, x_834, x_835, x_836, x_837, x_838, x_839, x_840, rfl, rfl, hx_830, hx_839, hx_840⟩ := hw_829
                have hP : va_P G.1 classes [(b0, .inr (0, [.ref b4, .ref b5, .ref b6, .ref b7, .int b8, .int b9, .ref b10, .ref b11, .ref b12, .ref b13, .ref b14, .ref b15, .ref b16, .ref b17, .ref b18, .ref b19, .ref b20, .ref b21, .ref b22, .ref b23])), (b21, .inr (10, [.int x_831, .int x_832, .int x_833, .int x_834, .int x_835, .int x_836, .int x_837, .int x_838, .int x_839, .int x_840])), (b5, .inr (2, [.int b24, .int b25, .int b26, .ref b27, .ref b28, .ref b29])), (b27, .inl (G.2 0, 20, .inl b30)), (b28, .inl (G.2 0, 240, .inl b31))] H := hP
                have hD := z_tie hP hD rfl
                refine W.widen (k := 0) (n := 0) (Nat.le_of_ble_eq_true rfl) (Nat.le_of_ble_eq_true rfl) ?_
                refine lv_if_eq (tgt := 91) hx hb d_X_rules_76 (by decide) (fun hc_841 => ?_) (fun hc_841 => ?_)
                · have _nhc_841 := hc_841
                  have ni_842 := (fa_eq _ _).mp hc_841
                  rw [li_0] at ni_842
                  have hv_843 : zI x_830 0 0 := zI.eq_l hx_830 zc_0 hc_841
                  obtain ⟨v_844, ev_844⟩ : ∃ z : Int32, z = y_801 + 1 := ⟨_, rfl⟩
                  obtain ⟨qv_844, hv_844⟩ := zI_add (l := 1) (h := 100) hv_822 zc_1 ev_844 (by decide)
                  rw [li_1] at qv_844
                  refine lv_iinc (v := v_844) (lv' := [(5, .int v_844), (7, .int v_824), (6, .int v_823), (4, .int y_812), (0, .ref b0), (1, .int b1), (2, .int b2), (3, .int b3)]) hx hb d_X_rules_91 hl (k := 2) rfl (by rw [ev_844]; rfl) (by decide) rfl (fun ls hl => ?_)
                  refine lv_goto (tgt := 31) hx hb d_X_rules_94 (by decide) ?_
                  exact ihk_800 (v_844) (x_831) (x_832) (x_833) (x_834) (x_835) (x_836) (x_837) (x_838) (x_839) (x_840) (y_812) _ _ _ (zI.wk (l' := 0) (h' := 100) hv_844 (by decide)) hx_839 hx_840 (zm_up qv_844 hmk_800 (by decide)) (hP.sub [0, 2, 3, 4, 1] rfl) (hD.sub [0, 2, 3, 4, 1] (by decide) rfl) hS (lv_sub hl [0, 3, 4, 5, 6, 7] rfl)
                · have _nhc_841 := hc_841
                  have ni_845 := fun z => hc_841 ((fa_eq _ _).mpr z)
                  simp only [li_0] at ni_845
                  have hv_846 : zI x_830 1 1 := zI.ne_lo hx_830 zc_0 hc_841 (by decide)
                  refine lv_iload hx hb d_X_rules_79 (lv_at hl 3 rfl) ?_
                  refine lv_iload_n hx hb d_X_rules_81 rfl (lv_at hl 7 rfl) ?_
                  refine lv_icmp_ne (tgt := 88) hx hb d_X_rules_82 (by decide) (fun hc_847 => ?_) (fun hc_847 => ?_)
                  · have _nhc_847 := hc_847
                    have ni_848 := fun z => hc_847 ((fa_eq _ _).mpr z)
                    obtain ⟨v_849, ev_849⟩ : ∃ z : Int32, z = y_812 + 1 := ⟨_, rfl⟩
                    refine lv_iinc (v := v_849) (lv' := [(4, .int v_849), (7, .int v_824), (6, .int v_823), (5, .int y_801), (0, .ref b0), (1, .int b1), (2, .int b2), (3, .int b3)]) hx hb d_X_rules_88 hl (k := 3) rfl (by rw [ev_849]; rfl) (by decide) rfl (fun ls hl => ?_)
                    obtain ⟨v_850, ev_850⟩ : ∃ z : Int32, z = y_801 + 1 := ⟨_, rfl⟩
                    obtain ⟨qv_850, hv_850⟩ := zI_add (l := 1) (h := 100) hv_822 zc_1 ev_850 (by decide)
                    rw [li_1] at qv_850
                    refine lv_iinc (v := v_850) (lv' := [(5, .int v_850), (4, .int v_849), (7, .int v_824), (6, .int v_823), (0, .ref b0), (1, .int b1), (2, .int b2), (3, .int b3)]) hx hb d_X_rules_91 hl (k := 3) rfl (by rw [ev_850]; rfl) (by decide) rfl (fun ls hl => ?_)
                    refine lv_goto (tgt := 31) hx hb d_X_rules_94 (by decide) ?_
                    exact ihk_800 (v_850) (x_831) (x_832) (x_833) (x_834) (x_835) (x_836) (x_837) (x_838) (x_839) (x_840) (v_849) _ _ _ (zI.wk (l' := 0) (h' := 100) hv_850 (by decide)) hx_839 hx_840 (zm_up qv_850 hmk_800 (by decide)) (hP.sub [0, 2, 3, 4, 1] rfl) (hD.sub [0, 2, 3, 4, 1] (by decide) rfl) hS (lv_sub hl [0, 1, 4, 5, 6, 7] rfl)
                  · have _nhc_847 := hc_847
                    have ni_851 := (fa_eq _ _).mp hc_847
                    have hv_852 : zI y_812 (-1) 2147483647 := zI.eq_l (zI_all y_812) hv_24 hc_847
                    refine lv_iload hx hb d_X_rules_85 (lv_at hl 2 rfl) ?_
                    exact z_iret hx hb hr hlocks (hP.sub [0, 2, 3, 4, 1] rfl) (hD.sub [0, 2, 3, 4, 1] (by decide) rfl) hS (Nat.le_of_ble_eq_true rfl) (Nat.le_of_ble_eq_true rfl) d_X_rules_87 ⟨y_801, x_831, x_832, x_833, x_834, x_835, x_836, x_837, x_838, x_839, x_840, rfl, rfl, hx_839, hx_840⟩
        · have _nhc_22 := hc_22
          have ni_853 := (fa_lt _ _).mp (zi_nle hc_22)
          rw [li_m1] at ni_853
          have hv_854 : zI b3 (-2147483648) (-2) := zI.lt_l (zI_all b3) zc_m1 (zi_nle hc_22) (by decide)
          refine lv_iconst (v := (-1)) hx hb d_X_rules_23 (by decide) ?_
          exact z_iret hx hb hr hlocks hP hD hS (Nat.le_of_ble_eq_true rfl) (Nat.le_of_ble_eq_true rfl) d_X_rules_24 ⟨(-1), b32, b33, b34, b35, b36, b37, b38, b39, b40, b41, rfl, rfl, hb40, hb41⟩
