theorem d_Sets_longAt_0 : decode prog_8_method_5_code 0 = .ok (.aload_n 0, 1) := by decide +kernel
theorem d_Sets_longAt_1 : decode prog_8_method_5_code 1 = .ok (.getfield 18, 3) := by decide +kernel
theorem d_Sets_longAt_4 : decode prog_8_method_5_code 4 = .ok (.iload_n 1, 1) := by decide +kernel
theorem d_Sets_longAt_5 : decode prog_8_method_5_code 5 = .ok (.aload_n 0, 1) := by decide +kernel
theorem d_Sets_longAt_6 : decode prog_8_method_5_code 6 = .ok (.getfield 15, 3) := by decide +kernel
theorem d_Sets_longAt_9 : decode prog_8_method_5_code 9 = .ok (.imul, 1) := by decide +kernel
theorem d_Sets_longAt_10 : decode prog_8_method_5_code 10 = .ok (.iload_n 2, 1) := by decide +kernel
theorem d_Sets_longAt_11 : decode prog_8_method_5_code 11 = .ok (.iconst 4, 1) := by decide +kernel
theorem d_Sets_longAt_12 : decode prog_8_method_5_code 12 = .ok (.imul, 1) := by decide +kernel
theorem d_Sets_longAt_13 : decode prog_8_method_5_code 13 = .ok (.iadd, 1) := by decide +kernel
theorem d_Sets_longAt_14 : decode prog_8_method_5_code 14 = .ok (.iload_n 3, 1) := by decide +kernel
theorem d_Sets_longAt_15 : decode prog_8_method_5_code 15 = .ok (.iadd, 1) := by decide +kernel
theorem d_Sets_longAt_16 : decode prog_8_method_5_code 16 = .ok (.laload, 1) := by decide +kernel
theorem d_Sets_longAt_17 : decode prog_8_method_5_code 17 = .ok (.lreturn, 1) := by decide +kernel
abbrev m_s1_Sets_longAt : Room := { frames := 0, cells := 0, slots := 0, locals := 0 }
set_option maxHeartbeats 4000000 in
set_option maxRecDepth 100000 in
theorem s1_Sets_longAt (l : Launch) (G : zG) (b0 : Nat) (b1 : Int32) (b2 : Int32) (b3 : Int32) (b4 : Int32) (b5 : Nat) (b6 : Nat) (b7 : Nat → Int64) (hb1 : zI b1 0 1) (hb2 : zI b2 0 0) (hb3 : zI b3 0 3) (hb4 : zI b4 0 2) (hb7 : zqa qB b7) : zM l G y_Sets_longAt prog_8_method_5_code 4 (Option.some Jvm.ClassFile.FieldType.long) m_s1_Sets_longAt [.ref b0, .int b1, .int b2, .int b3] [(b0, .inr (6, [.int b4, .int 4, .int 2, .ref b5, .ref b6])), (b5, .inl (G.2 1, 8, .inr (.inl b7)))] (fun v w => ∃ (e0 : Int64), v = some (.long e0) ∧ w = [(b0, .inr (6, [.int b4, .int 4, .int 2, .ref b5, .ref b6])), (b5, .inl (G.2 1, 8, .inr (.inl b7)))] ∧ ((b3 : Int32).toInt = 3 → (e0 : Int64).toBitVec.toNat < 2 ^ 49)) := by
  refine z_start (by decide +kernel) (Nat.le_of_ble_eq_true rfl) ?_
  intro p e s m below meth c A Z hr hnm hA hP hD hS ls hl
  have Z : zC p s m _ meth c prog_8_method_5_code 4 "TraceMachines$StateSets" G := Z
  obtain ⟨hx, hb, hml, hown, hts, hK, hN, hlocks⟩ := id Z
  have hl : lv_has ls 4 [(0, .ref b0), (1, .int b1), (2, .int b2), (3, .int b3)] := hl
  refine lv_aload_n hx hb d_Sets_longAt_0 rfl (lv_at hl 0 rfl) ?_
  refine va_get (D := G.1) (ci := 6) (v := .ref b5) (C := R_Sets) (T := F_Sets) (N := 5) hx hb hts i_Sets hown hK hP 0 rfl rfl 3 (by decide) (hts _ q244) (fun _ h9 => h9) rfl d_Sets_longAt_1 ?_
  refine lv_iload_n hx hb d_Sets_longAt_4 rfl (lv_at hl 1 rfl) ?_
  refine lv_aload_n hx hb d_Sets_longAt_5 rfl (lv_at hl 0 rfl) ?_
  refine va_get (D := G.1) (ci := 6) (v := .int 4) (C := R_Sets) (T := F_Sets) (N := 5) hx hb hts i_Sets hown hK hP 0 rfl rfl 1 (by decide) (hts _ q242) (fun _ h9 => h9) rfl d_Sets_longAt_6 ?_
  refine lv_imul hx hb d_Sets_longAt_9 ?_
  refine lv_topi (fun v_1 ev_1 => ?_)
  obtain ⟨qv_1, hv_1⟩ := zI_mul (l := 0) (h := 4) hb1 zc_4 ev_1 (by decide)
  rw [li_4] at qv_1
  refine lv_iload_n hx hb d_Sets_longAt_10 rfl (lv_at hl 2 rfl) ?_
  refine lv_iconst (v := 4) hx hb d_Sets_longAt_11 (by decide) ?_
  refine lv_imul hx hb d_Sets_longAt_12 ?_
  refine lv_topi (fun v_2 ev_2 => ?_)
  obtain ⟨qv_2, hv_2⟩ := zI_mul (l := 0) (h := 0) hb2 zc_4 ev_2 (by decide)
  rw [li_4] at qv_2
  refine lv_iadd hx hb d_Sets_longAt_13 ?_
  refine lv_topi (fun v_3 ev_3 => ?_)
  obtain ⟨qv_3, hv_3⟩ := zI_add (l := 0) (h := 4) hv_1 hv_2 ev_3 (by decide)
  refine lv_iload_n hx hb d_Sets_longAt_14 rfl (lv_at hl 3 rfl) ?_
  refine lv_iadd hx hb d_Sets_longAt_15 ?_
  refine lv_topi (fun v_4 ev_4 => ?_)
  obtain ⟨qv_4, hv_4⟩ := zI_add (l := 0) (h := 7) hv_3 hb3 ev_4 (by decide)
  refine va_lald hx hb hK hP 1 1 rfl rfl (zI.inn hv_4 (by decide)) d_Sets_longAt_16 ?_
  refine lv_topl (fun v_5 ev_5 => ?_)
  have bv_5 := zQB.ld hb7 hv_4 ev_5 (by decide)
  exact z_lret hx hb hr hlocks hP hD hS (Nat.le_of_ble_eq_true rfl) (Nat.le_of_ble_eq_true rfl) d_Sets_longAt_17 ⟨v_5, rfl, rfl, (fun h9 => bv_5 (by omega))⟩
theorem d_Sets_put_0 : decode prog_8_method_4_code 0 = .ok (.aload_n 0, 1) := by decide +kernel
theorem d_Sets_put_1 : decode prog_8_method_4_code 1 = .ok (.getfield 18, 3) := by decide +kernel
theorem d_Sets_put_4 : decode prog_8_method_4_code 4 = .ok (.iload_n 1, 1) := by decide +kernel
theorem d_Sets_put_5 : decode prog_8_method_4_code 5 = .ok (.aload_n 0, 1) := by decide +kernel
theorem d_Sets_put_6 : decode prog_8_method_4_code 6 = .ok (.getfield 15, 3) := by decide +kernel
theorem d_Sets_put_9 : decode prog_8_method_4_code 9 = .ok (.imul, 1) := by decide +kernel
theorem d_Sets_put_10 : decode prog_8_method_4_code 10 = .ok (.iload_n 2, 1) := by decide +kernel
theorem d_Sets_put_11 : decode prog_8_method_4_code 11 = .ok (.iconst 4, 1) := by decide +kernel
theorem d_Sets_put_12 : decode prog_8_method_4_code 12 = .ok (.imul, 1) := by decide +kernel
theorem d_Sets_put_13 : decode prog_8_method_4_code 13 = .ok (.iadd, 1) := by decide +kernel
theorem d_Sets_put_14 : decode prog_8_method_4_code 14 = .ok (.iload_n 3, 1) := by decide +kernel
theorem d_Sets_put_15 : decode prog_8_method_4_code 15 = .ok (.bipush 6, 2) := by decide +kernel
theorem d_Sets_put_17 : decode prog_8_method_4_code 17 = .ok (.ishr, 1) := by decide +kernel
theorem d_Sets_put_18 : decode prog_8_method_4_code 18 = .ok (.iadd, 1) := by decide +kernel
theorem d_Sets_put_19 : decode prog_8_method_4_code 19 = .ok (.dup2, 1) := by decide +kernel
theorem d_Sets_put_20 : decode prog_8_method_4_code 20 = .ok (.laload, 1) := by decide +kernel
theorem d_Sets_put_21 : decode prog_8_method_4_code 21 = .ok (.lconst 1, 1) := by decide +kernel
theorem d_Sets_put_22 : decode prog_8_method_4_code 22 = .ok (.iload_n 3, 1) := by decide +kernel
theorem d_Sets_put_23 : decode prog_8_method_4_code 23 = .ok (.bipush 63, 2) := by decide +kernel
theorem d_Sets_put_25 : decode prog_8_method_4_code 25 = .ok (.iand, 1) := by decide +kernel
theorem d_Sets_put_26 : decode prog_8_method_4_code 26 = .ok (.lshl, 1) := by decide +kernel
theorem d_Sets_put_27 : decode prog_8_method_4_code 27 = .ok (.lor, 1) := by decide +kernel
theorem d_Sets_put_28 : decode prog_8_method_4_code 28 = .ok (.lastore, 1) := by decide +kernel
theorem d_Sets_put_29 : decode prog_8_method_4_code 29 = .ok (.return_, 1) := by decide +kernel
abbrev m_s1_Sets_put : Room := { frames := 0, cells := 0, slots := 0, locals := 0 }
set_option maxHeartbeats 4000000 in
set_option maxRecDepth 100000 in
theorem s1_Sets_put (l : Launch) (G : zG) (b0 : Nat) (b1 : Int32) (b2 : Int32) (b3 : Int32) (b4 : Int32) (b5 : Nat) (b6 : Nat) (b7 : Nat → Int64) (hb1 : zI b1 0 1) (hb2 : zI b2 0 0) (hb3 : zI b3 0 240) (hb4 : zI b4 0 2) (hb7 : zqa qB b7) : zM l G y_Sets_put prog_8_method_4_code 4 (Option.none : Option Jvm.ClassFile.FieldType) m_s1_Sets_put [.ref b0, .int b1, .int b2, .int b3] [(b0, .inr (6, [.int b4, .int 4, .int 2, .ref b5, .ref b6])), (b5, .inl (G.2 1, 8, .inr (.inl b7)))] (fun v w => ∃ (e0 : Nat → Int64), v = none ∧ w = [(b0, .inr (6, [.int b4, .int 4, .int 2, .ref b5, .ref b6])), (b5, .inl (G.2 1, 8, .inr (.inl e0)))] ∧ (zqa qB e0)) := by
  refine z_start (by decide +kernel) (Nat.le_of_ble_eq_true rfl) ?_
  intro p e s m below meth c A Z hr hnm hA hP hD hS ls hl
  have Z : zC p s m _ meth c prog_8_method_4_code 4 "TraceMachines$StateSets" G := Z
  obtain ⟨hx, hb, hml, hown, hts, hK, hN, hlocks⟩ := id Z
  have hl : lv_has ls 4 [(0, .ref b0), (1, .int b1), (2, .int b2), (3, .int b3)] := hl
  refine lv_aload_n hx hb d_Sets_put_0 rfl (lv_at hl 0 rfl) ?_
  refine va_get (D := G.1) (ci := 6) (v := .ref b5) (C := R_Sets) (T := F_Sets) (N := 5) hx hb hts i_Sets hown hK hP 0 rfl rfl 3 (by decide) (hts _ q244) (fun _ h9 => h9) rfl d_Sets_put_1 ?_
  refine lv_iload_n hx hb d_Sets_put_4 rfl (lv_at hl 1 rfl) ?_
  refine lv_aload_n hx hb d_Sets_put_5 rfl (lv_at hl 0 rfl) ?_
  refine va_get (D := G.1) (ci := 6) (v := .int 4) (C := R_Sets) (T := F_Sets) (N := 5) hx hb hts i_Sets hown hK hP 0 rfl rfl 1 (by decide) (hts _ q242) (fun _ h9 => h9) rfl d_Sets_put_6 ?_
  refine lv_imul hx hb d_Sets_put_9 ?_
  refine lv_topi (fun v_1 ev_1 => ?_)
  obtain ⟨qv_1, hv_1⟩ := zI_mul (l := 0) (h := 4) hb1 zc_4 ev_1 (by decide)
  rw [li_4] at qv_1
  refine lv_iload_n hx hb d_Sets_put_10 rfl (lv_at hl 2 rfl) ?_
  refine lv_iconst (v := 4) hx hb d_Sets_put_11 (by decide) ?_
  refine lv_imul hx hb d_Sets_put_12 ?_
  refine lv_topi (fun v_2 ev_2 => ?_)
  obtain ⟨qv_2, hv_2⟩ := zI_mul (l := 0) (h := 0) hb2 zc_4 ev_2 (by decide)
  rw [li_4] at qv_2
  refine lv_iadd hx hb d_Sets_put_13 ?_
  refine lv_topi (fun v_3 ev_3 => ?_)
  obtain ⟨qv_3, hv_3⟩ := zI_add (l := 0) (h := 4) hv_1 hv_2 ev_3 (by decide)
  refine lv_iload_n hx hb d_Sets_put_14 rfl (lv_at hl 3 rfl) ?_
  refine lv_bipush (v := 6) hx hb d_Sets_put_15 (by decide) ?_
  refine lv_ishr hx hb d_Sets_put_17 ?_
  refine lv_topi (fun v_4 ev_4 => ?_)
  obtain ⟨qv_4, hv_4⟩ := zI_shr (l := 0) (h := 3) (k := 6) hb3 (by decide +kernel) ev_4 (by decide)
  refine lv_iadd hx hb d_Sets_put_18 ?_
  refine lv_topi (fun v_5 ev_5 => ?_)
  obtain ⟨qv_5, hv_5⟩ := zI_add (l := 0) (h := 7) hv_3 hv_4 ev_5 (by decide)
  refine lv_dup2_11 hx hb d_Sets_put_19 rfl rfl ?_
  refine va_lald hx hb hK hP 1 1 rfl rfl (zI.inn hv_5 (by decide)) d_Sets_put_20 ?_
  refine lv_topl (fun v_6 ev_6 => ?_)
  have bv_6 := zQB.ld hb7 hv_5 ev_6 (by decide)
  refine lv_lconst (v := 1) hx hb d_Sets_put_21 (by decide) ?_
  refine lv_iload_n hx hb d_Sets_put_22 rfl (lv_at hl 3 rfl) ?_
  refine lv_bipush (v := 63) hx hb d_Sets_put_23 (by decide) ?_
  refine lv_iand hx hb d_Sets_put_25 ?_
  refine lv_topi (fun v_7 ev_7 => ?_)
  have hv_7 := zI_and (k := 6) (h := 63) (by decide +kernel) ev_7 (by decide)
  obtain ⟨v_8, ev_8⟩ : ∃ z : Int64, z = 1 <<< ((v_7 : Int32).toInt64 &&& 63) := ⟨_, rfl⟩
  refine lv_lshl (v := v_8) hx hb d_Sets_put_26 ev_8.symm ?_
  refine lv_lor hx hb d_Sets_put_27 ?_
  refine lv_topl (fun v_9 ev_9 => ?_)
  refine va_last hx hb hK hP hD hS 1 1 rfl rfl (zI.inn hv_5 (by decide)) d_Sets_put_28 (fun H locs hP hD hS => ?_)
  obtain ⟨f_10, hf_10, uf_10, hP, hD⟩ := z_newlb 1 hP hD rfl hb7 (qB_v hv_5 (by decide) (fun h9 => by rw [ev_9]; exact zB_or (bv_6 h9) (zB_sh ev_8 ev_7 ⟨by omega, by omega⟩)))
  have hP : va_P G.1 classes [(b0, .inr (6, [.int b4, .int 4, .int 2, .ref b5, .ref b6])), (b5, .inl (G.2 1, 8, .inr (.inl f_10)))] H := hP
  have hD := z_tie hP hD rfl
  exact z_vret hx hb hr hlocks hP hD hS (Nat.le_of_ble_eq_true rfl) (Nat.le_of_ble_eq_true rfl) d_Sets_put_29 ⟨f_10, rfl, rfl, hf_10⟩
theorem d_Sets_least_0 : decode prog_8_method_8_code 0 = .ok (.iconst 0, 1) := by decide +kernel
theorem d_Sets_least_1 : decode prog_8_method_8_code 1 = .ok (.istore_n 2, 1) := by decide +kernel
theorem d_Sets_least_2 : decode prog_8_method_8_code 2 = .ok (.iload_n 2, 1) := by decide +kernel
theorem d_Sets_least_3 : decode prog_8_method_8_code 3 = .ok (.aload_n 0, 1) := by decide +kernel
theorem d_Sets_least_4 : decode prog_8_method_8_code 4 = .ok (.getfield 15, 3) := by decide +kernel
theorem d_Sets_least_7 : decode prog_8_method_8_code 7 = .ok (.if_icmp .ge 39, 3) := by decide +kernel
theorem d_Sets_least_10 : decode prog_8_method_8_code 10 = .ok (.aload_n 0, 1) := by decide +kernel
theorem d_Sets_least_11 : decode prog_8_method_8_code 11 = .ok (.getfield 18, 3) := by decide +kernel
theorem d_Sets_least_14 : decode prog_8_method_8_code 14 = .ok (.iload_n 1, 1) := by decide +kernel
theorem d_Sets_least_15 : decode prog_8_method_8_code 15 = .ok (.aload_n 0, 1) := by decide +kernel
theorem d_Sets_least_16 : decode prog_8_method_8_code 16 = .ok (.getfield 15, 3) := by decide +kernel
theorem d_Sets_least_19 : decode prog_8_method_8_code 19 = .ok (.imul, 1) := by decide +kernel
theorem d_Sets_least_20 : decode prog_8_method_8_code 20 = .ok (.iload_n 2, 1) := by decide +kernel
theorem d_Sets_least_21 : decode prog_8_method_8_code 21 = .ok (.iadd, 1) := by decide +kernel
theorem d_Sets_least_22 : decode prog_8_method_8_code 22 = .ok (.laload, 1) := by decide +kernel
theorem d_Sets_least_23 : decode prog_8_method_8_code 23 = .ok (.lstore_n 3, 1) := by decide +kernel
theorem d_Sets_least_24 : decode prog_8_method_8_code 24 = .ok (.lload_n 3, 1) := by decide +kernel
theorem d_Sets_least_25 : decode prog_8_method_8_code 25 = .ok (.lconst 0, 1) := by decide +kernel
theorem d_Sets_least_26 : decode prog_8_method_8_code 26 = .ok (.lcmp, 1) := by decide +kernel
theorem d_Sets_least_27 : decode prog_8_method_8_code 27 = .ok (.ifCond .eq 13, 3) := by decide +kernel
theorem d_Sets_least_30 : decode prog_8_method_8_code 30 = .ok (.bipush 64, 2) := by decide +kernel
theorem d_Sets_least_32 : decode prog_8_method_8_code 32 = .ok (.iload_n 2, 1) := by decide +kernel
theorem d_Sets_least_33 : decode prog_8_method_8_code 33 = .ok (.imul, 1) := by decide +kernel
theorem d_Sets_least_34 : decode prog_8_method_8_code 34 = .ok (.lload_n 3, 1) := by decide +kernel
theorem d_Sets_least_35 : decode prog_8_method_8_code 35 = .ok (.invokestatic 44, 3) := by decide +kernel
theorem d_Sets_least_38 : decode prog_8_method_8_code 38 = .ok (.iadd, 1) := by decide +kernel
theorem d_Sets_least_40 : decode prog_8_method_8_code 40 = .ok (.iinc 2 1, 3) := by decide +kernel
theorem d_Sets_least_43 : decode prog_8_method_8_code 43 = .ok (.goto (-41), 3) := by decide +kernel
theorem d_Sets_least_46 : decode prog_8_method_8_code 46 = .ok (.iconst (-1), 1) := by decide +kernel
theorem d_Sets_least_47 : decode prog_8_method_8_code 47 = .ok (.ireturn, 1) := by decide +kernel
theorem d_Sets_lowest_0 : decode prog_8_method_9_code 0 = .ok (.lload_n 0, 1) := by decide +kernel
theorem d_Sets_lowest_1 : decode prog_8_method_9_code 1 = .ok (.lload_n 0, 1) := by decide +kernel
theorem d_Sets_lowest_2 : decode prog_8_method_9_code 2 = .ok (.lneg, 1) := by decide +kernel
theorem d_Sets_lowest_3 : decode prog_8_method_9_code 3 = .ok (.land, 1) := by decide +kernel
theorem d_Sets_lowest_4 : decode prog_8_method_9_code 4 = .ok (.lconst 1, 1) := by decide +kernel
theorem d_Sets_lowest_5 : decode prog_8_method_9_code 5 = .ok (.lsub, 1) := by decide +kernel
theorem d_Sets_lowest_6 : decode prog_8_method_9_code 6 = .ok (.invokestatic 38, 3) := by decide +kernel
theorem d_Sets_lowest_9 : decode prog_8_method_9_code 9 = .ok (.ireturn, 1) := by decide +kernel
theorem zc_64 : zI 64 64 64 := ⟨by decide +kernel, by decide +kernel⟩
theorem li_64 : (64 : Int32).toInt = 64 := by decide +kernel
abbrev m_s2_Sets_lowest : Room := { frames := 1, cells := 0, slots := 0, locals := 21 }
set_option maxHeartbeats 4000000 in
set_option maxRecDepth 100000 in
theorem s2_Sets_lowest (l : Launch) (G : zG) (b0 : Int64) (hne : (b0 : Int64).toInt ≠ 0) : zM l G y_Sets_lowest prog_8_method_9_code 2 (Option.some Jvm.ClassFile.FieldType.int) m_s2_Sets_lowest [.long b0] [] (fun v w => ∃ (e0 : Int32), v = some (.int e0) ∧ w = [] ∧ (zI e0 0 63) ∧ ((b0 : Int64).toBitVec.toNat < 2 ^ 49 → (e0 : Int32).toInt ≤ 48)) := by
  refine z_start (by decide +kernel) (Nat.le_of_ble_eq_true rfl) ?_
  intro p e s m below meth c A Z hr hnm hA hP hD hS ls hl
  have Z : zC p s m _ meth c prog_8_method_9_code 2 "TraceMachines$StateSets" G := Z
  obtain ⟨hx, hb, hml, hown, hts, hK, hN, hlocks⟩ := id Z
  have hl : lv_has ls 2 [(0, .long b0)] := hl
  refine lv_lload_n hx hb d_Sets_lowest_0 rfl (lv_at hl 0 rfl) ?_
  refine lv_lload_n hx hb d_Sets_lowest_1 rfl (lv_at hl 0 rfl) ?_
  refine lv_lneg hx hb d_Sets_lowest_2 ?_
  refine lv_topl (fun v_1 ev_1 => ?_)
  refine lv_land hx hb d_Sets_lowest_3 ?_
  refine lv_topl (fun v_2 ev_2 => ?_)
  refine lv_lconst (v := 1) hx hb d_Sets_lowest_4 (by decide) ?_
  refine lv_lsub hx hb d_Sets_lowest_5 ?_
  refine lv_topl (fun v_3 ev_3 => ?_)
  refine z_callS (index := 38) (As := [.long v_3]) (rest := []) (wr := []) Z (s2_Long_bitCount l G (v_3)) hl.1 q726 q727 q21 q728 ⟨by decide, by decide, by show _ = some 1; decide +kernel⟩ ⟨Nat.le_of_ble_eq_true rfl, Nat.le_of_ble_eq_true rfl⟩ ⟨Nat.le_of_ble_eq_true rfl, Nat.le_of_ble_eq_true rfl⟩ rfl (Nat.le_of_ble_eq_true rfl) d_Sets_lowest_6 hP hD hS hA [] [] rfl rfl rfl rfl (by decide) (fun v w1 H locs hw_4 hP hD hS => ?_)
  obtain ⟨x_5, rfl, rfl, hx_5, hfx_6⟩ := hw_4
  have hP : va_P G.1 classes [] H := hP
  have hD := z_tie hP hD rfl
  refine W.widen (k := 0) (n := 0) (Nat.le_of_ble_eq_true rfl) (Nat.le_of_ble_eq_true rfl) ?_
  obtain ⟨hzx_5, hyx_5⟩ := z_lowest ev_1 ev_2 ev_3 hfx_6 hne
  exact z_iret hx hb hr hlocks hP hD hS (Nat.le_of_ble_eq_true rfl) (Nat.le_of_ble_eq_true rfl) d_Sets_lowest_9 ⟨x_5, rfl, rfl, hzx_5, hyx_5⟩
theorem d_Sets_least_39 : decode prog_8_method_8_code 39 = .ok (.ireturn, 1) := by decide +kernel
abbrev m_s1_Sets_least : Room := { frames := 2, cells := 0, slots := 0, locals := 42 }
set_option maxHeartbeats 4000000 in
set_option maxRecDepth 100000 in
theorem s1_Sets_least (l : Launch) (G : zG) (b0 : Nat) (b1 : Int32) (b2 : Int32) (b3 : Nat) (b4 : Nat) (b5 : Nat → Int64) (hb1 : zI b1 0 0) (hb2 : zI b2 0 2) (hb5 : zqa qB b5) : zM l G y_Sets_least prog_8_method_8_code 5 (Option.some Jvm.ClassFile.FieldType.int) m_s1_Sets_least [.ref b0, .int b1] [(b0, .inr (6, [.int b2, .int 4, .int 2, .ref b3, .ref b4])), (b3, .inl (G.2 1, 8, .inr (.inl b5)))] (fun v w => ∃ (e0 : Int32), v = some (.int e0) ∧ w = [(b0, .inr (6, [.int b2, .int 4, .int 2, .ref b3, .ref b4])), (b3, .inl (G.2 1, 8, .inr (.inl b5)))] ∧ (zI e0 (-1) 255)) := by
  refine z_start (by decide +kernel) (Nat.le_of_ble_eq_true rfl) ?_
  intro p e s m below meth c A Z hr hnm hA hP hD hS ls hl
  have Z : zC p s m _ meth c prog_8_method_8_code 5 "TraceMachines$StateSets" G := Z
  obtain ⟨hx, hb, hml, hown, hts, hK, hN, hlocks⟩ := id Z
  have hl : lv_has ls 5 [(0, .ref b0), (1, .int b1)] := hl
  refine lv_iconst (v := 0) hx hb d_Sets_least_0 (by decide) ?_
  refine lv_istore_n (lv' := [(2, .int 0), (0, .ref b0), (1, .int b1)]) hx hb d_Sets_least_1 rfl hl (by decide) rfl (fun ls hl => ?_)
  suffices key : ∀ (k_98 : Nat) (y_99 : Int32) (H : Heap) (locs : List Loc) (ls : Array Slot), (zI y_99 0 4) → (4 : Int) - y_99.toInt < (k_98 : Int) → va_P G.1 classes [(b0, .inr (6, [.int b2, .int 4, .int 2, .ref b3, .ref b4])), (b3, .inl (G.2 1, 8, .inr (.inl b5)))] H → va_D A [(b0, .inr (6, [.int b2, .int 4, .int 2, .ref b3, .ref b4])), (b3, .inl (G.2 1, 8, .inr (.inl b5)))] → va_S A s.heap H locs → lv_has ls 5 [(2, .int y_99), (0, .ref b0), (1, .int b1)] → W p l e m_s1_Sets_least s m ([.ref b0, .int b1] : List Value).toArray below meth c H locs 0 0 (MQ below (zQ G (fun v w => ∃ (e0 : Int32), v = some (.int e0) ∧ w = [(b0, .inr (6, [.int b2, .int 4, .int 2, .ref b3, .ref b4])), (b3, .inl (G.2 1, 8, .inr (.inl b5)))] ∧ (zI e0 (-1) 255)) A) ([.ref b0, .int b1] : List Value).toArray s m_s1_Sets_least.cells m_s1_Sets_least.slots A) (F0 m 2 ls []) by
    exact key 5 (0) _ _ _ (zI.wk (l' := 0) (h' := 4) zc_0 (by decide)) (zm_upi (zI.wk (l' := 0) (h' := 4) zc_0 (by decide)) (by decide)) hP hD hS (lv_sub hl [0, 1, 2] rfl)
  intro k_98
  induction k_98 with
  | zero =>
    intro y_99 H locs ls hy_99 hmk_98 hP hD hS hl
    exact (zm_up0 hy_99 hmk_98).elim
  | succ k_98 ihk_98 =>
    intro y_99 H locs ls hy_99 hmk_98 hP hD hS hl
    refine lv_iload_n hx hb d_Sets_least_2 rfl (lv_at hl 0 rfl) ?_
    refine lv_aload_n hx hb d_Sets_least_3 rfl (lv_at hl 1 rfl) ?_
    refine va_get (D := G.1) (ci := 6) (v := .int 4) (C := R_Sets) (T := F_Sets) (N := 5) hx hb hts i_Sets hown hK hP 0 rfl rfl 1 (by decide) (hts _ q242) (fun _ h9 => h9) rfl d_Sets_least_4 ?_
    refine lv_icmp_ge (tgt := 46) hx hb d_Sets_least_7 (by decide) (fun hc_100 => ?_) (fun hc_100 => ?_)
    · have _nhc_100 := hc_100
      have ni_101 := (fa_le _ _).mp hc_100
      rw [li_4] at ni_101
      have hv_102 : zI y_99 4 4 := zI.le_r zc_4 hy_99 hc_100 (by decide)
      refine lv_iconst (v := (-1)) hx hb d_Sets_least_46 (by decide) ?_
      exact z_iret hx hb hr hlocks hP hD hS (Nat.le_of_ble_eq_true rfl) (Nat.le_of_ble_eq_true rfl) d_Sets_least_47 ⟨(-1), rfl, rfl, (zI.wk (l' := (-1)) (h' := 255) zc_m1 (by decide))⟩
    · have _nhc_100 := hc_100
      have ni_103 := (fa_lt _ _).mp (zi_nle hc_100)
      rw [li_4] at ni_103
      have hv_104 : zI y_99 0 3 := zI.lt_l hy_99 zc_4 (zi_nle hc_100) (by decide)
      refine lv_aload_n hx hb d_Sets_least_10 rfl (lv_at hl 1 rfl) ?_
      refine va_get (D := G.1) (ci := 6) (v := .ref b3) (C := R_Sets) (T := F_Sets) (N := 5) hx hb hts i_Sets hown hK hP 0 rfl rfl 3 (by decide) (hts _ q244) (fun _ h9 => h9) rfl d_Sets_least_11 ?_
      refine lv_iload_n hx hb d_Sets_least_14 rfl (lv_at hl 2 rfl) ?_
      refine lv_aload_n hx hb d_Sets_least_15 rfl (lv_at hl 1 rfl) ?_
      refine va_get (D := G.1) (ci := 6) (v := .int 4) (C := R_Sets) (T := F_Sets) (N := 5) hx hb hts i_Sets hown hK hP 0 rfl rfl 1 (by decide) (hts _ q242) (fun _ h9 => h9) rfl d_Sets_least_16 ?_
      refine lv_imul hx hb d_Sets_least_19 ?_
      refine lv_topi (fun v_105 ev_105 => ?_)
      obtain ⟨qv_105, hv_105⟩ := zI_mul (l := 0) (h := 0) hb1 zc_4 ev_105 (by decide)
      rw [li_4] at qv_105
      refine lv_iload_n hx hb d_Sets_least_20 rfl (lv_at hl 0 rfl) ?_
      refine lv_iadd hx hb d_Sets_least_21 ?_
      refine lv_topi (fun v_106 ev_106 => ?_)
      obtain ⟨qv_106, hv_106⟩ := zI_add (l := 0) (h := 3) hv_105 hv_104 ev_106 (by decide)
      refine va_lald hx hb hK hP 1 1 rfl rfl (zI.inn hv_106 (by decide)) d_Sets_least_22 ?_
      refine lv_topl (fun v_107 ev_107 => ?_)
      have bv_107 := zQB.ld hb5 hv_106 ev_107 (by decide)
      refine lv_lstore_n (lv' := [(3, .long v_107), (2, .int y_99), (0, .ref b0), (1, .int b1)]) hx hb d_Sets_least_23 rfl hl (by decide) rfl (fun ls hl => ?_)
      refine lv_lload_n hx hb d_Sets_least_24 rfl (lv_at hl 0 rfl) ?_
      refine lv_lconst (v := 0) hx hb d_Sets_least_25 (by decide) ?_
      refine W.lcmp hx hb d_Sets_least_26 ?_
      refine lv_topi (fun v_108 ev_108 => ?_)
      refine lv_if_eq (tgt := 40) hx hb d_Sets_least_27 (by decide) (fun hc_109 => ?_) (fun hc_109 => ?_)
      · have ni_110 := hc_109
        rw [ev_108] at ni_110
        simp only [lg_cmp_lt, lg_cmp_le, lg_cmp_gt, lg_cmp_ge, lg_cmp_eq, fa_lt64, fa_le64, fa_eq64, Int32.toInt_toInt64, ll_0] at ni_110
        have hv_111 : zJ v_107 0 0 := by have _a := ni_110; have _b := (zJ_all v_107); have _c := zcl_0; simp only [Int32.toInt_toInt64] at *; exact ⟨by omega, by omega⟩
        obtain ⟨v_112, ev_112⟩ : ∃ z : Int32, z = y_99 + 1 := ⟨_, rfl⟩
        obtain ⟨qv_112, hv_112⟩ := zI_add (l := 1) (h := 4) hv_104 zc_1 ev_112 (by decide)
        rw [li_1] at qv_112
        refine lv_iinc (v := v_112) (lv' := [(2, .int v_112), (3, .long v_107), (0, .ref b0), (1, .int b1)]) hx hb d_Sets_least_40 hl (k := 1) rfl (by rw [ev_112]; rfl) (by decide) rfl (fun ls hl => ?_)
        refine lv_goto (tgt := 2) hx hb d_Sets_least_43 (by decide) ?_
        exact ihk_98 (v_112) _ _ _ (zI.wk (l' := 0) (h' := 4) hv_112 (by decide)) (zm_up qv_112 hmk_98 (by decide)) hP hD hS (lv_sub hl [0, 2, 3] rfl)
      · have ni_113 := hc_109
        rw [ev_108] at ni_113
        simp only [lg_cmp_lt, lg_cmp_le, lg_cmp_gt, lg_cmp_ge, lg_cmp_eq, fa_lt64, fa_le64, fa_eq64, Int32.toInt_toInt64, ll_0] at ni_113
        refine lv_bipush (v := 64) hx hb d_Sets_least_30 (by decide) ?_
        refine lv_iload_n hx hb d_Sets_least_32 rfl (lv_at hl 1 rfl) ?_
        refine lv_imul hx hb d_Sets_least_33 ?_
        refine lv_topi (fun v_114 ev_114 => ?_)
        obtain ⟨qv_114, hv_114⟩ := zI_mul (l := 0) (h := 192) zc_64 hv_104 ev_114 (by decide)
        rw [li_64] at qv_114
        refine lv_lload_n hx hb d_Sets_least_34 rfl (lv_at hl 0 rfl) ?_
        refine z_callS (index := 44) (As := [.long v_107]) (rest := [.int v_114]) (wr := [(b0, .inr (6, [.int b2, .int 4, .int 2, .ref b3, .ref b4])), (b3, .inl (G.2 1, 8, .inr (.inl b5)))]) Z (s2_Sets_lowest l G (v_107) (by omega)) hl.1 q754 q724 q7 q725 ⟨by decide, by decide, by show _ = some 1; decide +kernel⟩ ⟨Nat.le_of_ble_eq_true rfl, Nat.le_of_ble_eq_true rfl⟩ ⟨Nat.le_of_ble_eq_true rfl, Nat.le_of_ble_eq_true rfl⟩ rfl (Nat.le_of_ble_eq_true rfl) d_Sets_least_35 hP hD hS hA [] [0, 1] rfl rfl rfl rfl (by decide) (fun v w1 H locs hw_115 hP hD hS => ?_)
        obtain ⟨x_116, rfl, rfl, hx_116, hfx_117⟩ := hw_115
        have hP : va_P G.1 classes [(b0, .inr (6, [.int b2, .int 4, .int 2, .ref b3, .ref b4])), (b3, .inl (G.2 1, 8, .inr (.inl b5)))] H := hP
        have hD := z_tie hP hD rfl
        refine W.widen (k := 0) (n := 0) (Nat.le_of_ble_eq_true rfl) (Nat.le_of_ble_eq_true rfl) ?_
        refine lv_iadd hx hb d_Sets_least_38 ?_
        refine lv_topi (fun v_118 ev_118 => ?_)
        obtain ⟨qv_118, hv_118⟩ := zI_add (l := 0) (h := 255) hv_114 hx_116 ev_118 (by decide)
        exact z_iret hx hb hr hlocks hP hD hS (Nat.le_of_ble_eq_true rfl) (Nat.le_of_ble_eq_true rfl) d_Sets_least_39 ⟨v_118, rfl, rfl, (zI.wk (l' := (-1)) (h' := 255) hv_118 (by decide))⟩
theorem d_Sets_hashOf_0 : decode prog_8_method_13_code 0 = .ok (.lconst 0, 1) := by decide +kernel
theorem d_Sets_hashOf_1 : decode prog_8_method_13_code 1 = .ok (.lstore_n 2, 1) := by decide +kernel
theorem d_Sets_hashOf_2 : decode prog_8_method_13_code 2 = .ok (.iconst 0, 1) := by decide +kernel
theorem d_Sets_hashOf_3 : decode prog_8_method_13_code 3 = .ok (.istore 4, 2) := by decide +kernel
theorem d_Sets_hashOf_5 : decode prog_8_method_13_code 5 = .ok (.iload 4, 2) := by decide +kernel
theorem d_Sets_hashOf_7 : decode prog_8_method_13_code 7 = .ok (.aload_n 0, 1) := by decide +kernel
theorem d_Sets_hashOf_8 : decode prog_8_method_13_code 8 = .ok (.getfield 15, 3) := by decide +kernel
theorem d_Sets_hashOf_11 : decode prog_8_method_13_code 11 = .ok (.if_icmp .ge 37, 3) := by decide +kernel
theorem d_Sets_hashOf_14 : decode prog_8_method_13_code 14 = .ok (.lload_n 2, 1) := by decide +kernel
theorem d_Sets_hashOf_15 : decode prog_8_method_13_code 15 = .ok (.aload_n 0, 1) := by decide +kernel
theorem d_Sets_hashOf_16 : decode prog_8_method_13_code 16 = .ok (.getfield 18, 3) := by decide +kernel
theorem d_Sets_hashOf_19 : decode prog_8_method_13_code 19 = .ok (.iload_n 1, 1) := by decide +kernel
theorem d_Sets_hashOf_20 : decode prog_8_method_13_code 20 = .ok (.aload_n 0, 1) := by decide +kernel
theorem d_Sets_hashOf_21 : decode prog_8_method_13_code 21 = .ok (.getfield 15, 3) := by decide +kernel
theorem d_Sets_hashOf_24 : decode prog_8_method_13_code 24 = .ok (.imul, 1) := by decide +kernel
theorem d_Sets_hashOf_25 : decode prog_8_method_13_code 25 = .ok (.iload 4, 2) := by decide +kernel
theorem d_Sets_hashOf_27 : decode prog_8_method_13_code 27 = .ok (.iadd, 1) := by decide +kernel
theorem d_Sets_hashOf_28 : decode prog_8_method_13_code 28 = .ok (.laload, 1) := by decide +kernel
theorem d_Sets_hashOf_29 : decode prog_8_method_13_code 29 = .ok (.lxor, 1) := by decide +kernel
theorem d_Sets_hashOf_30 : decode prog_8_method_13_code 30 = .ok (.ldc2_w 65, 3) := by decide +kernel
theorem d_Sets_hashOf_33 : decode prog_8_method_13_code 33 = .ok (.lmul, 1) := by decide +kernel
theorem d_Sets_hashOf_34 : decode prog_8_method_13_code 34 = .ok (.lstore_n 2, 1) := by decide +kernel
theorem d_Sets_hashOf_35 : decode prog_8_method_13_code 35 = .ok (.lload_n 2, 1) := by decide +kernel
theorem d_Sets_hashOf_36 : decode prog_8_method_13_code 36 = .ok (.lload_n 2, 1) := by decide +kernel
theorem d_Sets_hashOf_37 : decode prog_8_method_13_code 37 = .ok (.bipush 32, 2) := by decide +kernel
theorem d_Sets_hashOf_39 : decode prog_8_method_13_code 39 = .ok (.lushr, 1) := by decide +kernel
theorem d_Sets_hashOf_40 : decode prog_8_method_13_code 40 = .ok (.lxor, 1) := by decide +kernel
theorem d_Sets_hashOf_41 : decode prog_8_method_13_code 41 = .ok (.lstore_n 2, 1) := by decide +kernel
theorem d_Sets_hashOf_42 : decode prog_8_method_13_code 42 = .ok (.iinc 4 1, 3) := by decide +kernel
theorem d_Sets_hashOf_45 : decode prog_8_method_13_code 45 = .ok (.goto (-40), 3) := by decide +kernel
theorem d_Sets_hashOf_48 : decode prog_8_method_13_code 48 = .ok (.lload_n 2, 1) := by decide +kernel
theorem d_Sets_hashOf_49 : decode prog_8_method_13_code 49 = .ok (.l2i, 1) := by decide +kernel
theorem d_Sets_hashOf_50 : decode prog_8_method_13_code 50 = .ok (.ireturn, 1) := by decide +kernel
abbrev m_s1_Sets_hashOf : Room := { frames := 0, cells := 0, slots := 0, locals := 0 }
set_option maxHeartbeats 4000000 in
set_option maxRecDepth 100000 in
theorem s1_Sets_hashOf (l : Launch) (G : zG) (b0 : Nat) (b1 : Int32) (b2 : Int32) (b3 : Nat) (b4 : Nat) (b5 : Nat → Int64) (hb1 : zI b1 0 1) (hb2 : zI b2 0 2) (hb5 : zqa qB b5) : zM l G y_Sets_hashOf prog_8_method_13_code 5 (Option.some Jvm.ClassFile.FieldType.int) m_s1_Sets_hashOf [.ref b0, .int b1] [(b0, .inr (6, [.int b2, .int 4, .int 2, .ref b3, .ref b4])), (b3, .inl (G.2 1, 8, .inr (.inl b5)))] (fun v w => ∃ (e0 : Int32), v = some (.int e0) ∧ w = [(b0, .inr (6, [.int b2, .int 4, .int 2, .ref b3, .ref b4])), (b3, .inl (G.2 1, 8, .inr (.inl b5)))]) := by
  refine z_start (by decide +kernel) (Nat.le_of_ble_eq_true rfl) ?_
  intro p e s m below meth c A Z hr hnm hA hP hD hS ls hl
  have Z : zC p s m _ meth c prog_8_method_13_code 5 "TraceMachines$StateSets" G := Z
  obtain ⟨hx, hb, hml, hown, hts, hK, hN, hlocks⟩ := id Z
  have hl : lv_has ls 5 [(0, .ref b0), (1, .int b1)] := hl
  refine lv_lconst (v := 0) hx hb d_Sets_hashOf_0 (by decide) ?_
  refine lv_lstore_n (lv' := [(2, .long 0), (0, .ref b0), (1, .int b1)]) hx hb d_Sets_hashOf_1 rfl hl (by decide) rfl (fun ls hl => ?_)
  refine lv_iconst (v := 0) hx hb d_Sets_hashOf_2 (by decide) ?_
  refine lv_istore (lv' := [(4, .int 0), (2, .long 0), (0, .ref b0), (1, .int b1)]) hx hb d_Sets_hashOf_3 hl (by decide) rfl (fun ls hl => ?_)
  suffices key : ∀ (k_70 : Nat) (y_71 : Int32) (y_72 : Int64) (H : Heap) (locs : List Loc) (ls : Array Slot), (zI y_71 0 4) → (4 : Int) - y_71.toInt < (k_70 : Int) → va_P G.1 classes [(b0, .inr (6, [.int b2, .int 4, .int 2, .ref b3, .ref b4])), (b3, .inl (G.2 1, 8, .inr (.inl b5)))] H → va_D A [(b0, .inr (6, [.int b2, .int 4, .int 2, .ref b3, .ref b4])), (b3, .inl (G.2 1, 8, .inr (.inl b5)))] → va_S A s.heap H locs → lv_has ls 5 [(4, .int y_71), (2, .long y_72), (0, .ref b0), (1, .int b1)] → W p l e m_s1_Sets_hashOf s m ([.ref b0, .int b1] : List Value).toArray below meth c H locs 0 0 (MQ below (zQ G (fun v w => ∃ (e0 : Int32), v = some (.int e0) ∧ w = [(b0, .inr (6, [.int b2, .int 4, .int 2, .ref b3, .ref b4])), (b3, .inl (G.2 1, 8, .inr (.inl b5)))]) A) ([.ref b0, .int b1] : List Value).toArray s m_s1_Sets_hashOf.cells m_s1_Sets_hashOf.slots A) (F0 m 5 ls []) by
    exact key 5 (0) (0) _ _ _ (zI.wk (l' := 0) (h' := 4) zc_0 (by decide)) (zm_upi (zI.wk (l' := 0) (h' := 4) zc_0 (by decide)) (by decide)) hP hD hS (lv_sub hl [0, 1, 2, 3] rfl)
  intro k_70
  induction k_70 with
  | zero =>
    intro y_71 y_72 H locs ls hy_71 hmk_70 hP hD hS hl
    exact (zm_up0 hy_71 hmk_70).elim
  | succ k_70 ihk_70 =>
    intro y_71 y_72 H locs ls hy_71 hmk_70 hP hD hS hl
    refine lv_iload hx hb d_Sets_hashOf_5 (lv_at hl 0 rfl) ?_
    refine lv_aload_n hx hb d_Sets_hashOf_7 rfl (lv_at hl 2 rfl) ?_
    refine va_get (D := G.1) (ci := 6) (v := .int 4) (C := R_Sets) (T := F_Sets) (N := 5) hx hb hts i_Sets hown hK hP 0 rfl rfl 1 (by decide) (hts _ q242) (fun _ h9 => h9) rfl d_Sets_hashOf_8 ?_
    refine lv_icmp_ge (tgt := 48) hx hb d_Sets_hashOf_11 (by decide) (fun hc_73 => ?_) (fun hc_73 => ?_)
    · have _nhc_73 := hc_73
      have ni_74 := (fa_le _ _).mp hc_73
      rw [li_4] at ni_74
      have hv_75 : zI y_71 4 4 := zI.le_r zc_4 hy_71 hc_73 (by decide)
      refine lv_lload_n hx hb d_Sets_hashOf_48 rfl (lv_at hl 1 rfl) ?_
      obtain ⟨v_76, ev_76⟩ : ∃ z : Int32, z = (y_72).toInt32 := ⟨_, rfl⟩
      refine lv_l2i (v := v_76) hx hb d_Sets_hashOf_49 ev_76.symm ?_
      exact z_iret hx hb hr hlocks hP hD hS (Nat.le_of_ble_eq_true rfl) (Nat.le_of_ble_eq_true rfl) d_Sets_hashOf_50 ⟨v_76, rfl, rfl⟩
    · have _nhc_73 := hc_73
      have ni_77 := (fa_lt _ _).mp (zi_nle hc_73)
      rw [li_4] at ni_77
      have hv_78 : zI y_71 0 3 := zI.lt_l hy_71 zc_4 (zi_nle hc_73) (by decide)
      refine lv_lload_n hx hb d_Sets_hashOf_14 rfl (lv_at hl 1 rfl) ?_
      refine lv_aload_n hx hb d_Sets_hashOf_15 rfl (lv_at hl 2 rfl) ?_
      refine va_get (D := G.1) (ci := 6) (v := .ref b3) (C := R_Sets) (T := F_Sets) (N := 5) hx hb hts i_Sets hown hK hP 0 rfl rfl 3 (by decide) (hts _ q244) (fun _ h9 => h9) rfl d_Sets_hashOf_16 ?_
      refine lv_iload_n hx hb d_Sets_hashOf_19 rfl (lv_at hl 3 rfl) ?_
      refine lv_aload_n hx hb d_Sets_hashOf_20 rfl (lv_at hl 2 rfl) ?_
      refine va_get (D := G.1) (ci := 6) (v := .int 4) (C := R_Sets) (T := F_Sets) (N := 5) hx hb hts i_Sets hown hK hP 0 rfl rfl 1 (by decide) (hts _ q242) (fun _ h9 => h9) rfl d_Sets_hashOf_21 ?_
      refine lv_imul hx hb d_Sets_hashOf_24 ?_
      refine lv_topi (fun v_79 ev_79 => ?_)
      obtain ⟨qv_79, hv_79⟩ := zI_mul (l := 0) (h := 4) hb1 zc_4 ev_79 (by decide)
      rw [li_4] at qv_79
      refine lv_iload hx hb d_Sets_hashOf_25 (lv_at hl 0 rfl) ?_
      refine lv_iadd hx hb d_Sets_hashOf_27 ?_
      refine lv_topi (fun v_80 ev_80 => ?_)
      obtain ⟨qv_80, hv_80⟩ := zI_add (l := 0) (h := 7) hv_79 hv_78 ev_80 (by decide)
      refine va_lald hx hb hK hP 1 1 rfl rfl (zI.inn hv_80 (by decide)) d_Sets_hashOf_28 ?_
      refine lv_topl (fun v_81 ev_81 => ?_)
      have bv_81 := zQB.ld hb5 hv_80 ev_81 (by decide)
      refine lv_lxor hx hb d_Sets_hashOf_29 ?_
      refine lv_topl (fun v_82 ev_82 => ?_)
      refine lv_ldc2 hx hb hown (hts _ q838) d_Sets_hashOf_30 ?_
      refine lv_lmul hx hb d_Sets_hashOf_33 ?_
      refine lv_topl (fun v_83 ev_83 => ?_)
      refine lv_lstore_n (lv' := [(2, .long v_83), (4, .int y_71), (0, .ref b0), (1, .int b1)]) hx hb d_Sets_hashOf_34 rfl hl (by decide) rfl (fun ls hl => ?_)
      refine lv_lload_n hx hb d_Sets_hashOf_35 rfl (lv_at hl 0 rfl) ?_
      refine lv_lload_n hx hb d_Sets_hashOf_36 rfl (lv_at hl 0 rfl) ?_
      refine lv_bipush (v := 32) hx hb d_Sets_hashOf_37 (by decide) ?_
      obtain ⟨v_84, ev_84⟩ : ∃ z : Int64, z = ((v_83).toUInt64 >>> ((32 : Int32).toInt64.toUInt64 &&& Int64.toUInt64 63)).toInt64 := ⟨_, rfl⟩
      refine lv_lushr (v := v_84) hx hb d_Sets_hashOf_39 ev_84.symm ?_
      refine lv_lxor hx hb d_Sets_hashOf_40 ?_
      refine lv_topl (fun v_85 ev_85 => ?_)
      refine lv_lstore_n (lv' := [(2, .long v_85), (4, .int y_71), (0, .ref b0), (1, .int b1)]) hx hb d_Sets_hashOf_41 rfl hl (by decide) rfl (fun ls hl => ?_)
      obtain ⟨v_86, ev_86⟩ : ∃ z : Int32, z = y_71 + 1 := ⟨_, rfl⟩
      obtain ⟨qv_86, hv_86⟩ := zI_add (l := 1) (h := 4) hv_78 zc_1 ev_86 (by decide)
      rw [li_1] at qv_86
      refine lv_iinc (v := v_86) (lv' := [(4, .int v_86), (2, .long v_85), (0, .ref b0), (1, .int b1)]) hx hb d_Sets_hashOf_42 hl (k := 1) rfl (by rw [ev_86]; rfl) (by decide) rfl (fun ls hl => ?_)
      refine lv_goto (tgt := 5) hx hb d_Sets_hashOf_45 (by decide) ?_
      exact ihk_70 (v_86) (v_85) _ _ _ (zI.wk (l' := 0) (h' := 4) hv_86 (by decide)) (zm_up qv_86 hmk_70 (by decide)) hP hD hS (lv_sub hl [0, 1, 2, 3] rfl)
theorem d_Machine_takes_0 : decode prog_4_method_18_code 0 = .ok (.iconst 0, 1) := by decide +kernel
theorem d_Machine_takes_1 : decode prog_4_method_18_code 1 = .ok (.istore 4, 2) := by decide +kernel
theorem d_Machine_takes_3 : decode prog_4_method_18_code 3 = .ok (.iload 4, 2) := by decide +kernel
theorem d_Machine_takes_5 : decode prog_4_method_18_code 5 = .ok (.iconst 4, 1) := by decide +kernel
theorem d_Machine_takes_6 : decode prog_4_method_18_code 6 = .ok (.if_icmp .ge 32, 3) := by decide +kernel
theorem d_Machine_takes_9 : decode prog_4_method_18_code 9 = .ok (.aload_n 1, 1) := by decide +kernel
theorem d_Machine_takes_10 : decode prog_4_method_18_code 10 = .ok (.iload_n 2, 1) := by decide +kernel
theorem d_Machine_takes_11 : decode prog_4_method_18_code 11 = .ok (.iload_n 3, 1) := by decide +kernel
theorem d_Machine_takes_12 : decode prog_4_method_18_code 12 = .ok (.iload 4, 2) := by decide +kernel
theorem d_Machine_takes_14 : decode prog_4_method_18_code 14 = .ok (.invokevirtual 166, 3) := by decide +kernel
theorem d_Machine_takes_17 : decode prog_4_method_18_code 17 = .ok (.aload_n 0, 1) := by decide +kernel
theorem d_Machine_takes_18 : decode prog_4_method_18_code 18 = .ok (.getfield 29, 3) := by decide +kernel
theorem d_Machine_takes_21 : decode prog_4_method_18_code 21 = .ok (.iload 4, 2) := by decide +kernel
theorem d_Machine_takes_23 : decode prog_4_method_18_code 23 = .ok (.laload, 1) := by decide +kernel
theorem d_Machine_takes_24 : decode prog_4_method_18_code 24 = .ok (.land, 1) := by decide +kernel
theorem d_Machine_takes_25 : decode prog_4_method_18_code 25 = .ok (.lconst 0, 1) := by decide +kernel
theorem d_Machine_takes_26 : decode prog_4_method_18_code 26 = .ok (.lcmp, 1) := by decide +kernel
theorem d_Machine_takes_27 : decode prog_4_method_18_code 27 = .ok (.ifCond .eq 5, 3) := by decide +kernel
theorem d_Machine_takes_30 : decode prog_4_method_18_code 30 = .ok (.iconst 1, 1) := by decide +kernel
theorem d_Machine_takes_31 : decode prog_4_method_18_code 31 = .ok (.ireturn, 1) := by decide +kernel
theorem d_Machine_takes_32 : decode prog_4_method_18_code 32 = .ok (.iinc 4 1, 3) := by decide +kernel
theorem d_Machine_takes_35 : decode prog_4_method_18_code 35 = .ok (.goto (-32), 3) := by decide +kernel
theorem d_Machine_takes_38 : decode prog_4_method_18_code 38 = .ok (.iconst 0, 1) := by decide +kernel
theorem d_Machine_takes_39 : decode prog_4_method_18_code 39 = .ok (.ireturn, 1) := by decide +kernel
abbrev m_s1_Machine_takes : Room := { frames := 1, cells := 0, slots := 0, locals := 23 }
set_option maxHeartbeats 4000000 in
set_option maxRecDepth 100000 in
theorem s1_Machine_takes (l : Launch) (G : zG) (b0 : Nat) (b1 : Nat) (b2 : Int32) (b3 : Int32) (b4 : Int32) (b5 : Int32) (b6 : Nat) (b7 : Nat) (b8 : Nat) (b9 : Nat) (b10 : Nat) (b11 : Nat) (b12 : Int32) (b13 : Nat) (b14 : Nat) (b15 : Nat) (b16 : Nat) (b17 : Nat) (b18 : Nat) (b19 : Nat → Int64) (b20 : Int32) (b21 : Nat) (b22 : Nat) (b23 : Nat → Int64) (hb2 : zI b2 0 1) (hb3 : zI b3 0 0) (hb4 : zI b4 0 1) (hb5 : zI b5 0 241) (hb12 : zI b12 0 240) (hb20 : zI b20 0 2) (hb23 : zqa qB b23) : zM l G y_Machine_takes prog_4_method_18_code 5 (Option.some Jvm.ClassFile.FieldType.boolean) m_s1_Machine_takes [.ref b0, .ref b1, .int b2, .int b3] [(b0, .inr (5, [.int b4, .int b5, .ref b6, .ref b7, .ref b8, .ref b9, .ref b10, .ref b11, .int b12, .ref b13, .ref b14, .ref b15, .ref b16, .ref b17, .ref b18])), (b11, .inl (G.2 1, 4, .inr (.inl b19))), (b1, .inr (6, [.int b20, .int 4, .int 2, .ref b21, .ref b22])), (b21, .inl (G.2 1, 8, .inr (.inl b23)))] (fun v w => ∃ (e0 : Int32), v = some (.int e0) ∧ w = [(b0, .inr (5, [.int b4, .int b5, .ref b6, .ref b7, .ref b8, .ref b9, .ref b10, .ref b11, .int b12, .ref b13, .ref b14, .ref b15, .ref b16, .ref b17, .ref b18])), (b11, .inl (G.2 1, 4, .inr (.inl b19))), (b1, .inr (6, [.int b20, .int 4, .int 2, .ref b21, .ref b22])), (b21, .inl (G.2 1, 8, .inr (.inl b23)))] ∧ (zI e0 0 1)) := by
  refine z_start (by decide +kernel) (Nat.le_of_ble_eq_true rfl) ?_
  intro p e s m below meth c A Z hr hnm hA hP hD hS ls hl
  have Z : zC p s m _ meth c prog_4_method_18_code 5 "TraceMachines$Machine" G := Z
  obtain ⟨hx, hb, hml, hown, hts, hK, hN, hlocks⟩ := id Z
  have hl : lv_has ls 5 [(0, .ref b0), (1, .ref b1), (2, .int b2), (3, .int b3)] := hl
  refine lv_iconst (v := 0) hx hb d_Machine_takes_0 (by decide) ?_
  refine lv_istore (lv' := [(4, .int 0), (0, .ref b0), (1, .ref b1), (2, .int b2), (3, .int b3)]) hx hb d_Machine_takes_1 hl (by decide) rfl (fun ls hl => ?_)
  suffices key : ∀ (k_81 : Nat) (y_82 : Int32) (H : Heap) (locs : List Loc) (ls : Array Slot), (zI y_82 0 4) → (4 : Int) - y_82.toInt < (k_81 : Int) → va_P G.1 classes [(b0, .inr (5, [.int b4, .int b5, .ref b6, .ref b7, .ref b8, .ref b9, .ref b10, .ref b11, .int b12, .ref b13, .ref b14, .ref b15, .ref b16, .ref b17, .ref b18])), (b11, .inl (G.2 1, 4, .inr (.inl b19))), (b1, .inr (6, [.int b20, .int 4, .int 2, .ref b21, .ref b22])), (b21, .inl (G.2 1, 8, .inr (.inl b23)))] H → va_D A [(b0, .inr (5, [.int b4, .int b5, .ref b6, .ref b7, .ref b8, .ref b9, .ref b10, .ref b11, .int b12, .ref b13, .ref b14, .ref b15, .ref b16, .ref b17, .ref b18])), (b11, .inl (G.2 1, 4, .inr (.inl b19))), (b1, .inr (6, [.int b20, .int 4, .int 2, .ref b21, .ref b22])), (b21, .inl (G.2 1, 8, .inr (.inl b23)))] → va_S A s.heap H locs → lv_has ls 5 [(4, .int y_82), (0, .ref b0), (1, .ref b1), (2, .int b2), (3, .int b3)] → W p l e m_s1_Machine_takes s m ([.ref b0, .ref b1, .int b2, .int b3] : List Value).toArray below meth c H locs 0 0 (MQ below (zQ G (fun v w => ∃ (e0 : Int32), v = some (.int e0) ∧ w = [(b0, .inr (5, [.int b4, .int b5, .ref b6, .ref b7, .ref b8, .ref b9, .ref b10, .ref b11, .int b12, .ref b13, .ref b14, .ref b15, .ref b16, .ref b17, .ref b18])), (b11, .inl (G.2 1, 4, .inr (.inl b19))), (b1, .inr (6, [.int b20, .int 4, .int 2, .ref b21, .ref b22])), (b21, .inl (G.2 1, 8, .inr (.inl b23)))] ∧ (zI e0 0 1)) A) ([.ref b0, .ref b1, .int b2, .int b3] : List Value).toArray s m_s1_Machine_takes.cells m_s1_Machine_takes.slots A) (F0 m 3 ls []) by
    exact key 5 (0) _ _ _ (zI.wk (l' := 0) (h' := 4) zc_0 (by decide)) (zm_upi (zI.wk (l' := 0) (h' := 4) zc_0 (by decide)) (by decide)) hP hD hS (lv_sub hl [0, 1, 2, 3, 4] rfl)
  intro k_81
  induction k_81 with
  | zero =>
    intro y_82 H locs ls hy_82 hmk_81 hP hD hS hl
    exact (zm_up0 hy_82 hmk_81).elim
  | succ k_81 ihk_81 =>
    intro y_82 H locs ls hy_82 hmk_81 hP hD hS hl
    refine lv_iload hx hb d_Machine_takes_3 (lv_at hl 0 rfl) ?_
    refine lv_iconst (v := 4) hx hb d_Machine_takes_5 (by decide) ?_
    refine lv_icmp_ge (tgt := 38) hx hb d_Machine_takes_6 (by decide) (fun hc_83 => ?_) (fun hc_83 => ?_)
    · have _nhc_83 := hc_83
      have ni_84 := (fa_le _ _).mp hc_83
      rw [li_4] at ni_84
      have hv_85 : zI y_82 4 4 := zI.le_r zc_4 hy_82 hc_83 (by decide)
      refine lv_iconst (v := 0) hx hb d_Machine_takes_38 (by decide) ?_
      exact z_zret hx hb hr hlocks rfl hP hD hS (Nat.le_of_ble_eq_true rfl) (Nat.le_of_ble_eq_true rfl) d_Machine_takes_39 ⟨0, rfl, rfl, (zI.wk (l' := 0) (h' := 1) zc_0 (by decide))⟩
    · have _nhc_83 := hc_83
      have ni_86 := (fa_lt _ _).mp (zi_nle hc_83)
      rw [li_4] at ni_86
      have hv_87 : zI y_82 0 3 := zI.lt_l hy_82 zc_4 (zi_nle hc_83) (by decide)
      refine lv_aload_n hx hb d_Machine_takes_9 rfl (lv_at hl 2 rfl) ?_
      refine lv_iload_n hx hb d_Machine_takes_10 rfl (lv_at hl 3 rfl) ?_
      refine lv_iload_n hx hb d_Machine_takes_11 rfl (lv_at hl 4 rfl) ?_
      refine lv_iload hx hb d_Machine_takes_12 (lv_at hl 0 rfl) ?_
      refine z_callV (index := 166) (As := [.int b2, .int b3, .int y_82]) (rest := []) (wr := [(b0, .inr (5, [.int b4, .int b5, .ref b6, .ref b7, .ref b8, .ref b9, .ref b10, .ref b11, .int b12, .ref b13, .ref b14, .ref b15, .ref b16, .ref b17, .ref b18])), (b11, .inl (G.2 1, 4, .inr (.inl b19)))]) Z (s1_Sets_longAt l G (b1) (b2) (b3) (y_82) (b20) (b21) (b22) (b23) hb2 hb3 hv_87 hb20 hb23) hl.1 q719 q720 q721 q7 q722 ⟨by decide, by decide, by show _ = some 3; decide +kernel⟩ ⟨Nat.le_of_ble_eq_true rfl, Nat.le_of_ble_eq_true rfl⟩ ⟨Nat.le_of_ble_eq_true rfl, Nat.le_of_ble_eq_true rfl⟩ rfl (Nat.le_of_ble_eq_true rfl) d_Machine_takes_14 hP hD hS hA 2 6 rfl rfl rfl [2, 3] [0, 1] rfl rfl rfl rfl (by decide) (fun v w1 H locs hw_88 hP hD hS => ?_)
      obtain ⟨x_89, rfl, rfl, hfx_90⟩ := hw_88
      have hP : va_P G.1 classes [(b0, .inr (5, [.int b4, .int b5, .ref b6, .ref b7, .ref b8, .ref b9, .ref b10, .ref b11, .int b12, .ref b13, .ref b14, .ref b15, .ref b16, .ref b17, .ref b18])), (b11, .inl (G.2 1, 4, .inr (.inl b19))), (b1, .inr (6, [.int b20, .int 4, .int 2, .ref b21, .ref b22])), (b21, .inl (G.2 1, 8, .inr (.inl b23)))] H := hP
      have hD := z_tie hP hD rfl
      refine W.widen (k := 0) (n := 0) (Nat.le_of_ble_eq_true rfl) (Nat.le_of_ble_eq_true rfl) ?_
      refine lv_aload_n hx hb d_Machine_takes_17 rfl (lv_at hl 1 rfl) ?_
      refine va_get (D := G.1) (ci := 5) (v := .ref b11) (C := R_Machine) (T := F_Machine) (N := 15) hx hb hts i_Machine hown hK hP 0 rfl rfl 7 (by decide) (hts _ q181) (fun _ h9 => h9) rfl d_Machine_takes_18 ?_
      refine lv_iload hx hb d_Machine_takes_21 (lv_at hl 0 rfl) ?_
      refine va_lald hx hb hK hP 1 1 rfl rfl (zI.inn hv_87 (by decide)) d_Machine_takes_23 ?_
      refine lv_topl (fun v_91 ev_91 => ?_)
      refine lv_land hx hb d_Machine_takes_24 ?_
      refine lv_topl (fun v_92 ev_92 => ?_)
      refine lv_lconst (v := 0) hx hb d_Machine_takes_25 (by decide) ?_
      refine W.lcmp hx hb d_Machine_takes_26 ?_
      refine lv_topi (fun v_93 ev_93 => ?_)
      refine lv_if_eq (tgt := 32) hx hb d_Machine_takes_27 (by decide) (fun hc_94 => ?_) (fun hc_94 => ?_)
      · have ni_95 := hc_94
        rw [ev_93] at ni_95
        simp only [lg_cmp_lt, lg_cmp_le, lg_cmp_gt, lg_cmp_ge, lg_cmp_eq, fa_lt64, fa_le64, fa_eq64, Int32.toInt_toInt64, ll_0] at ni_95
        have hv_96 : zJ v_92 0 0 := by have _a := ni_95; have _b := (zJ_all v_92); have _c := zcl_0; simp only [Int32.toInt_toInt64] at *; exact ⟨by omega, by omega⟩
        obtain ⟨v_97, ev_97⟩ : ∃ z : Int32, z = y_82 + 1 := ⟨_, rfl⟩
        obtain ⟨qv_97, hv_97⟩ := zI_add (l := 1) (h := 4) hv_87 zc_1 ev_97 (by decide)
        rw [li_1] at qv_97
        refine lv_iinc (v := v_97) (lv' := [(4, .int v_97), (0, .ref b0), (1, .ref b1), (2, .int b2), (3, .int b3)]) hx hb d_Machine_takes_32 hl (k := 0) rfl (by rw [ev_97]; rfl) (by decide) rfl (fun ls hl => ?_)
        refine lv_goto (tgt := 3) hx hb d_Machine_takes_35 (by decide) ?_
        exact ihk_81 (v_97) _ _ _ (zI.wk (l' := 0) (h' := 4) hv_97 (by decide)) (zm_up qv_97 hmk_81 (by decide)) hP hD hS (lv_sub hl [0, 1, 2, 3, 4] rfl)
      · have ni_98 := hc_94
        rw [ev_93] at ni_98
        simp only [lg_cmp_lt, lg_cmp_le, lg_cmp_gt, lg_cmp_ge, lg_cmp_eq, fa_lt64, fa_le64, fa_eq64, Int32.toInt_toInt64, ll_0] at ni_98
        refine lv_iconst (v := 1) hx hb d_Machine_takes_30 (by decide) ?_
        exact z_zret hx hb hr hlocks rfl hP hD hS (Nat.le_of_ble_eq_true rfl) (Nat.le_of_ble_eq_true rfl) d_Machine_takes_31 ⟨1, rfl, rfl, (zI.wk (l' := 0) (h' := 1) zc_1 (by decide))⟩
abbrev m_s2_Machine_gatherFirsts : Room := { frames := 1, cells := 0, slots := 0, locals := 21 }
set_option maxHeartbeats 4000000 in
set_option maxRecDepth 100000 in
theorem s2_Machine_gatherFirsts (l : Launch) (G : zG) (b0 : Nat) (b1 : Int32) (b2 : Int32) (b3 : Nat) (b4 : Nat) (b5 : Nat) (b6 : Nat) (b7 : Nat) (b8 : Nat) (b9 : Int32) (b10 : Nat) (b11 : Nat) (b12 : Nat) (b13 : Nat) (b14 : Nat) (b15 : Nat) (b16 : Nat → Int32) (b17 : Nat → Int32) (hb1 : zI b1 0 1) (hb2 : zI b2 0 241) (hb9 : zI b9 0 240) (hb16 : zK b16) (hb17 : zR b17 0 240) : zM l G y_Machine_gatherFirsts prog_4_method_11_code 3 (Option.none : Option Jvm.ClassFile.FieldType) m_s2_Machine_gatherFirsts [.ref b0] [(b0, .inr (5, [.int b1, .int b2, .ref b3, .ref b4, .ref b5, .ref b6, .ref b7, .ref b8, .int b9, .ref b10, .ref b11, .ref b12, .ref b13, .ref b14, .ref b15])), (b10, .inl (G.2 0, 240, .inl b16)), (b14, .inl (G.2 0, 242, .inl b17))] (fun v w => ∃ (e0 : Nat → Int32), v = none ∧ w = [(b0, .inr (5, [.int b1, .int b2, .ref b3, .ref b4, .ref b5, .ref b6, .ref b7, .ref b8, .int b9, .ref b10, .ref b11, .ref b12, .ref b13, .ref b14, .ref b15])), (b10, .inl (G.2 0, 240, .inl b16)), (b14, .inl (G.2 0, 242, .inl e0))] ∧ (zR e0 0 240)) := by
  refine z_start (by decide +kernel) (Nat.le_of_ble_eq_true rfl) ?_
  intro p e s m below meth c A Z hr hnm hA hP hD hS ls hl
  have Z : zC p s m _ meth c prog_4_method_11_code 3 "TraceMachines$Machine" G := Z
  obtain ⟨hx, hb, hml, hown, hts, hK, hN, hlocks⟩ := id Z
  have hl : lv_has ls 3 [(0, .ref b0)] := hl
  refine lv_iconst (v := 0) hx hb d_Machine_gatherFirsts_0 (by decide) ?_
  refine lv_istore_n (lv' := [(1, .int 0), (0, .ref b0)]) hx hb d_Machine_gatherFirsts_1 rfl hl (by decide) rfl (fun ls hl => ?_)
  refine lv_iconst (v := 0) hx hb d_Machine_gatherFirsts_2 (by decide) ?_
  refine lv_istore_n (lv' := [(2, .int 0), (1, .int 0), (0, .ref b0)]) hx hb d_Machine_gatherFirsts_3 rfl hl (by decide) rfl (fun ls hl => ?_)
  suffices key : ∀ (k_648 : Nat) (y_649 : Int32) (y_650 : Int32) (y_651 : Nat → Int32) (H : Heap) (locs : List Loc) (ls : Array Slot), (zI y_649 0 241) → (zI y_650 0 240) → (zR y_651 0 240) → (241 : Int) - y_649.toInt < (k_648 : Int) → va_P G.1 classes [(b0, .inr (5, [.int b1, .int b2, .ref b3, .ref b4, .ref b5, .ref b6, .ref b7, .ref b8, .int b9, .ref b10, .ref b11, .ref b12, .ref b13, .ref b14, .ref b15])), (b10, .inl (G.2 0, 240, .inl b16)), (b14, .inl (G.2 0, 242, .inl y_651))] H → va_D A [(b0, .inr (5, [.int b1, .int b2, .ref b3, .ref b4, .ref b5, .ref b6, .ref b7, .ref b8, .int b9, .ref b10, .ref b11, .ref b12, .ref b13, .ref b14, .ref b15])), (b10, .inl (G.2 0, 240, .inl b16)), (b14, .inl (G.2 0, 242, .inl y_651))] → va_S A s.heap H locs → lv_has ls 3 [(2, .int y_649), (1, .int y_650), (0, .ref b0)] → W p l e m_s2_Machine_gatherFirsts s m ([.ref b0] : List Value).toArray below meth c H locs 0 0 (MQ below (zQ G (fun v w => ∃ (e0 : Nat → Int32), v = none ∧ w = [(b0, .inr (5, [.int b1, .int b2, .ref b3, .ref b4, .ref b5, .ref b6, .ref b7, .ref b8, .int b9, .ref b10, .ref b11, .ref b12, .ref b13, .ref b14, .ref b15])), (b10, .inl (G.2 0, 240, .inl b16)), (b14, .inl (G.2 0, 242, .inl e0))] ∧ (zR e0 0 240)) A) ([.ref b0] : List Value).toArray s m_s2_Machine_gatherFirsts.cells m_s2_Machine_gatherFirsts.slots A) (F0 m 4 ls []) by
    exact key 242 (0) (0) (b17) _ _ _ (zI.wk (l' := 0) (h' := 241) zc_0 (by decide)) (zI.wk (l' := 0) (h' := 240) zc_0 (by decide)) hb17 (zm_upi (zI.wk (l' := 0) (h' := 241) zc_0 (by decide)) (by decide)) hP hD hS (lv_sub hl [0, 1, 2] rfl)
  intro k_648
  induction k_648 with
  | zero =>
    intro y_649 y_650 y_651 H locs ls hy_649 hy_650 hy_651 hmk_648 hP hD hS hl
    exact (zm_up0 hy_649 hmk_648).elim
  | succ k_648 ihk_648 =>
    intro y_649 y_650 y_651 H locs ls hy_649 hy_650 hy_651 hmk_648 hP hD hS hl
    refine lv_iload_n hx hb d_Machine_gatherFirsts_4 rfl (lv_at hl 0 rfl) ?_
    refine lv_aload_n hx hb d_Machine_gatherFirsts_5 rfl (lv_at hl 2 rfl) ?_
    refine va_get (D := G.1) (ci := 5) (v := .int b2) (C := R_Machine) (T := F_Machine) (N := 15) hx hb hts i_Machine hown hK hP 0 rfl rfl 1 (by decide) (hts _ q168) (fun _ h9 => h9) rfl d_Machine_gatherFirsts_6 ?_
    refine lv_icmp_ge (tgt := 48) hx hb d_Machine_gatherFirsts_9 (by decide) (fun hc_652 => ?_) (fun hc_652 => ?_)
    · have _nhc_652 := hc_652
      have ni_653 := (fa_le _ _).mp hc_652
      refine lv_aload_n hx hb d_Machine_gatherFirsts_48 rfl (lv_at hl 2 rfl) ?_
      refine va_get (D := G.1) (ci := 5) (v := .ref b14) (C := R_Machine) (T := F_Machine) (N := 15) hx hb hts i_Machine hown hK hP 0 rfl rfl 13 (by decide) (hts _ q195) (fun _ h9 => h9) rfl d_Machine_gatherFirsts_49 ?_
      refine lv_aload_n hx hb d_Machine_gatherFirsts_52 rfl (lv_at hl 2 rfl) ?_
      refine va_get (D := G.1) (ci := 5) (v := .int b2) (C := R_Machine) (T := F_Machine) (N := 15) hx hb hts i_Machine hown hK hP 0 rfl rfl 1 (by decide) (hts _ q168) (fun _ h9 => h9) rfl d_Machine_gatherFirsts_53 ?_
      refine lv_aload_n hx hb d_Machine_gatherFirsts_56 rfl (lv_at hl 2 rfl) ?_
      refine va_get (D := G.1) (ci := 5) (v := .int b9) (C := R_Machine) (T := F_Machine) (N := 15) hx hb hts i_Machine hown hK hP 0 rfl rfl 8 (by decide) (hts _ q184) (fun _ h9 => h9) rfl d_Machine_gatherFirsts_57 ?_
      refine va_iast hx hb hK hP hD hS 2 0 rfl rfl (zI.inn hb2 (by decide)) d_Machine_gatherFirsts_60 (fun H locs hP hD hS => ?_)
      obtain ⟨f_654, hf_654, gf_654, uf_654, hP, hD⟩ := z_newfu 2 hP hD rfl hy_651 hb9
      have hP : va_P G.1 classes [(b0, .inr (5, [.int b1, .int b2, .ref b3, .ref b4, .ref b5, .ref b6, .ref b7, .ref b8, .int b9, .ref b10, .ref b11, .ref b12, .ref b13, .ref b14, .ref b15])), (b10, .inl (G.2 0, 240, .inl b16)), (b14, .inl (G.2 0, 242, .inl f_654))] H := hP
      have hD := z_tie hP hD rfl
      exact z_vret hx hb hr hlocks hP hD hS (Nat.le_of_ble_eq_true rfl) (Nat.le_of_ble_eq_true rfl) d_Machine_gatherFirsts_61 ⟨f_654, rfl, rfl, hf_654⟩
    · have _nhc_652 := hc_652
      have ni_655 := (fa_lt _ _).mp (zi_nle hc_652)
      have hv_656 : zI y_649 0 240 := zI.lt_l hy_649 hb2 (zi_nle hc_652) (by decide)
      have hv_657 : zI b2 1 241 := zI.lt_r hy_649 hb2 (zi_nle hc_652) (by decide)
      refine lv_aload_n hx hb d_Machine_gatherFirsts_12 rfl (lv_at hl 2 rfl) ?_
      refine va_get (D := G.1) (ci := 5) (v := .ref b14) (C := R_Machine) (T := F_Machine) (N := 15) hx hb hts i_Machine hown hK hP 0 rfl rfl 13 (by decide) (hts _ q195) (fun _ h9 => h9) rfl d_Machine_gatherFirsts_13 ?_
      refine lv_iload_n hx hb d_Machine_gatherFirsts_16 rfl (lv_at hl 0 rfl) ?_
      refine lv_iload_n hx hb d_Machine_gatherFirsts_17 rfl (lv_at hl 1 rfl) ?_
      refine va_iast hx hb hK hP hD hS 2 0 rfl rfl (zI.inn hv_656 (by decide)) d_Machine_gatherFirsts_18 (fun H locs hP hD hS => ?_)
      obtain ⟨f_658, hf_658, gf_658, uf_658, hP, hD⟩ := z_newfu 2 hP hD rfl hy_651 hy_650
      have hP : va_P G.1 classes [(b0, .inr (5, [.int b1, .int b2, .ref b3, .ref b4, .ref b5, .ref b6, .ref b7, .ref b8, .int b9, .ref b10, .ref b11, .ref b12, .ref b13, .ref b14, .ref b15])), (b10, .inl (G.2 0, 240, .inl b16)), (b14, .inl (G.2 0, 242, .inl f_658))] H := hP
      have hD := z_tie hP hD rfl
      suffices key : ∀ (k_686 : Nat) (y_687 : Int32) (H : Heap) (locs : List Loc) (ls : Array Slot), (zI y_687 0 240) → (240 : Int) - y_687.toInt < (k_686 : Int) → va_P G.1 classes [(b0, .inr (5, [.int b1, .int b2, .ref b3, .ref b4, .ref b5, .ref b6, .ref b7, .ref b8, .int b9, .ref b10, .ref b11, .ref b12, .ref b13, .ref b14, .ref b15])), (b10, .inl (G.2 0, 240, .inl b16)), (b14, .inl (G.2 0, 242, .inl f_658))] H → va_D A [(b0, .inr (5, [.int b1, .int b2, .ref b3, .ref b4, .ref b5, .ref b6, .ref b7, .ref b8, .int b9, .ref b10, .ref b11, .ref b12, .ref b13, .ref b14, .ref b15])), (b10, .inl (G.2 0, 240, .inl b16)), (b14, .inl (G.2 0, 242, .inl f_658))] → va_S A s.heap H locs → lv_has ls 3 [(2, .int y_649), (1, .int y_687), (0, .ref b0)] → W p l e m_s2_Machine_gatherFirsts s m ([.ref b0] : List Value).toArray below meth c H locs 0 0 (MQ below (zQ G (fun v w => ∃ (e0 : Nat → Int32), v = none ∧ w = [(b0, .inr (5, [.int b1, .int b2, .ref b3, .ref b4, .ref b5, .ref b6, .ref b7, .ref b8, .int b9, .ref b10, .ref b11, .ref b12, .ref b13, .ref b14, .ref b15])), (b10, .inl (G.2 0, 240, .inl b16)), (b14, .inl (G.2 0, 242, .inl e0))] ∧ (zR e0 0 240)) A) ([.ref b0] : List Value).toArray s m_s2_Machine_gatherFirsts.cells m_s2_Machine_gatherFirsts.slots A) (F0 m 19 ls []) by
        exact key 241 (y_650) _ _ _ hy_650 (zm_upi hy_650 (by decide)) hP hD hS (lv_sub hl [0, 1, 2] rfl)
      intro k_686
      induction k_686 with
      | zero =>
        intro y_687 H locs ls hy_687 hmk_686 hP hD hS hl
        exact (zm_up0 hy_687 hmk_686).elim
      | succ k_686 ihk_686 =>
        intro y_687 H locs ls hy_687 hmk_686 hP hD hS hl
        refine lv_iload_n hx hb d_Machine_gatherFirsts_19 rfl (lv_at hl 1 rfl) ?_
        refine lv_aload_n hx hb d_Machine_gatherFirsts_20 rfl (lv_at hl 2 rfl) ?_
        refine va_get (D := G.1) (ci := 5) (v := .int b9) (C := R_Machine) (T := F_Machine) (N := 15) hx hb hts i_Machine hown hK hP 0 rfl rfl 8 (by decide) (hts _ q184) (fun _ h9 => h9) rfl d_Machine_gatherFirsts_21 ?_
        refine lv_icmp_ge (tgt := 42) hx hb d_Machine_gatherFirsts_24 (by decide) (fun hc_688 => ?_) (fun hc_688 => ?_)
        · have _nhc_688 := hc_688
          have ni_689 := (fa_le _ _).mp hc_688
          obtain ⟨v_690, ev_690⟩ : ∃ z : Int32, z = y_649 + 1 := ⟨_, rfl⟩
          obtain ⟨qv_690, hv_690⟩ := zI_add (l := 1) (h := 241) hv_656 zc_1 ev_690 (by decide)
          rw [li_1] at qv_690
          refine lv_iinc (v := v_690) (lv' := [(2, .int v_690), (1, .int y_687), (0, .ref b0)]) hx hb d_Machine_gatherFirsts_42 hl (k := 0) rfl (by rw [ev_690]; rfl) (by decide) rfl (fun ls hl => ?_)
          refine lv_goto (tgt := 4) hx hb d_Machine_gatherFirsts_45 (by decide) ?_
          exact ihk_648 (v_690) (y_687) (f_658) _ _ _ (zI.wk (l' := 0) (h' := 241) hv_690 (by decide)) hy_687 hf_658 (zm_up qv_690 hmk_648 (by decide)) hP hD hS (lv_sub hl [0, 1, 2] rfl)
        · have _nhc_688 := hc_688
          have ni_691 := (fa_lt _ _).mp (zi_nle hc_688)
          have hv_692 : zI y_687 0 239 := zI.lt_l hy_687 hb9 (zi_nle hc_688) (by decide)
          have hv_693 : zI b9 1 240 := zI.lt_r hy_687 hb9 (zi_nle hc_688) (by decide)
          refine lv_aload_n hx hb d_Machine_gatherFirsts_27 rfl (lv_at hl 2 rfl) ?_
          refine lv_iload_n hx hb d_Machine_gatherFirsts_28 rfl (lv_at hl 1 rfl) ?_
          refine z_callV (index := 133) (As := [.int y_687]) (rest := []) (wr := [(b14, .inl (G.2 0, 242, .inl f_658))]) Z (s1_Machine_from l G (b0) (y_687) (b1) (b2) (b3) (b4) (b5) (b6) (b7) (b8) (b9) (b10) (b11) (b12) (b13) (b14) (b15) (b16) hv_692 hb1 (zI.wk (l' := 0) (h' := 241) hv_657 (by decide)) (zI.wk (l' := 0) (h' := 240) hv_693 (by decide)) hb16) hl.1 q660 q661 q662 q6 q663 ⟨by decide, by decide, by show _ = some 1; decide +kernel⟩ ⟨Nat.le_of_ble_eq_true rfl, Nat.le_of_ble_eq_true rfl⟩ ⟨Nat.le_of_ble_eq_true rfl, Nat.le_of_ble_eq_true rfl⟩ rfl (Nat.le_of_ble_eq_true rfl) d_Machine_gatherFirsts_29 hP hD hS hA 0 5 rfl rfl rfl [0, 1] [2] rfl rfl rfl rfl (by decide) (fun v w1 H locs hw_694 hP hD hS => ?_)
          obtain ⟨x_695, rfl, rfl, hx_695⟩ := hw_694
          have hP : va_P G.1 classes [(b14, .inl (G.2 0, 242, .inl f_658)), (b0, .inr (5, [.int b1, .int b2, .ref b3, .ref b4, .ref b5, .ref b6, .ref b7, .ref b8, .int b9, .ref b10, .ref b11, .ref b12, .ref b13, .ref b14, .ref b15])), (b10, .inl (G.2 0, 240, .inl b16))] H := hP
          have hD := z_tie hP hD rfl
          refine W.widen (k := 0) (n := 0) (Nat.le_of_ble_eq_true rfl) (Nat.le_of_ble_eq_true rfl) ?_
          refine lv_iload_n hx hb d_Machine_gatherFirsts_32 rfl (lv_at hl 0 rfl) ?_
          refine lv_icmp_ne (tgt := 42) hx hb d_Machine_gatherFirsts_33 (by decide) (fun hc_696 => ?_) (fun hc_696 => ?_)
          · have _nhc_696 := hc_696
            have ni_697 : ¬ (x_695 : Int32).toInt = (y_649 : Int32).toInt := fun z => hc_696 ((fa_eq _ _).mpr z)
            obtain ⟨v_698, ev_698⟩ : ∃ z : Int32, z = y_649 + 1 := ⟨_, rfl⟩
            obtain ⟨qv_698, hv_698⟩ := zI_add (l := 1) (h := 241) hv_656 zc_1 ev_698 (by decide)
            rw [li_1] at qv_698
            refine lv_iinc (v := v_698) (lv' := [(2, .int v_698), (1, .int y_687), (0, .ref b0)]) hx hb d_Machine_gatherFirsts_42 hl (k := 0) rfl (by rw [ev_698]; rfl) (by decide) rfl (fun ls hl => ?_)
            refine lv_goto (tgt := 4) hx hb d_Machine_gatherFirsts_45 (by decide) ?_
            exact ihk_648 (v_698) (y_687) (f_658) _ _ _ (zI.wk (l' := 0) (h' := 241) hv_698 (by decide)) (zI.wk (l' := 0) (h' := 240) hv_692 (by decide)) hf_658 (zm_up qv_698 hmk_648 (by decide)) (hP.sub [1, 2, 0] rfl) (hD.sub [1, 2, 0] (by decide) rfl) hS (lv_sub hl [0, 1, 2] rfl)
          · have _nhc_696 := hc_696
            have ni_699 := (fa_eq _ _).mp hc_696
            obtain ⟨v_700, ev_700⟩ : ∃ z : Int32, z = y_687 + 1 := ⟨_, rfl⟩
            obtain ⟨qv_700, hv_700⟩ := zI_add (l := 1) (h := 240) hv_692 zc_1 ev_700 (by decide)
            rw [li_1] at qv_700
            refine lv_iinc (v := v_700) (lv' := [(1, .int v_700), (2, .int y_649), (0, .ref b0)]) hx hb d_Machine_gatherFirsts_36 hl (k := 1) rfl (by rw [ev_700]; rfl) (by decide) rfl (fun ls hl => ?_)
            refine lv_goto (tgt := 19) hx hb d_Machine_gatherFirsts_39 (by decide) ?_
            exact ihk_686 (v_700) _ _ _ (zI.wk (l' := 0) (h' := 240) hv_700 (by decide)) (zm_up qv_700 hmk_686 (by decide)) (hP.sub [1, 2, 0] rfl) (hD.sub [1, 2, 0] (by decide) rfl) hS (lv_sub hl [1, 0, 2] rfl)
theorem d_Follows_hashOf_0 : decode prog_3_method_6_code 0 = .ok (.iconst 0, 1) := by decide +kernel
theorem d_Follows_hashOf_1 : decode prog_3_method_6_code 1 = .ok (.istore_n 2, 1) := by decide +kernel
theorem d_Follows_hashOf_2 : decode prog_3_method_6_code 2 = .ok (.iload_n 1, 1) := by decide +kernel
theorem d_Follows_hashOf_3 : decode prog_3_method_6_code 3 = .ok (.bipush 20, 2) := by decide +kernel
theorem d_Follows_hashOf_5 : decode prog_3_method_6_code 5 = .ok (.imul, 1) := by decide +kernel
theorem d_Follows_hashOf_6 : decode prog_3_method_6_code 6 = .ok (.istore_n 3, 1) := by decide +kernel
theorem d_Follows_hashOf_7 : decode prog_3_method_6_code 7 = .ok (.iload_n 3, 1) := by decide +kernel
theorem d_Follows_hashOf_8 : decode prog_3_method_6_code 8 = .ok (.istore 4, 2) := by decide +kernel
theorem d_Follows_hashOf_10 : decode prog_3_method_6_code 10 = .ok (.iload 4, 2) := by decide +kernel
theorem d_Follows_hashOf_12 : decode prog_3_method_6_code 12 = .ok (.iload_n 3, 1) := by decide +kernel
theorem d_Follows_hashOf_13 : decode prog_3_method_6_code 13 = .ok (.aload_n 0, 1) := by decide +kernel
theorem d_Follows_hashOf_14 : decode prog_3_method_6_code 14 = .ok (.getfield 9, 3) := by decide +kernel
theorem d_Follows_hashOf_17 : decode prog_3_method_6_code 17 = .ok (.iload_n 1, 1) := by decide +kernel
theorem d_Follows_hashOf_18 : decode prog_3_method_6_code 18 = .ok (.iaload, 1) := by decide +kernel
theorem d_Follows_hashOf_19 : decode prog_3_method_6_code 19 = .ok (.iadd, 1) := by decide +kernel
theorem d_Follows_hashOf_20 : decode prog_3_method_6_code 20 = .ok (.if_icmp .ge 24, 3) := by decide +kernel
theorem d_Follows_hashOf_23 : decode prog_3_method_6_code 23 = .ok (.bipush 31, 2) := by decide +kernel
theorem d_Follows_hashOf_25 : decode prog_3_method_6_code 25 = .ok (.iload_n 2, 1) := by decide +kernel
theorem d_Follows_hashOf_26 : decode prog_3_method_6_code 26 = .ok (.imul, 1) := by decide +kernel
theorem d_Follows_hashOf_27 : decode prog_3_method_6_code 27 = .ok (.aload_n 0, 1) := by decide +kernel
theorem d_Follows_hashOf_28 : decode prog_3_method_6_code 28 = .ok (.getfield 15, 3) := by decide +kernel
theorem d_Follows_hashOf_31 : decode prog_3_method_6_code 31 = .ok (.iload 4, 2) := by decide +kernel
theorem d_Follows_hashOf_33 : decode prog_3_method_6_code 33 = .ok (.iaload, 1) := by decide +kernel
theorem d_Follows_hashOf_34 : decode prog_3_method_6_code 34 = .ok (.iadd, 1) := by decide +kernel
theorem d_Follows_hashOf_35 : decode prog_3_method_6_code 35 = .ok (.iconst 1, 1) := by decide +kernel
theorem d_Follows_hashOf_36 : decode prog_3_method_6_code 36 = .ok (.iadd, 1) := by decide +kernel
theorem d_Follows_hashOf_37 : decode prog_3_method_6_code 37 = .ok (.istore_n 2, 1) := by decide +kernel
theorem d_Follows_hashOf_38 : decode prog_3_method_6_code 38 = .ok (.iinc 4 1, 3) := by decide +kernel
theorem d_Follows_hashOf_41 : decode prog_3_method_6_code 41 = .ok (.goto (-31), 3) := by decide +kernel
theorem d_Follows_hashOf_44 : decode prog_3_method_6_code 44 = .ok (.iload_n 2, 1) := by decide +kernel
theorem d_Follows_hashOf_45 : decode prog_3_method_6_code 45 = .ok (.iload_n 2, 1) := by decide +kernel
theorem d_Follows_hashOf_46 : decode prog_3_method_6_code 46 = .ok (.bipush 9, 2) := by decide +kernel
theorem d_Follows_hashOf_48 : decode prog_3_method_6_code 48 = .ok (.iushr, 1) := by decide +kernel
theorem d_Follows_hashOf_49 : decode prog_3_method_6_code 49 = .ok (.ixor, 1) := by decide +kernel
theorem d_Follows_hashOf_50 : decode prog_3_method_6_code 50 = .ok (.ireturn, 1) := by decide +kernel
abbrev m_s1_Follows_hashOf : Room := { frames := 0, cells := 0, slots := 0, locals := 0 }
set_option maxHeartbeats 4000000 in
set_option maxRecDepth 100000 in
theorem s1_Follows_hashOf (l : Launch) (G : zG) (b0 : Nat) (b1 : Int32) (b2 : Nat) (b3 : Nat) (b4 : Nat) (b5 : Nat → Int32) (b6 : Nat → Int32) (hb1 : zI b1 0 240) (hb5 : zqa qC b5) : zM l G y_Follows_hashOf prog_3_method_6_code 5 (Option.some Jvm.ClassFile.FieldType.int) m_s1_Follows_hashOf [.ref b0, .int b1] [(b0, .inr (4, [.ref b2, .ref b3, .ref b4])), (b2, .inl (G.2 0, 241, .inl b5)), (b3, .inl (G.2 0, 4820, .inl b6))] (fun v w => ∃ (e0 : Int32), v = some (.int e0) ∧ w = [(b0, .inr (4, [.ref b2, .ref b3, .ref b4])), (b2, .inl (G.2 0, 241, .inl b5)), (b3, .inl (G.2 0, 4820, .inl b6))]) := by
  refine z_start (by decide +kernel) (Nat.le_of_ble_eq_true rfl) ?_
  intro p e s m below meth c A Z hr hnm hA hP hD hS ls hl
  have Z : zC p s m _ meth c prog_3_method_6_code 5 "TraceMachines$Follows" G := Z
  obtain ⟨hx, hb, hml, hown, hts, hK, hN, hlocks⟩ := id Z
  have hl : lv_has ls 5 [(0, .ref b0), (1, .int b1)] := hl
  refine lv_iconst (v := 0) hx hb d_Follows_hashOf_0 (by decide) ?_
  refine lv_istore_n (lv' := [(2, .int 0), (0, .ref b0), (1, .int b1)]) hx hb d_Follows_hashOf_1 rfl hl (by decide) rfl (fun ls hl => ?_)
  refine lv_iload_n hx hb d_Follows_hashOf_2 rfl (lv_at hl 2 rfl) ?_
  refine lv_bipush (v := 20) hx hb d_Follows_hashOf_3 (by decide) ?_
  refine lv_imul hx hb d_Follows_hashOf_5 ?_
  refine lv_topi (fun v_1 ev_1 => ?_)
  obtain ⟨qv_1, hv_1⟩ := zI_mul (l := 0) (h := 4800) hb1 zc_20 ev_1 (by decide)
  rw [li_20] at qv_1
  refine lv_istore_n (lv' := [(3, .int v_1), (2, .int 0), (0, .ref b0), (1, .int b1)]) hx hb d_Follows_hashOf_6 rfl hl (by decide) rfl (fun ls hl => ?_)
  refine lv_iload_n hx hb d_Follows_hashOf_7 rfl (lv_at hl 0 rfl) ?_
  refine lv_istore (lv' := [(4, .int v_1), (3, .int v_1), (2, .int 0), (0, .ref b0), (1, .int b1)]) hx hb d_Follows_hashOf_8 hl (by decide) rfl (fun ls hl => ?_)
  suffices key : ∀ (k_78 : Nat) (y_79 : Int32) (y_80 : Int32) (H : Heap) (locs : List Loc) (ls : Array Slot), (zI y_79 0 4820) → (4820 : Int) - y_79.toInt < (k_78 : Int) → va_P G.1 classes [(b0, .inr (4, [.ref b2, .ref b3, .ref b4])), (b2, .inl (G.2 0, 241, .inl b5)), (b3, .inl (G.2 0, 4820, .inl b6))] H → va_D A [(b0, .inr (4, [.ref b2, .ref b3, .ref b4])), (b2, .inl (G.2 0, 241, .inl b5)), (b3, .inl (G.2 0, 4820, .inl b6))] → va_S A s.heap H locs → lv_has ls 5 [(4, .int y_79), (3, .int v_1), (2, .int y_80), (0, .ref b0), (1, .int b1)] → W p l e m_s1_Follows_hashOf s m ([.ref b0, .int b1] : List Value).toArray below meth c H locs 0 0 (MQ below (zQ G (fun v w => ∃ (e0 : Int32), v = some (.int e0) ∧ w = [(b0, .inr (4, [.ref b2, .ref b3, .ref b4])), (b2, .inl (G.2 0, 241, .inl b5)), (b3, .inl (G.2 0, 4820, .inl b6))]) A) ([.ref b0, .int b1] : List Value).toArray s m_s1_Follows_hashOf.cells m_s1_Follows_hashOf.slots A) (F0 m 10 ls []) by
    exact key 4821 (v_1) (0) _ _ _ (zI.wk (l' := 0) (h' := 4820) hv_1 (by decide)) (zm_upi (zI.wk (l' := 0) (h' := 4820) hv_1 (by decide)) (by decide)) hP hD hS (lv_sub hl [0, 1, 2, 3, 4] rfl)
  intro k_78
  induction k_78 with
  | zero =>
    intro y_79 y_80 H locs ls hy_79 hmk_78 hP hD hS hl
    exact (zm_up0 hy_79 hmk_78).elim
  | succ k_78 ihk_78 =>
    intro y_79 y_80 H locs ls hy_79 hmk_78 hP hD hS hl
    refine lv_iload hx hb d_Follows_hashOf_10 (lv_at hl 0 rfl) ?_
    refine lv_iload_n hx hb d_Follows_hashOf_12 rfl (lv_at hl 1 rfl) ?_
    refine lv_aload_n hx hb d_Follows_hashOf_13 rfl (lv_at hl 3 rfl) ?_
    refine va_get (D := G.1) (ci := 4) (v := .ref b2) (C := R_Follows) (T := F_Follows) (N := 3) hx hb hts i_Follows hown hK hP 0 rfl rfl 0 (by decide) (hts _ q146) (fun _ h9 => h9) rfl d_Follows_hashOf_14 ?_
    refine lv_iload_n hx hb d_Follows_hashOf_17 rfl (lv_at hl 4 rfl) ?_
    refine va_iald hx hb hK hP 1 0 rfl rfl (zI.inn hb1 (by decide)) d_Follows_hashOf_18 ?_
    refine lv_topi (fun v_81 ev_81 => ?_)
    obtain ⟨hv_81, kv_81⟩ := zQC.ld hb5 hb1 ev_81 (by decide)
    refine lv_iadd hx hb d_Follows_hashOf_19 ?_
    refine lv_topi (fun v_82 ev_82 => ?_)
    obtain ⟨qv_82, hv_82⟩ := zI_add (l := 0) (h := 5060) hv_1 hv_81 ev_82 (by decide)
    refine lv_icmp_ge (tgt := 44) hx hb d_Follows_hashOf_20 (by decide) (fun hc_83 => ?_) (fun hc_83 => ?_)
    · have _nhc_83 := hc_83
      have ni_84 := (fa_le _ _).mp hc_83
      have hv_85 : zI v_82 0 4820 := zI.le_l hv_82 hy_79 hc_83 (by decide)
      refine lv_iload_n hx hb d_Follows_hashOf_44 rfl (lv_at hl 2 rfl) ?_
      refine lv_iload_n hx hb d_Follows_hashOf_45 rfl (lv_at hl 2 rfl) ?_
      refine lv_bipush (v := 9) hx hb d_Follows_hashOf_46 (by decide) ?_
      obtain ⟨v_86, ev_86⟩ : ∃ z : Int32, z = ((y_80).toUInt32 >>> ((9 : Int32).toUInt32 &&& Int32.toUInt32 31)).toInt32 := ⟨_, rfl⟩
      refine lv_iushr (v := v_86) hx hb d_Follows_hashOf_48 ev_86.symm ?_
      refine lv_ixor hx hb d_Follows_hashOf_49 ?_
      refine lv_topi (fun v_87 ev_87 => ?_)
      exact z_iret hx hb hr hlocks hP hD hS (Nat.le_of_ble_eq_true rfl) (Nat.le_of_ble_eq_true rfl) d_Follows_hashOf_50 ⟨v_87, rfl, rfl⟩
    · have _nhc_83 := hc_83
      have ni_88 := (fa_lt _ _).mp (zi_nle hc_83)
      have hv_89 : zI v_82 1 5060 := zI.lt_r hy_79 hv_82 (zi_nle hc_83) (by decide)
      refine lv_bipush (v := 31) hx hb d_Follows_hashOf_23 (by decide) ?_
      refine lv_iload_n hx hb d_Follows_hashOf_25 rfl (lv_at hl 2 rfl) ?_
      refine lv_imul hx hb d_Follows_hashOf_26 ?_
      refine lv_topi (fun v_90 ev_90 => ?_)
      refine lv_aload_n hx hb d_Follows_hashOf_27 rfl (lv_at hl 3 rfl) ?_
      refine va_get (D := G.1) (ci := 4) (v := .ref b3) (C := R_Follows) (T := F_Follows) (N := 3) hx hb hts i_Follows hown hK hP 0 rfl rfl 1 (by decide) (hts _ q148) (fun _ h9 => h9) rfl d_Follows_hashOf_28 ?_
      refine lv_iload hx hb d_Follows_hashOf_31 (lv_at hl 0 rfl) ?_
      have hv_91 : zI y_79 0 4819 := ⟨by omega, by omega⟩
      refine va_iald hx hb hK hP 2 0 rfl rfl (zI.inn hv_91 (by decide)) d_Follows_hashOf_33 ?_
      refine lv_topi (fun v_92 ev_92 => ?_)
      refine lv_iadd hx hb d_Follows_hashOf_34 ?_
      refine lv_topi (fun v_93 ev_93 => ?_)
      refine lv_iconst (v := 1) hx hb d_Follows_hashOf_35 (by decide) ?_
      refine lv_iadd hx hb d_Follows_hashOf_36 ?_
      refine lv_topi (fun v_94 ev_94 => ?_)
      refine lv_istore_n (lv' := [(2, .int v_94), (4, .int y_79), (3, .int v_1), (0, .ref b0), (1, .int b1)]) hx hb d_Follows_hashOf_37 rfl hl (by decide) rfl (fun ls hl => ?_)
      obtain ⟨v_95, ev_95⟩ : ∃ z : Int32, z = y_79 + 1 := ⟨_, rfl⟩
      obtain ⟨qv_95, hv_95⟩ := zI_add (l := 1) (h := 4820) hv_91 zc_1 ev_95 (by decide)
      rw [li_1] at qv_95
      refine lv_iinc (v := v_95) (lv' := [(4, .int v_95), (2, .int v_94), (3, .int v_1), (0, .ref b0), (1, .int b1)]) hx hb d_Follows_hashOf_38 hl (k := 1) rfl (by rw [ev_95]; rfl) (by decide) rfl (fun ls hl => ?_)
      refine lv_goto (tgt := 10) hx hb d_Follows_hashOf_41 (by decide) ?_
      exact ihk_78 (v_95) (v_94) _ _ _ (zI.wk (l' := 0) (h' := 4820) hv_95 (by decide)) (zm_up qv_95 hmk_78 (by decide)) hP hD hS (lv_sub hl [0, 2, 1, 3, 4] rfl)
theorem d_Follows_isLike_0 : decode prog_3_method_7_code 0 = .ok (.aload_n 0, 1) := by decide +kernel
theorem d_Follows_isLike_1 : decode prog_3_method_7_code 1 = .ok (.getfield 9, 3) := by decide +kernel
theorem d_Follows_isLike_4 : decode prog_3_method_7_code 4 = .ok (.iload_n 1, 1) := by decide +kernel
theorem d_Follows_isLike_5 : decode prog_3_method_7_code 5 = .ok (.iaload, 1) := by decide +kernel
theorem d_Follows_isLike_6 : decode prog_3_method_7_code 6 = .ok (.aload_n 0, 1) := by decide +kernel
theorem d_Follows_isLike_7 : decode prog_3_method_7_code 7 = .ok (.getfield 9, 3) := by decide +kernel
theorem d_Follows_isLike_10 : decode prog_3_method_7_code 10 = .ok (.iload_n 2, 1) := by decide +kernel
theorem d_Follows_isLike_11 : decode prog_3_method_7_code 11 = .ok (.iaload, 1) := by decide +kernel
theorem d_Follows_isLike_12 : decode prog_3_method_7_code 12 = .ok (.if_icmp .eq 5, 3) := by decide +kernel
theorem d_Follows_isLike_15 : decode prog_3_method_7_code 15 = .ok (.iconst 0, 1) := by decide +kernel
theorem d_Follows_isLike_16 : decode prog_3_method_7_code 16 = .ok (.ireturn, 1) := by decide +kernel
theorem d_Follows_isLike_17 : decode prog_3_method_7_code 17 = .ok (.iconst 0, 1) := by decide +kernel
theorem d_Follows_isLike_18 : decode prog_3_method_7_code 18 = .ok (.istore_n 3, 1) := by decide +kernel
theorem d_Follows_isLike_19 : decode prog_3_method_7_code 19 = .ok (.iload_n 3, 1) := by decide +kernel
theorem d_Follows_isLike_20 : decode prog_3_method_7_code 20 = .ok (.aload_n 0, 1) := by decide +kernel
theorem d_Follows_isLike_21 : decode prog_3_method_7_code 21 = .ok (.getfield 9, 3) := by decide +kernel
theorem d_Follows_isLike_24 : decode prog_3_method_7_code 24 = .ok (.iload_n 1, 1) := by decide +kernel
theorem d_Follows_isLike_25 : decode prog_3_method_7_code 25 = .ok (.iaload, 1) := by decide +kernel
theorem d_Follows_isLike_26 : decode prog_3_method_7_code 26 = .ok (.if_icmp .ge 36, 3) := by decide +kernel
theorem d_Follows_isLike_29 : decode prog_3_method_7_code 29 = .ok (.aload_n 0, 1) := by decide +kernel
theorem d_Follows_isLike_30 : decode prog_3_method_7_code 30 = .ok (.getfield 15, 3) := by decide +kernel
theorem d_Follows_isLike_33 : decode prog_3_method_7_code 33 = .ok (.iload_n 1, 1) := by decide +kernel
theorem d_Follows_isLike_34 : decode prog_3_method_7_code 34 = .ok (.bipush 20, 2) := by decide +kernel
theorem d_Follows_isLike_36 : decode prog_3_method_7_code 36 = .ok (.imul, 1) := by decide +kernel
theorem d_Follows_isLike_37 : decode prog_3_method_7_code 37 = .ok (.iload_n 3, 1) := by decide +kernel
theorem d_Follows_isLike_38 : decode prog_3_method_7_code 38 = .ok (.iadd, 1) := by decide +kernel
theorem d_Follows_isLike_39 : decode prog_3_method_7_code 39 = .ok (.iaload, 1) := by decide +kernel
theorem d_Follows_isLike_40 : decode prog_3_method_7_code 40 = .ok (.aload_n 0, 1) := by decide +kernel
theorem d_Follows_isLike_41 : decode prog_3_method_7_code 41 = .ok (.getfield 15, 3) := by decide +kernel
theorem d_Follows_isLike_44 : decode prog_3_method_7_code 44 = .ok (.iload_n 2, 1) := by decide +kernel
theorem d_Follows_isLike_45 : decode prog_3_method_7_code 45 = .ok (.bipush 20, 2) := by decide +kernel
theorem d_Follows_isLike_47 : decode prog_3_method_7_code 47 = .ok (.imul, 1) := by decide +kernel
theorem d_Follows_isLike_48 : decode prog_3_method_7_code 48 = .ok (.iload_n 3, 1) := by decide +kernel
theorem d_Follows_isLike_49 : decode prog_3_method_7_code 49 = .ok (.iadd, 1) := by decide +kernel
theorem d_Follows_isLike_50 : decode prog_3_method_7_code 50 = .ok (.iaload, 1) := by decide +kernel
theorem d_Follows_isLike_51 : decode prog_3_method_7_code 51 = .ok (.if_icmp .eq 5, 3) := by decide +kernel
theorem d_Follows_isLike_54 : decode prog_3_method_7_code 54 = .ok (.iconst 0, 1) := by decide +kernel
theorem d_Follows_isLike_55 : decode prog_3_method_7_code 55 = .ok (.ireturn, 1) := by decide +kernel
theorem d_Follows_isLike_56 : decode prog_3_method_7_code 56 = .ok (.iinc 3 1, 3) := by decide +kernel
theorem d_Follows_isLike_59 : decode prog_3_method_7_code 59 = .ok (.goto (-40), 3) := by decide +kernel
theorem d_Follows_isLike_62 : decode prog_3_method_7_code 62 = .ok (.iconst 1, 1) := by decide +kernel
theorem d_Follows_isLike_63 : decode prog_3_method_7_code 63 = .ok (.ireturn, 1) := by decide +kernel
abbrev m_s1_Follows_isLike : Room := { frames := 0, cells := 0, slots := 0, locals := 0 }
set_option maxHeartbeats 4000000 in
set_option maxRecDepth 100000 in
theorem s1_Follows_isLike (l : Launch) (G : zG) (b0 : Nat) (b1 : Int32) (b2 : Int32) (b3 : Nat) (b4 : Nat) (b5 : Nat) (b6 : Nat → Int32) (b7 : Nat → Int32) (hb1 : zI b1 0 240) (hb2 : zI b2 0 240) (hb6 : zqa qC b6) : zM l G y_Follows_isLike prog_3_method_7_code 4 (Option.some Jvm.ClassFile.FieldType.boolean) m_s1_Follows_isLike [.ref b0, .int b1, .int b2] [(b0, .inr (4, [.ref b3, .ref b4, .ref b5])), (b3, .inl (G.2 0, 241, .inl b6)), (b4, .inl (G.2 0, 4820, .inl b7))] (fun v w => ∃ (e0 : Int32), v = some (.int e0) ∧ w = [(b0, .inr (4, [.ref b3, .ref b4, .ref b5])), (b3, .inl (G.2 0, 241, .inl b6)), (b4, .inl (G.2 0, 4820, .inl b7))] ∧ (zI e0 0 1)) := by
  refine z_start (by decide +kernel) (Nat.le_of_ble_eq_true rfl) ?_
  intro p e s m below meth c A Z hr hnm hA hP hD hS ls hl
  have Z : zC p s m _ meth c prog_3_method_7_code 4 "TraceMachines$Follows" G := Z
  obtain ⟨hx, hb, hml, hown, hts, hK, hN, hlocks⟩ := id Z
  have hl : lv_has ls 4 [(0, .ref b0), (1, .int b1), (2, .int b2)] := hl
  refine lv_aload_n hx hb d_Follows_isLike_0 rfl (lv_at hl 0 rfl) ?_
  refine va_get (D := G.1) (ci := 4) (v := .ref b3) (C := R_Follows) (T := F_Follows) (N := 3) hx hb hts i_Follows hown hK hP 0 rfl rfl 0 (by decide) (hts _ q146) (fun _ h9 => h9) rfl d_Follows_isLike_1 ?_
  refine lv_iload_n hx hb d_Follows_isLike_4 rfl (lv_at hl 1 rfl) ?_
  refine va_iald hx hb hK hP 1 0 rfl rfl (zI.inn hb1 (by decide)) d_Follows_isLike_5 ?_
  refine lv_topi (fun v_1 ev_1 => ?_)
  obtain ⟨hv_1, kv_1⟩ := zQC.ld hb6 hb1 ev_1 (by decide)
  refine lv_aload_n hx hb d_Follows_isLike_6 rfl (lv_at hl 0 rfl) ?_
  refine va_get (D := G.1) (ci := 4) (v := .ref b3) (C := R_Follows) (T := F_Follows) (N := 3) hx hb hts i_Follows hown hK hP 0 rfl rfl 0 (by decide) (hts _ q146) (fun _ h9 => h9) rfl d_Follows_isLike_7 ?_
  refine lv_iload_n hx hb d_Follows_isLike_10 rfl (lv_at hl 2 rfl) ?_
  refine va_iald hx hb hK hP 1 0 rfl rfl (zI.inn hb2 (by decide)) d_Follows_isLike_11 ?_
  refine lv_topi (fun v_2 ev_2 => ?_)
  obtain ⟨hv_2, kv_2⟩ := zQC.ld hb6 hb2 ev_2 (by decide)
  refine lv_icmp_eq (tgt := 17) hx hb d_Follows_isLike_12 (by decide) (fun hc_3 => ?_) (fun hc_3 => ?_)
  · have _nhc_3 := hc_3
    have ni_4 := (fa_eq _ _).mp hc_3
    refine lv_iconst (v := 0) hx hb d_Follows_isLike_17 (by decide) ?_
    refine lv_istore_n (lv' := [(3, .int 0), (0, .ref b0), (1, .int b1), (2, .int b2)]) hx hb d_Follows_isLike_18 rfl hl (by decide) rfl (fun ls hl => ?_)
    suffices key : ∀ (k_202 : Nat) (y_203 : Int32) (H : Heap) (locs : List Loc) (ls : Array Slot), (zI y_203 0 260) → (260 : Int) - y_203.toInt < (k_202 : Int) → va_P G.1 classes [(b0, .inr (4, [.ref b3, .ref b4, .ref b5])), (b3, .inl (G.2 0, 241, .inl b6)), (b4, .inl (G.2 0, 4820, .inl b7))] H → va_D A [(b0, .inr (4, [.ref b3, .ref b4, .ref b5])), (b3, .inl (G.2 0, 241, .inl b6)), (b4, .inl (G.2 0, 4820, .inl b7))] → va_S A s.heap H locs → lv_has ls 4 [(3, .int y_203), (0, .ref b0), (1, .int b1), (2, .int b2)] → W p l e m_s1_Follows_isLike s m ([.ref b0, .int b1, .int b2] : List Value).toArray below meth c H locs 0 0 (MQ below (zQ G (fun v w => ∃ (e0 : Int32), v = some (.int e0) ∧ w = [(b0, .inr (4, [.ref b3, .ref b4, .ref b5])), (b3, .inl (G.2 0, 241, .inl b6)), (b4, .inl (G.2 0, 4820, .inl b7))] ∧ (zI e0 0 1)) A) ([.ref b0, .int b1, .int b2] : List Value).toArray s m_s1_Follows_isLike.cells m_s1_Follows_isLike.slots A) (F0 m 19 ls []) by
      exact key 261 (0) _ _ _ (zI.wk (l' := 0) (h' := 260) zc_0 (by decide)) (zm_upi (zI.wk (l' := 0) (h' := 260) zc_0 (by decide)) (by decide)) hP hD hS (lv_sub hl [0, 1, 2, 3] rfl)
    intro k_202
    induction k_202 with
    | zero =>
      intro y_203 H locs ls hy_203 hmk_202 hP hD hS hl
      exact (zm_up0 hy_203 hmk_202).elim
    | succ k_202 ihk_202 =>
      intro y_203 H locs ls hy_203 hmk_202 hP hD hS hl
      refine lv_iload_n hx hb d_Follows_isLike_19 rfl (lv_at hl 0 rfl) ?_
      refine lv_aload_n hx hb d_Follows_isLike_20 rfl (lv_at hl 1 rfl) ?_
      refine va_get (D := G.1) (ci := 4) (v := .ref b3) (C := R_Follows) (T := F_Follows) (N := 3) hx hb hts i_Follows hown hK hP 0 rfl rfl 0 (by decide) (hts _ q146) (fun _ h9 => h9) rfl d_Follows_isLike_21 ?_
      refine lv_iload_n hx hb d_Follows_isLike_24 rfl (lv_at hl 2 rfl) ?_
      refine va_iald hx hb hK hP 1 0 rfl rfl (zI.inn hb1 (by decide)) d_Follows_isLike_25 ?_
      refine lv_topi (fun v_204 ev_204 => ?_)
      obtain rfl : v_1 = v_204 := ev_1.trans ev_204.symm
      refine lv_icmp_ge (tgt := 62) hx hb d_Follows_isLike_26 (by decide) (fun hc_205 => ?_) (fun hc_205 => ?_)
      · have _nhc_205 := hc_205
        have ni_206 := (fa_le _ _).mp hc_205
        refine lv_iconst (v := 1) hx hb d_Follows_isLike_62 (by decide) ?_
        exact z_zret hx hb hr hlocks rfl hP hD hS (Nat.le_of_ble_eq_true rfl) (Nat.le_of_ble_eq_true rfl) d_Follows_isLike_63 ⟨1, rfl, rfl, (zI.wk (l' := 0) (h' := 1) zc_1 (by decide))⟩
      · have _nhc_205 := hc_205
        have ni_207 := (fa_lt _ _).mp (zi_nle hc_205)
        have hv_208 : zI y_203 0 259 := zI.lt_l hy_203 hv_1 (zi_nle hc_205) (by decide)
        have hv_209 : zI v_1 1 260 := zI.lt_r hy_203 hv_1 (zi_nle hc_205) (by decide)
        refine lv_aload_n hx hb d_Follows_isLike_29 rfl (lv_at hl 1 rfl) ?_
        refine va_get (D := G.1) (ci := 4) (v := .ref b4) (C := R_Follows) (T := F_Follows) (N := 3) hx hb hts i_Follows hown hK hP 0 rfl rfl 1 (by decide) (hts _ q148) (fun _ h9 => h9) rfl d_Follows_isLike_30 ?_
        refine lv_iload_n hx hb d_Follows_isLike_33 rfl (lv_at hl 2 rfl) ?_
        refine lv_bipush (v := 20) hx hb d_Follows_isLike_34 (by decide) ?_
        refine lv_imul hx hb d_Follows_isLike_36 ?_
        refine lv_topi (fun v_210 ev_210 => ?_)
        obtain ⟨qv_210, hv_210⟩ := zI_mul (l := 0) (h := 4800) hb1 zc_20 ev_210 (by decide)
        rw [li_20] at qv_210
        refine lv_iload_n hx hb d_Follows_isLike_37 rfl (lv_at hl 0 rfl) ?_
        refine lv_iadd hx hb d_Follows_isLike_38 ?_
        refine lv_topi (fun v_211 ev_211 => ?_)
        obtain ⟨qv_211, hv_211⟩ := zI_add (l := 0) (h := 5059) hv_210 hv_208 ev_211 (by decide)
        have hv_212 : zI v_211 0 4819 := ⟨by omega, by omega⟩
        refine va_iald hx hb hK hP 2 0 rfl rfl (zI.inn hv_212 (by decide)) d_Follows_isLike_39 ?_
        refine lv_topi (fun v_213 ev_213 => ?_)
        refine lv_aload_n hx hb d_Follows_isLike_40 rfl (lv_at hl 1 rfl) ?_
        refine va_get (D := G.1) (ci := 4) (v := .ref b4) (C := R_Follows) (T := F_Follows) (N := 3) hx hb hts i_Follows hown hK hP 0 rfl rfl 1 (by decide) (hts _ q148) (fun _ h9 => h9) rfl d_Follows_isLike_41 ?_
        refine lv_iload_n hx hb d_Follows_isLike_44 rfl (lv_at hl 3 rfl) ?_
        refine lv_bipush (v := 20) hx hb d_Follows_isLike_45 (by decide) ?_
        refine lv_imul hx hb d_Follows_isLike_47 ?_
        refine lv_topi (fun v_214 ev_214 => ?_)
        obtain ⟨qv_214, hv_214⟩ := zI_mul (l := 0) (h := 4800) hb2 zc_20 ev_214 (by decide)
        rw [li_20] at qv_214
        refine lv_iload_n hx hb d_Follows_isLike_48 rfl (lv_at hl 0 rfl) ?_
        refine lv_iadd hx hb d_Follows_isLike_49 ?_
        refine lv_topi (fun v_215 ev_215 => ?_)
        obtain ⟨qv_215, hv_215⟩ := zI_add (l := 0) (h := 5059) hv_214 hv_208 ev_215 (by decide)
        have hv_216 : zI v_215 0 4819 := ⟨by omega, by omega⟩
        refine va_iald hx hb hK hP 2 0 rfl rfl (zI.inn hv_216 (by decide)) d_Follows_isLike_50 ?_
        refine lv_topi (fun v_217 ev_217 => ?_)
        refine lv_icmp_eq (tgt := 56) hx hb d_Follows_isLike_51 (by decide) (fun hc_218 => ?_) (fun hc_218 => ?_)
        · have _nhc_218 := hc_218
          have ni_219 := (fa_eq _ _).mp hc_218
          obtain ⟨v_220, ev_220⟩ : ∃ z : Int32, z = y_203 + 1 := ⟨_, rfl⟩
          obtain ⟨qv_220, hv_220⟩ := zI_add (l := 1) (h := 260) hv_208 zc_1 ev_220 (by decide)
          rw [li_1] at qv_220
          refine lv_iinc (v := v_220) (lv' := [(3, .int v_220), (0, .ref b0), (1, .int b1), (2, .int b2)]) hx hb d_Follows_isLike_56 hl (k := 0) rfl (by rw [ev_220]; rfl) (by decide) rfl (fun ls hl => ?_)
          refine lv_goto (tgt := 19) hx hb d_Follows_isLike_59 (by decide) ?_
          exact ihk_202 (v_220) _ _ _ (zI.wk (l' := 0) (h' := 260) hv_220 (by decide)) (zm_up qv_220 hmk_202 (by decide)) hP hD hS (lv_sub hl [0, 1, 2, 3] rfl)
        · have _nhc_218 := hc_218
          have ni_221 : ¬ (v_213 : Int32).toInt = (v_217 : Int32).toInt := fun z => hc_218 ((fa_eq _ _).mpr z)
          refine lv_iconst (v := 0) hx hb d_Follows_isLike_54 (by decide) ?_
          exact z_zret hx hb hr hlocks rfl hP hD hS (Nat.le_of_ble_eq_true rfl) (Nat.le_of_ble_eq_true rfl) d_Follows_isLike_55 ⟨0, rfl, rfl, (zI.wk (l' := 0) (h' := 1) zc_0 (by decide))⟩
  · have _nhc_3 := hc_3
    have ni_222 : ¬ (v_1 : Int32).toInt = (v_2 : Int32).toInt := fun z => hc_3 ((fa_eq _ _).mpr z)
    refine lv_iconst (v := 0) hx hb d_Follows_isLike_15 (by decide) ?_
    exact z_zret hx hb hr hlocks rfl hP hD hS (Nat.le_of_ble_eq_true rfl) (Nat.le_of_ble_eq_true rfl) d_Follows_isLike_16 ⟨0, rfl, rfl, (zI.wk (l' := 0) (h' := 1) zc_0 (by decide))⟩
theorem d_Follows_firstLike_0 : decode prog_3_method_5_code 0 = .ok (.aload_n 0, 1) := by decide +kernel
theorem d_Follows_firstLike_1 : decode prog_3_method_5_code 1 = .ok (.iload_n 1, 1) := by decide +kernel
theorem d_Follows_firstLike_2 : decode prog_3_method_5_code 2 = .ok (.invokevirtual 59, 3) := by decide +kernel
theorem d_Follows_firstLike_5 : decode prog_3_method_5_code 5 = .ok (.istore_n 2, 1) := by decide +kernel
theorem d_Follows_firstLike_6 : decode prog_3_method_5_code 6 = .ok (.iconst 0, 1) := by decide +kernel
theorem d_Follows_firstLike_7 : decode prog_3_method_5_code 7 = .ok (.istore_n 3, 1) := by decide +kernel
theorem d_Follows_firstLike_8 : decode prog_3_method_5_code 8 = .ok (.iload_n 3, 1) := by decide +kernel
theorem d_Follows_firstLike_9 : decode prog_3_method_5_code 9 = .ok (.sipush 512, 3) := by decide +kernel
theorem d_Follows_firstLike_12 : decode prog_3_method_5_code 12 = .ok (.if_icmp .ge 56, 3) := by decide +kernel
theorem d_Follows_firstLike_15 : decode prog_3_method_5_code 15 = .ok (.iload_n 2, 1) := by decide +kernel
theorem d_Follows_firstLike_16 : decode prog_3_method_5_code 16 = .ok (.iload_n 3, 1) := by decide +kernel
theorem d_Follows_firstLike_17 : decode prog_3_method_5_code 17 = .ok (.iadd, 1) := by decide +kernel
theorem d_Follows_firstLike_18 : decode prog_3_method_5_code 18 = .ok (.sipush 511, 3) := by decide +kernel
theorem d_Follows_firstLike_21 : decode prog_3_method_5_code 21 = .ok (.iand, 1) := by decide +kernel
theorem d_Follows_firstLike_22 : decode prog_3_method_5_code 22 = .ok (.istore 4, 2) := by decide +kernel
theorem d_Follows_firstLike_24 : decode prog_3_method_5_code 24 = .ok (.aload_n 0, 1) := by decide +kernel
theorem d_Follows_firstLike_25 : decode prog_3_method_5_code 25 = .ok (.getfield 18, 3) := by decide +kernel
theorem d_Follows_firstLike_28 : decode prog_3_method_5_code 28 = .ok (.iload 4, 2) := by decide +kernel
theorem d_Follows_firstLike_30 : decode prog_3_method_5_code 30 = .ok (.iaload, 1) := by decide +kernel
theorem d_Follows_firstLike_31 : decode prog_3_method_5_code 31 = .ok (.istore 5, 2) := by decide +kernel
theorem d_Follows_firstLike_33 : decode prog_3_method_5_code 33 = .ok (.iload 5, 2) := by decide +kernel
theorem d_Follows_firstLike_35 : decode prog_3_method_5_code 35 = .ok (.iconst (-1), 1) := by decide +kernel
theorem d_Follows_firstLike_36 : decode prog_3_method_5_code 36 = .ok (.if_icmp .ne 13, 3) := by decide +kernel
theorem d_Follows_firstLike_39 : decode prog_3_method_5_code 39 = .ok (.aload_n 0, 1) := by decide +kernel
theorem d_Follows_firstLike_40 : decode prog_3_method_5_code 40 = .ok (.getfield 18, 3) := by decide +kernel
theorem d_Follows_firstLike_43 : decode prog_3_method_5_code 43 = .ok (.iload 4, 2) := by decide +kernel
theorem d_Follows_firstLike_45 : decode prog_3_method_5_code 45 = .ok (.iload_n 1, 1) := by decide +kernel
theorem d_Follows_firstLike_46 : decode prog_3_method_5_code 46 = .ok (.iastore, 1) := by decide +kernel
theorem d_Follows_firstLike_47 : decode prog_3_method_5_code 47 = .ok (.iload_n 1, 1) := by decide +kernel
theorem d_Follows_firstLike_48 : decode prog_3_method_5_code 48 = .ok (.ireturn, 1) := by decide +kernel
theorem d_Follows_firstLike_49 : decode prog_3_method_5_code 49 = .ok (.aload_n 0, 1) := by decide +kernel
theorem d_Follows_firstLike_50 : decode prog_3_method_5_code 50 = .ok (.iload_n 1, 1) := by decide +kernel
theorem d_Follows_firstLike_51 : decode prog_3_method_5_code 51 = .ok (.iload 5, 2) := by decide +kernel
theorem d_Follows_firstLike_53 : decode prog_3_method_5_code 53 = .ok (.invokevirtual 63, 3) := by decide +kernel
theorem d_Follows_firstLike_56 : decode prog_3_method_5_code 56 = .ok (.ifCond .eq 6, 3) := by decide +kernel
theorem d_Follows_firstLike_59 : decode prog_3_method_5_code 59 = .ok (.iload 5, 2) := by decide +kernel
theorem d_Follows_firstLike_61 : decode prog_3_method_5_code 61 = .ok (.ireturn, 1) := by decide +kernel
theorem d_Follows_firstLike_62 : decode prog_3_method_5_code 62 = .ok (.iinc 3 1, 3) := by decide +kernel
theorem d_Follows_firstLike_65 : decode prog_3_method_5_code 65 = .ok (.goto (-57), 3) := by decide +kernel
theorem d_Follows_firstLike_68 : decode prog_3_method_5_code 68 = .ok (.iload_n 1, 1) := by decide +kernel
theorem d_Follows_firstLike_69 : decode prog_3_method_5_code 69 = .ok (.ireturn, 1) := by decide +kernel
theorem zc_512 : zI 512 512 512 := ⟨by decide +kernel, by decide +kernel⟩
theorem li_512 : (512 : Int32).toInt = 512 := by decide +kernel
abbrev m_s1_Follows_firstLike : Room := { frames := 1, cells := 0, slots := 0, locals := 24 }
set_option maxHeartbeats 4000000 in
set_option maxRecDepth 100000 in
theorem s1_Follows_firstLike (l : Launch) (G : zG) (b0 : Nat) (b1 : Int32) (b2 : Nat) (b3 : Nat) (b4 : Nat) (b5 : Nat → Int32) (b6 : Nat → Int32) (b7 : Nat → Int32) (hb1 : zI b1 0 240) (hb5 : zqa qC b5) (hb7 : zR b7 (-1) 240) : zM l G y_Follows_firstLike prog_3_method_5_code 6 (Option.some Jvm.ClassFile.FieldType.int) m_s1_Follows_firstLike [.ref b0, .int b1] [(b0, .inr (4, [.ref b2, .ref b3, .ref b4])), (b2, .inl (G.2 0, 241, .inl b5)), (b3, .inl (G.2 0, 4820, .inl b6)), (b4, .inl (G.2 0, 512, .inl b7))] (fun v w => ∃ (e0 : Int32), ∃ (e1 : Nat → Int32), v = some (.int e0) ∧ w = [(b0, .inr (4, [.ref b2, .ref b3, .ref b4])), (b2, .inl (G.2 0, 241, .inl b5)), (b3, .inl (G.2 0, 4820, .inl b6)), (b4, .inl (G.2 0, 512, .inl e1))] ∧ (zI e0 0 240) ∧ (zR e1 (-1) 240)) := by
  refine z_start (by decide +kernel) (Nat.le_of_ble_eq_true rfl) ?_
  intro p e s m below meth c A Z hr hnm hA hP hD hS ls hl
  have Z : zC p s m _ meth c prog_3_method_5_code 6 "TraceMachines$Follows" G := Z
  obtain ⟨hx, hb, hml, hown, hts, hK, hN, hlocks⟩ := id Z
  have hl : lv_has ls 6 [(0, .ref b0), (1, .int b1)] := hl
  refine lv_aload_n hx hb d_Follows_firstLike_0 rfl (lv_at hl 0 rfl) ?_
  refine lv_iload_n hx hb d_Follows_firstLike_1 rfl (lv_at hl 1 rfl) ?_
  refine z_callV (index := 59) (As := [.int b1]) (rest := []) (wr := [(b4, .inl (G.2 0, 512, .inl b7))]) Z (s1_Follows_hashOf l G (b0) (b1) (b2) (b3) (b4) (b5) (b6) hb1 hb5) hl.1 q629 q631 qs8 q5 q632 ⟨by decide, by decide, by show _ = some 1; decide +kernel⟩ ⟨Nat.le_of_ble_eq_true rfl, Nat.le_of_ble_eq_true rfl⟩ ⟨Nat.le_of_ble_eq_true rfl, Nat.le_of_ble_eq_true rfl⟩ rfl (Nat.le_of_ble_eq_true rfl) d_Follows_firstLike_2 hP hD hS hA 0 4 rfl rfl rfl [0, 1, 2] [3] rfl rfl rfl rfl (by decide) (fun v w1 H locs hw_1 hP hD hS => ?_)
  obtain ⟨x_2, rfl, rfl⟩ := hw_1
  have hP : va_P G.1 classes [(b4, .inl (G.2 0, 512, .inl b7)), (b0, .inr (4, [.ref b2, .ref b3, .ref b4])), (b2, .inl (G.2 0, 241, .inl b5)), (b3, .inl (G.2 0, 4820, .inl b6))] H := hP
  have hD := z_tie hP hD rfl
  refine W.widen (k := 0) (n := 0) (Nat.le_of_ble_eq_true rfl) (Nat.le_of_ble_eq_true rfl) ?_
  refine lv_istore_n (lv' := [(2, .int x_2), (0, .ref b0), (1, .int b1)]) hx hb d_Follows_firstLike_5 rfl hl (by decide) rfl (fun ls hl => ?_)
  refine lv_iconst (v := 0) hx hb d_Follows_firstLike_6 (by decide) ?_
  refine lv_istore_n (lv' := [(3, .int 0), (2, .int x_2), (0, .ref b0), (1, .int b1)]) hx hb d_Follows_firstLike_7 rfl hl (by decide) rfl (fun ls hl => ?_)
  suffices key : ∀ (k_204 : Nat) (y_205 : Int32) (H : Heap) (locs : List Loc) (ls : Array Slot), (zI y_205 0 512) → (512 : Int) - y_205.toInt < (k_204 : Int) → va_P G.1 classes [(b4, .inl (G.2 0, 512, .inl b7)), (b0, .inr (4, [.ref b2, .ref b3, .ref b4])), (b2, .inl (G.2 0, 241, .inl b5)), (b3, .inl (G.2 0, 4820, .inl b6))] H → va_D A [(b4, .inl (G.2 0, 512, .inl b7)), (b0, .inr (4, [.ref b2, .ref b3, .ref b4])), (b2, .inl (G.2 0, 241, .inl b5)), (b3, .inl (G.2 0, 4820, .inl b6))] → va_S A s.heap H locs → lv_has ls 6 [(3, .int y_205), (2, .int x_2), (0, .ref b0), (1, .int b1)] → W p l e m_s1_Follows_firstLike s m ([.ref b0, .int b1] : List Value).toArray below meth c H locs 0 0 (MQ below (zQ G (fun v w => ∃ (e0 : Int32), ∃ (e1 : Nat → Int32), v = some (.int e0) ∧ w = [(b0, .inr (4, [.ref b2, .ref b3, .ref b4])), (b2, .inl (G.2 0, 241, .inl b5)), (b3, .inl (G.2 0, 4820, .inl b6)), (b4, .inl (G.2 0, 512, .inl e1))] ∧ (zI e0 0 240) ∧ (zR e1 (-1) 240)) A) ([.ref b0, .int b1] : List Value).toArray s m_s1_Follows_firstLike.cells m_s1_Follows_firstLike.slots A) (F0 m 8 ls []) by
    exact key 513 (0) _ _ _ (zI.wk (l' := 0) (h' := 512) zc_0 (by decide)) (zm_upi (zI.wk (l' := 0) (h' := 512) zc_0 (by decide)) (by decide)) hP hD hS (lv_sub hl [0, 1, 2, 3] rfl)
  intro k_204
  induction k_204 with
  | zero =>
    intro y_205 H locs ls hy_205 hmk_204 hP hD hS hl
    exact (zm_up0 hy_205 hmk_204).elim
  | succ k_204 ihk_204 =>
    intro y_205 H locs ls hy_205 hmk_204 hP hD hS hl
    refine lv_iload_n hx hb d_Follows_firstLike_8 rfl (lv_at hl 0 rfl) ?_
    refine lv_sipush (v := 512) hx hb d_Follows_firstLike_9 (by decide) ?_
    refine lv_icmp_ge (tgt := 68) hx hb d_Follows_firstLike_12 (by decide) (fun hc_206 => ?_) (fun hc_206 => ?_)
    · have _nhc_206 := hc_206
      have ni_207 := (fa_le _ _).mp hc_206
      rw [li_512] at ni_207
      have hv_208 : zI y_205 512 512 := zI.le_r zc_512 hy_205 hc_206 (by decide)
      refine lv_iload_n hx hb d_Follows_firstLike_68 rfl (lv_at hl 3 rfl) ?_
      exact z_iret hx hb hr hlocks (hP.sub [1, 2, 3, 0] rfl) (hD.sub [1, 2, 3, 0] (by decide) rfl) hS (Nat.le_of_ble_eq_true rfl) (Nat.le_of_ble_eq_true rfl) d_Follows_firstLike_69 ⟨b1, b7, rfl, rfl, hb1, hb7⟩
    · have _nhc_206 := hc_206
      have ni_209 := (fa_lt _ _).mp (zi_nle hc_206)
      rw [li_512] at ni_209
      have hv_210 : zI y_205 0 511 := zI.lt_l hy_205 zc_512 (zi_nle hc_206) (by decide)
      refine lv_iload_n hx hb d_Follows_firstLike_15 rfl (lv_at hl 1 rfl) ?_
      refine lv_iload_n hx hb d_Follows_firstLike_16 rfl (lv_at hl 0 rfl) ?_
      refine lv_iadd hx hb d_Follows_firstLike_17 ?_
      refine lv_topi (fun v_211 ev_211 => ?_)
      refine lv_sipush (v := 511) hx hb d_Follows_firstLike_18 (by decide) ?_
      refine lv_iand hx hb d_Follows_firstLike_21 ?_
      refine lv_topi (fun v_212 ev_212 => ?_)
      have hv_212 := zI_and (k := 9) (h := 511) (by decide +kernel) ev_212 (by decide)
      refine lv_istore (lv' := [(4, .int v_212), (3, .int y_205), (2, .int x_2), (0, .ref b0), (1, .int b1)]) hx hb d_Follows_firstLike_22 hl (by decide) rfl (fun ls hl => ?_)
      refine lv_aload_n hx hb d_Follows_firstLike_24 rfl (lv_at hl 3 rfl) ?_
      refine va_get (D := G.1) (ci := 4) (v := .ref b4) (C := R_Follows) (T := F_Follows) (N := 3) hx hb hts i_Follows hown hK hP 1 rfl rfl 2 (by decide) (hts _ q149) (fun _ h9 => h9) rfl d_Follows_firstLike_25 ?_
      refine lv_iload hx hb d_Follows_firstLike_28 (lv_at hl 0 rfl) ?_
      refine va_iald hx hb hK hP 0 0 rfl rfl (zI.inn hv_212 (by decide)) d_Follows_firstLike_30 ?_
      refine lv_topi (fun v_213 ev_213 => ?_)
      have hv_213 : zI v_213 (-1) 240 := (hb7 _).eq ev_213
      refine lv_istore (lv' := [(5, .int v_213), (4, .int v_212), (3, .int y_205), (2, .int x_2), (0, .ref b0), (1, .int b1)]) hx hb d_Follows_firstLike_31 hl (by decide) rfl (fun ls hl => ?_)
      refine lv_iload hx hb d_Follows_firstLike_33 (lv_at hl 0 rfl) ?_
      refine lv_iconst (v := (-1)) hx hb d_Follows_firstLike_35 (by decide) ?_
      refine lv_icmp_ne (tgt := 49) hx hb d_Follows_firstLike_36 (by decide) (fun hc_214 => ?_) (fun hc_214 => ?_)
      · have _nhc_214 := hc_214
        have ni_215 : ¬ (v_213 : Int32).toInt = ((-1) : Int32).toInt := fun z => hc_214 ((fa_eq _ _).mpr z)
        simp only [li_m1] at ni_215
        have hv_216 : zI v_213 0 240 := zI.ne_lo hv_213 zc_m1 hc_214 (by decide)
        refine lv_aload_n hx hb d_Follows_firstLike_49 rfl (lv_at hl 4 rfl) ?_
        refine lv_iload_n hx hb d_Follows_firstLike_50 rfl (lv_at hl 5 rfl) ?_
        refine lv_iload hx hb d_Follows_firstLike_51 (lv_at hl 0 rfl) ?_
        refine z_callV (index := 63) (As := [.int b1, .int v_213]) (rest := []) (wr := [(b4, .inl (G.2 0, 512, .inl b7))]) Z (s1_Follows_isLike l G (b0) (b1) (v_213) (b2) (b3) (b4) (b5) (b6) hb1 hv_216 hb5) hl.1 q633 q635 qs9 q5 q636 ⟨by decide, by decide, by show _ = some 2; decide +kernel⟩ ⟨Nat.le_of_ble_eq_true rfl, Nat.le_of_ble_eq_true rfl⟩ ⟨Nat.le_of_ble_eq_true rfl, Nat.le_of_ble_eq_true rfl⟩ rfl (Nat.le_of_ble_eq_true rfl) d_Follows_firstLike_53 hP hD hS hA 1 4 rfl rfl rfl [1, 2, 3] [0] rfl rfl rfl rfl (by decide) (fun v w1 H locs hw_217 hP hD hS => ?_)
        obtain ⟨x_218, rfl, rfl, hx_218⟩ := hw_217
        have hP : va_P G.1 classes [(b4, .inl (G.2 0, 512, .inl b7)), (b0, .inr (4, [.ref b2, .ref b3, .ref b4])), (b2, .inl (G.2 0, 241, .inl b5)), (b3, .inl (G.2 0, 4820, .inl b6))] H := hP
        have hD := z_tie hP hD rfl
        refine W.widen (k := 0) (n := 0) (Nat.le_of_ble_eq_true rfl) (Nat.le_of_ble_eq_true rfl) ?_
        refine lv_if_eq (tgt := 62) hx hb d_Follows_firstLike_56 (by decide) (fun hc_219 => ?_) (fun hc_219 => ?_)
        · have _nhc_219 := hc_219
          have ni_220 := (fa_eq _ _).mp hc_219
          rw [li_0] at ni_220
          have hv_221 : zI x_218 0 0 := zI.eq_l hx_218 zc_0 hc_219
          obtain ⟨v_222, ev_222⟩ : ∃ z : Int32, z = y_205 + 1 := ⟨_, rfl⟩
          obtain ⟨qv_222, hv_222⟩ := zI_add (l := 1) (h := 512) hv_210 zc_1 ev_222 (by decide)
          rw [li_1] at qv_222
          refine lv_iinc (v := v_222) (lv' := [(3, .int v_222), (5, .int v_213), (4, .int v_212), (2, .int x_2), (0, .ref b0), (1, .int b1)]) hx hb d_Follows_firstLike_62 hl (k := 2) rfl (by rw [ev_222]; rfl) (by decide) rfl (fun ls hl => ?_)
          refine lv_goto (tgt := 8) hx hb d_Follows_firstLike_65 (by decide) ?_
          exact ihk_204 (v_222) _ _ _ (zI.wk (l' := 0) (h' := 512) hv_222 (by decide)) (zm_up qv_222 hmk_204 (by decide)) hP hD hS (lv_sub hl [0, 3, 4, 5] rfl)
        · have _nhc_219 := hc_219
          have ni_223 : ¬ (x_218 : Int32).toInt = (0 : Int32).toInt := fun z => hc_219 ((fa_eq _ _).mpr z)
          simp only [li_0] at ni_223
          have hv_224 : zI x_218 1 1 := zI.ne_lo hx_218 zc_0 hc_219 (by decide)
          refine lv_iload hx hb d_Follows_firstLike_59 (lv_at hl 0 rfl) ?_
          exact z_iret hx hb hr hlocks (hP.sub [1, 2, 3, 0] rfl) (hD.sub [1, 2, 3, 0] (by decide) rfl) hS (Nat.le_of_ble_eq_true rfl) (Nat.le_of_ble_eq_true rfl) d_Follows_firstLike_61 ⟨v_213, b7, rfl, rfl, hv_216, hb7⟩
      · have _nhc_214 := hc_214
        have ni_225 := (fa_eq _ _).mp hc_214
        rw [li_m1] at ni_225
        have hv_226 : zI v_213 (-1) (-1) := zI.eq_l hv_213 zc_m1 hc_214
        refine lv_aload_n hx hb d_Follows_firstLike_39 rfl (lv_at hl 4 rfl) ?_
        refine va_get (D := G.1) (ci := 4) (v := .ref b4) (C := R_Follows) (T := F_Follows) (N := 3) hx hb hts i_Follows hown hK hP 1 rfl rfl 2 (by decide) (hts _ q149) (fun _ h9 => h9) rfl d_Follows_firstLike_40 ?_
        refine lv_iload hx hb d_Follows_firstLike_43 (lv_at hl 1 rfl) ?_
        refine lv_iload_n hx hb d_Follows_firstLike_45 rfl (lv_at hl 5 rfl) ?_
        refine va_iast hx hb hK hP hD hS 0 0 rfl rfl (zI.inn hv_212 (by decide)) d_Follows_firstLike_46 (fun H locs hP hD hS => ?_)
        obtain ⟨f_227, hf_227, gf_227, uf_227, hP, hD⟩ := z_newfu 0 hP hD rfl hb7 (zI.wk (l' := (-1)) (h' := 240) hb1 (by decide))
        have hP : va_P G.1 classes [(b4, .inl (G.2 0, 512, .inl f_227)), (b0, .inr (4, [.ref b2, .ref b3, .ref b4])), (b2, .inl (G.2 0, 241, .inl b5)), (b3, .inl (G.2 0, 4820, .inl b6))] H := hP
        have hD := z_tie hP hD rfl
        refine lv_iload_n hx hb d_Follows_firstLike_47 rfl (lv_at hl 5 rfl) ?_
        exact z_iret hx hb hr hlocks (hP.sub [1, 2, 3, 0] rfl) (hD.sub [1, 2, 3, 0] (by decide) rfl) hS (Nat.le_of_ble_eq_true rfl) (Nat.le_of_ble_eq_true rfl) d_Follows_firstLike_48 ⟨b1, f_227, rfl, rfl, hb1, hf_227⟩
theorem d_Follows_gather_0 : decode prog_3_method_2_code 0 = .ok (.aload_n 0, 1) := by decide +kernel
theorem d_Follows_gather_1 : decode prog_3_method_2_code 1 = .ok (.getfield 18, 3) := by decide +kernel
theorem d_Follows_gather_4 : decode prog_3_method_2_code 4 = .ok (.iconst (-1), 1) := by decide +kernel
theorem d_Follows_gather_5 : decode prog_3_method_2_code 5 = .ok (.invokestatic 21, 3) := by decide +kernel
theorem d_Follows_gather_8 : decode prog_3_method_2_code 8 = .ok (.iconst 0, 1) := by decide +kernel
theorem d_Follows_gather_9 : decode prog_3_method_2_code 9 = .ok (.istore 4, 2) := by decide +kernel
theorem d_Follows_gather_11 : decode prog_3_method_2_code 11 = .ok (.iload 4, 2) := by decide +kernel
theorem d_Follows_gather_13 : decode prog_3_method_2_code 13 = .ok (.aload_n 2, 1) := by decide +kernel
theorem d_Follows_gather_14 : decode prog_3_method_2_code 14 = .ok (.getfield 27, 3) := by decide +kernel
theorem d_Follows_gather_17 : decode prog_3_method_2_code 17 = .ok (.if_icmp .ge 17, 3) := by decide +kernel
theorem d_Follows_gather_20 : decode prog_3_method_2_code 20 = .ok (.aload_n 0, 1) := by decide +kernel
theorem d_Follows_gather_21 : decode prog_3_method_2_code 21 = .ok (.getfield 9, 3) := by decide +kernel
theorem d_Follows_gather_24 : decode prog_3_method_2_code 24 = .ok (.iload 4, 2) := by decide +kernel
theorem d_Follows_gather_26 : decode prog_3_method_2_code 26 = .ok (.iconst 0, 1) := by decide +kernel
theorem d_Follows_gather_27 : decode prog_3_method_2_code 27 = .ok (.iastore, 1) := by decide +kernel
theorem d_Follows_gather_28 : decode prog_3_method_2_code 28 = .ok (.iinc 4 1, 3) := by decide +kernel
theorem d_Follows_gather_31 : decode prog_3_method_2_code 31 = .ok (.goto (-20), 3) := by decide +kernel
theorem d_Follows_gather_34 : decode prog_3_method_2_code 34 = .ok (.iconst 0, 1) := by decide +kernel
theorem d_Follows_gather_35 : decode prog_3_method_2_code 35 = .ok (.istore 4, 2) := by decide +kernel
theorem d_Follows_gather_37 : decode prog_3_method_2_code 37 = .ok (.iload 4, 2) := by decide +kernel
theorem d_Follows_gather_39 : decode prog_3_method_2_code 39 = .ok (.aload_n 1, 1) := by decide +kernel
theorem d_Follows_gather_40 : decode prog_3_method_2_code 40 = .ok (.getfield 33, 3) := by decide +kernel
theorem d_Follows_gather_43 : decode prog_3_method_2_code 43 = .ok (.if_icmp .ge 60, 3) := by decide +kernel
theorem d_Follows_gather_46 : decode prog_3_method_2_code 46 = .ok (.iload 4, 2) := by decide +kernel
theorem d_Follows_gather_48 : decode prog_3_method_2_code 48 = .ok (.aload_n 2, 1) := by decide +kernel
theorem d_Follows_gather_49 : decode prog_3_method_2_code 49 = .ok (.getfield 38, 3) := by decide +kernel
theorem d_Follows_gather_52 : decode prog_3_method_2_code 52 = .ok (.if_icmp .eq 45, 3) := by decide +kernel
theorem d_Follows_gather_55 : decode prog_3_method_2_code 55 = .ok (.iconst 0, 1) := by decide +kernel
theorem d_Follows_gather_56 : decode prog_3_method_2_code 56 = .ok (.istore 5, 2) := by decide +kernel
theorem d_Follows_gather_58 : decode prog_3_method_2_code 58 = .ok (.iload 5, 2) := by decide +kernel
theorem d_Follows_gather_60 : decode prog_3_method_2_code 60 = .ok (.aload_n 1, 1) := by decide +kernel
theorem d_Follows_gather_61 : decode prog_3_method_2_code 61 = .ok (.getfield 41, 3) := by decide +kernel
theorem d_Follows_gather_64 : decode prog_3_method_2_code 64 = .ok (.iload 4, 2) := by decide +kernel
theorem d_Follows_gather_66 : decode prog_3_method_2_code 66 = .ok (.iaload, 1) := by decide +kernel
theorem d_Follows_gather_67 : decode prog_3_method_2_code 67 = .ok (.if_icmp .gt 30, 3) := by decide +kernel
theorem d_Follows_gather_70 : decode prog_3_method_2_code 70 = .ok (.aload_n 0, 1) := by decide +kernel
theorem d_Follows_gather_71 : decode prog_3_method_2_code 71 = .ok (.aload_n 2, 1) := by decide +kernel
theorem d_Follows_gather_72 : decode prog_3_method_2_code 72 = .ok (.iload 4, 2) := by decide +kernel
theorem d_Follows_gather_74 : decode prog_3_method_2_code 74 = .ok (.iload 5, 2) := by decide +kernel
theorem d_Follows_gather_76 : decode prog_3_method_2_code 76 = .ok (.invokevirtual 44, 3) := by decide +kernel
theorem d_Follows_gather_79 : decode prog_3_method_2_code 79 = .ok (.aload_n 1, 1) := by decide +kernel
theorem d_Follows_gather_80 : decode prog_3_method_2_code 80 = .ok (.iload 4, 2) := by decide +kernel
theorem d_Follows_gather_82 : decode prog_3_method_2_code 82 = .ok (.iload 5, 2) := by decide +kernel
theorem d_Follows_gather_84 : decode prog_3_method_2_code 84 = .ok (.iload_n 3, 1) := by decide +kernel
theorem d_Follows_gather_85 : decode prog_3_method_2_code 85 = .ok (.invokestatic 48, 3) := by decide +kernel
theorem d_Follows_gather_88 : decode prog_3_method_2_code 88 = .ok (.invokevirtual 52, 3) := by decide +kernel
theorem d_Follows_gather_91 : decode prog_3_method_2_code 91 = .ok (.iinc 5 1, 3) := by decide +kernel
theorem d_Follows_gather_94 : decode prog_3_method_2_code 94 = .ok (.goto (-36), 3) := by decide +kernel
theorem d_Follows_gather_97 : decode prog_3_method_2_code 97 = .ok (.iinc 4 1, 3) := by decide +kernel
theorem d_Follows_gather_100 : decode prog_3_method_2_code 100 = .ok (.goto (-63), 3) := by decide +kernel
theorem d_Follows_gather_103 : decode prog_3_method_2_code 103 = .ok (.return_, 1) := by decide +kernel
theorem d_Follows_rowOf_0 : decode prog_3_method_3_code 0 = .ok (.iconst 0, 1) := by decide +kernel
theorem d_Follows_rowOf_1 : decode prog_3_method_3_code 1 = .ok (.istore 4, 2) := by decide +kernel
theorem d_Follows_rowOf_3 : decode prog_3_method_3_code 3 = .ok (.iload_n 2, 1) := by decide +kernel
theorem d_Follows_rowOf_4 : decode prog_3_method_3_code 4 = .ok (.istore 5, 2) := by decide +kernel
theorem d_Follows_rowOf_6 : decode prog_3_method_3_code 6 = .ok (.iload 5, 2) := by decide +kernel
theorem d_Follows_rowOf_8 : decode prog_3_method_3_code 8 = .ok (.iload_n 2, 1) := by decide +kernel
theorem d_Follows_rowOf_9 : decode prog_3_method_3_code 9 = .ok (.iload_n 3, 1) := by decide +kernel
theorem d_Follows_rowOf_10 : decode prog_3_method_3_code 10 = .ok (.iadd, 1) := by decide +kernel
theorem d_Follows_rowOf_11 : decode prog_3_method_3_code 11 = .ok (.if_icmp .ge 45, 3) := by decide +kernel
theorem d_Follows_rowOf_14 : decode prog_3_method_3_code 14 = .ok (.iload 5, 2) := by decide +kernel
theorem d_Follows_rowOf_16 : decode prog_3_method_3_code 16 = .ok (.aload_n 0, 1) := by decide +kernel
theorem d_Follows_rowOf_17 : decode prog_3_method_3_code 17 = .ok (.getfield 41, 3) := by decide +kernel
theorem d_Follows_rowOf_20 : decode prog_3_method_3_code 20 = .ok (.iload_n 1, 1) := by decide +kernel
theorem d_Follows_rowOf_21 : decode prog_3_method_3_code 21 = .ok (.iaload, 1) := by decide +kernel
theorem d_Follows_rowOf_22 : decode prog_3_method_3_code 22 = .ok (.if_icmp .ge 15, 3) := by decide +kernel
theorem d_Follows_rowOf_25 : decode prog_3_method_3_code 25 = .ok (.aload_n 0, 1) := by decide +kernel
theorem d_Follows_rowOf_26 : decode prog_3_method_3_code 26 = .ok (.iload_n 1, 1) := by decide +kernel
theorem d_Follows_rowOf_27 : decode prog_3_method_3_code 27 = .ok (.iload 5, 2) := by decide +kernel
theorem d_Follows_rowOf_29 : decode prog_3_method_3_code 29 = .ok (.invokevirtual 56, 3) := by decide +kernel
theorem d_Follows_rowOf_32 : decode prog_3_method_3_code 32 = .ok (.iconst 1, 1) := by decide +kernel
theorem d_Follows_rowOf_33 : decode prog_3_method_3_code 33 = .ok (.iadd, 1) := by decide +kernel
theorem d_Follows_rowOf_34 : decode prog_3_method_3_code 34 = .ok (.goto 4, 3) := by decide +kernel
theorem d_Follows_rowOf_37 : decode prog_3_method_3_code 37 = .ok (.iconst 0, 1) := by decide +kernel
theorem d_Follows_rowOf_38 : decode prog_3_method_3_code 38 = .ok (.istore 6, 2) := by decide +kernel
theorem d_Follows_rowOf_40 : decode prog_3_method_3_code 40 = .ok (.iload 4, 2) := by decide +kernel
theorem d_Follows_rowOf_42 : decode prog_3_method_3_code 42 = .ok (.bipush 11, 2) := by decide +kernel
theorem d_Follows_rowOf_44 : decode prog_3_method_3_code 44 = .ok (.imul, 1) := by decide +kernel
theorem d_Follows_rowOf_45 : decode prog_3_method_3_code 45 = .ok (.iload 6, 2) := by decide +kernel
theorem d_Follows_rowOf_47 : decode prog_3_method_3_code 47 = .ok (.iadd, 1) := by decide +kernel
theorem d_Follows_rowOf_48 : decode prog_3_method_3_code 48 = .ok (.istore 4, 2) := by decide +kernel
theorem d_Follows_rowOf_50 : decode prog_3_method_3_code 50 = .ok (.iinc 5 1, 3) := by decide +kernel
theorem d_Follows_rowOf_53 : decode prog_3_method_3_code 53 = .ok (.goto (-47), 3) := by decide +kernel
theorem d_Follows_rowOf_56 : decode prog_3_method_3_code 56 = .ok (.iload 4, 2) := by decide +kernel
theorem d_Follows_rowOf_58 : decode prog_3_method_3_code 58 = .ok (.ireturn, 1) := by decide +kernel
theorem d_Follows_insert_0 : decode prog_3_method_4_code 0 = .ok (.iload_n 1, 1) := by decide +kernel
theorem d_Follows_insert_1 : decode prog_3_method_4_code 1 = .ok (.bipush 20, 2) := by decide +kernel
theorem d_Follows_insert_3 : decode prog_3_method_4_code 3 = .ok (.imul, 1) := by decide +kernel
theorem d_Follows_insert_4 : decode prog_3_method_4_code 4 = .ok (.istore_n 3, 1) := by decide +kernel
theorem d_Follows_insert_5 : decode prog_3_method_4_code 5 = .ok (.iload_n 3, 1) := by decide +kernel
theorem d_Follows_insert_6 : decode prog_3_method_4_code 6 = .ok (.aload_n 0, 1) := by decide +kernel
theorem d_Follows_insert_7 : decode prog_3_method_4_code 7 = .ok (.getfield 9, 3) := by decide +kernel
theorem d_Follows_insert_10 : decode prog_3_method_4_code 10 = .ok (.iload_n 1, 1) := by decide +kernel
theorem d_Follows_insert_11 : decode prog_3_method_4_code 11 = .ok (.iaload, 1) := by decide +kernel
theorem d_Follows_insert_12 : decode prog_3_method_4_code 12 = .ok (.iadd, 1) := by decide +kernel
theorem d_Follows_insert_13 : decode prog_3_method_4_code 13 = .ok (.istore 4, 2) := by decide +kernel
theorem d_Follows_insert_15 : decode prog_3_method_4_code 15 = .ok (.iload 4, 2) := by decide +kernel
theorem d_Follows_insert_17 : decode prog_3_method_4_code 17 = .ok (.iload_n 3, 1) := by decide +kernel
theorem d_Follows_insert_18 : decode prog_3_method_4_code 18 = .ok (.if_icmp .le 22, 3) := by decide +kernel
theorem d_Follows_insert_21 : decode prog_3_method_4_code 21 = .ok (.aload_n 0, 1) := by decide +kernel
theorem d_Follows_insert_22 : decode prog_3_method_4_code 22 = .ok (.getfield 15, 3) := by decide +kernel
theorem d_Follows_insert_25 : decode prog_3_method_4_code 25 = .ok (.iload 4, 2) := by decide +kernel
theorem d_Follows_insert_27 : decode prog_3_method_4_code 27 = .ok (.iconst 1, 1) := by decide +kernel
theorem d_Follows_insert_28 : decode prog_3_method_4_code 28 = .ok (.isub, 1) := by decide +kernel
theorem d_Follows_insert_29 : decode prog_3_method_4_code 29 = .ok (.iaload, 1) := by decide +kernel
theorem d_Follows_insert_30 : decode prog_3_method_4_code 30 = .ok (.iload_n 2, 1) := by decide +kernel
theorem d_Follows_insert_31 : decode prog_3_method_4_code 31 = .ok (.if_icmp .le 9, 3) := by decide +kernel
theorem d_Follows_insert_34 : decode prog_3_method_4_code 34 = .ok (.iinc 4 (-1), 3) := by decide +kernel
theorem d_Follows_insert_37 : decode prog_3_method_4_code 37 = .ok (.goto (-22), 3) := by decide +kernel
theorem d_Follows_insert_40 : decode prog_3_method_4_code 40 = .ok (.iload 4, 2) := by decide +kernel
theorem d_Follows_insert_42 : decode prog_3_method_4_code 42 = .ok (.iload_n 3, 1) := by decide +kernel
theorem d_Follows_insert_43 : decode prog_3_method_4_code 43 = .ok (.if_icmp .le 17, 3) := by decide +kernel
theorem d_Follows_insert_46 : decode prog_3_method_4_code 46 = .ok (.aload_n 0, 1) := by decide +kernel
theorem d_Follows_insert_47 : decode prog_3_method_4_code 47 = .ok (.getfield 15, 3) := by decide +kernel
theorem d_Follows_insert_50 : decode prog_3_method_4_code 50 = .ok (.iload 4, 2) := by decide +kernel
theorem d_Follows_insert_52 : decode prog_3_method_4_code 52 = .ok (.iconst 1, 1) := by decide +kernel
theorem d_Follows_insert_53 : decode prog_3_method_4_code 53 = .ok (.isub, 1) := by decide +kernel
theorem d_Follows_insert_54 : decode prog_3_method_4_code 54 = .ok (.iaload, 1) := by decide +kernel
theorem d_Follows_insert_55 : decode prog_3_method_4_code 55 = .ok (.iload_n 2, 1) := by decide +kernel
theorem d_Follows_insert_56 : decode prog_3_method_4_code 56 = .ok (.if_icmp .ne 4, 3) := by decide +kernel
theorem d_Follows_insert_60 : decode prog_3_method_4_code 60 = .ok (.iload_n 3, 1) := by decide +kernel
theorem d_Follows_insert_61 : decode prog_3_method_4_code 61 = .ok (.aload_n 0, 1) := by decide +kernel
theorem d_Follows_insert_62 : decode prog_3_method_4_code 62 = .ok (.getfield 9, 3) := by decide +kernel
theorem d_Follows_insert_65 : decode prog_3_method_4_code 65 = .ok (.iload_n 1, 1) := by decide +kernel
theorem d_Follows_insert_66 : decode prog_3_method_4_code 66 = .ok (.iaload, 1) := by decide +kernel
theorem d_Follows_insert_67 : decode prog_3_method_4_code 67 = .ok (.iadd, 1) := by decide +kernel
theorem d_Follows_insert_68 : decode prog_3_method_4_code 68 = .ok (.istore 5, 2) := by decide +kernel
theorem d_Follows_insert_70 : decode prog_3_method_4_code 70 = .ok (.iload 5, 2) := by decide +kernel
theorem d_Follows_insert_72 : decode prog_3_method_4_code 72 = .ok (.iload 4, 2) := by decide +kernel
theorem d_Follows_insert_74 : decode prog_3_method_4_code 74 = .ok (.if_icmp .le 25, 3) := by decide +kernel
theorem d_Follows_insert_77 : decode prog_3_method_4_code 77 = .ok (.aload_n 0, 1) := by decide +kernel
theorem d_Follows_insert_78 : decode prog_3_method_4_code 78 = .ok (.getfield 15, 3) := by decide +kernel
theorem d_Follows_insert_81 : decode prog_3_method_4_code 81 = .ok (.iload 5, 2) := by decide +kernel
theorem d_Follows_insert_83 : decode prog_3_method_4_code 83 = .ok (.aload_n 0, 1) := by decide +kernel
theorem d_Follows_insert_84 : decode prog_3_method_4_code 84 = .ok (.getfield 15, 3) := by decide +kernel
theorem d_Follows_insert_87 : decode prog_3_method_4_code 87 = .ok (.iload 5, 2) := by decide +kernel
theorem d_Follows_insert_89 : decode prog_3_method_4_code 89 = .ok (.iconst 1, 1) := by decide +kernel
theorem d_Follows_insert_90 : decode prog_3_method_4_code 90 = .ok (.isub, 1) := by decide +kernel
theorem d_Follows_insert_91 : decode prog_3_method_4_code 91 = .ok (.iaload, 1) := by decide +kernel
theorem d_Follows_insert_92 : decode prog_3_method_4_code 92 = .ok (.iastore, 1) := by decide +kernel
theorem d_Follows_insert_93 : decode prog_3_method_4_code 93 = .ok (.iinc 5 (-1), 3) := by decide +kernel
theorem d_Follows_insert_96 : decode prog_3_method_4_code 96 = .ok (.goto (-26), 3) := by decide +kernel
theorem d_Follows_insert_99 : decode prog_3_method_4_code 99 = .ok (.aload_n 0, 1) := by decide +kernel
theorem d_Follows_insert_100 : decode prog_3_method_4_code 100 = .ok (.getfield 15, 3) := by decide +kernel
theorem d_Follows_insert_103 : decode prog_3_method_4_code 103 = .ok (.iload 4, 2) := by decide +kernel
theorem d_Follows_insert_105 : decode prog_3_method_4_code 105 = .ok (.iload_n 2, 1) := by decide +kernel
theorem d_Follows_insert_106 : decode prog_3_method_4_code 106 = .ok (.iastore, 1) := by decide +kernel
theorem d_Follows_insert_107 : decode prog_3_method_4_code 107 = .ok (.aload_n 0, 1) := by decide +kernel
theorem d_Follows_insert_108 : decode prog_3_method_4_code 108 = .ok (.getfield 9, 3) := by decide +kernel
theorem d_Follows_insert_111 : decode prog_3_method_4_code 111 = .ok (.iload_n 1, 1) := by decide +kernel
theorem d_Follows_insert_112 : decode prog_3_method_4_code 112 = .ok (.dup2, 1) := by decide +kernel
theorem d_Follows_insert_113 : decode prog_3_method_4_code 113 = .ok (.iaload, 1) := by decide +kernel
theorem d_Follows_insert_114 : decode prog_3_method_4_code 114 = .ok (.iconst 1, 1) := by decide +kernel
theorem d_Follows_insert_115 : decode prog_3_method_4_code 115 = .ok (.iadd, 1) := by decide +kernel
theorem d_Follows_insert_116 : decode prog_3_method_4_code 116 = .ok (.iastore, 1) := by decide +kernel
abbrev m_s2_Follows_rowOf : Room := { frames := 1, cells := 0, slots := 0, locals := 22 }
set_option maxHeartbeats 4000000 in
set_option maxRecDepth 100000 in
theorem s2_Follows_rowOf (l : Launch) (G : zG) (b0 : Nat) (b1 : Int32) (b2 : Int32) (b3 : Int32) (b4 : Int32) (b5 : Int32) (b6 : Int32) (b7 : Nat) (b8 : Nat) (b9 : Nat) (b10 : Nat → Int32) (b11 : Nat → Int32) (hb1 : zI b1 0 19) (hb2 : zI b2 0 12) (hb3 : zI b3 0 3) (hb4 : zI b4 0 20) (hb5 : zI b5 0 3) (hb6 : zI b6 0 20) (hb10 : zR b10 0 12) (hb11 : zR b11 0 9) : zM l G y_Follows_rowOf prog_3_method_3_code 7 (Option.some Jvm.ClassFile.FieldType.int) m_s2_Follows_rowOf [.ref b0, .int b1, .int b2, .int b3] [(b0, .inr (2, [.int b4, .int b5, .int b6, .ref b7, .ref b8, .ref b9])), (b7, .inl (G.2 0, 20, .inl b10)), (b8, .inl (G.2 0, 240, .inl b11))] (fun v w => ∃ (e0 : Int32), v = some (.int e0) ∧ w = [(b0, .inr (2, [.int b4, .int b5, .int b6, .ref b7, .ref b8, .ref b9])), (b7, .inl (G.2 0, 20, .inl b10)), (b8, .inl (G.2 0, 240, .inl b11))]) := by
  refine z_start (by decide +kernel) (Nat.le_of_ble_eq_true rfl) ?_
  intro p e s m below meth c A Z hr hnm hA hP hD hS ls hl
  have Z : zC p s m _ meth c prog_3_method_3_code 7 "TraceMachines$Follows" G := Z
  obtain ⟨hx, hb, hml, hown, hts, hK, hN, hlocks⟩ := id Z
  have hl : lv_has ls 7 [(0, .ref b0), (1, .int b1), (2, .int b2), (3, .int b3)] := hl
  refine lv_iconst (v := 0) hx hb d_Follows_rowOf_0 (by decide) ?_
  refine lv_istore (lv' := [(4, .int 0), (0, .ref b0), (1, .int b1), (2, .int b2), (3, .int b3)]) hx hb d_Follows_rowOf_1 hl (by decide) rfl (fun ls hl => ?_)
  refine lv_iload_n hx hb d_Follows_rowOf_3 rfl (lv_at hl 3 rfl) ?_
  refine lv_istore (lv' := [(5, .int b2), (4, .int 0), (0, .ref b0), (1, .int b1), (2, .int b2), (3, .int b3)]) hx hb d_Follows_rowOf_4 hl (by decide) rfl (fun ls hl => ?_)
  suffices key : ∀ (k_157 : Nat) (y_158 : Int32) (y_159 : Int32) (H : Heap) (locs : List Loc) (ls : Array Slot), (zI y_158 0 15) → (15 : Int) - y_158.toInt < (k_157 : Int) → va_P G.1 classes [(b0, .inr (2, [.int b4, .int b5, .int b6, .ref b7, .ref b8, .ref b9])), (b7, .inl (G.2 0, 20, .inl b10)), (b8, .inl (G.2 0, 240, .inl b11))] H → va_D A [(b0, .inr (2, [.int b4, .int b5, .int b6, .ref b7, .ref b8, .ref b9])), (b7, .inl (G.2 0, 20, .inl b10)), (b8, .inl (G.2 0, 240, .inl b11))] → va_S A s.heap H locs → lv_has ls 7 [(5, .int y_158), (4, .int y_159), (0, .ref b0), (1, .int b1), (2, .int b2), (3, .int b3)] → W p l e m_s2_Follows_rowOf s m ([.ref b0, .int b1, .int b2, .int b3] : List Value).toArray below meth c H locs 0 0 (MQ below (zQ G (fun v w => ∃ (e0 : Int32), v = some (.int e0) ∧ w = [(b0, .inr (2, [.int b4, .int b5, .int b6, .ref b7, .ref b8, .ref b9])), (b7, .inl (G.2 0, 20, .inl b10)), (b8, .inl (G.2 0, 240, .inl b11))]) A) ([.ref b0, .int b1, .int b2, .int b3] : List Value).toArray s m_s2_Follows_rowOf.cells m_s2_Follows_rowOf.slots A) (F0 m 6 ls []) by
    exact key 16 (b2) (0) _ _ _ (zI.wk (l' := 0) (h' := 15) hb2 (by decide)) (zm_upi (zI.wk (l' := 0) (h' := 15) hb2 (by decide)) (by decide)) hP hD hS (lv_sub hl [0, 1, 2, 3, 4, 5] rfl)
  intro k_157
  induction k_157 with
  | zero =>
    intro y_158 y_159 H locs ls hy_158 hmk_157 hP hD hS hl
    exact (zm_up0 hy_158 hmk_157).elim
  | succ k_157 ihk_157 =>
    intro y_158 y_159 H locs ls hy_158 hmk_157 hP hD hS hl
    refine lv_iload hx hb d_Follows_rowOf_6 (lv_at hl 0 rfl) ?_
    refine lv_iload_n hx hb d_Follows_rowOf_8 rfl (lv_at hl 4 rfl) ?_
    refine lv_iload_n hx hb d_Follows_rowOf_9 rfl (lv_at hl 5 rfl) ?_
    refine lv_iadd hx hb d_Follows_rowOf_10 ?_
    refine lv_topi (fun v_160 ev_160 => ?_)
    obtain ⟨qv_160, hv_160⟩ := zI_add (l := 0) (h := 15) hb2 hb3 ev_160 (by decide)
    refine lv_icmp_ge (tgt := 56) hx hb d_Follows_rowOf_11 (by decide) (fun hc_161 => ?_) (fun hc_161 => ?_)
    · have _nhc_161 := hc_161
      have ni_162 := (fa_le _ _).mp hc_161
      refine lv_iload hx hb d_Follows_rowOf_56 (lv_at hl 1 rfl) ?_
      exact z_iret hx hb hr hlocks hP hD hS (Nat.le_of_ble_eq_true rfl) (Nat.le_of_ble_eq_true rfl) d_Follows_rowOf_58 ⟨y_159, rfl, rfl⟩
    · have _nhc_161 := hc_161
      have ni_163 := (fa_lt _ _).mp (zi_nle hc_161)
      have hv_164 : zI y_158 0 14 := zI.lt_l hy_158 hv_160 (zi_nle hc_161) (by decide)
      have hv_165 : zI v_160 1 15 := zI.lt_r hy_158 hv_160 (zi_nle hc_161) (by decide)
      refine lv_iload hx hb d_Follows_rowOf_14 (lv_at hl 0 rfl) ?_
      refine lv_aload_n hx hb d_Follows_rowOf_16 rfl (lv_at hl 2 rfl) ?_
      refine va_get (D := G.1) (ci := 2) (v := .ref b7) (C := R_Traces) (T := F_Traces) (N := 6) hx hb hts i_Traces hown hK hP 0 rfl rfl 3 (by decide) (hts _ q65) (fun _ h9 => h9) rfl d_Follows_rowOf_17 ?_
      refine lv_iload_n hx hb d_Follows_rowOf_20 rfl (lv_at hl 3 rfl) ?_
      refine va_iald hx hb hK hP 1 0 rfl rfl (zI.inn hb1 (by decide)) d_Follows_rowOf_21 ?_
      refine lv_topi (fun v_166 ev_166 => ?_)
      have hv_166 : zI v_166 0 12 := (hb10 _).eq ev_166
      refine lv_icmp_ge (tgt := 37) hx hb d_Follows_rowOf_22 (by decide) (fun hc_167 => ?_) (fun hc_167 => ?_)
      · have _nhc_167 := hc_167
        have ni_168 := (fa_le _ _).mp hc_167
        refine lv_iconst (v := 0) hx hb d_Follows_rowOf_37 (by decide) ?_
        refine lv_istore (lv' := [(6, .int 0), (5, .int y_158), (4, .int y_159), (0, .ref b0), (1, .int b1), (2, .int b2), (3, .int b3)]) hx hb d_Follows_rowOf_38 hl (by decide) rfl (fun ls hl => ?_)
        refine lv_iload hx hb d_Follows_rowOf_40 (lv_at hl 2 rfl) ?_
        refine lv_bipush (v := 11) hx hb d_Follows_rowOf_42 (by decide) ?_
        refine lv_imul hx hb d_Follows_rowOf_44 ?_
        refine lv_topi (fun v_169 ev_169 => ?_)
        refine lv_iload hx hb d_Follows_rowOf_45 (lv_at hl 0 rfl) ?_
        refine lv_iadd hx hb d_Follows_rowOf_47 ?_
        refine lv_topi (fun v_170 ev_170 => ?_)
        obtain ⟨qv_170, hv_170⟩ := zI_add (l := -2147483648) (h := 2147483647) (zI_all v_169) zc_0 ev_170 (by decide)
        rw [li_0] at qv_170
        refine lv_istore (lv' := [(4, .int v_170), (6, .int 0), (5, .int y_158), (0, .ref b0), (1, .int b1), (2, .int b2), (3, .int b3)]) hx hb d_Follows_rowOf_48 hl (by decide) rfl (fun ls hl => ?_)
        obtain ⟨v_171, ev_171⟩ : ∃ z : Int32, z = y_158 + 1 := ⟨_, rfl⟩
        obtain ⟨qv_171, hv_171⟩ := zI_add (l := 1) (h := 15) hv_164 zc_1 ev_171 (by decide)
        rw [li_1] at qv_171
        refine lv_iinc (v := v_171) (lv' := [(5, .int v_171), (4, .int v_170), (6, .int 0), (0, .ref b0), (1, .int b1), (2, .int b2), (3, .int b3)]) hx hb d_Follows_rowOf_50 hl (k := 2) rfl (by rw [ev_171]; rfl) (by decide) rfl (fun ls hl => ?_)
        refine lv_goto (tgt := 6) hx hb d_Follows_rowOf_53 (by decide) ?_
        exact ihk_157 (v_171) (v_170) _ _ _ (zI.wk (l' := 0) (h' := 15) hv_171 (by decide)) (zm_up qv_171 hmk_157 (by decide)) hP hD hS (lv_sub hl [0, 1, 3, 4, 5, 6] rfl)
      · have _nhc_167 := hc_167
        have ni_172 := (fa_lt _ _).mp (zi_nle hc_167)
        have hv_173 : zI y_158 0 11 := zI.lt_l hv_164 hv_166 (zi_nle hc_167) (by decide)
        have hv_174 : zI v_166 1 12 := zI.lt_r hv_164 hv_166 (zi_nle hc_167) (by decide)
        refine lv_aload_n hx hb d_Follows_rowOf_25 rfl (lv_at hl 2 rfl) ?_
        refine lv_iload_n hx hb d_Follows_rowOf_26 rfl (lv_at hl 3 rfl) ?_
        refine lv_iload hx hb d_Follows_rowOf_27 (lv_at hl 0 rfl) ?_
        refine z_callV (index := 56) (As := [.int b1, .int y_158]) (rest := []) (wr := [(b7, .inl (G.2 0, 20, .inl b10))]) Z (s1_Traces_letterAt l G (b0) (b1) (y_158) (b4) (b5) (b6) (b7) (b8) (b9) (b11) hb1 hv_173 hb4 hb5 hb6 hb11) hl.1 q613 q580 q581 q3 q582 ⟨by decide, by decide, by show _ = some 2; decide +kernel⟩ ⟨Nat.le_of_ble_eq_true rfl, Nat.le_of_ble_eq_true rfl⟩ ⟨Nat.le_of_ble_eq_true rfl, Nat.le_of_ble_eq_true rfl⟩ rfl (Nat.le_of_ble_eq_true rfl) d_Follows_rowOf_29 hP hD hS hA 0 2 rfl rfl rfl [0, 2] [1] rfl rfl rfl rfl (by decide) (fun v w1 H locs hw_175 hP hD hS => ?_)
        obtain ⟨x_176, rfl, rfl, hx_176⟩ := hw_175
        have hP : va_P G.1 classes [(b7, .inl (G.2 0, 20, .inl b10)), (b0, .inr (2, [.int b4, .int b5, .int b6, .ref b7, .ref b8, .ref b9])), (b8, .inl (G.2 0, 240, .inl b11))] H := hP
        have hD := z_tie hP hD rfl
        refine W.widen (k := 0) (n := 0) (Nat.le_of_ble_eq_true rfl) (Nat.le_of_ble_eq_true rfl) ?_
        refine lv_iconst (v := 1) hx hb d_Follows_rowOf_32 (by decide) ?_
        refine lv_iadd hx hb d_Follows_rowOf_33 ?_
        refine lv_topi (fun v_177 ev_177 => ?_)
        obtain ⟨qv_177, hv_177⟩ := zI_add (l := 1) (h := 10) hx_176 zc_1 ev_177 (by decide)
        rw [li_1] at qv_177
        refine lv_goto (tgt := 38) hx hb d_Follows_rowOf_34 (by decide) ?_
        refine lv_istore (lv' := [(6, .int v_177), (5, .int y_158), (4, .int y_159), (0, .ref b0), (1, .int b1), (2, .int b2), (3, .int b3)]) hx hb d_Follows_rowOf_38 hl (by decide) rfl (fun ls hl => ?_)
        refine lv_iload hx hb d_Follows_rowOf_40 (lv_at hl 2 rfl) ?_
        refine lv_bipush (v := 11) hx hb d_Follows_rowOf_42 (by decide) ?_
        refine lv_imul hx hb d_Follows_rowOf_44 ?_
        refine lv_topi (fun v_178 ev_178 => ?_)
        refine lv_iload hx hb d_Follows_rowOf_45 (lv_at hl 0 rfl) ?_
        refine lv_iadd hx hb d_Follows_rowOf_47 ?_
        refine lv_topi (fun v_179 ev_179 => ?_)
        refine lv_istore (lv' := [(4, .int v_179), (6, .int v_177), (5, .int y_158), (0, .ref b0), (1, .int b1), (2, .int b2), (3, .int b3)]) hx hb d_Follows_rowOf_48 hl (by decide) rfl (fun ls hl => ?_)
        obtain ⟨v_180, ev_180⟩ : ∃ z : Int32, z = y_158 + 1 := ⟨_, rfl⟩
        obtain ⟨qv_180, hv_180⟩ := zI_add (l := 1) (h := 12) hv_173 zc_1 ev_180 (by decide)
        rw [li_1] at qv_180
        refine lv_iinc (v := v_180) (lv' := [(5, .int v_180), (4, .int v_179), (6, .int v_177), (0, .ref b0), (1, .int b1), (2, .int b2), (3, .int b3)]) hx hb d_Follows_rowOf_50 hl (k := 2) rfl (by rw [ev_180]; rfl) (by decide) rfl (fun ls hl => ?_)
        refine lv_goto (tgt := 6) hx hb d_Follows_rowOf_53 (by decide) ?_
        exact ihk_157 (v_180) (v_179) _ _ _ (zI.wk (l' := 0) (h' := 15) hv_180 (by decide)) (zm_up qv_180 hmk_157 (by decide)) (hP.sub [1, 0, 2] rfl) (hD.sub [1, 0, 2] (by decide) rfl) hS (lv_sub hl [0, 1, 3, 4, 5, 6] rfl)
theorem d_Follows_insert_59 : decode prog_3_method_4_code 59 = .ok (.return_, 1) := by decide +kernel
theorem d_Follows_insert_117 : decode prog_3_method_4_code 117 = .ok (.return_, 1) := by decide +kernel
abbrev m_s2_Follows_insert : Room := { frames := 0, cells := 0, slots := 0, locals := 0 }
set_option maxHeartbeats 4000000 in
set_option maxRecDepth 100000 in
theorem s2_Follows_insert (l : Launch) (G : zG) (b0 : Nat) (b1 : Int32) (b2 : Int32) (b3 : Nat) (b4 : Nat) (b5 : Nat) (b6 : Nat → Int32) (b7 : Nat → Int32) (hb1 : zI b1 0 240) (hb6 : zqa qC b6) (hins : (b6 b1.toNatClampNeg).toInt + b1.toInt ≤ 259) : zM l G y_Follows_insert prog_3_method_4_code 6 (Option.none : Option Jvm.ClassFile.FieldType) m_s2_Follows_insert [.ref b0, .int b1, .int b2] [(b0, .inr (4, [.ref b3, .ref b4, .ref b5])), (b3, .inl (G.2 0, 241, .inl b6)), (b4, .inl (G.2 0, 4820, .inl b7))] (fun v w => ∃ (e0 : Nat → Int32), ∃ (e1 : Nat → Int32), v = none ∧ w = [(b0, .inr (4, [.ref b3, .ref b4, .ref b5])), (b3, .inl (G.2 0, 241, .inl e0)), (b4, .inl (G.2 0, 4820, .inl e1))] ∧ (zqa qC e0) ∧ (∀ q : Nat, (e0 q).toInt = (b6 q).toInt ∨ q = b1.toNatClampNeg ∧ (e0 q).toInt = (b6 q).toInt + 1)) := by
  refine z_start (by decide +kernel) (Nat.le_of_ble_eq_true rfl) ?_
  intro p e s m below meth c A Z hr hnm hA hP hD hS ls hl
  have Z : zC p s m _ meth c prog_3_method_4_code 6 "TraceMachines$Follows" G := Z
  obtain ⟨hx, hb, hml, hown, hts, hK, hN, hlocks⟩ := id Z
  have hl : lv_has ls 6 [(0, .ref b0), (1, .int b1), (2, .int b2)] := hl
  refine lv_iload_n hx hb d_Follows_insert_0 rfl (lv_at hl 1 rfl) ?_
  refine lv_bipush (v := 20) hx hb d_Follows_insert_1 (by decide) ?_
  refine lv_imul hx hb d_Follows_insert_3 ?_
  refine lv_topi (fun v_1 ev_1 => ?_)
  obtain ⟨qv_1, hv_1⟩ := zI_mul (l := 0) (h := 4800) hb1 zc_20 ev_1 (by decide)
  rw [li_20] at qv_1
  refine lv_istore_n (lv' := [(3, .int v_1), (0, .ref b0), (1, .int b1), (2, .int b2)]) hx hb d_Follows_insert_4 rfl hl (by decide) rfl (fun ls hl => ?_)
  refine lv_iload_n hx hb d_Follows_insert_5 rfl (lv_at hl 0 rfl) ?_
  refine lv_aload_n hx hb d_Follows_insert_6 rfl (lv_at hl 1 rfl) ?_
  refine va_get (D := G.1) (ci := 4) (v := .ref b3) (C := R_Follows) (T := F_Follows) (N := 3) hx hb hts i_Follows hown hK hP 0 rfl rfl 0 (by decide) (hts _ q146) (fun _ h9 => h9) rfl d_Follows_insert_7 ?_
  refine lv_iload_n hx hb d_Follows_insert_10 rfl (lv_at hl 2 rfl) ?_
  refine va_iald hx hb hK hP 1 0 rfl rfl (zI.inn hb1 (by decide)) d_Follows_insert_11 ?_
  refine lv_topi (fun v_2 ev_2 => ?_)
  obtain ⟨hv_2, kv_2⟩ := zQC.ld hb6 hb1 ev_2 (by decide)
  have hinv_2 : v_2.toInt + b1.toInt ≤ 259 := by rw [ev_2]; exact hins
  refine lv_iadd hx hb d_Follows_insert_12 ?_
  refine lv_topi (fun v_3 ev_3 => ?_)
  obtain ⟨qv_3, hv_3⟩ := zI_add (l := 0) (h := 5060) hv_1 hv_2 ev_3 (by decide)
  have hv_4 : zI v_3 0 4819 := ⟨by omega, by omega⟩
  refine lv_istore (lv' := [(4, .int v_3), (3, .int v_1), (0, .ref b0), (1, .int b1), (2, .int b2)]) hx hb d_Follows_insert_13 hl (by decide) rfl (fun ls hl => ?_)
  suffices key : ∀ (k_432 : Nat) (y_433 : Int32) (H : Heap) (locs : List Loc) (ls : Array Slot), (zI y_433 0 4819) → y_433.toInt - (0) < (k_432 : Int) → va_P G.1 classes [(b0, .inr (4, [.ref b3, .ref b4, .ref b5])), (b3, .inl (G.2 0, 241, .inl b6)), (b4, .inl (G.2 0, 4820, .inl b7))] H → va_D A [(b0, .inr (4, [.ref b3, .ref b4, .ref b5])), (b3, .inl (G.2 0, 241, .inl b6)), (b4, .inl (G.2 0, 4820, .inl b7))] → va_S A s.heap H locs → lv_has ls 6 [(4, .int y_433), (3, .int v_1), (0, .ref b0), (1, .int b1), (2, .int b2)] → W p l e m_s2_Follows_insert s m ([.ref b0, .int b1, .int b2] : List Value).toArray below meth c H locs 0 0 (MQ below (zQ G (fun v w => ∃ (e0 : Nat → Int32), ∃ (e1 : Nat → Int32), v = none ∧ w = [(b0, .inr (4, [.ref b3, .ref b4, .ref b5])), (b3, .inl (G.2 0, 241, .inl e0)), (b4, .inl (G.2 0, 4820, .inl e1))] ∧ (zqa qC e0) ∧ (∀ q : Nat, (e0 q).toInt = (b6 q).toInt ∨ q = b1.toNatClampNeg ∧ (e0 q).toInt = (b6 q).toInt + 1)) A) ([.ref b0, .int b1, .int b2] : List Value).toArray s m_s2_Follows_insert.cells m_s2_Follows_insert.slots A) (F0 m 15 ls []) by
    exact key 4820 (v_3) _ _ _ hv_4 (zm_dni hv_4 (by decide)) hP hD hS (lv_sub hl [0, 1, 2, 3, 4] rfl)
  intro k_432
  induction k_432 with
  | zero =>
    intro y_433 H locs ls hy_433 hmk_432 hP hD hS hl
    exact (zm_dn0 hy_433 hmk_432).elim
  | succ k_432 ihk_432 =>
    intro y_433 H locs ls hy_433 hmk_432 hP hD hS hl
    refine lv_iload hx hb d_Follows_insert_15 (lv_at hl 0 rfl) ?_
    refine lv_iload_n hx hb d_Follows_insert_17 rfl (lv_at hl 1 rfl) ?_
    refine lv_icmp_le (tgt := 40) hx hb d_Follows_insert_18 (by decide) (fun hc_434 => ?_) (fun hc_434 => ?_)
    · have _nhc_434 := hc_434
      have ni_435 := (fa_le _ _).mp hc_434
      have hv_436 : zI y_433 0 4800 := zI.le_l hy_433 hv_1 hc_434 (by decide)
      refine lv_iload hx hb d_Follows_insert_40 (lv_at hl 0 rfl) ?_
      refine lv_iload_n hx hb d_Follows_insert_42 rfl (lv_at hl 1 rfl) ?_
      refine lv_icmp_le (tgt := 60) hx hb d_Follows_insert_43 (by decide) (fun hc_437 => ?_) (fun hc_437 => ?_)
      · have _nhc_437 := hc_437
        have ni_438 := (fa_le _ _).mp hc_437
        refine lv_iload_n hx hb d_Follows_insert_60 rfl (lv_at hl 1 rfl) ?_
        refine lv_aload_n hx hb d_Follows_insert_61 rfl (lv_at hl 2 rfl) ?_
        refine va_get (D := G.1) (ci := 4) (v := .ref b3) (C := R_Follows) (T := F_Follows) (N := 3) hx hb hts i_Follows hown hK hP 0 rfl rfl 0 (by decide) (hts _ q146) (fun _ h9 => h9) rfl d_Follows_insert_62 ?_
        refine lv_iload_n hx hb d_Follows_insert_65 rfl (lv_at hl 3 rfl) ?_
        refine va_iald hx hb hK hP 1 0 rfl rfl (zI.inn hb1 (by decide)) d_Follows_insert_66 ?_
        refine lv_topi (fun v_439 ev_439 => ?_)
        obtain rfl : v_2 = v_439 := ev_2.trans ev_439.symm
        refine lv_iadd hx hb d_Follows_insert_67 ?_
        refine lv_topi (fun v_440 ev_440 => ?_)
        obtain rfl : v_3 = v_440 := ev_3.trans ev_440.symm
        refine lv_istore (lv' := [(5, .int v_3), (4, .int y_433), (3, .int v_1), (0, .ref b0), (1, .int b1), (2, .int b2)]) hx hb d_Follows_insert_68 hl (by decide) rfl (fun ls hl => ?_)
        suffices key : ∀ (k_469 : Nat) (y_470 : Int32) (y_471 : Nat → Int32) (H : Heap) (locs : List Loc) (ls : Array Slot), (zI y_470 0 4819) → y_470.toInt - (0) < (k_469 : Int) → va_P G.1 classes [(b0, .inr (4, [.ref b3, .ref b4, .ref b5])), (b3, .inl (G.2 0, 241, .inl b6)), (b4, .inl (G.2 0, 4820, .inl y_471))] H → va_D A [(b0, .inr (4, [.ref b3, .ref b4, .ref b5])), (b3, .inl (G.2 0, 241, .inl b6)), (b4, .inl (G.2 0, 4820, .inl y_471))] → va_S A s.heap H locs → lv_has ls 6 [(5, .int y_470), (4, .int y_433), (3, .int v_1), (0, .ref b0), (1, .int b1), (2, .int b2)] → W p l e m_s2_Follows_insert s m ([.ref b0, .int b1, .int b2] : List Value).toArray below meth c H locs 0 0 (MQ below (zQ G (fun v w => ∃ (e0 : Nat → Int32), ∃ (e1 : Nat → Int32), v = none ∧ w = [(b0, .inr (4, [.ref b3, .ref b4, .ref b5])), (b3, .inl (G.2 0, 241, .inl e0)), (b4, .inl (G.2 0, 4820, .inl e1))] ∧ (zqa qC e0) ∧ (∀ q : Nat, (e0 q).toInt = (b6 q).toInt ∨ q = b1.toNatClampNeg ∧ (e0 q).toInt = (b6 q).toInt + 1)) A) ([.ref b0, .int b1, .int b2] : List Value).toArray s m_s2_Follows_insert.cells m_s2_Follows_insert.slots A) (F0 m 70 ls []) by
          exact key 4820 (v_3) (b7) _ _ _ hv_4 (zm_dni hv_4 (by decide)) hP hD hS (lv_sub hl [0, 1, 2, 3, 4, 5] rfl)
        intro k_469
        induction k_469 with
        | zero =>
          intro y_470 y_471 H locs ls hy_470 hmk_469 hP hD hS hl
          exact (zm_dn0 hy_470 hmk_469).elim
        | succ k_469 ihk_469 =>
          intro y_470 y_471 H locs ls hy_470 hmk_469 hP hD hS hl
          refine lv_iload hx hb d_Follows_insert_70 (lv_at hl 0 rfl) ?_
          refine lv_iload hx hb d_Follows_insert_72 (lv_at hl 1 rfl) ?_
          refine lv_icmp_le (tgt := 99) hx hb d_Follows_insert_74 (by decide) (fun hc_472 => ?_) (fun hc_472 => ?_)
          · have _nhc_472 := hc_472
            have ni_473 := (fa_le _ _).mp hc_472
            have hv_474 : zI y_470 0 4800 := zI.le_l hy_470 hv_436 hc_472 (by decide)
            refine lv_aload_n hx hb d_Follows_insert_99 rfl (lv_at hl 3 rfl) ?_
            refine va_get (D := G.1) (ci := 4) (v := .ref b4) (C := R_Follows) (T := F_Follows) (N := 3) hx hb hts i_Follows hown hK hP 0 rfl rfl 1 (by decide) (hts _ q148) (fun _ h9 => h9) rfl d_Follows_insert_100 ?_
            refine lv_iload hx hb d_Follows_insert_103 (lv_at hl 1 rfl) ?_
            refine lv_iload_n hx hb d_Follows_insert_105 rfl (lv_at hl 5 rfl) ?_
            refine va_iast hx hb hK hP hD hS 2 0 rfl rfl (zI.inn hv_436 (by decide)) d_Follows_insert_106 (fun H locs hP hD hS => ?_)
            obtain ⟨f_475, gf_475, uf_475, hP, hD⟩ := z_newFu 2 hP hD rfl
            have hP : va_P G.1 classes [(b0, .inr (4, [.ref b3, .ref b4, .ref b5])), (b3, .inl (G.2 0, 241, .inl b6)), (b4, .inl (G.2 0, 4820, .inl f_475))] H := hP
            have hD := z_tie hP hD rfl
            refine lv_aload_n hx hb d_Follows_insert_107 rfl (lv_at hl 3 rfl) ?_
            refine va_get (D := G.1) (ci := 4) (v := .ref b3) (C := R_Follows) (T := F_Follows) (N := 3) hx hb hts i_Follows hown hK hP 0 rfl rfl 0 (by decide) (hts _ q146) (fun _ h9 => h9) rfl d_Follows_insert_108 ?_
            refine lv_iload_n hx hb d_Follows_insert_111 rfl (lv_at hl 4 rfl) ?_
            refine lv_dup2_11 hx hb d_Follows_insert_112 rfl rfl ?_
            refine va_iald hx hb hK hP 1 0 rfl rfl (zI.inn hb1 (by decide)) d_Follows_insert_113 ?_
            refine lv_topi (fun v_476 ev_476 => ?_)
            obtain rfl : v_2 = v_476 := ev_2.trans ev_476.symm
            refine lv_iconst (v := 1) hx hb d_Follows_insert_114 (by decide) ?_
            refine lv_iadd hx hb d_Follows_insert_115 ?_
            refine lv_topi (fun v_477 ev_477 => ?_)
            obtain ⟨qv_477, hv_477⟩ := zI_add (l := 1) (h := 261) hv_2 zc_1 ev_477 (by decide)
            rw [li_1] at qv_477
            refine va_iast hx hb hK hP hD hS 1 0 rfl rfl (zI.inn hb1 (by decide)) d_Follows_insert_116 (fun H locs hP hD hS => ?_)
            obtain ⟨f_478, hf_478, gf_478, uf_478, hP, hD⟩ := z_newq_ (Q := qC) 1 hP hD rfl hb6 (qC_v hb1 (by decide) ⟨⟨by have _w := hv_477; have _x := hb1; omega, by have _w := hv_477; have _x := hb1; omega⟩, by have _w := hv_477; have _x := hb1; omega⟩)
            have hP : va_P G.1 classes [(b0, .inr (4, [.ref b3, .ref b4, .ref b5])), (b3, .inl (G.2 0, 241, .inl f_478)), (b4, .inl (G.2 0, 4820, .inl f_475))] H := hP
            have hD := z_tie hP hD rfl
            exact z_vret hx hb hr hlocks hP hD hS (Nat.le_of_ble_eq_true rfl) (Nat.le_of_ble_eq_true rfl) d_Follows_insert_117 ⟨f_478, f_475, rfl, rfl, hf_478, (by intro q; rw [uf_478, z_at]; split; rename_i h; right; refine ⟨h, ?_⟩; rw [h, ← ev_2]; omega; left; rfl)⟩
          · have _nhc_472 := hc_472
            have ni_479 := (fa_lt _ _).mp (zi_nle hc_472)
            have hv_480 : zI y_470 1 4819 := zI.lt_r hv_436 hy_470 (zi_nle hc_472) (by decide)
            refine lv_aload_n hx hb d_Follows_insert_77 rfl (lv_at hl 3 rfl) ?_
            refine va_get (D := G.1) (ci := 4) (v := .ref b4) (C := R_Follows) (T := F_Follows) (N := 3) hx hb hts i_Follows hown hK hP 0 rfl rfl 1 (by decide) (hts _ q148) (fun _ h9 => h9) rfl d_Follows_insert_78 ?_
            refine lv_iload hx hb d_Follows_insert_81 (lv_at hl 0 rfl) ?_
            refine lv_aload_n hx hb d_Follows_insert_83 rfl (lv_at hl 3 rfl) ?_
            refine va_get (D := G.1) (ci := 4) (v := .ref b4) (C := R_Follows) (T := F_Follows) (N := 3) hx hb hts i_Follows hown hK hP 0 rfl rfl 1 (by decide) (hts _ q148) (fun _ h9 => h9) rfl d_Follows_insert_84 ?_
            refine lv_iload hx hb d_Follows_insert_87 (lv_at hl 0 rfl) ?_
            refine lv_iconst (v := 1) hx hb d_Follows_insert_89 (by decide) ?_
            refine lv_isub hx hb d_Follows_insert_90 ?_
            refine lv_topi (fun v_481 ev_481 => ?_)
            obtain ⟨qv_481, hv_481⟩ := zI_sub (l := 0) (h := 4818) hv_480 zc_1 ev_481 (by decide)
            rw [li_1] at qv_481
            refine va_iald hx hb hK hP 2 0 rfl rfl (zI.inn hv_481 (by decide)) d_Follows_insert_91 ?_
            refine lv_topi (fun v_482 ev_482 => ?_)
            refine va_iast hx hb hK hP hD hS 2 0 rfl rfl (zI.inn hv_480 (by decide)) d_Follows_insert_92 (fun H locs hP hD hS => ?_)
            obtain ⟨f_483, gf_483, uf_483, hP, hD⟩ := z_newFu 2 hP hD rfl
            have hP : va_P G.1 classes [(b0, .inr (4, [.ref b3, .ref b4, .ref b5])), (b3, .inl (G.2 0, 241, .inl b6)), (b4, .inl (G.2 0, 4820, .inl f_483))] H := hP
            have hD := z_tie hP hD rfl
            obtain ⟨v_484, ev_484⟩ : ∃ z : Int32, z = y_470 + (-1) := ⟨_, rfl⟩
            obtain ⟨qv_484, hv_484⟩ := zI_add (l := 0) (h := 4818) hv_480 zc_m1 ev_484 (by decide)
            rw [li_m1] at qv_484
            refine lv_iinc (v := v_484) (lv' := [(5, .int v_484), (4, .int y_433), (3, .int v_1), (0, .ref b0), (1, .int b1), (2, .int b2)]) hx hb d_Follows_insert_93 hl (k := 0) rfl (by rw [ev_484]; rfl) (by decide) rfl (fun ls hl => ?_)
            refine lv_goto (tgt := 70) hx hb d_Follows_insert_96 (by decide) ?_
            exact ihk_469 (v_484) (f_483) _ _ _ (zI.wk (l' := 0) (h' := 4819) hv_484 (by decide)) (zm_dn qv_484 hmk_469 (by decide)) hP hD hS (lv_sub hl [0, 1, 2, 3, 4, 5] rfl)
      · have _nhc_437 := hc_437
        have ni_485 := (fa_lt _ _).mp (zi_nle hc_437)
        have hv_486 : zI v_1 0 4799 := zI.lt_l hv_1 hv_436 (zi_nle hc_437) (by decide)
        have hv_487 : zI y_433 1 4800 := zI.lt_r hv_1 hv_436 (zi_nle hc_437) (by decide)
        refine lv_aload_n hx hb d_Follows_insert_46 rfl (lv_at hl 2 rfl) ?_
        refine va_get (D := G.1) (ci := 4) (v := .ref b4) (C := R_Follows) (T := F_Follows) (N := 3) hx hb hts i_Follows hown hK hP 0 rfl rfl 1 (by decide) (hts _ q148) (fun _ h9 => h9) rfl d_Follows_insert_47 ?_
        refine lv_iload hx hb d_Follows_insert_50 (lv_at hl 0 rfl) ?_
        refine lv_iconst (v := 1) hx hb d_Follows_insert_52 (by decide) ?_
        refine lv_isub hx hb d_Follows_insert_53 ?_
        refine lv_topi (fun v_488 ev_488 => ?_)
        obtain ⟨qv_488, hv_488⟩ := zI_sub (l := 0) (h := 4799) hv_487 zc_1 ev_488 (by decide)
        rw [li_1] at qv_488
        refine va_iald hx hb hK hP 2 0 rfl rfl (zI.inn hv_488 (by decide)) d_Follows_insert_54 ?_
        refine lv_topi (fun v_489 ev_489 => ?_)
        refine lv_iload_n hx hb d_Follows_insert_55 rfl (lv_at hl 4 rfl) ?_
        refine lv_icmp_ne (tgt := 60) hx hb d_Follows_insert_56 (by decide) (fun hc_490 => ?_) (fun hc_490 => ?_)
        · have _nhc_490 := hc_490
          have ni_491 : ¬ (v_489 : Int32).toInt = (b2 : Int32).toInt := fun z => hc_490 ((fa_eq _ _).mpr z)
          refine lv_iload_n hx hb d_Follows_insert_60 rfl (lv_at hl 1 rfl) ?_
          refine lv_aload_n hx hb d_Follows_insert_61 rfl (lv_at hl 2 rfl) ?_
          refine va_get (D := G.1) (ci := 4) (v := .ref b3) (C := R_Follows) (T := F_Follows) (N := 3) hx hb hts i_Follows hown hK hP 0 rfl rfl 0 (by decide) (hts _ q146) (fun _ h9 => h9) rfl d_Follows_insert_62 ?_
          refine lv_iload_n hx hb d_Follows_insert_65 rfl (lv_at hl 3 rfl) ?_
          refine va_iald hx hb hK hP 1 0 rfl rfl (zI.inn hb1 (by decide)) d_Follows_insert_66 ?_
          refine lv_topi (fun v_492 ev_492 => ?_)
          obtain rfl : v_2 = v_492 := ev_2.trans ev_492.symm
          refine lv_iadd hx hb d_Follows_insert_67 ?_
          refine lv_topi (fun v_493 ev_493 => ?_)
          obtain rfl : v_3 = v_493 := ev_3.trans ev_493.symm
          refine lv_istore (lv' := [(5, .int v_3), (4, .int y_433), (3, .int v_1), (0, .ref b0), (1, .int b1), (2, .int b2)]) hx hb d_Follows_insert_68 hl (by decide) rfl (fun ls hl => ?_)
          suffices key : ∀ (k_522 : Nat) (y_523 : Int32) (y_524 : Nat → Int32) (H : Heap) (locs : List Loc) (ls : Array Slot), (zI y_523 0 4819) → y_523.toInt - (0) < (k_522 : Int) → va_P G.1 classes [(b0, .inr (4, [.ref b3, .ref b4, .ref b5])), (b3, .inl (G.2 0, 241, .inl b6)), (b4, .inl (G.2 0, 4820, .inl y_524))] H → va_D A [(b0, .inr (4, [.ref b3, .ref b4, .ref b5])), (b3, .inl (G.2 0, 241, .inl b6)), (b4, .inl (G.2 0, 4820, .inl y_524))] → va_S A s.heap H locs → lv_has ls 6 [(5, .int y_523), (4, .int y_433), (3, .int v_1), (0, .ref b0), (1, .int b1), (2, .int b2)] → W p l e m_s2_Follows_insert s m ([.ref b0, .int b1, .int b2] : List Value).toArray below meth c H locs 0 0 (MQ below (zQ G (fun v w => ∃ (e0 : Nat → Int32), ∃ (e1 : Nat → Int32), v = none ∧ w = [(b0, .inr (4, [.ref b3, .ref b4, .ref b5])), (b3, .inl (G.2 0, 241, .inl e0)), (b4, .inl (G.2 0, 4820, .inl e1))] ∧ (zqa qC e0) ∧ (∀ q : Nat, (e0 q).toInt = (b6 q).toInt ∨ q = b1.toNatClampNeg ∧ (e0 q).toInt = (b6 q).toInt + 1)) A) ([.ref b0, .int b1, .int b2] : List Value).toArray s m_s2_Follows_insert.cells m_s2_Follows_insert.slots A) (F0 m 70 ls []) by
            exact key 4820 (v_3) (b7) _ _ _ hv_4 (zm_dni hv_4 (by decide)) hP hD hS (lv_sub hl [0, 1, 2, 3, 4, 5] rfl)
          intro k_522
          induction k_522 with
          | zero =>
            intro y_523 y_524 H locs ls hy_523 hmk_522 hP hD hS hl
            exact (zm_dn0 hy_523 hmk_522).elim
          | succ k_522 ihk_522 =>
            intro y_523 y_524 H locs ls hy_523 hmk_522 hP hD hS hl
            refine lv_iload hx hb d_Follows_insert_70 (lv_at hl 0 rfl) ?_
            refine lv_iload hx hb d_Follows_insert_72 (lv_at hl 1 rfl) ?_
            refine lv_icmp_le (tgt := 99) hx hb d_Follows_insert_74 (by decide) (fun hc_525 => ?_) (fun hc_525 => ?_)
            · have _nhc_525 := hc_525
              have ni_526 := (fa_le _ _).mp hc_525
              have hv_527 : zI y_523 0 4800 := zI.le_l hy_523 hv_487 hc_525 (by decide)
              refine lv_aload_n hx hb d_Follows_insert_99 rfl (lv_at hl 3 rfl) ?_
              refine va_get (D := G.1) (ci := 4) (v := .ref b4) (C := R_Follows) (T := F_Follows) (N := 3) hx hb hts i_Follows hown hK hP 0 rfl rfl 1 (by decide) (hts _ q148) (fun _ h9 => h9) rfl d_Follows_insert_100 ?_
              refine lv_iload hx hb d_Follows_insert_103 (lv_at hl 1 rfl) ?_
              refine lv_iload_n hx hb d_Follows_insert_105 rfl (lv_at hl 5 rfl) ?_
              refine va_iast hx hb hK hP hD hS 2 0 rfl rfl (zI.inn hv_487 (by decide)) d_Follows_insert_106 (fun H locs hP hD hS => ?_)
              obtain ⟨f_528, gf_528, uf_528, hP, hD⟩ := z_newFu 2 hP hD rfl
              have hP : va_P G.1 classes [(b0, .inr (4, [.ref b3, .ref b4, .ref b5])), (b3, .inl (G.2 0, 241, .inl b6)), (b4, .inl (G.2 0, 4820, .inl f_528))] H := hP
              have hD := z_tie hP hD rfl
              refine lv_aload_n hx hb d_Follows_insert_107 rfl (lv_at hl 3 rfl) ?_
              refine va_get (D := G.1) (ci := 4) (v := .ref b3) (C := R_Follows) (T := F_Follows) (N := 3) hx hb hts i_Follows hown hK hP 0 rfl rfl 0 (by decide) (hts _ q146) (fun _ h9 => h9) rfl d_Follows_insert_108 ?_
              refine lv_iload_n hx hb d_Follows_insert_111 rfl (lv_at hl 4 rfl) ?_
              refine lv_dup2_11 hx hb d_Follows_insert_112 rfl rfl ?_
              refine va_iald hx hb hK hP 1 0 rfl rfl (zI.inn hb1 (by decide)) d_Follows_insert_113 ?_
              refine lv_topi (fun v_529 ev_529 => ?_)
              obtain rfl : v_2 = v_529 := ev_2.trans ev_529.symm
              refine lv_iconst (v := 1) hx hb d_Follows_insert_114 (by decide) ?_
              refine lv_iadd hx hb d_Follows_insert_115 ?_
              refine lv_topi (fun v_530 ev_530 => ?_)
              obtain ⟨qv_530, hv_530⟩ := zI_add (l := 1) (h := 261) hv_2 zc_1 ev_530 (by decide)
              rw [li_1] at qv_530
              refine va_iast hx hb hK hP hD hS 1 0 rfl rfl (zI.inn hb1 (by decide)) d_Follows_insert_116 (fun H locs hP hD hS => ?_)
              obtain ⟨f_531, hf_531, gf_531, uf_531, hP, hD⟩ := z_newq_ (Q := qC) 1 hP hD rfl hb6 (qC_v hb1 (by decide) ⟨⟨by have _w := hv_530; have _x := hb1; omega, by have _w := hv_530; have _x := hb1; omega⟩, by have _w := hv_530; have _x := hb1; omega⟩)
              have hP : va_P G.1 classes [(b0, .inr (4, [.ref b3, .ref b4, .ref b5])), (b3, .inl (G.2 0, 241, .inl f_531)), (b4, .inl (G.2 0, 4820, .inl f_528))] H := hP
              have hD := z_tie hP hD rfl
              exact z_vret hx hb hr hlocks hP hD hS (Nat.le_of_ble_eq_true rfl) (Nat.le_of_ble_eq_true rfl) d_Follows_insert_117 ⟨f_531, f_528, rfl, rfl, hf_531, (by intro q; rw [uf_531, z_at]; split; rename_i h; right; refine ⟨h, ?_⟩; rw [h, ← ev_2]; omega; left; rfl)⟩
            · have _nhc_525 := hc_525
              have ni_532 := (fa_lt _ _).mp (zi_nle hc_525)
              have hv_533 : zI y_523 2 4819 := zI.lt_r hv_487 hy_523 (zi_nle hc_525) (by decide)
              refine lv_aload_n hx hb d_Follows_insert_77 rfl (lv_at hl 3 rfl) ?_
              refine va_get (D := G.1) (ci := 4) (v := .ref b4) (C := R_Follows) (T := F_Follows) (N := 3) hx hb hts i_Follows hown hK hP 0 rfl rfl 1 (by decide) (hts _ q148) (fun _ h9 => h9) rfl d_Follows_insert_78 ?_
              refine lv_iload hx hb d_Follows_insert_81 (lv_at hl 0 rfl) ?_
              refine lv_aload_n hx hb d_Follows_insert_83 rfl (lv_at hl 3 rfl) ?_
              refine va_get (D := G.1) (ci := 4) (v := .ref b4) (C := R_Follows) (T := F_Follows) (N := 3) hx hb hts i_Follows hown hK hP 0 rfl rfl 1 (by decide) (hts _ q148) (fun _ h9 => h9) rfl d_Follows_insert_84 ?_
              refine lv_iload hx hb d_Follows_insert_87 (lv_at hl 0 rfl) ?_
              refine lv_iconst (v := 1) hx hb d_Follows_insert_89 (by decide) ?_
              refine lv_isub hx hb d_Follows_insert_90 ?_
              refine lv_topi (fun v_534 ev_534 => ?_)
              obtain ⟨qv_534, hv_534⟩ := zI_sub (l := 1) (h := 4818) hv_533 zc_1 ev_534 (by decide)
              rw [li_1] at qv_534
              refine va_iald hx hb hK hP 2 0 rfl rfl (zI.inn hv_534 (by decide)) d_Follows_insert_91 ?_
              refine lv_topi (fun v_535 ev_535 => ?_)
              refine va_iast hx hb hK hP hD hS 2 0 rfl rfl (zI.inn hv_533 (by decide)) d_Follows_insert_92 (fun H locs hP hD hS => ?_)
              obtain ⟨f_536, gf_536, uf_536, hP, hD⟩ := z_newFu 2 hP hD rfl
              have hP : va_P G.1 classes [(b0, .inr (4, [.ref b3, .ref b4, .ref b5])), (b3, .inl (G.2 0, 241, .inl b6)), (b4, .inl (G.2 0, 4820, .inl f_536))] H := hP
              have hD := z_tie hP hD rfl
              obtain ⟨v_537, ev_537⟩ : ∃ z : Int32, z = y_523 + (-1) := ⟨_, rfl⟩
              obtain ⟨qv_537, hv_537⟩ := zI_add (l := 1) (h := 4818) hv_533 zc_m1 ev_537 (by decide)
              rw [li_m1] at qv_537
              refine lv_iinc (v := v_537) (lv' := [(5, .int v_537), (4, .int y_433), (3, .int v_1), (0, .ref b0), (1, .int b1), (2, .int b2)]) hx hb d_Follows_insert_93 hl (k := 0) rfl (by rw [ev_537]; rfl) (by decide) rfl (fun ls hl => ?_)
              refine lv_goto (tgt := 70) hx hb d_Follows_insert_96 (by decide) ?_
              exact ihk_522 (v_537) (f_536) _ _ _ (zI.wk (l' := 0) (h' := 4819) hv_537 (by decide)) (zm_dn qv_537 hmk_522 (by decide)) hP hD hS (lv_sub hl [0, 1, 2, 3, 4, 5] rfl)
        · have _nhc_490 := hc_490
          have ni_538 := (fa_eq _ _).mp hc_490
          exact z_vret hx hb hr hlocks hP hD hS (Nat.le_of_ble_eq_true rfl) (Nat.le_of_ble_eq_true rfl) d_Follows_insert_59 ⟨b6, b7, rfl, rfl, hb6, (fun _ => Or.inl rfl)⟩
    · have _nhc_434 := hc_434
      have ni_539 := (fa_lt _ _).mp (zi_nle hc_434)
      have hv_540 : zI y_433 1 4819 := zI.lt_r hv_1 hy_433 (zi_nle hc_434) (by decide)
      refine lv_aload_n hx hb d_Follows_insert_21 rfl (lv_at hl 2 rfl) ?_
      refine va_get (D := G.1) (ci := 4) (v := .ref b4) (C := R_Follows) (T := F_Follows) (N := 3) hx hb hts i_Follows hown hK hP 0 rfl rfl 1 (by decide) (hts _ q148) (fun _ h9 => h9) rfl d_Follows_insert_22 ?_
      refine lv_iload hx hb d_Follows_insert_25 (lv_at hl 0 rfl) ?_
      refine lv_iconst (v := 1) hx hb d_Follows_insert_27 (by decide) ?_
      refine lv_isub hx hb d_Follows_insert_28 ?_
      refine lv_topi (fun v_541 ev_541 => ?_)
      obtain ⟨qv_541, hv_541⟩ := zI_sub (l := 0) (h := 4818) hv_540 zc_1 ev_541 (by decide)
      rw [li_1] at qv_541
      refine va_iald hx hb hK hP 2 0 rfl rfl (zI.inn hv_541 (by decide)) d_Follows_insert_29 ?_
      refine lv_topi (fun v_542 ev_542 => ?_)
      refine lv_iload_n hx hb d_Follows_insert_30 rfl (lv_at hl 4 rfl) ?_
      refine lv_icmp_le (tgt := 40) hx hb d_Follows_insert_31 (by decide) (fun hc_543 => ?_) (fun hc_543 => ?_)
      · have _nhc_543 := hc_543
        have ni_544 := (fa_le _ _).mp hc_543
        refine lv_iload hx hb d_Follows_insert_40 (lv_at hl 0 rfl) ?_
        refine lv_iload_n hx hb d_Follows_insert_42 rfl (lv_at hl 1 rfl) ?_
        refine lv_icmp_le (tgt := 60) hx hb d_Follows_insert_43 (by decide) (fun hc_545 => ?_) (fun hc_545 => ?_)
        · have _nhc_545 := hc_545
          have ni_546 := (fa_le _ _).mp hc_545
          have hv_547 : zI y_433 1 4800 := zI.le_l hv_540 hv_1 hc_545 (by decide)
          have hv_548 : zI v_1 1 4800 := zI.le_r hv_540 hv_1 hc_545 (by decide)
          refine lv_iload_n hx hb d_Follows_insert_60 rfl (lv_at hl 1 rfl) ?_
          refine lv_aload_n hx hb d_Follows_insert_61 rfl (lv_at hl 2 rfl) ?_
          refine va_get (D := G.1) (ci := 4) (v := .ref b3) (C := R_Follows) (T := F_Follows) (N := 3) hx hb hts i_Follows hown hK hP 0 rfl rfl 0 (by decide) (hts _ q146) (fun _ h9 => h9) rfl d_Follows_insert_62 ?_
          refine lv_iload_n hx hb d_Follows_insert_65 rfl (lv_at hl 3 rfl) ?_
          refine va_iald hx hb hK hP 1 0 rfl rfl (zI.inn hb1 (by decide)) d_Follows_insert_66 ?_
          refine lv_topi (fun v_549 ev_549 => ?_)
          obtain rfl : v_2 = v_549 := ev_2.trans ev_549.symm
          refine lv_iadd hx hb d_Follows_insert_67 ?_
          refine lv_topi (fun v_550 ev_550 => ?_)
          obtain rfl : v_3 = v_550 := ev_3.trans ev_550.symm
          refine lv_istore (lv' := [(5, .int v_3), (4, .int y_433), (3, .int v_1), (0, .ref b0), (1, .int b1), (2, .int b2)]) hx hb d_Follows_insert_68 hl (by decide) rfl (fun ls hl => ?_)
          suffices key : ∀ (k_579 : Nat) (y_580 : Int32) (y_581 : Nat → Int32) (H : Heap) (locs : List Loc) (ls : Array Slot), (zI y_580 0 4819) → y_580.toInt - (0) < (k_579 : Int) → va_P G.1 classes [(b0, .inr (4, [.ref b3, .ref b4, .ref b5])), (b3, .inl (G.2 0, 241, .inl b6)), (b4, .inl (G.2 0, 4820, .inl y_581))] H → va_D A [(b0, .inr (4, [.ref b3, .ref b4, .ref b5])), (b3, .inl (G.2 0, 241, .inl b6)), (b4, .inl (G.2 0, 4820, .inl y_581))] → va_S A s.heap H locs → lv_has ls 6 [(5, .int y_580), (4, .int y_433), (3, .int v_1), (0, .ref b0), (1, .int b1), (2, .int b2)] → W p l e m_s2_Follows_insert s m ([.ref b0, .int b1, .int b2] : List Value).toArray below meth c H locs 0 0 (MQ below (zQ G (fun v w => ∃ (e0 : Nat → Int32), ∃ (e1 : Nat → Int32), v = none ∧ w = [(b0, .inr (4, [.ref b3, .ref b4, .ref b5])), (b3, .inl (G.2 0, 241, .inl e0)), (b4, .inl (G.2 0, 4820, .inl e1))] ∧ (zqa qC e0) ∧ (∀ q : Nat, (e0 q).toInt = (b6 q).toInt ∨ q = b1.toNatClampNeg ∧ (e0 q).toInt = (b6 q).toInt + 1)) A) ([.ref b0, .int b1, .int b2] : List Value).toArray s m_s2_Follows_insert.cells m_s2_Follows_insert.slots A) (F0 m 70 ls []) by
            exact key 4820 (v_3) (b7) _ _ _ hv_4 (zm_dni hv_4 (by decide)) hP hD hS (lv_sub hl [0, 1, 2, 3, 4, 5] rfl)
          intro k_579
          induction k_579 with
          | zero =>
            intro y_580 y_581 H locs ls hy_580 hmk_579 hP hD hS hl
            exact (zm_dn0 hy_580 hmk_579).elim
          | succ k_579 ihk_579 =>
            intro y_580 y_581 H locs ls hy_580 hmk_579 hP hD hS hl
            refine lv_iload hx hb d_Follows_insert_70 (lv_at hl 0 rfl) ?_
            refine lv_iload hx hb d_Follows_insert_72 (lv_at hl 1 rfl) ?_
            refine lv_icmp_le (tgt := 99) hx hb d_Follows_insert_74 (by decide) (fun hc_582 => ?_) (fun hc_582 => ?_)
            · have _nhc_582 := hc_582
              have ni_583 := (fa_le _ _).mp hc_582
              have hv_584 : zI y_580 0 4800 := zI.le_l hy_580 hv_547 hc_582 (by decide)
              refine lv_aload_n hx hb d_Follows_insert_99 rfl (lv_at hl 3 rfl) ?_
              refine va_get (D := G.1) (ci := 4) (v := .ref b4) (C := R_Follows) (T := F_Follows) (N := 3) hx hb hts i_Follows hown hK hP 0 rfl rfl 1 (by decide) (hts _ q148) (fun _ h9 => h9) rfl d_Follows_insert_100 ?_
              refine lv_iload hx hb d_Follows_insert_103 (lv_at hl 1 rfl) ?_
              refine lv_iload_n hx hb d_Follows_insert_105 rfl (lv_at hl 5 rfl) ?_
              refine va_iast hx hb hK hP hD hS 2 0 rfl rfl (zI.inn hv_547 (by decide)) d_Follows_insert_106 (fun H locs hP hD hS => ?_)
              obtain ⟨f_585, gf_585, uf_585, hP, hD⟩ := z_newFu 2 hP hD rfl
              have hP : va_P G.1 classes [(b0, .inr (4, [.ref b3, .ref b4, .ref b5])), (b3, .inl (G.2 0, 241, .inl b6)), (b4, .inl (G.2 0, 4820, .inl f_585))] H := hP
              have hD := z_tie hP hD rfl
              refine lv_aload_n hx hb d_Follows_insert_107 rfl (lv_at hl 3 rfl) ?_
              refine va_get (D := G.1) (ci := 4) (v := .ref b3) (C := R_Follows) (T := F_Follows) (N := 3) hx hb hts i_Follows hown hK hP 0 rfl rfl 0 (by decide) (hts _ q146) (fun _ h9 => h9) rfl d_Follows_insert_108 ?_
              refine lv_iload_n hx hb d_Follows_insert_111 rfl (lv_at hl 4 rfl) ?_
              refine lv_dup2_11 hx hb d_Follows_insert_112 rfl rfl ?_
              refine va_iald hx hb hK hP 1 0 rfl rfl (zI.inn hb1 (by decide)) d_Follows_insert_113 ?_
              refine lv_topi (fun v_586 ev_586 => ?_)
              obtain rfl : v_2 = v_586 := ev_2.trans ev_586.symm
              refine lv_iconst (v := 1) hx hb d_Follows_insert_114 (by decide) ?_
              refine lv_iadd hx hb d_Follows_insert_115 ?_
              refine lv_topi (fun v_587 ev_587 => ?_)
              obtain ⟨qv_587, hv_587⟩ := zI_add (l := 1) (h := 261) hv_2 zc_1 ev_587 (by decide)
              rw [li_1] at qv_587
              refine va_iast hx hb hK hP hD hS 1 0 rfl rfl (zI.inn hb1 (by decide)) d_Follows_insert_116 (fun H locs hP hD hS => ?_)
              obtain ⟨f_588, hf_588, gf_588, uf_588, hP, hD⟩ := z_newq_ (Q := qC) 1 hP hD rfl hb6 (qC_v hb1 (by decide) ⟨⟨by have _w := hv_587; have _x := hb1; omega, by have _w := hv_587; have _x := hb1; omega⟩, by have _w := hv_587; have _x := hb1; omega⟩)
              have hP : va_P G.1 classes [(b0, .inr (4, [.ref b3, .ref b4, .ref b5])), (b3, .inl (G.2 0, 241, .inl f_588)), (b4, .inl (G.2 0, 4820, .inl f_585))] H := hP
              have hD := z_tie hP hD rfl
              exact z_vret hx hb hr hlocks hP hD hS (Nat.le_of_ble_eq_true rfl) (Nat.le_of_ble_eq_true rfl) d_Follows_insert_117 ⟨f_588, f_585, rfl, rfl, hf_588, (by intro q; rw [uf_588, z_at]; split; rename_i h; right; refine ⟨h, ?_⟩; rw [h, ← ev_2]; omega; left; rfl)⟩
            · have _nhc_582 := hc_582
              have ni_589 := (fa_lt _ _).mp (zi_nle hc_582)
              have hv_590 : zI y_580 2 4819 := zI.lt_r hv_547 hy_580 (zi_nle hc_582) (by decide)
              refine lv_aload_n hx hb d_Follows_insert_77 rfl (lv_at hl 3 rfl) ?_
              refine va_get (D := G.1) (ci := 4) (v := .ref b4) (C := R_Follows) (T := F_Follows) (N := 3) hx hb hts i_Follows hown hK hP 0 rfl rfl 1 (by decide) (hts _ q148) (fun _ h9 => h9) rfl d_Follows_insert_78 ?_
              refine lv_iload hx hb d_Follows_insert_81 (lv_at hl 0 rfl) ?_
              refine lv_aload_n hx hb d_Follows_insert_83 rfl (lv_at hl 3 rfl) ?_
              refine va_get (D := G.1) (ci := 4) (v := .ref b4) (C := R_Follows) (T := F_Follows) (N := 3) hx hb hts i_Follows hown hK hP 0 rfl rfl 1 (by decide) (hts _ q148) (fun _ h9 => h9) rfl d_Follows_insert_84 ?_
              refine lv_iload hx hb d_Follows_insert_87 (lv_at hl 0 rfl) ?_
              refine lv_iconst (v := 1) hx hb d_Follows_insert_89 (by decide) ?_
              refine lv_isub hx hb d_Follows_insert_90 ?_
              refine lv_topi (fun v_591 ev_591 => ?_)
              obtain ⟨qv_591, hv_591⟩ := zI_sub (l := 1) (h := 4818) hv_590 zc_1 ev_591 (by decide)
              rw [li_1] at qv_591
              refine va_iald hx hb hK hP 2 0 rfl rfl (zI.inn hv_591 (by decide)) d_Follows_insert_91 ?_
              refine lv_topi (fun v_592 ev_592 => ?_)
              refine va_iast hx hb hK hP hD hS 2 0 rfl rfl (zI.inn hv_590 (by decide)) d_Follows_insert_92 (fun H locs hP hD hS => ?_)
              obtain ⟨f_593, gf_593, uf_593, hP, hD⟩ := z_newFu 2 hP hD rfl
              have hP : va_P G.1 classes [(b0, .inr (4, [.ref b3, .ref b4, .ref b5])), (b3, .inl (G.2 0, 241, .inl b6)), (b4, .inl (G.2 0, 4820, .inl f_593))] H := hP
              have hD := z_tie hP hD rfl
              obtain ⟨v_594, ev_594⟩ : ∃ z : Int32, z = y_580 + (-1) := ⟨_, rfl⟩
              obtain ⟨qv_594, hv_594⟩ := zI_add (l := 1) (h := 4818) hv_590 zc_m1 ev_594 (by decide)
              rw [li_m1] at qv_594
              refine lv_iinc (v := v_594) (lv' := [(5, .int v_594), (4, .int y_433), (3, .int v_1), (0, .ref b0), (1, .int b1), (2, .int b2)]) hx hb d_Follows_insert_93 hl (k := 0) rfl (by rw [ev_594]; rfl) (by decide) rfl (fun ls hl => ?_)
              refine lv_goto (tgt := 70) hx hb d_Follows_insert_96 (by decide) ?_
              exact ihk_579 (v_594) (f_593) _ _ _ (zI.wk (l' := 0) (h' := 4819) hv_594 (by decide)) (zm_dn qv_594 hmk_579 (by decide)) hP hD hS (lv_sub hl [0, 1, 2, 3, 4, 5] rfl)
        · have _nhc_545 := hc_545
          have ni_595 := (fa_lt _ _).mp (zi_nle hc_545)
          refine lv_aload_n hx hb d_Follows_insert_46 rfl (lv_at hl 2 rfl) ?_
          refine va_get (D := G.1) (ci := 4) (v := .ref b4) (C := R_Follows) (T := F_Follows) (N := 3) hx hb hts i_Follows hown hK hP 0 rfl rfl 1 (by decide) (hts _ q148) (fun _ h9 => h9) rfl d_Follows_insert_47 ?_
          refine lv_iload hx hb d_Follows_insert_50 (lv_at hl 0 rfl) ?_
          refine lv_iconst (v := 1) hx hb d_Follows_insert_52 (by decide) ?_
          refine lv_isub hx hb d_Follows_insert_53 ?_
          refine lv_topi (fun v_596 ev_596 => ?_)
          obtain rfl : v_541 = v_596 := ev_541.trans ev_596.symm
          refine va_iald hx hb hK hP 2 0 rfl rfl (zI.inn hv_541 (by decide)) d_Follows_insert_54 ?_
          refine lv_topi (fun v_597 ev_597 => ?_)
          obtain rfl : v_542 = v_597 := ev_542.trans ev_597.symm
          refine lv_iload_n hx hb d_Follows_insert_55 rfl (lv_at hl 4 rfl) ?_
          refine lv_icmp_ne (tgt := 60) hx hb d_Follows_insert_56 (by decide) (fun hc_598 => ?_) (fun hc_598 => ?_)
          · have _nhc_598 := hc_598
            have ni_599 : ¬ (v_542 : Int32).toInt = (b2 : Int32).toInt := fun z => hc_598 ((fa_eq _ _).mpr z)
            refine lv_iload_n hx hb d_Follows_insert_60 rfl (lv_at hl 1 rfl) ?_
            refine lv_aload_n hx hb d_Follows_insert_61 rfl (lv_at hl 2 rfl) ?_
            refine va_get (D := G.1) (ci := 4) (v := .ref b3) (C := R_Follows) (T := F_Follows) (N := 3) hx hb hts i_Follows hown hK hP 0 rfl rfl 0 (by decide) (hts _ q146) (fun _ h9 => h9) rfl d_Follows_insert_62 ?_
            refine lv_iload_n hx hb d_Follows_insert_65 rfl (lv_at hl 3 rfl) ?_
            refine va_iald hx hb hK hP 1 0 rfl rfl (zI.inn hb1 (by decide)) d_Follows_insert_66 ?_
            refine lv_topi (fun v_600 ev_600 => ?_)
            obtain rfl : v_2 = v_600 := ev_2.trans ev_600.symm
            refine lv_iadd hx hb d_Follows_insert_67 ?_
            refine lv_topi (fun v_601 ev_601 => ?_)
            obtain rfl : v_3 = v_601 := ev_3.trans ev_601.symm
            refine lv_istore (lv' := [(5, .int v_3), (4, .int y_433), (3, .int v_1), (0, .ref b0), (1, .int b1), (2, .int b2)]) hx hb d_Follows_insert_68 hl (by decide) rfl (fun ls hl => ?_)
            suffices key : ∀ (k_630 : Nat) (y_631 : Int32) (y_632 : Nat → Int32) (H : Heap) (locs : List Loc) (ls : Array Slot), (zI y_631 0 4819) → y_631.toInt - (0) < (k_630 : Int) → va_P G.1 classes [(b0, .inr (4, [.ref b3, .ref b4, .ref b5])), (b3, .inl (G.2 0, 241, .inl b6)), (b4, .inl (G.2 0, 4820, .inl y_632))] H → va_D A [(b0, .inr (4, [.ref b3, .ref b4, .ref b5])), (b3, .inl (G.2 0, 241, .inl b6)), (b4, .inl (G.2 0, 4820, .inl y_632))] → va_S A s.heap H locs → lv_has ls 6 [(5, .int y_631), (4, .int y_433), (3, .int v_1), (0, .ref b0), (1, .int b1), (2, .int b2)] → W p l e m_s2_Follows_insert s m ([.ref b0, .int b1, .int b2] : List Value).toArray below meth c H locs 0 0 (MQ below (zQ G (fun v w => ∃ (e0 : Nat → Int32), ∃ (e1 : Nat → Int32), v = none ∧ w = [(b0, .inr (4, [.ref b3, .ref b4, .ref b5])), (b3, .inl (G.2 0, 241, .inl e0)), (b4, .inl (G.2 0, 4820, .inl e1))] ∧ (zqa qC e0) ∧ (∀ q : Nat, (e0 q).toInt = (b6 q).toInt ∨ q = b1.toNatClampNeg ∧ (e0 q).toInt = (b6 q).toInt + 1)) A) ([.ref b0, .int b1, .int b2] : List Value).toArray s m_s2_Follows_insert.cells m_s2_Follows_insert.slots A) (F0 m 70 ls []) by
              exact key 4820 (v_3) (b7) _ _ _ hv_4 (zm_dni hv_4 (by decide)) hP hD hS (lv_sub hl [0, 1, 2, 3, 4, 5] rfl)
            intro k_630
            induction k_630 with
            | zero =>
              intro y_631 y_632 H locs ls hy_631 hmk_630 hP hD hS hl
              exact (zm_dn0 hy_631 hmk_630).elim
            | succ k_630 ihk_630 =>
              intro y_631 y_632 H locs ls hy_631 hmk_630 hP hD hS hl
              refine lv_iload hx hb d_Follows_insert_70 (lv_at hl 0 rfl) ?_
              refine lv_iload hx hb d_Follows_insert_72 (lv_at hl 1 rfl) ?_
              refine lv_icmp_le (tgt := 99) hx hb d_Follows_insert_74 (by decide) (fun hc_633 => ?_) (fun hc_633 => ?_)
              · have _nhc_633 := hc_633
                have ni_634 := (fa_le _ _).mp hc_633
                refine lv_aload_n hx hb d_Follows_insert_99 rfl (lv_at hl 3 rfl) ?_
                refine va_get (D := G.1) (ci := 4) (v := .ref b4) (C := R_Follows) (T := F_Follows) (N := 3) hx hb hts i_Follows hown hK hP 0 rfl rfl 1 (by decide) (hts _ q148) (fun _ h9 => h9) rfl d_Follows_insert_100 ?_
                refine lv_iload hx hb d_Follows_insert_103 (lv_at hl 1 rfl) ?_
                refine lv_iload_n hx hb d_Follows_insert_105 rfl (lv_at hl 5 rfl) ?_
                refine va_iast hx hb hK hP hD hS 2 0 rfl rfl (zI.inn hv_540 (by decide)) d_Follows_insert_106 (fun H locs hP hD hS => ?_)
                obtain ⟨f_635, gf_635, uf_635, hP, hD⟩ := z_newFu 2 hP hD rfl
                have hP : va_P G.1 classes [(b0, .inr (4, [.ref b3, .ref b4, .ref b5])), (b3, .inl (G.2 0, 241, .inl b6)), (b4, .inl (G.2 0, 4820, .inl f_635))] H := hP
                have hD := z_tie hP hD rfl
                refine lv_aload_n hx hb d_Follows_insert_107 rfl (lv_at hl 3 rfl) ?_
                refine va_get (D := G.1) (ci := 4) (v := .ref b3) (C := R_Follows) (T := F_Follows) (N := 3) hx hb hts i_Follows hown hK hP 0 rfl rfl 0 (by decide) (hts _ q146) (fun _ h9 => h9) rfl d_Follows_insert_108 ?_
                refine lv_iload_n hx hb d_Follows_insert_111 rfl (lv_at hl 4 rfl) ?_
                refine lv_dup2_11 hx hb d_Follows_insert_112 rfl rfl ?_
                refine va_iald hx hb hK hP 1 0 rfl rfl (zI.inn hb1 (by decide)) d_Follows_insert_113 ?_
                refine lv_topi (fun v_636 ev_636 => ?_)
                obtain rfl : v_2 = v_636 := ev_2.trans ev_636.symm
                refine lv_iconst (v := 1) hx hb d_Follows_insert_114 (by decide) ?_
                refine lv_iadd hx hb d_Follows_insert_115 ?_
                refine lv_topi (fun v_637 ev_637 => ?_)
                obtain ⟨qv_637, hv_637⟩ := zI_add (l := 1) (h := 261) hv_2 zc_1 ev_637 (by decide)
                rw [li_1] at qv_637
                refine va_iast hx hb hK hP hD hS 1 0 rfl rfl (zI.inn hb1 (by decide)) d_Follows_insert_116 (fun H locs hP hD hS => ?_)
                obtain ⟨f_638, hf_638, gf_638, uf_638, hP, hD⟩ := z_newq_ (Q := qC) 1 hP hD rfl hb6 (qC_v hb1 (by decide) ⟨⟨by have _w := hv_637; have _x := hb1; omega, by have _w := hv_637; have _x := hb1; omega⟩, by have _w := hv_637; have _x := hb1; omega⟩)
                have hP : va_P G.1 classes [(b0, .inr (4, [.ref b3, .ref b4, .ref b5])), (b3, .inl (G.2 0, 241, .inl f_638)), (b4, .inl (G.2 0, 4820, .inl f_635))] H := hP
                have hD := z_tie hP hD rfl
                exact z_vret hx hb hr hlocks hP hD hS (Nat.le_of_ble_eq_true rfl) (Nat.le_of_ble_eq_true rfl) d_Follows_insert_117 ⟨f_638, f_635, rfl, rfl, hf_638, (by intro q; rw [uf_638, z_at]; split; rename_i h; right; refine ⟨h, ?_⟩; rw [h, ← ev_2]; omega; left; rfl)⟩
              · have _nhc_633 := hc_633
                have ni_639 := (fa_lt _ _).mp (zi_nle hc_633)
                have hv_640 : zI y_433 1 4818 := zI.lt_l hv_540 hy_631 (zi_nle hc_633) (by decide)
                have hv_641 : zI y_631 2 4819 := zI.lt_r hv_540 hy_631 (zi_nle hc_633) (by decide)
                refine lv_aload_n hx hb d_Follows_insert_77 rfl (lv_at hl 3 rfl) ?_
                refine va_get (D := G.1) (ci := 4) (v := .ref b4) (C := R_Follows) (T := F_Follows) (N := 3) hx hb hts i_Follows hown hK hP 0 rfl rfl 1 (by decide) (hts _ q148) (fun _ h9 => h9) rfl d_Follows_insert_78 ?_
                refine lv_iload hx hb d_Follows_insert_81 (lv_at hl 0 rfl) ?_
                refine lv_aload_n hx hb d_Follows_insert_83 rfl (lv_at hl 3 rfl) ?_
                refine va_get (D := G.1) (ci := 4) (v := .ref b4) (C := R_Follows) (T := F_Follows) (N := 3) hx hb hts i_Follows hown hK hP 0 rfl rfl 1 (by decide) (hts _ q148) (fun _ h9 => h9) rfl d_Follows_insert_84 ?_
                refine lv_iload hx hb d_Follows_insert_87 (lv_at hl 0 rfl) ?_
                refine lv_iconst (v := 1) hx hb d_Follows_insert_89 (by decide) ?_
                refine lv_isub hx hb d_Follows_insert_90 ?_
                refine lv_topi (fun v_642 ev_642 => ?_)
                obtain ⟨qv_642, hv_642⟩ := zI_sub (l := 1) (h := 4818) hv_641 zc_1 ev_642 (by decide)
                rw [li_1] at qv_642
                refine va_iald hx hb hK hP 2 0 rfl rfl (zI.inn hv_642 (by decide)) d_Follows_insert_91 ?_
                refine lv_topi (fun v_643 ev_643 => ?_)
                refine va_iast hx hb hK hP hD hS 2 0 rfl rfl (zI.inn hv_641 (by decide)) d_Follows_insert_92 (fun H locs hP hD hS => ?_)
                obtain ⟨f_644, gf_644, uf_644, hP, hD⟩ := z_newFu 2 hP hD rfl
                have hP : va_P G.1 classes [(b0, .inr (4, [.ref b3, .ref b4, .ref b5])), (b3, .inl (G.2 0, 241, .inl b6)), (b4, .inl (G.2 0, 4820, .inl f_644))] H := hP
                have hD := z_tie hP hD rfl
                obtain ⟨v_645, ev_645⟩ : ∃ z : Int32, z = y_631 + (-1) := ⟨_, rfl⟩
                obtain ⟨qv_645, hv_645⟩ := zI_add (l := 1) (h := 4818) hv_641 zc_m1 ev_645 (by decide)
                rw [li_m1] at qv_645
                refine lv_iinc (v := v_645) (lv' := [(5, .int v_645), (4, .int y_433), (3, .int v_1), (0, .ref b0), (1, .int b1), (2, .int b2)]) hx hb d_Follows_insert_93 hl (k := 0) rfl (by rw [ev_645]; rfl) (by decide) rfl (fun ls hl => ?_)
                refine lv_goto (tgt := 70) hx hb d_Follows_insert_96 (by decide) ?_
                exact ihk_630 (v_645) (f_644) _ _ _ (zI.wk (l' := 0) (h' := 4819) hv_645 (by decide)) (zm_dn qv_645 hmk_630 (by decide)) hP hD hS (lv_sub hl [0, 1, 2, 3, 4, 5] rfl)
          · have _nhc_598 := hc_598
            have ni_646 := (fa_eq _ _).mp hc_598
            exact z_vret hx hb hr hlocks hP hD hS (Nat.le_of_ble_eq_true rfl) (Nat.le_of_ble_eq_true rfl) d_Follows_insert_59 ⟨b6, b7, rfl, rfl, hb6, (fun _ => Or.inl rfl)⟩
      · have _nhc_543 := hc_543
        have ni_647 := (fa_lt _ _).mp (zi_nle hc_543)
        have hv_648 : zI b2 (-2147483648) 2147483646 := zI.lt_l (zI_all b2) (zI_all v_542) (zi_nle hc_543) (by decide)
        have hv_649 : zI v_542 (-2147483647) 2147483647 := zI.lt_r (zI_all b2) (zI_all v_542) (zi_nle hc_543) (by decide)
        obtain ⟨v_650, ev_650⟩ : ∃ z : Int32, z = y_433 + (-1) := ⟨_, rfl⟩
        obtain ⟨qv_650, hv_650⟩ := zI_add (l := 0) (h := 4818) hv_540 zc_m1 ev_650 (by decide)
        rw [li_m1] at qv_650
        refine lv_iinc (v := v_650) (lv' := [(4, .int v_650), (3, .int v_1), (0, .ref b0), (1, .int b1), (2, .int b2)]) hx hb d_Follows_insert_34 hl (k := 0) rfl (by rw [ev_650]; rfl) (by decide) rfl (fun ls hl => ?_)
        refine lv_goto (tgt := 15) hx hb d_Follows_insert_37 (by decide) ?_
        exact ihk_432 (v_650) _ _ _ (zI.wk (l' := 0) (h' := 4819) hv_650 (by decide)) (zm_dn qv_650 hmk_432 (by decide)) hP hD hS (lv_sub hl [0, 1, 2, 3, 4] rfl)
abbrev m_s1_Follows_gather : Room := { frames := 2, cells := 0, slots := 0, locals := 48 }
set_option maxHeartbeats 4000000 in
set_option maxRecDepth 100000 in
theorem s1_Follows_gather (l : Launch) (G : zG) (b0 : Nat) (b1 : Nat) (b2 : Nat) (b3 : Int32) (b4 : Nat) (b5 : Nat) (b6 : Nat) (b7 : Nat → Int32) (b8 : Nat → Int32) (b9 : Nat → Int32) (b10 : Int32) (b11 : Int32) (b12 : Int32) (b13 : Nat) (b14 : Nat) (b15 : Nat) (b16 : Nat → Int32) (b17 : Nat → Int32) (b18 : Int32) (b19 : Int32) (b20 : Int32) (b21 : Nat) (b22 : Nat) (b23 : Nat) (b24 : Nat) (b25 : Nat) (b26 : Nat) (b27 : Nat) (b28 : Nat) (b29 : Nat → Int32) (hb3 : zI b3 0 3) (hb10 : zI b10 0 20) (hb11 : zI b11 0 3) (hb12 : zI b12 0 20) (hb18 : zI b18 0 1) (hb20 : zI b20 0 241) (hb7 : zqa qC b7) (hb9 : zR b9 (-1) 240) (hb16 : zR b16 0 12) (hb17 : zR b17 0 9) (hb29 : zqa qP b29) (htr : zTr (b10 : Int32).toInt (b19 : Int32).toInt (b20 : Int32).toInt b16 b29) : zM l G y_Follows_gather prog_3_method_2_code 6 (Option.none : Option Jvm.ClassFile.FieldType) m_s1_Follows_gather [.ref b0, .ref b1, .ref b2, .int b3] [(b0, .inr (4, [.ref b4, .ref b5, .ref b6])), (b4, .inl (G.2 0, 241, .inl b7)), (b5, .inl (G.2 0, 4820, .inl b8)), (b6, .inl (G.2 0, 512, .inl b9)), (b1, .inr (2, [.int b10, .int b11, .int b12, .ref b13, .ref b14, .ref b15])), (b13, .inl (G.2 0, 20, .inl b16)), (b14, .inl (G.2 0, 240, .inl b17)), (b2, .inr (3, [.int b18, .int b19, .int b20, .ref b21, .ref b22, .ref b23, .ref b24, .ref b25, .ref b26, .ref b27, .ref b28])), (b28, .inl (G.2 0, 260, .inl b29))] (fun v w => ∃ (e0 : Nat → Int32), ∃ (e1 : Nat → Int32), ∃ (e2 : Nat → Int32), v = none ∧ w = [(b0, .inr (4, [.ref b4, .ref b5, .ref b6])), (b4, .inl (G.2 0, 241, .inl e0)), (b5, .inl (G.2 0, 4820, .inl e1)), (b6, .inl (G.2 0, 512, .inl e2)), (b1, .inr (2, [.int b10, .int b11, .int b12, .ref b13, .ref b14, .ref b15])), (b13, .inl (G.2 0, 20, .inl b16)), (b14, .inl (G.2 0, 240, .inl b17)), (b2, .inr (3, [.int b18, .int b19, .int b20, .ref b21, .ref b22, .ref b23, .ref b24, .ref b25, .ref b26, .ref b27, .ref b28])), (b28, .inl (G.2 0, 260, .inl b29))] ∧ (zqa qC e0) ∧ (zR e2 (-1) 240)) := by
  refine z_start (by decide +kernel) (Nat.le_of_ble_eq_true rfl) ?_
  intro p e s m below meth c A Z hr hnm hA hP hD hS ls hl
  have Z : zC p s m _ meth c prog_3_method_2_code 6 "TraceMachines$Follows" G := Z
  obtain ⟨hx, hb, hml, hown, hts, hK, hN, hlocks⟩ := id Z
  have hl : lv_has ls 6 [(0, .ref b0), (1, .ref b1), (2, .ref b2), (3, .int b3)] := hl
  refine lv_aload_n hx hb d_Follows_gather_0 rfl (lv_at hl 0 rfl) ?_
  refine va_get (D := G.1) (ci := 4) (v := .ref b6) (C := R_Follows) (T := F_Follows) (N := 3) hx hb hts i_Follows hown hK hP 0 rfl rfl 2 (by decide) (hts _ q149) (fun _ h9 => h9) rfl d_Follows_gather_1 ?_
  refine lv_iconst (v := (-1)) hx hb d_Follows_gather_4 (by decide) ?_
  refine z_callS (index := 21) (As := [.ref b6, .int (-1)]) (rest := []) (wr := [(b0, .inr (4, [.ref b4, .ref b5, .ref b6])), (b4, .inl (G.2 0, 241, .inl b7)), (b5, .inl (G.2 0, 4820, .inl b8)), (b1, .inr (2, [.int b10, .int b11, .int b12, .ref b13, .ref b14, .ref b15])), (b13, .inl (G.2 0, 20, .inl b16)), (b14, .inl (G.2 0, 240, .inl b17)), (b2, .inr (3, [.int b18, .int b19, .int b20, .ref b21, .ref b22, .ref b23, .ref b24, .ref b25, .ref b26, .ref b27, .ref b28])), (b28, .inl (G.2 0, 260, .inl b29))]) Z (c_fill_I l G (b6) (512) (b9) ((-1)) (by decide)) hl.1 q605 q415 q13 q416 ⟨by decide, by decide, by show _ = some 2; decide +kernel⟩ ⟨Nat.le_of_ble_eq_true rfl, Nat.le_of_ble_eq_true rfl⟩ ⟨Nat.le_of_ble_eq_true rfl, Nat.le_of_ble_eq_true rfl⟩ rfl (Nat.le_of_ble_eq_true rfl) d_Follows_gather_5 hP hD hS hA [3] [0, 1, 2, 4, 5, 6, 7, 8] rfl rfl rfl rfl (by decide) (fun v w1 H locs hw_1 hP hD hS => ?_)
  obtain ⟨rfl, rfl⟩ := hw_1
  have hP : va_P G.1 classes [(b0, .inr (4, [.ref b4, .ref b5, .ref b6])), (b4, .inl (G.2 0, 241, .inl b7)), (b5, .inl (G.2 0, 4820, .inl b8)), (b1, .inr (2, [.int b10, .int b11, .int b12, .ref b13, .ref b14, .ref b15])), (b13, .inl (G.2 0, 20, .inl b16)), (b14, .inl (G.2 0, 240, .inl b17)), (b2, .inr (3, [.int b18, .int b19, .int b20, .ref b21, .ref b22, .ref b23, .ref b24, .ref b25, .ref b26, .ref b27, .ref b28])), (b28, .inl (G.2 0, 260, .inl b29)), (b6, .inl (G.2 0, 512, .inl (fun _ => (-1))))] H := hP
  have hD := z_tie hP hD rfl
  refine W.widen (k := 0) (n := 0) (Nat.le_of_ble_eq_true rfl) (Nat.le_of_ble_eq_true rfl) ?_
  refine lv_iconst (v := 0) hx hb d_Follows_gather_8 (by decide) ?_
  refine lv_istore (lv' := [(4, .int 0), (0, .ref b0), (1, .ref b1), (2, .ref b2), (3, .int b3)]) hx hb d_Follows_gather_9 hl (by decide) rfl (fun ls hl => ?_)
  suffices key : ∀ (k_10754 : Nat) (y_10755 : Int32) (y_10756 : Nat → Int32) (H : Heap) (locs : List Loc) (ls : Array Slot), (zI y_10755 0 241) → (zqa qC y_10756) → (∀ q : Nat, (q : Int) < (y_10755 : Int32).toInt → (y_10756 q).toInt = 0) → (241 : Int) - y_10755.toInt < (k_10754 : Int) → va_P G.1 classes [(b0, .inr (4, [.ref b4, .ref b5, .ref b6])), (b4, .inl (G.2 0, 241, .inl y_10756)), (b5, .inl (G.2 0, 4820, .inl b8)), (b1, .inr (2, [.int b10, .int b11, .int b12, .ref b13, .ref b14, .ref b15])), (b13, .inl (G.2 0, 20, .inl b16)), (b14, .inl (G.2 0, 240, .inl b17)), (b2, .inr (3, [.int b18, .int b19, .int b20, .ref b21, .ref b22, .ref b23, .ref b24, .ref b25, .ref b26, .ref b27, .ref b28])), (b28, .inl (G.2 0, 260, .inl b29)), (b6, .inl (G.2 0, 512, .inl (fun _ => (-1))))] H → va_D A [(b0, .inr (4, [.ref b4, .ref b5, .ref b6])), (b4, .inl (G.2 0, 241, .inl y_10756)), (b5, .inl (G.2 0, 4820, .inl b8)), (b1, .inr (2, [.int b10, .int b11, .int b12, .ref b13, .ref b14, .ref b15])), (b13, .inl (G.2 0, 20, .inl b16)), (b14, .inl (G.2 0, 240, .inl b17)), (b2, .inr (3, [.int b18, .int b19, .int b20, .ref b21, .ref b22, .ref b23, .ref b24, .ref b25, .ref b26, .ref b27, .ref b28])), (b28, .inl (G.2 0, 260, .inl b29)), (b6, .inl (G.2 0, 512, .inl (fun _ => (-1))))] → va_S A s.heap H locs → lv_has ls 6 [(4, .int y_10755), (0, .ref b0), (1, .ref b1), (2, .ref b2), (3, .int b3)] → W p l e m_s1_Follows_gather s m ([.ref b0, .ref b1, .ref b2, .int b3] : List Value).toArray below meth c H locs 0 0 (MQ below (zQ G (fun v w => ∃ (e0 : Nat → Int32), ∃ (e1 : Nat → Int32), ∃ (e2 : Nat → Int32), v = none ∧ w = [(b0, .inr (4, [.ref b4, .ref b5, .ref b6])), (b4, .inl (G.2 0, 241, .inl e0)), (b5, .inl (G.2 0, 4820, .inl e1)), (b6, .inl (G.2 0, 512, .inl e2)), (b1, .inr (2, [.int b10, .int b11, .int b12, .ref b13, .ref b14, .ref b15])), (b13, .inl (G.2 0, 20, .inl b16)), (b14, .inl (G.2 0, 240, .inl b17)), (b2, .inr (3, [.int b18, .int b19, .int b20, .ref b21, .ref b22, .ref b23, .ref b24, .ref b25, .ref b26, .ref b27, .ref b28])), (b28, .inl (G.2 0, 260, .inl b29))] ∧ (zqa qC e0) ∧ (zR e2 (-1) 240)) A) ([.ref b0, .ref b1, .ref b2, .int b3] : List Value).toArray s m_s1_Follows_gather.cells m_s1_Follows_gather.slots A) (F0 m 11 ls []) by
    exact key 242 (0) (b7) _ _ _ (zI.wk (l' := 0) (h' := 241) zc_0 (by decide)) hb7 (by have _l0 := li_0; intro q hq; omega) (zm_upi (zI.wk (l' := 0) (h' := 241) zc_0 (by decide)) (by decide)) hP hD hS (lv_sub hl [0, 1, 2, 3, 4] rfl)
  intro k_10754
  induction k_10754 with
  | zero =>
    intro y_10755 y_10756 H locs ls hy_10755 hy_10756 hli_10757 hmk_10754 hP hD hS hl
    exact (zm_up0 hy_10755 hmk_10754).elim
  | succ k_10754 ihk_10754 =>
    intro y_10755 y_10756 H locs ls hy_10755 hy_10756 hli_10757 hmk_10754 hP hD hS hl
    refine lv_iload hx hb d_Follows_gather_11 (lv_at hl 0 rfl) ?_
    refine lv_aload_n hx hb d_Follows_gather_13 rfl (lv_at hl 3 rfl) ?_
    refine va_get (D := G.1) (ci := 3) (v := .int b20) (C := R_Tree) (T := F_Tree) (N := 11) hx hb hts i_Tree hown hK hP 6 rfl rfl 2 (by decide) (hts _ q99) (fun _ h9 => h9) rfl d_Follows_gather_14 ?_
    refine lv_icmp_ge (tgt := 34) hx hb d_Follows_gather_17 (by decide) (fun hc_10758 => ?_) (fun hc_10758 => ?_)
    · have _nhc_10758 := hc_10758
      have ni_10759 := (fa_le _ _).mp hc_10758
      refine lv_iconst (v := 0) hx hb d_Follows_gather_34 (by decide) ?_
      refine lv_istore (lv' := [(4, .int 0), (0, .ref b0), (1, .ref b1), (2, .ref b2), (3, .int b3)]) hx hb d_Follows_gather_35 hl (by decide) rfl (fun ls hl => ?_)
      suffices key : ∀ (k_11775 : Nat) (y_11776 : Int32) (y_11777 : Nat → Int32) (y_11778 : Nat → Int32) (H : Heap) (locs : List Loc) (ls : Array Slot), (zI y_11776 0 20) → (zqa qC y_11777) → (∀ q : Nat, (q : Int) < (b20 : Int32).toInt → (y_11777 q).toInt = 0 ∨ (y_11777 q).toInt + (q : Int) ≤ 13 * (y_11776 : Int32).toInt) → (20 : Int) - y_11776.toInt < (k_11775 : Int) → va_P G.1 classes [(b0, .inr (4, [.ref b4, .ref b5, .ref b6])), (b4, .inl (G.2 0, 241, .inl y_11777)), (b5, .inl (G.2 0, 4820, .inl y_11778)), (b1, .inr (2, [.int b10, .int b11, .int b12, .ref b13, .ref b14, .ref b15])), (b13, .inl (G.2 0, 20, .inl b16)), (b14, .inl (G.2 0, 240, .inl b17)), (b2, .inr (3, [.int b18, .int b19, .int b20, .ref b21, .ref b22, .ref b23, .ref b24, .ref b25, .ref b26, .ref b27, .ref b28])), (b28, .inl (G.2 0, 260, .inl b29)), (b6, .inl (G.2 0, 512, .inl (fun _ => (-1))))] H → va_D A [(b0, .inr (4, [.ref b4, .ref b5, .ref b6])), (b4, .inl (G.2 0, 241, .inl y_11777)), (b5, .inl (G.2 0, 4820, .inl y_11778)), (b1, .inr (2, [.int b10, .int b11, .int b12, .ref b13, .ref b14, .ref b15])), (b13, .inl (G.2 0, 20, .inl b16)), (b14, .inl (G.2 0, 240, .inl b17)), (b2, .inr (3, [.int b18, .int b19, .int b20, .ref b21, .ref b22, .ref b23, .ref b24, .ref b25, .ref b26, .ref b27, .ref b28])), (b28, .inl (G.2 0, 260, .inl b29)), (b6, .inl (G.2 0, 512, .inl (fun _ => (-1))))] → va_S A s.heap H locs → lv_has ls 6 [(4, .int y_11776), (0, .ref b0), (1, .ref b1), (2, .ref b2), (3, .int b3)] → W p l e m_s1_Follows_gather s m ([.ref b0, .ref b1, .ref b2, .int b3] : List Value).toArray below meth c H locs 0 0 (MQ below (zQ G (fun v w => ∃ (e0 : Nat → Int32), ∃ (e1 : Nat → Int32), ∃ (e2 : Nat → Int32), v = none ∧ w = [(b0, .inr (4, [.ref b4, .ref b5, .ref b6])), (b4, .inl (G.2 0, 241, .inl e0)), (b5, .inl (G.2 0, 4820, .inl e1)), (b6, .inl (G.2 0, 512, .inl e2)), (b1, .inr (2, [.int b10, .int b11, .int b12, .ref b13, .ref b14, .ref b15])), (b13, .inl (G.2 0, 20, .inl b16)), (b14, .inl (G.2 0, 240, .inl b17)), (b2, .inr (3, [.int b18, .int b19, .int b20, .ref b21, .ref b22, .ref b23, .ref b24, .ref b25, .ref b26, .ref b27, .ref b28])), (b28, .inl (G.2 0, 260, .inl b29))] ∧ (zqa qC e0) ∧ (zR e2 (-1) 240)) A) ([.ref b0, .ref b1, .ref b2, .int b3] : List Value).toArray s m_s1_Follows_gather.cells m_s1_Follows_gather.slots A) (F0 m 37 ls []) by
        exact key 21 (0) (y_10756) (b8) _ _ _ (zI.wk (l' := 0) (h' := 20) zc_0 (by decide)) hy_10756 (by have _l0 := li_0; intro q hq; left; exact hli_10757 q (by omega)) (zm_upi (zI.wk (l' := 0) (h' := 20) zc_0 (by decide)) (by decide)) hP hD hS (lv_sub hl [0, 1, 2, 3, 4] rfl)
      intro k_11775
      induction k_11775 with
      | zero =>
        intro y_11776 y_11777 y_11778 H locs ls hy_11776 hy_11777 hli_11779 hmk_11775 hP hD hS hl
        exact (zm_up0 hy_11776 hmk_11775).elim
      | succ k_11775 ihk_11775 =>
        intro y_11776 y_11777 y_11778 H locs ls hy_11776 hy_11777 hli_11779 hmk_11775 hP hD hS hl
        refine lv_iload hx hb d_Follows_gather_37 (lv_at hl 0 rfl) ?_
        refine lv_aload_n hx hb d_Follows_gather_39 rfl (lv_at hl 2 rfl) ?_
        refine va_get (D := G.1) (ci := 2) (v := .int b10) (C := R_Traces) (T := F_Traces) (N := 6) hx hb hts i_Traces hown hK hP 3 rfl rfl 0 (by decide) (hts _ q55) (fun _ h9 => h9) rfl d_Follows_gather_40 ?_
        refine lv_icmp_ge (tgt := 103) hx hb d_Follows_gather_43 (by decide) (fun hc_11780 => ?_) (fun hc_11780 => ?_)
        · have _nhc_11780 := hc_11780
          have ni_11781 := (fa_le _ _).mp hc_11780
          exact z_vret hx hb hr hlocks (hP.sub [0, 1, 2, 8, 3, 4, 5, 6, 7] rfl) (hD.sub [0, 1, 2, 8, 3, 4, 5, 6, 7] (by decide) rfl) hS (Nat.le_of_ble_eq_true rfl) (Nat.le_of_ble_eq_true rfl) d_Follows_gather_103 ⟨y_11777, y_11778, (fun _ => (-1)), rfl, rfl, hy_11777, (zR_c (zI.wk (l' := (-1)) (h' := 240) zc_m1 (by decide)))⟩
        · have _nhc_11780 := hc_11780
          have ni_11782 := (fa_lt _ _).mp (zi_nle hc_11780)
          have hv_11783 : zI y_11776 0 19 := zI.lt_l hy_11776 hb10 (zi_nle hc_11780) (by decide)
          have hv_11784 : zI b10 1 20 := zI.lt_r hy_11776 hb10 (zi_nle hc_11780) (by decide)
          refine lv_iload hx hb d_Follows_gather_46 (lv_at hl 0 rfl) ?_
          refine lv_aload_n hx hb d_Follows_gather_48 rfl (lv_at hl 3 rfl) ?_
          refine va_get (D := G.1) (ci := 3) (v := .int b19) (C := R_Tree) (T := F_Tree) (N := 11) hx hb hts i_Tree hown hK hP 6 rfl rfl 1 (by decide) (hts _ q97) (fun _ h9 => h9) rfl d_Follows_gather_49 ?_
          refine lv_icmp_eq (tgt := 97) hx hb d_Follows_gather_52 (by decide) (fun hc_11785 => ?_) (fun hc_11785 => ?_)
          · have _nhc_11785 := hc_11785
            have ni_11786 := (fa_eq _ _).mp hc_11785
            have hv_11787 : zI b19 0 19 := zI.eq_l (zI_all b19) hv_11783 hc_11785.symm
            obtain ⟨v_11788, ev_11788⟩ : ∃ z : Int32, z = y_11776 + 1 := ⟨_, rfl⟩
            obtain ⟨qv_11788, hv_11788⟩ := zI_add (l := 1) (h := 20) hv_11783 zc_1 ev_11788 (by decide)
            rw [li_1] at qv_11788
            refine lv_iinc (v := v_11788) (lv' := [(4, .int v_11788), (0, .ref b0), (1, .ref b1), (2, .ref b2), (3, .int b3)]) hx hb d_Follows_gather_97 hl (k := 0) rfl (by rw [ev_11788]; rfl) (by decide) rfl (fun ls hl => ?_)
            refine lv_goto (tgt := 37) hx hb d_Follows_gather_100 (by decide) ?_
            exact ihk_11775 (v_11788) (y_11777) (y_11778) _ _ _ (zI.wk (l' := 0) (h' := 20) hv_11788 (by decide)) hy_11777 (by intro q hq; have := hli_11779 q hq; omega) (zm_up qv_11788 hmk_11775 (by decide)) hP hD hS (lv_sub hl [0, 1, 2, 3, 4] rfl)
          · have _nhc_11785 := hc_11785
            have ni_11789 : ¬ (y_11776 : Int32).toInt = (b19 : Int32).toInt := fun z => hc_11785 ((fa_eq _ _).mpr z)
            refine lv_iconst (v := 0) hx hb d_Follows_gather_55 (by decide) ?_
            refine lv_istore (lv' := [(5, .int 0), (4, .int y_11776), (0, .ref b0), (1, .ref b1), (2, .ref b2), (3, .int b3)]) hx hb d_Follows_gather_56 hl (by decide) rfl (fun ls hl => ?_)
            suffices key : ∀ (k_11927 : Nat) (y_11928 : Int32) (y_11929 : Nat → Int32) (y_11930 : Nat → Int32) (H : Heap) (locs : List Loc) (ls : Array Slot), (zI y_11928 0 13) → (zqa qC y_11929) → (∀ q : Nat, (q : Int) < (b20 : Int32).toInt → (y_11929 q).toInt = 0 ∨ (y_11929 q).toInt + (q : Int) ≤ 13 * (y_11776 : Int32).toInt + (y_11928 : Int32).toInt) → (13 : Int) - y_11928.toInt < (k_11927 : Int) → va_P G.1 classes [(b0, .inr (4, [.ref b4, .ref b5, .ref b6])), (b4, .inl (G.2 0, 241, .inl y_11929)), (b5, .inl (G.2 0, 4820, .inl y_11930)), (b1, .inr (2, [.int b10, .int b11, .int b12, .ref b13, .ref b14, .ref b15])), (b13, .inl (G.2 0, 20, .inl b16)), (b14, .inl (G.2 0, 240, .inl b17)), (b2, .inr (3, [.int b18, .int b19, .int b20, .ref b21, .ref b22, .ref b23, .ref b24, .ref b25, .ref b26, .ref b27, .ref b28])), (b28, .inl (G.2 0, 260, .inl b29)), (b6, .inl (G.2 0, 512, .inl (fun _ => (-1))))] H → va_D A [(b0, .inr (4, [.ref b4, .ref b5, .ref b6])), (b4, .inl (G.2 0, 241, .inl y_11929)), (b5, .inl (G.2 0, 4820, .inl y_11930)), (b1, .inr (2, [.int b10, .int b11, .int b12, .ref b13, .ref b14, .ref b15])), (b13, .inl (G.2 0, 20, .inl b16)), (b14, .inl (G.2 0, 240, .inl b17)), (b2, .inr (3, [.int b18, .int b19, .int b20, .ref b21, .ref b22, .ref b23, .ref b24, .ref b25, .ref b26, .ref b27, .ref b28])), (b28, .inl (G.2 0, 260, .inl b29)), (b6, .inl (G.2 0, 512, .inl (fun _ => (-1))))] → va_S A s.heap H locs → lv_has ls 6 [(5, .int y_11928), (4, .int y_11776), (0, .ref b0), (1, .ref b1), (2, .ref b2), (3, .int b3)] → W p l e m_s1_Follows_gather s m ([.ref b0, .ref b1, .ref b2, .int b3] : List Value).toArray below meth c H locs 0 0 (MQ below (zQ G (fun v w => ∃ (e0 : Nat → Int32), ∃ (e1 : Nat → Int32), ∃ (e2 : Nat → Int32), v = none ∧ w = [(b0, .inr (4, [.ref b4, .ref b5, .ref b6])), (b4, .inl (G.2 0, 241, .inl e0)), (b5, .inl (G.2 0, 4820, .inl e1)), (b6, .inl (G.2 0, 512, .inl e2)), (b1, .inr (2, [.int b10, .int b11, .int b12, .ref b13, .ref b14, .ref b15])), (b13, .inl (G.2 0, 20, .inl b16)), (b14, .inl (G.2 0, 240, .inl b17)), (b2, .inr (3, [.int b18, .int b19, .int b20, .ref b21, .ref b22, .ref b23, .ref b24, .ref b25, .ref b26, .ref b27, .ref b28])), (b28, .inl (G.2 0, 260, .inl b29))] ∧ (zqa qC e0) ∧ (zR e2 (-1) 240)) A) ([.ref b0, .ref b1, .ref b2, .int b3] : List Value).toArray s m_s1_Follows_gather.cells m_s1_Follows_gather.slots A) (F0 m 58 ls []) by
              exact key 14 (0) (y_11777) (y_11778) _ _ _ (zI.wk (l' := 0) (h' := 13) zc_0 (by decide)) hy_11777 (by have _l0 := li_0; intro q hq; have := hli_11779 q hq; omega) (zm_upi (zI.wk (l' := 0) (h' := 13) zc_0 (by decide)) (by decide)) hP hD hS (lv_sub hl [0, 1, 2, 3, 4, 5] rfl)
            intro k_11927
            induction k_11927 with
            | zero =>
              intro y_11928 y_11929 y_11930 H locs ls hy_11928 hy_11929 hli_11931 hmk_11927 hP hD hS hl
              exact (zm_up0 hy_11928 hmk_11927).elim
            | succ k_11927 ihk_11927 =>
              intro y_11928 y_11929 y_11930 H locs ls hy_11928 hy_11929 hli_11931 hmk_11927 hP hD hS hl
              refine lv_iload hx hb d_Follows_gather_58 (lv_at hl 0 rfl) ?_
              refine lv_aload_n hx hb d_Follows_gather_60 rfl (lv_at hl 3 rfl) ?_
              refine va_get (D := G.1) (ci := 2) (v := .ref b13) (C := R_Traces) (T := F_Traces) (N := 6) hx hb hts i_Traces hown hK hP 3 rfl rfl 3 (by decide) (hts _ q65) (fun _ h9 => h9) rfl d_Follows_gather_61 ?_
              refine lv_iload hx hb d_Follows_gather_64 (lv_at hl 1 rfl) ?_
              refine va_iald hx hb hK hP 4 0 rfl rfl (zI.inn hv_11783 (by decide)) d_Follows_gather_66 ?_
              refine lv_topi (fun v_11932 ev_11932 => ?_)
              have hv_11932 : zI v_11932 0 12 := (hb16 _).eq ev_11932
              refine lv_icmp_gt (tgt := 97) hx hb d_Follows_gather_67 (by decide) (fun hc_11933 => ?_) (fun hc_11933 => ?_)
              · have _nhc_11933 := hc_11933
                have ni_11934 := (fa_lt _ _).mp hc_11933
                have hv_11935 : zI y_11928 1 13 := zI.lt_r hv_11932 hy_11928 hc_11933 (by decide)
                obtain ⟨v_11936, ev_11936⟩ : ∃ z : Int32, z = y_11776 + 1 := ⟨_, rfl⟩
                obtain ⟨qv_11936, hv_11936⟩ := zI_add (l := 1) (h := 20) hv_11783 zc_1 ev_11936 (by decide)
                rw [li_1] at qv_11936
                refine lv_iinc (v := v_11936) (lv' := [(4, .int v_11936), (5, .int y_11928), (0, .ref b0), (1, .ref b1), (2, .ref b2), (3, .int b3)]) hx hb d_Follows_gather_97 hl (k := 1) rfl (by rw [ev_11936]; rfl) (by decide) rfl (fun ls hl => ?_)
                refine lv_goto (tgt := 37) hx hb d_Follows_gather_100 (by decide) ?_
                exact ihk_11775 (v_11936) (y_11929) (y_11930) _ _ _ (zI.wk (l' := 0) (h' := 20) hv_11936 (by decide)) hy_11929 (by intro q hq; have := hli_11931 q hq; omega) (zm_up qv_11936 hmk_11775 (by decide)) hP hD hS (lv_sub hl [0, 2, 3, 4, 5] rfl)
              · have _nhc_11933 := hc_11933
                have ni_11937 := (fa_le _ _).mp (zi_nlt hc_11933)
                have hv_11938 : zI y_11928 0 12 := zI.le_l hy_11928 hv_11932 (zi_nlt hc_11933) (by decide)
                refine lv_aload_n hx hb d_Follows_gather_70 rfl (lv_at hl 2 rfl) ?_
                refine lv_aload_n hx hb d_Follows_gather_71 rfl (lv_at hl 4 rfl) ?_
                refine lv_iload hx hb d_Follows_gather_72 (lv_at hl 1 rfl) ?_
                refine lv_iload hx hb d_Follows_gather_74 (lv_at hl 0 rfl) ?_
                refine z_callV (index := 44) (As := [.int y_11776, .int y_11928]) (rest := [.ref b0]) (wr := [(b0, .inr (4, [.ref b4, .ref b5, .ref b6])), (b4, .inl (G.2 0, 241, .inl y_11929)), (b5, .inl (G.2 0, 4820, .inl y_11930)), (b1, .inr (2, [.int b10, .int b11, .int b12, .ref b13, .ref b14, .ref b15])), (b13, .inl (G.2 0, 20, .inl b16)), (b14, .inl (G.2 0, 240, .inl b17)), (b6, .inl (G.2 0, 512, .inl (fun _ => (-1))))]) Z (s1_Tree_prefixAt l G (b2) (y_11776) (y_11928) (b18) (b19) (b20) (b21) (b22) (b23) (b24) (b25) (b26) (b27) (b28) (b29) hv_11783 hv_11938 hb18 hb20 hb29) hl.1 q606 q607 q608 q4 q609 ⟨by decide, by decide, by show _ = some 2; decide +kernel⟩ ⟨Nat.le_of_ble_eq_true rfl, Nat.le_of_ble_eq_true rfl⟩ ⟨Nat.le_of_ble_eq_true rfl, Nat.le_of_ble_eq_true rfl⟩ rfl (Nat.le_of_ble_eq_true rfl) d_Follows_gather_76 hP hD hS hA 6 3 rfl rfl rfl [6, 7] [0, 1, 2, 3, 4, 5, 8] rfl rfl rfl rfl (by decide) (fun v w1 H locs hw_11939 hP hD hS => ?_)
                obtain ⟨x_11940, rfl, rfl, hx_11940, hfx_11941, hfx_11942⟩ := hw_11939
                have hP : va_P G.1 classes [(b0, .inr (4, [.ref b4, .ref b5, .ref b6])), (b4, .inl (G.2 0, 241, .inl y_11929)), (b5, .inl (G.2 0, 4820, .inl y_11930)), (b1, .inr (2, [.int b10, .int b11, .int b12, .ref b13, .ref b14, .ref b15])), (b13, .inl (G.2 0, 20, .inl b16)), (b14, .inl (G.2 0, 240, .inl b17)), (b6, .inl (G.2 0, 512, .inl (fun _ => (-1)))), (b2, .inr (3, [.int b18, .int b19, .int b20, .ref b21, .ref b22, .ref b23, .ref b24, .ref b25, .ref b26, .ref b27, .ref b28])), (b28, .inl (G.2 0, 260, .inl b29))] H := hP
                have hD := z_tie hP hD rfl
                refine W.widen (k := 0) (n := 0) (Nat.le_of_ble_eq_true rfl) (Nat.le_of_ble_eq_true rfl) ?_
                refine lv_aload_n hx hb d_Follows_gather_79 rfl (lv_at hl 3 rfl) ?_
                refine lv_iload hx hb d_Follows_gather_80 (lv_at hl 1 rfl) ?_
                refine lv_iload hx hb d_Follows_gather_82 (lv_at hl 0 rfl) ?_
                refine lv_iload_n hx hb d_Follows_gather_84 rfl (lv_at hl 5 rfl) ?_
                refine z_callS (index := 48) (As := [.ref b1, .int y_11776, .int y_11928, .int b3]) (rest := [.int x_11940, .ref b0]) (wr := [(b0, .inr (4, [.ref b4, .ref b5, .ref b6])), (b4, .inl (G.2 0, 241, .inl y_11929)), (b5, .inl (G.2 0, 4820, .inl y_11930)), (b6, .inl (G.2 0, 512, .inl (fun _ => (-1)))), (b2, .inr (3, [.int b18, .int b19, .int b20, .ref b21, .ref b22, .ref b23, .ref b24, .ref b25, .ref b26, .ref b27, .ref b28])), (b28, .inl (G.2 0, 260, .inl b29))]) Z (s2_Follows_rowOf l G (b1) (y_11776) (y_11928) (b3) (b10) (b11) (b12) (b13) (b14) (b15) (b16) (b17) hv_11783 hv_11938 hb3 (zI.wk (l' := 0) (h' := 20) hv_11784 (by decide)) hb11 hb12 hb16 hb17) hl.1 q610 q611 q5 q612 ⟨by decide, by decide, by show _ = some 4; decide +kernel⟩ ⟨Nat.le_of_ble_eq_true rfl, Nat.le_of_ble_eq_true rfl⟩ ⟨Nat.le_of_ble_eq_true rfl, Nat.le_of_ble_eq_true rfl⟩ rfl (Nat.le_of_ble_eq_true rfl) d_Follows_gather_85 hP hD hS hA [3, 4, 5] [0, 1, 2, 6, 7, 8] rfl rfl rfl rfl (by decide) (fun v w1 H locs hw_11943 hP hD hS => ?_)
                obtain ⟨x_11944, rfl, rfl⟩ := hw_11943
                have hP : va_P G.1 classes [(b0, .inr (4, [.ref b4, .ref b5, .ref b6])), (b4, .inl (G.2 0, 241, .inl y_11929)), (b5, .inl (G.2 0, 4820, .inl y_11930)), (b6, .inl (G.2 0, 512, .inl (fun _ => (-1)))), (b2, .inr (3, [.int b18, .int b19, .int b20, .ref b21, .ref b22, .ref b23, .ref b24, .ref b25, .ref b26, .ref b27, .ref b28])), (b28, .inl (G.2 0, 260, .inl b29)), (b1, .inr (2, [.int b10, .int b11, .int b12, .ref b13, .ref b14, .ref b15])), (b13, .inl (G.2 0, 20, .inl b16)), (b14, .inl (G.2 0, 240, .inl b17))] H := hP
                have hD := z_tie hP hD rfl
                refine W.widen (k := 0) (n := 0) (Nat.le_of_ble_eq_true rfl) (Nat.le_of_ble_eq_true rfl) ?_
                refine z_callV (index := 52) (As := [.int x_11940, .int x_11944]) (rest := []) (wr := [(b6, .inl (G.2 0, 512, .inl (fun _ => (-1)))), (b2, .inr (3, [.int b18, .int b19, .int b20, .ref b21, .ref b22, .ref b23, .ref b24, .ref b25, .ref b26, .ref b27, .ref b28])), (b28, .inl (G.2 0, 260, .inl b29)), (b1, .inr (2, [.int b10, .int b11, .int b12, .ref b13, .ref b14, .ref b15])), (b13, .inl (G.2 0, 20, .inl b16)), (b14, .inl (G.2 0, 240, .inl b17))]) Z (s2_Follows_insert l G (b0) (x_11940) (x_11944) (b4) (b5) (b6) (y_11929) (y_11930) hx_11940 hy_11929 (by have p9 := z_pl hx_11940 (by decide); have p8 : x_11940.toInt < b20.toInt := (by rw [hfx_11941]; exact htr _ _ (by omega) (by omega) (by rw [← z_plf hv_11783 (by decide), ← ev_11932]; omega)); have := hli_11931 x_11940.toNatClampNeg (by omega); omega)) hl.1 q614 q616 qs6 q5 q617 ⟨by decide, by decide, by show _ = some 2; decide +kernel⟩ ⟨Nat.le_of_ble_eq_true rfl, Nat.le_of_ble_eq_true rfl⟩ ⟨Nat.le_of_ble_eq_true rfl, Nat.le_of_ble_eq_true rfl⟩ rfl (Nat.le_of_ble_eq_true rfl) d_Follows_gather_88 hP hD hS hA 0 4 rfl rfl rfl [0, 1, 2] [3, 4, 5, 6, 7, 8] rfl rfl rfl rfl (by decide) (fun v w1 H locs hw_11945 hP hD hS => ?_)
                obtain ⟨f_11946, f_11947, rfl, rfl, hf_11946, hfx_11948⟩ := hw_11945
                have hP : va_P G.1 classes [(b6, .inl (G.2 0, 512, .inl (fun _ => (-1)))), (b2, .inr (3, [.int b18, .int b19, .int b20, .ref b21, .ref b22, .ref b23, .ref b24, .ref b25, .ref b26, .ref b27, .ref b28])), (b28, .inl (G.2 0, 260, .inl b29)), (b1, .inr (2, [.int b10, .int b11, .int b12, .ref b13, .ref b14, .ref b15])), (b13, .inl (G.2 0, 20, .inl b16)), (b14, .inl (G.2 0, 240, .inl b17)), (b0, .inr (4, [.ref b4, .ref b5, .ref b6])), (b4, .inl (G.2 0, 241, .inl f_11946)), (b5, .inl (G.2 0, 4820, .inl f_11947))] H := hP
                have hD := z_tie hP hD rfl
                refine W.widen (k := 0) (n := 0) (Nat.le_of_ble_eq_true rfl) (Nat.le_of_ble_eq_true rfl) ?_
                obtain ⟨v_11949, ev_11949⟩ : ∃ z : Int32, z = y_11928 + 1 := ⟨_, rfl⟩
                obtain ⟨qv_11949, hv_11949⟩ := zI_add (l := 1) (h := 13) hv_11938 zc_1 ev_11949 (by decide)
                rw [li_1] at qv_11949
                refine lv_iinc (v := v_11949) (lv' := [(5, .int v_11949), (4, .int y_11776), (0, .ref b0), (1, .ref b1), (2, .ref b2), (3, .int b3)]) hx hb d_Follows_gather_91 hl (k := 0) rfl (by rw [ev_11949]; rfl) (by decide) rfl (fun ls hl => ?_)
                refine lv_goto (tgt := 58) hx hb d_Follows_gather_94 (by decide) ?_
                exact ihk_11927 (v_11949) (f_11946) (f_11947) _ _ _ (zI.wk (l' := 0) (h' := 13) hv_11949 (by decide)) hf_11946 (by have _l0 := li_0; have _l1 := li_1; have p9 := z_pl hx_11940 (by decide); intro q hq; have _a := hli_11931 q hq; have _b := hfx_11942; rcases hfx_11948 q with h | ⟨h, h2⟩ <;> omega) (zm_up qv_11949 hmk_11927 (by decide)) (hP.sub [6, 7, 8, 3, 4, 5, 1, 2, 0] rfl) (hD.sub [6, 7, 8, 3, 4, 5, 1, 2, 0] (by decide) rfl) hS (lv_sub hl [0, 1, 2, 3, 4, 5] rfl)
    · have _nhc_10758 := hc_10758
      have ni_11950 := (fa_lt _ _).mp (zi_nle hc_10758)
      have hv_11951 : zI y_10755 0 240 := zI.lt_l hy_10755 hb20 (zi_nle hc_10758) (by decide)
      have hv_11952 : zI b20 1 241 := zI.lt_r hy_10755 hb20 (zi_nle hc_10758) (by decide)
      refine lv_aload_n hx hb d_Follows_gather_20 rfl (lv_at hl 1 rfl) ?_
      refine va_get (D := G.1) (ci := 4) (v := .ref b4) (C := R_Follows) (T := F_Follows) (N := 3) hx hb hts i_Follows hown hK hP 0 rfl rfl 0 (by decide) (hts _ q146) (fun _ h9 => h9) rfl d_Follows_gather_21 ?_
      refine lv_iload hx hb d_Follows_gather_24 (lv_at hl 0 rfl) ?_
      refine lv_iconst (v := 0) hx hb d_Follows_gather_26 (by decide) ?_
      refine va_iast hx hb hK hP hD hS 1 0 rfl rfl (zI.inn hv_11951 (by decide)) d_Follows_gather_27 (fun H locs hP hD hS => ?_)
      obtain ⟨f_11953, hf_11953, gf_11953, uf_11953, hP, hD⟩ := z_newq_ (Q := qC) 1 hP hD rfl hy_10756 (qC_v hv_11951 (by decide) ⟨⟨by have _w := li_0; have _x := hv_11951; omega, by have _w := li_0; have _x := hv_11951; omega⟩, by have _w := li_0; have _x := hv_11951; omega⟩)
      have hP : va_P G.1 classes [(b0, .inr (4, [.ref b4, .ref b5, .ref b6])), (b4, .inl (G.2 0, 241, .inl f_11953)), (b5, .inl (G.2 0, 4820, .inl b8)), (b1, .inr (2, [.int b10, .int b11, .int b12, .ref b13, .ref b14, .ref b15])), (b13, .inl (G.2 0, 20, .inl b16)), (b14, .inl (G.2 0, 240, .inl b17)), (b2, .inr (3, [.int b18, .int b19, .int b20, .ref b21, .ref b22, .ref b23, .ref b24, .ref b25, .ref b26, .ref b27, .ref b28])), (b28, .inl (G.2 0, 260, .inl b29)), (b6, .inl (G.2 0, 512, .inl (fun _ => (-1))))] H := hP
      have hD := z_tie hP hD rfl
      obtain ⟨v_11954, ev_11954⟩ : ∃ z : Int32, z = y_10755 + 1 := ⟨_, rfl⟩
      obtain ⟨qv_11954, hv_11954⟩ := zI_add (l := 1) (h := 241) hv_11951 zc_1 ev_11954 (by decide)
      rw [li_1] at qv_11954
      refine lv_iinc (v := v_11954) (lv' := [(4, .int v_11954), (0, .ref b0), (1, .ref b1), (2, .ref b2), (3, .int b3)]) hx hb d_Follows_gather_28 hl (k := 0) rfl (by rw [ev_11954]; rfl) (by decide) rfl (fun ls hl => ?_)
      refine lv_goto (tgt := 11) hx hb d_Follows_gather_31 (by decide) ?_
      exact ihk_10754 (v_11954) (f_11953) _ _ _ (zI.wk (l' := 0) (h' := 241) hv_11954 (by decide)) hf_11953 (by have _l0 := li_0; have p9 := z_pl hv_11951 (by decide); intro q hq; rw [uf_11953, z_at]; split; omega; exact hli_10757 q (by omega)) (zm_up qv_11954 hmk_10754 (by decide)) hP hD hS (lv_sub hl [0, 1, 2, 3, 4] rfl)
theorem d_Machine_failsAt_0 : decode prog_4_method_15_code 0 = .ok (.aload 4, 2) := by decide +kernel
theorem d_Machine_failsAt_2 : decode prog_4_method_15_code 2 = .ok (.invokevirtual 136, 3) := by decide +kernel
theorem d_Machine_failsAt_5 : decode prog_4_method_15_code 5 = .ok (.aload_n 0, 1) := by decide +kernel
theorem d_Machine_failsAt_6 : decode prog_4_method_15_code 6 = .ok (.getfield 75, 3) := by decide +kernel
theorem d_Machine_failsAt_9 : decode prog_4_method_15_code 9 = .ok (.ifCond .ne 5, 3) := by decide +kernel
theorem d_Machine_failsAt_12 : decode prog_4_method_15_code 12 = .ok (.iconst 0, 1) := by decide +kernel
theorem d_Machine_failsAt_14 : decode prog_4_method_15_code 14 = .ok (.aload 4, 2) := by decide +kernel
theorem d_Machine_failsAt_16 : decode prog_4_method_15_code 16 = .ok (.iconst 0, 1) := by decide +kernel
theorem d_Machine_failsAt_17 : decode prog_4_method_15_code 17 = .ok (.iconst 0, 1) := by decide +kernel
theorem d_Machine_failsAt_18 : decode prog_4_method_15_code 18 = .ok (.iconst 0, 1) := by decide +kernel
theorem d_Machine_failsAt_19 : decode prog_4_method_15_code 19 = .ok (.invokevirtual 139, 3) := by decide +kernel
theorem d_Machine_failsAt_22 : decode prog_4_method_15_code 22 = .ok (.aload_n 1, 1) := by decide +kernel
theorem d_Machine_failsAt_23 : decode prog_4_method_15_code 23 = .ok (.getfield 143, 3) := by decide +kernel
theorem d_Machine_failsAt_26 : decode prog_4_method_15_code 26 = .ok (.iload_n 2, 1) := by decide +kernel
theorem d_Machine_failsAt_27 : decode prog_4_method_15_code 27 = .ok (.iaload, 1) := by decide +kernel
theorem d_Machine_failsAt_28 : decode prog_4_method_15_code 28 = .ok (.istore 5, 2) := by decide +kernel
theorem d_Machine_failsAt_30 : decode prog_4_method_15_code 30 = .ok (.iconst 0, 1) := by decide +kernel
theorem d_Machine_failsAt_31 : decode prog_4_method_15_code 31 = .ok (.istore 6, 2) := by decide +kernel
theorem d_Machine_failsAt_33 : decode prog_4_method_15_code 33 = .ok (.iload 6, 2) := by decide +kernel
theorem d_Machine_failsAt_35 : decode prog_4_method_15_code 35 = .ok (.iload 5, 2) := by decide +kernel
theorem d_Machine_failsAt_37 : decode prog_4_method_15_code 37 = .ok (.if_icmp .ge 42, 3) := by decide +kernel
theorem d_Machine_failsAt_40 : decode prog_4_method_15_code 40 = .ok (.aload_n 0, 1) := by decide +kernel
theorem d_Machine_failsAt_41 : decode prog_4_method_15_code 41 = .ok (.aload 4, 2) := by decide +kernel
theorem d_Machine_failsAt_43 : decode prog_4_method_15_code 43 = .ok (.aload_n 1, 1) := by decide +kernel
theorem d_Machine_failsAt_44 : decode prog_4_method_15_code 44 = .ok (.iload_n 2, 1) := by decide +kernel
theorem d_Machine_failsAt_45 : decode prog_4_method_15_code 45 = .ok (.iload 6, 2) := by decide +kernel
theorem d_Machine_failsAt_47 : decode prog_4_method_15_code 47 = .ok (.invokevirtual 148, 3) := by decide +kernel
theorem d_Machine_failsAt_50 : decode prog_4_method_15_code 50 = .ok (.aload_n 1, 1) := by decide +kernel
theorem d_Machine_failsAt_51 : decode prog_4_method_15_code 51 = .ok (.iload_n 2, 1) := by decide +kernel
theorem d_Machine_failsAt_52 : decode prog_4_method_15_code 52 = .ok (.iload 6, 2) := by decide +kernel
theorem d_Machine_failsAt_54 : decode prog_4_method_15_code 54 = .ok (.invokevirtual 151, 3) := by decide +kernel
theorem d_Machine_failsAt_57 : decode prog_4_method_15_code 57 = .ok (.iload_n 3, 1) := by decide +kernel
theorem d_Machine_failsAt_58 : decode prog_4_method_15_code 58 = .ok (.invokevirtual 154, 3) := by decide +kernel
theorem d_Machine_failsAt_61 : decode prog_4_method_15_code 61 = .ok (.aload 4, 2) := by decide +kernel
theorem d_Machine_failsAt_63 : decode prog_4_method_15_code 63 = .ok (.iconst 0, 1) := by decide +kernel
theorem d_Machine_failsAt_64 : decode prog_4_method_15_code 64 = .ok (.invokevirtual 158, 3) := by decide +kernel
theorem d_Machine_failsAt_67 : decode prog_4_method_15_code 67 = .ok (.ifCond .eq 6, 3) := by decide +kernel
theorem d_Machine_failsAt_70 : decode prog_4_method_15_code 70 = .ok (.iload 6, 2) := by decide +kernel
theorem d_Machine_failsAt_73 : decode prog_4_method_15_code 73 = .ok (.iinc 6 1, 3) := by decide +kernel
theorem d_Machine_failsAt_76 : decode prog_4_method_15_code 76 = .ok (.goto (-43), 3) := by decide +kernel
theorem d_Machine_failsAt_79 : decode prog_4_method_15_code 79 = .ok (.aload_n 0, 1) := by decide +kernel
theorem d_Machine_failsAt_80 : decode prog_4_method_15_code 80 = .ok (.aload 4, 2) := by decide +kernel
theorem d_Machine_failsAt_82 : decode prog_4_method_15_code 82 = .ok (.iconst 0, 1) := by decide +kernel
theorem d_Machine_failsAt_83 : decode prog_4_method_15_code 83 = .ok (.iconst 0, 1) := by decide +kernel
theorem d_Machine_failsAt_84 : decode prog_4_method_15_code 84 = .ok (.invokevirtual 162, 3) := by decide +kernel
theorem d_Machine_failsAt_87 : decode prog_4_method_15_code 87 = .ok (.ifCond .eq 7, 3) := by decide +kernel
theorem d_Machine_failsAt_90 : decode prog_4_method_15_code 90 = .ok (.iconst (-1), 1) := by decide +kernel
theorem d_Machine_failsAt_91 : decode prog_4_method_15_code 91 = .ok (.goto 5, 3) := by decide +kernel
theorem d_Machine_failsAt_94 : decode prog_4_method_15_code 94 = .ok (.iload 5, 2) := by decide +kernel
theorem d_Machine_failsAt_96 : decode prog_4_method_15_code 96 = .ok (.ireturn, 1) := by decide +kernel
theorem d_Machine_goOn_0 : decode prog_4_method_16_code 0 = .ok (.iconst 0, 1) := by decide +kernel
theorem d_Machine_goOn_1 : decode prog_4_method_16_code 1 = .ok (.istore 5, 2) := by decide +kernel
theorem d_Machine_goOn_3 : decode prog_4_method_16_code 3 = .ok (.iload 5, 2) := by decide +kernel
theorem d_Machine_goOn_5 : decode prog_4_method_16_code 5 = .ok (.iconst 4, 1) := by decide +kernel
theorem d_Machine_goOn_6 : decode prog_4_method_16_code 6 = .ok (.if_icmp .ge 130, 3) := by decide +kernel
theorem d_Machine_goOn_9 : decode prog_4_method_16_code 9 = .ok (.aload_n 1, 1) := by decide +kernel
theorem d_Machine_goOn_10 : decode prog_4_method_16_code 10 = .ok (.iconst 0, 1) := by decide +kernel
theorem d_Machine_goOn_11 : decode prog_4_method_16_code 11 = .ok (.iconst 0, 1) := by decide +kernel
theorem d_Machine_goOn_12 : decode prog_4_method_16_code 12 = .ok (.iload 5, 2) := by decide +kernel
theorem d_Machine_goOn_14 : decode prog_4_method_16_code 14 = .ok (.invokevirtual 166, 3) := by decide +kernel
theorem d_Machine_goOn_17 : decode prog_4_method_16_code 17 = .ok (.lstore 6, 2) := by decide +kernel
theorem d_Machine_goOn_19 : decode prog_4_method_16_code 19 = .ok (.lload 6, 2) := by decide +kernel
theorem d_Machine_goOn_21 : decode prog_4_method_16_code 21 = .ok (.lconst 0, 1) := by decide +kernel
theorem d_Machine_goOn_22 : decode prog_4_method_16_code 22 = .ok (.lcmp, 1) := by decide +kernel
theorem d_Machine_goOn_23 : decode prog_4_method_16_code 23 = .ok (.ifCond .eq 107, 3) := by decide +kernel
theorem d_Machine_goOn_26 : decode prog_4_method_16_code 26 = .ok (.bipush 64, 2) := by decide +kernel
theorem d_Machine_goOn_28 : decode prog_4_method_16_code 28 = .ok (.iload 5, 2) := by decide +kernel
theorem d_Machine_goOn_30 : decode prog_4_method_16_code 30 = .ok (.imul, 1) := by decide +kernel
theorem d_Machine_goOn_31 : decode prog_4_method_16_code 31 = .ok (.lload 6, 2) := by decide +kernel
theorem d_Machine_goOn_33 : decode prog_4_method_16_code 33 = .ok (.invokestatic 170, 3) := by decide +kernel
theorem d_Machine_goOn_36 : decode prog_4_method_16_code 36 = .ok (.iadd, 1) := by decide +kernel
theorem d_Machine_goOn_37 : decode prog_4_method_16_code 37 = .ok (.istore 8, 2) := by decide +kernel
theorem d_Machine_goOn_39 : decode prog_4_method_16_code 39 = .ok (.aload_n 0, 1) := by decide +kernel
theorem d_Machine_goOn_40 : decode prog_4_method_16_code 40 = .ok (.getfield 45, 3) := by decide +kernel
theorem d_Machine_goOn_43 : decode prog_4_method_16_code 43 = .ok (.iload 8, 2) := by decide +kernel
theorem d_Machine_goOn_45 : decode prog_4_method_16_code 45 = .ok (.iaload, 1) := by decide +kernel
theorem d_Machine_goOn_46 : decode prog_4_method_16_code 46 = .ok (.istore 9, 2) := by decide +kernel
theorem d_Machine_goOn_48 : decode prog_4_method_16_code 48 = .ok (.iload 9, 2) := by decide +kernel
theorem d_Machine_goOn_50 : decode prog_4_method_16_code 50 = .ok (.aload_n 0, 1) := by decide +kernel
theorem d_Machine_goOn_51 : decode prog_4_method_16_code 51 = .ok (.getfield 45, 3) := by decide +kernel
theorem d_Machine_goOn_54 : decode prog_4_method_16_code 54 = .ok (.iload 8, 2) := by decide +kernel
theorem d_Machine_goOn_56 : decode prog_4_method_16_code 56 = .ok (.iconst 1, 1) := by decide +kernel
theorem d_Machine_goOn_57 : decode prog_4_method_16_code 57 = .ok (.iadd, 1) := by decide +kernel
theorem d_Machine_goOn_58 : decode prog_4_method_16_code 58 = .ok (.iaload, 1) := by decide +kernel
theorem d_Machine_goOn_59 : decode prog_4_method_16_code 59 = .ok (.if_icmp .ge 59, 3) := by decide +kernel
theorem d_Machine_goOn_62 : decode prog_4_method_16_code 62 = .ok (.aload_n 0, 1) := by decide +kernel
theorem d_Machine_goOn_63 : decode prog_4_method_16_code 63 = .ok (.iload 9, 2) := by decide +kernel
theorem d_Machine_goOn_65 : decode prog_4_method_16_code 65 = .ok (.invokevirtual 174, 3) := by decide +kernel
theorem d_Machine_goOn_68 : decode prog_4_method_16_code 68 = .ok (.iload_n 2, 1) := by decide +kernel
theorem d_Machine_goOn_69 : decode prog_4_method_16_code 69 = .ok (.if_icmp .ne 43, 3) := by decide +kernel
theorem d_Machine_goOn_72 : decode prog_4_method_16_code 72 = .ok (.iload_n 3, 1) := by decide +kernel
theorem d_Machine_goOn_73 : decode prog_4_method_16_code 73 = .ok (.aload_n 0, 1) := by decide +kernel
theorem d_Machine_goOn_74 : decode prog_4_method_16_code 74 = .ok (.getfield 39, 3) := by decide +kernel
theorem d_Machine_goOn_77 : decode prog_4_method_16_code 77 = .ok (.iload 9, 2) := by decide +kernel
theorem d_Machine_goOn_79 : decode prog_4_method_16_code 79 = .ok (.iaload, 1) := by decide +kernel
theorem d_Machine_goOn_80 : decode prog_4_method_16_code 80 = .ok (.iload 4, 2) := by decide +kernel
theorem d_Machine_goOn_82 : decode prog_4_method_16_code 82 = .ok (.isub, 1) := by decide +kernel
theorem d_Machine_goOn_83 : decode prog_4_method_16_code 83 = .ok (.if_icmp .lt 29, 3) := by decide +kernel
theorem d_Machine_goOn_86 : decode prog_4_method_16_code 86 = .ok (.iload_n 3, 1) := by decide +kernel
theorem d_Machine_goOn_87 : decode prog_4_method_16_code 87 = .ok (.aload_n 0, 1) := by decide +kernel
theorem d_Machine_goOn_88 : decode prog_4_method_16_code 88 = .ok (.getfield 42, 3) := by decide +kernel
theorem d_Machine_goOn_91 : decode prog_4_method_16_code 91 = .ok (.iload 9, 2) := by decide +kernel
theorem d_Machine_goOn_93 : decode prog_4_method_16_code 93 = .ok (.iaload, 1) := by decide +kernel
theorem d_Machine_goOn_94 : decode prog_4_method_16_code 94 = .ok (.iload 4, 2) := by decide +kernel
theorem d_Machine_goOn_96 : decode prog_4_method_16_code 96 = .ok (.iadd, 1) := by decide +kernel
theorem d_Machine_goOn_97 : decode prog_4_method_16_code 97 = .ok (.if_icmp .gt 15, 3) := by decide +kernel
theorem d_Machine_goOn_100 : decode prog_4_method_16_code 100 = .ok (.aload_n 1, 1) := by decide +kernel
theorem d_Machine_goOn_101 : decode prog_4_method_16_code 101 = .ok (.iconst 1, 1) := by decide +kernel
theorem d_Machine_goOn_102 : decode prog_4_method_16_code 102 = .ok (.iconst 0, 1) := by decide +kernel
theorem d_Machine_goOn_103 : decode prog_4_method_16_code 103 = .ok (.aload_n 0, 1) := by decide +kernel
theorem d_Machine_goOn_104 : decode prog_4_method_16_code 104 = .ok (.iload 9, 2) := by decide +kernel
theorem d_Machine_goOn_106 : decode prog_4_method_16_code 106 = .ok (.invokevirtual 176, 3) := by decide +kernel
theorem d_Machine_goOn_109 : decode prog_4_method_16_code 109 = .ok (.invokevirtual 139, 3) := by decide +kernel
theorem d_Machine_goOn_112 : decode prog_4_method_16_code 112 = .ok (.iinc 9 1, 3) := by decide +kernel
theorem d_Machine_goOn_115 : decode prog_4_method_16_code 115 = .ok (.goto (-67), 3) := by decide +kernel
theorem d_Machine_goOn_118 : decode prog_4_method_16_code 118 = .ok (.lload 6, 2) := by decide +kernel
theorem d_Machine_goOn_120 : decode prog_4_method_16_code 120 = .ok (.lload 6, 2) := by decide +kernel
theorem d_Machine_goOn_122 : decode prog_4_method_16_code 122 = .ok (.lconst 1, 1) := by decide +kernel
theorem d_Machine_goOn_123 : decode prog_4_method_16_code 123 = .ok (.lsub, 1) := by decide +kernel
theorem d_Machine_goOn_124 : decode prog_4_method_16_code 124 = .ok (.land, 1) := by decide +kernel
theorem d_Machine_goOn_125 : decode prog_4_method_16_code 125 = .ok (.lstore 6, 2) := by decide +kernel
theorem d_Machine_goOn_127 : decode prog_4_method_16_code 127 = .ok (.goto (-108), 3) := by decide +kernel
theorem d_Machine_goOn_130 : decode prog_4_method_16_code 130 = .ok (.iinc 5 1, 3) := by decide +kernel
theorem d_Machine_goOn_133 : decode prog_4_method_16_code 133 = .ok (.goto (-130), 3) := by decide +kernel
theorem d_Machine_goOn_136 : decode prog_4_method_16_code 136 = .ok (.aload_n 1, 1) := by decide +kernel
theorem d_Machine_goOn_137 : decode prog_4_method_16_code 137 = .ok (.iconst 1, 1) := by decide +kernel
theorem d_Machine_goOn_138 : decode prog_4_method_16_code 138 = .ok (.iconst 0, 1) := by decide +kernel
theorem d_Machine_goOn_139 : decode prog_4_method_16_code 139 = .ok (.invokevirtual 179, 3) := by decide +kernel
theorem d_Machine_goOn_142 : decode prog_4_method_16_code 142 = .ok (.return_, 1) := by decide +kernel
abbrev m_s2_Machine_goOn : Room := { frames := 2, cells := 0, slots := 0, locals := 42 }
set_option maxHeartbeats 4000000 in
set_option maxRecDepth 100000 in
theorem s2_Machine_goOn (l : Launch) (G : zG) (b0 : Nat) (b1 : Nat) (b2 : Int32) (b3 : Int32) (b4 : Int32) (b5 : Int32) (b6 : Int32) (b7 : Nat) (b8 : Nat) (b9 : Nat) (b10 : Nat) (b11 : Nat) (b12 : Nat) (b13 : Int32) (b14 : Nat) (b15 : Nat) (b16 : Nat) (b17 : Nat) (b18 : Nat) (b19 : Nat) (b20 : Nat → Int32) (b21 : Nat → Int32) (b22 : Nat → Int32) (b23 : Nat → Int32) (b24 : Int32) (b25 : Nat) (b26 : Nat) (b27 : Nat → Int64) (hb2 : zI b2 0 9) (hb5 : zI b5 0 1) (hb6 : zI b6 0 241) (hb13 : zI b13 0 240) (hb24 : zI b24 0 2) (hb20 : zK b20) (hb23 : zR b23 0 240) (hb27 : zqa qB b27) : zM l G y_Machine_goOn prog_4_method_16_code 10 (Option.none : Option Jvm.ClassFile.FieldType) m_s2_Machine_goOn [.ref b0, .ref b1, .int b2, .int b3, .int b4] [(b0, .inr (5, [.int b5, .int b6, .ref b7, .ref b8, .ref b9, .ref b10, .ref b11, .ref b12, .int b13, .ref b14, .ref b15, .ref b16, .ref b17, .ref b18, .ref b19])), (b14, .inl (G.2 0, 240, .inl b20)), (b16, .inl (G.2 0, 240, .inl b21)), (b17, .inl (G.2 0, 240, .inl b22)), (b18, .inl (G.2 0, 242, .inl b23)), (b1, .inr (6, [.int b24, .int 4, .int 2, .ref b25, .ref b26])), (b25, .inl (G.2 1, 8, .inr (.inl b27)))] (fun v w => ∃ (e0 : Nat → Int64), v = none ∧ w = [(b0, .inr (5, [.int b5, .int b6, .ref b7, .ref b8, .ref b9, .ref b10, .ref b11, .ref b12, .int b13, .ref b14, .ref b15, .ref b16, .ref b17, .ref b18, .ref b19])), (b14, .inl (G.2 0, 240, .inl b20)), (b16, .inl (G.2 0, 240, .inl b21)), (b17, .inl (G.2 0, 240, .inl b22)), (b18, .inl (G.2 0, 242, .inl b23)), (b1, .inr (6, [.int b24, .int 4, .int 2, .ref b25, .ref b26])), (b25, .inl (G.2 1, 8, .inr (.inl e0)))] ∧ (zqa qB e0)) := by
  refine z_start (by decide +kernel) (Nat.le_of_ble_eq_true rfl) ?_
  intro p e s m below meth c A Z hr hnm hA hP hD hS ls hl
  have Z : zC p s m _ meth c prog_4_method_16_code 10 "TraceMachines$Machine" G := Z
  obtain ⟨hx, hb, hml, hown, hts, hK, hN, hlocks⟩ := id Z
  have hl : lv_has ls 10 [(0, .ref b0), (1, .ref b1), (2, .int b2), (3, .int b3), (4, .int b4)] := hl
  refine lv_iconst (v := 0) hx hb d_Machine_goOn_0 (by decide) ?_
  refine lv_istore (lv' := [(5, .int 0), (0, .ref b0), (1, .ref b1), (2, .int b2), (3, .int b3), (4, .int b4)]) hx hb d_Machine_goOn_1 hl (by decide) rfl (fun ls hl => ?_)
  suffices key : ∀ (k_2302 : Nat) (y_2303 : Int32) (y_2304 : Nat → Int64) (H : Heap) (locs : List Loc) (ls : Array Slot), (zI y_2303 0 4) → (zqa qB y_2304) → (4 : Int) - y_2303.toInt < (k_2302 : Int) → va_P G.1 classes [(b0, .inr (5, [.int b5, .int b6, .ref b7, .ref b8, .ref b9, .ref b10, .ref b11, .ref b12, .int b13, .ref b14, .ref b15, .ref b16, .ref b17, .ref b18, .ref b19])), (b14, .inl (G.2 0, 240, .inl b20)), (b16, .inl (G.2 0, 240, .inl b21)), (b17, .inl (G.2 0, 240, .inl b22)), (b18, .inl (G.2 0, 242, .inl b23)), (b1, .inr (6, [.int b24, .int 4, .int 2, .ref b25, .ref b26])), (b25, .inl (G.2 1, 8, .inr (.inl y_2304)))] H → va_D A [(b0, .inr (5, [.int b5, .int b6, .ref b7, .ref b8, .ref b9, .ref b10, .ref b11, .ref b12, .int b13, .ref b14, .ref b15, .ref b16, .ref b17, .ref b18, .ref b19])), (b14, .inl (G.2 0, 240, .inl b20)), (b16, .inl (G.2 0, 240, .inl b21)), (b17, .inl (G.2 0, 240, .inl b22)), (b18, .inl (G.2 0, 242, .inl b23)), (b1, .inr (6, [.int b24, .int 4, .int 2, .ref b25, .ref b26])), (b25, .inl (G.2 1, 8, .inr (.inl y_2304)))] → va_S A s.heap H locs → lv_has ls 10 [(5, .int y_2303), (0, .ref b0), (1, .ref b1), (2, .int b2), (3, .int b3), (4, .int b4)] → W p l e m_s2_Machine_goOn s m ([.ref b0, .ref b1, .int b2, .int b3, .int b4] : List Value).toArray below meth c H locs 0 0 (MQ below (zQ G (fun v w => ∃ (e0 : Nat → Int64), v = none ∧ w = [(b0, .inr (5, [.int b5, .int b6, .ref b7, .ref b8, .ref b9, .ref b10, .ref b11, .ref b12, .int b13, .ref b14, .ref b15, .ref b16, .ref b17, .ref b18, .ref b19])), (b14, .inl (G.2 0, 240, .inl b20)), (b16, .inl (G.2 0, 240, .inl b21)), (b17, .inl (G.2 0, 240, .inl b22)), (b18, .inl (G.2 0, 242, .inl b23)), (b1, .inr (6, [.int b24, .int 4, .int 2, .ref b25, .ref b26])), (b25, .inl (G.2 1, 8, .inr (.inl e0)))] ∧ (zqa qB e0)) A) ([.ref b0, .ref b1, .int b2, .int b3, .int b4] : List Value).toArray s m_s2_Machine_goOn.cells m_s2_Machine_goOn.slots A) (F0 m 3 ls []) by
    exact key 5 (0) (b27) _ _ _ (zI.wk (l' := 0) (h' := 4) zc_0 (by decide)) hb27 (zm_upi (zI.wk (l' := 0) (h' := 4) zc_0 (by decide)) (by decide)) hP hD hS (lv_sub hl [0, 1, 2, 3, 4, 5] rfl)
  intro k_2302
  induction k_2302 with
  | zero =>
    intro y_2303 y_2304 H locs ls hy_2303 hy_2304 hmk_2302 hP hD hS hl
    exact (zm_up0 hy_2303 hmk_2302).elim
  | succ k_2302 ihk_2302 =>
    intro y_2303 y_2304 H locs ls hy_2303 hy_2304 hmk_2302 hP hD hS hl
    refine lv_iload hx hb d_Machine_goOn_3 (lv_at hl 0 rfl) ?_
    refine lv_iconst (v := 4) hx hb d_Machine_goOn_5 (by decide) ?_
    refine lv_icmp_ge (tgt := 136) hx hb d_Machine_goOn_6 (by decide) (fun hc_2305 => ?_) (fun hc_2305 => ?_)
    · have _nhc_2305 := hc_2305
      have ni_2306 := (fa_le _ _).mp hc_2305
      rw [li_4] at ni_2306
      have hv_2307 : zI y_2303 4 4 := zI.le_r zc_4 hy_2303 hc_2305 (by decide)
      refine lv_aload_n hx hb d_Machine_goOn_136 rfl (lv_at hl 2 rfl) ?_
      refine lv_iconst (v := 1) hx hb d_Machine_goOn_137 (by decide) ?_
      refine lv_iconst (v := 0) hx hb d_Machine_goOn_138 (by decide) ?_
      refine z_callV (index := 179) (As := [.int 1, .int 0]) (rest := []) (wr := [(b0, .inr (5, [.int b5, .int b6, .ref b7, .ref b8, .ref b9, .ref b10, .ref b11, .ref b12, .int b13, .ref b14, .ref b15, .ref b16, .ref b17, .ref b18, .ref b19])), (b14, .inl (G.2 0, 240, .inl b20)), (b16, .inl (G.2 0, 240, .inl b21)), (b17, .inl (G.2 0, 240, .inl b22)), (b18, .inl (G.2 0, 242, .inl b23))]) Z (s1_Sets_moveRow l G (b1) (1) (0) (b24) (b25) (b26) (y_2304) (zI.wk (l' := 0) (h' := 1) zc_1 (by decide)) (zI.wk (l' := 0) (h' := 1) zc_0 (by decide)) hb24 hy_2304) hl.1 q734 q735 q736 q7 q737 ⟨by decide, by decide, by show _ = some 2; decide +kernel⟩ ⟨Nat.le_of_ble_eq_true rfl, Nat.le_of_ble_eq_true rfl⟩ ⟨Nat.le_of_ble_eq_true rfl, Nat.le_of_ble_eq_true rfl⟩ rfl (Nat.le_of_ble_eq_true rfl) d_Machine_goOn_139 hP hD hS hA 5 6 rfl rfl rfl [5, 6] [0, 1, 2, 3, 4] rfl rfl rfl rfl (by decide) (fun v w1 H locs hw_2308 hP hD hS => ?_)
      obtain ⟨f_2309, rfl, rfl, hf_2309⟩ := hw_2308
      have hP : va_P G.1 classes [(b0, .inr (5, [.int b5, .int b6, .ref b7, .ref b8, .ref b9, .ref b10, .ref b11, .ref b12, .int b13, .ref b14, .ref b15, .ref b16, .ref b17, .ref b18, .ref b19])), (b14, .inl (G.2 0, 240, .inl b20)), (b16, .inl (G.2 0, 240, .inl b21)), (b17, .inl (G.2 0, 240, .inl b22)), (b18, .inl (G.2 0, 242, .inl b23)), (b1, .inr (6, [.int b24, .int 4, .int 2, .ref b25, .ref b26])), (b25, .inl (G.2 1, 8, .inr (.inl f_2309)))] H := hP
      have hD := z_tie hP hD rfl
      refine W.widen (k := 0) (n := 0) (Nat.le_of_ble_eq_true rfl) (Nat.le_of_ble_eq_true rfl) ?_
      exact z_vret hx hb hr hlocks hP hD hS (Nat.le_of_ble_eq_true rfl) (Nat.le_of_ble_eq_true rfl) d_Machine_goOn_142 ⟨f_2309, rfl, rfl, hf_2309⟩
    · have _nhc_2305 := hc_2305
      have ni_2310 := (fa_lt _ _).mp (zi_nle hc_2305)
      rw [li_4] at ni_2310
      have hv_2311 : zI y_2303 0 3 := zI.lt_l hy_2303 zc_4 (zi_nle hc_2305) (by decide)
      refine lv_aload_n hx hb d_Machine_goOn_9 rfl (lv_at hl 2 rfl) ?_
      refine lv_iconst (v := 0) hx hb d_Machine_goOn_10 (by decide) ?_
      refine lv_iconst (v := 0) hx hb d_Machine_goOn_11 (by decide) ?_
      refine lv_iload hx hb d_Machine_goOn_12 (lv_at hl 0 rfl) ?_
      refine z_callV (index := 166) (As := [.int 0, .int 0, .int y_2303]) (rest := []) (wr := [(b0, .inr (5, [.int b5, .int b6, .ref b7, .ref b8, .ref b9, .ref b10, .ref b11, .ref b12, .int b13, .ref b14, .ref b15, .ref b16, .ref b17, .ref b18, .ref b19])), (b14, .inl (G.2 0, 240, .inl b20)), (b16, .inl (G.2 0, 240, .inl b21)), (b17, .inl (G.2 0, 240, .inl b22)), (b18, .inl (G.2 0, 242, .inl b23))]) Z (s1_Sets_longAt l G (b1) (0) (0) (y_2303) (b24) (b25) (b26) (y_2304) (zI.wk (l' := 0) (h' := 1) zc_0 (by decide)) zc_0 hv_2311 hb24 hy_2304) hl.1 q719 q720 q721 q7 q722 ⟨by decide, by decide, by show _ = some 3; decide +kernel⟩ ⟨Nat.le_of_ble_eq_true rfl, Nat.le_of_ble_eq_true rfl⟩ ⟨Nat.le_of_ble_eq_true rfl, Nat.le_of_ble_eq_true rfl⟩ rfl (Nat.le_of_ble_eq_true rfl) d_Machine_goOn_14 hP hD hS hA 5 6 rfl rfl rfl [5, 6] [0, 1, 2, 3, 4] rfl rfl rfl rfl (by decide) (fun v w1 H locs hw_2312 hP hD hS => ?_)
      obtain ⟨x_2313, rfl, rfl, hfx_2314⟩ := hw_2312
      have hP : va_P G.1 classes [(b0, .inr (5, [.int b5, .int b6, .ref b7, .ref b8, .ref b9, .ref b10, .ref b11, .ref b12, .int b13, .ref b14, .ref b15, .ref b16, .ref b17, .ref b18, .ref b19])), (b14, .inl (G.2 0, 240, .inl b20)), (b16, .inl (G.2 0, 240, .inl b21)), (b17, .inl (G.2 0, 240, .inl b22)), (b18, .inl (G.2 0, 242, .inl b23)), (b1, .inr (6, [.int b24, .int 4, .int 2, .ref b25, .ref b26])), (b25, .inl (G.2 1, 8, .inr (.inl y_2304)))] H := hP
      have hD := z_tie hP hD rfl
      refine W.widen (k := 0) (n := 0) (Nat.le_of_ble_eq_true rfl) (Nat.le_of_ble_eq_true rfl) ?_
      refine lv_lstore (lv' := [(6, .long x_2313), (5, .int y_2303), (0, .ref b0), (1, .ref b1), (2, .int b2), (3, .int b3), (4, .int b4)]) hx hb d_Machine_goOn_17 hl (by decide) rfl (fun ls hl => ?_)
      suffices key : ∀ (k_2567 : Nat) (y_2568 : Int64) (y_2569 : Nat → Int64) (H : Heap) (locs : List Loc) (ls : Array Slot), (zqa qB y_2569) → ((y_2303 : Int32).toInt = 3 → (y_2568 : Int64).toBitVec.toNat < 2 ^ 49) → (y_2568).toBitVec.toNat < k_2567 → va_P G.1 classes [(b0, .inr (5, [.int b5, .int b6, .ref b7, .ref b8, .ref b9, .ref b10, .ref b11, .ref b12, .int b13, .ref b14, .ref b15, .ref b16, .ref b17, .ref b18, .ref b19])), (b14, .inl (G.2 0, 240, .inl b20)), (b16, .inl (G.2 0, 240, .inl b21)), (b17, .inl (G.2 0, 240, .inl b22)), (b18, .inl (G.2 0, 242, .inl b23)), (b1, .inr (6, [.int b24, .int 4, .int 2, .ref b25, .ref b26])), (b25, .inl (G.2 1, 8, .inr (.inl y_2569)))] H → va_D A [(b0, .inr (5, [.int b5, .int b6, .ref b7, .ref b8, .ref b9, .ref b10, .ref b11, .ref b12, .int b13, .ref b14, .ref b15, .ref b16, .ref b17, .ref b18, .ref b19])), (b14, .inl (G.2 0, 240, .inl b20)), (b16, .inl (G.2 0, 240, .inl b21)), (b17, .inl (G.2 0, 240, .inl b22)), (b18, .inl (G.2 0, 242, .inl b23)), (b1, .inr (6, [.int b24, .int 4, .int 2, .ref b25, .ref b26])), (b25, .inl (G.2 1, 8, .inr (.inl y_2569)))] → va_S A s.heap H locs → lv_has ls 10 [(6, .long y_2568), (5, .int y_2303), (0, .ref b0), (1, .ref b1), (2, .int b2), (3, .int b3), (4, .int b4)] → W p l e m_s2_Machine_goOn s m ([.ref b0, .ref b1, .int b2, .int b3, .int b4] : List Value).toArray below meth c H locs 0 0 (MQ below (zQ G (fun v w => ∃ (e0 : Nat → Int64), v = none ∧ w = [(b0, .inr (5, [.int b5, .int b6, .ref b7, .ref b8, .ref b9, .ref b10, .ref b11, .ref b12, .int b13, .ref b14, .ref b15, .ref b16, .ref b17, .ref b18, .ref b19])), (b14, .inl (G.2 0, 240, .inl b20)), (b16, .inl (G.2 0, 240, .inl b21)), (b17, .inl (G.2 0, 240, .inl b22)), (b18, .inl (G.2 0, 242, .inl b23)), (b1, .inr (6, [.int b24, .int 4, .int 2, .ref b25, .ref b26])), (b25, .inl (G.2 1, 8, .inr (.inl e0)))] ∧ (zqa qB e0)) A) ([.ref b0, .ref b1, .int b2, .int b3, .int b4] : List Value).toArray s m_s2_Machine_goOn.cells m_s2_Machine_goOn.slots A) (F0 m 19 ls []) by
        exact key 18446744073709551616 (x_2313) (y_2304) _ _ _ hy_2304 hfx_2314 (Nat.lt_of_lt_of_le (x_2313).toBitVec.isLt (by decide)) hP hD hS (lv_sub hl [0, 1, 2, 3, 4, 5, 6] rfl)
      intro k_2567
      induction k_2567 with
      | zero =>
        intro y_2568 y_2569 H locs ls hy_2569 hli_2570 hmk_2567 hP hD hS hl
        exfalso; omega
      | succ k_2567 ihk_2567 =>
        intro y_2568 y_2569 H locs ls hy_2569 hli_2570 hmk_2567 hP hD hS hl
        refine lv_lload hx hb d_Machine_goOn_19 (lv_at hl 0 rfl) ?_
        refine lv_lconst (v := 0) hx hb d_Machine_goOn_21 (by decide) ?_
        refine W.lcmp hx hb d_Machine_goOn_22 ?_
        refine lv_topi (fun v_2571 ev_2571 => ?_)
        refine lv_if_eq (tgt := 130) hx hb d_Machine_goOn_23 (by decide) (fun hc_2572 => ?_) (fun hc_2572 => ?_)
        · have ni_2573 := hc_2572
          rw [ev_2571] at ni_2573
          simp only [lg_cmp_lt, lg_cmp_le, lg_cmp_gt, lg_cmp_ge, lg_cmp_eq, fa_lt64, fa_le64, fa_eq64, Int32.toInt_toInt64, ll_0] at ni_2573
          have hv_2574 : zJ y_2568 0 0 := by have _a := ni_2573; have _b := (zJ_all y_2568); have _c := zcl_0; simp only [Int32.toInt_toInt64] at *; exact ⟨by omega, by omega⟩
          obtain ⟨v_2575, ev_2575⟩ : ∃ z : Int32, z = y_2303 + 1 := ⟨_, rfl⟩
          obtain ⟨qv_2575, hv_2575⟩ := zI_add (l := 1) (h := 4) hv_2311 zc_1 ev_2575 (by decide)
          rw [li_1] at qv_2575
          refine lv_iinc (v := v_2575) (lv' := [(5, .int v_2575), (6, .long y_2568), (0, .ref b0), (1, .ref b1), (2, .int b2), (3, .int b3), (4, .int b4)]) hx hb d_Machine_goOn_130 hl (k := 1) rfl (by rw [ev_2575]; rfl) (by decide) rfl (fun ls hl => ?_)
          refine lv_goto (tgt := 3) hx hb d_Machine_goOn_133 (by decide) ?_
          exact ihk_2302 (v_2575) (y_2569) _ _ _ (zI.wk (l' := 0) (h' := 4) hv_2575 (by decide)) hy_2569 (zm_up qv_2575 hmk_2302 (by decide)) hP hD hS (lv_sub hl [0, 2, 3, 4, 5, 6] rfl)
        · have ni_2576 := hc_2572
          rw [ev_2571] at ni_2576
          simp only [lg_cmp_lt, lg_cmp_le, lg_cmp_gt, lg_cmp_ge, lg_cmp_eq, fa_lt64, fa_le64, fa_eq64, Int32.toInt_toInt64, ll_0] at ni_2576
          refine lv_bipush (v := 64) hx hb d_Machine_goOn_26 (by decide) ?_
          refine lv_iload hx hb d_Machine_goOn_28 (lv_at hl 1 rfl) ?_
          refine lv_imul hx hb d_Machine_goOn_30 ?_
          refine lv_topi (fun v_2577 ev_2577 => ?_)
          obtain ⟨qv_2577, hv_2577⟩ := zI_mul (l := 0) (h := 192) zc_64 hv_2311 ev_2577 (by decide)
          rw [li_64] at qv_2577
          refine lv_lload hx hb d_Machine_goOn_31 (lv_at hl 0 rfl) ?_
          refine z_callS (index := 170) (As := [.long y_2568]) (rest := [.int v_2577]) (wr := [(b0, .inr (5, [.int b5, .int b6, .ref b7, .ref b8, .ref b9, .ref b10, .ref b11, .ref b12, .int b13, .ref b14, .ref b15, .ref b16, .ref b17, .ref b18, .ref b19])), (b14, .inl (G.2 0, 240, .inl b20)), (b16, .inl (G.2 0, 240, .inl b21)), (b17, .inl (G.2 0, 240, .inl b22)), (b18, .inl (G.2 0, 242, .inl b23)), (b1, .inr (6, [.int b24, .int 4, .int 2, .ref b25, .ref b26])), (b25, .inl (G.2 1, 8, .inr (.inl y_2569)))]) Z (s2_Sets_lowest l G (y_2568) (by omega)) hl.1 q723 q724 q7 q725 ⟨by decide, by decide, by show _ = some 1; decide +kernel⟩ ⟨Nat.le_of_ble_eq_true rfl, Nat.le_of_ble_eq_true rfl⟩ ⟨Nat.le_of_ble_eq_true rfl, Nat.le_of_ble_eq_true rfl⟩ rfl (Nat.le_of_ble_eq_true rfl) d_Machine_goOn_33 hP hD hS hA [] [0, 1, 2, 3, 4, 5, 6] rfl rfl rfl rfl (by decide) (fun v w1 H locs hw_2578 hP hD hS => ?_)
          obtain ⟨x_2579, rfl, rfl, hx_2579, hfx_2580⟩ := hw_2578
          have hP : va_P G.1 classes [(b0, .inr (5, [.int b5, .int b6, .ref b7, .ref b8, .ref b9, .ref b10, .ref b11, .ref b12, .int b13, .ref b14, .ref b15, .ref b16, .ref b17, .ref b18, .ref b19])), (b14, .inl (G.2 0, 240, .inl b20)), (b16, .inl (G.2 0, 240, .inl b21)), (b17, .inl (G.2 0, 240, .inl b22)), (b18, .inl (G.2 0, 242, .inl b23)), (b1, .inr (6, [.int b24, .int 4, .int 2, .ref b25, .ref b26])), (b25, .inl (G.2 1, 8, .inr (.inl y_2569)))] H := hP
          have hD := z_tie hP hD rfl
          refine W.widen (k := 0) (n := 0) (Nat.le_of_ble_eq_true rfl) (Nat.le_of_ble_eq_true rfl) ?_
          refine lv_iadd hx hb d_Machine_goOn_36 ?_
          refine lv_topi (fun v_2581 ev_2581 => ?_)
          obtain ⟨qv_2581, hv_2581⟩ := zI_add (l := 0) (h := 255) hv_2577 hx_2579 ev_2581 (by decide)
          have hv_2582 : zI v_2581 0 240 := ⟨by omega, by omega⟩
          refine lv_istore (lv' := [(8, .int v_2581), (6, .long y_2568), (5, .int y_2303), (0, .ref b0), (1, .ref b1), (2, .int b2), (3, .int b3), (4, .int b4)]) hx hb d_Machine_goOn_37 hl (by decide) rfl (fun ls hl => ?_)
          refine lv_aload_n hx hb d_Machine_goOn_39 rfl (lv_at hl 3 rfl) ?_
          refine va_get (D := G.1) (ci := 5) (v := .ref b18) (C := R_Machine) (T := F_Machine) (N := 15) hx hb hts i_Machine hown hK hP 0 rfl rfl 13 (by decide) (hts _ q195) (fun _ h9 => h9) rfl d_Machine_goOn_40 ?_
          refine lv_iload hx hb d_Machine_goOn_43 (lv_at hl 0 rfl) ?_
          refine va_iald hx hb hK hP 4 0 rfl rfl (zI.inn hv_2582 (by decide)) d_Machine_goOn_45 ?_
          refine lv_topi (fun v_2583 ev_2583 => ?_)
          have hv_2583 : zI v_2583 0 240 := (hb23 _).eq ev_2583
          refine lv_istore (lv' := [(9, .int v_2583), (8, .int v_2581), (6, .long y_2568), (5, .int y_2303), (0, .ref b0), (1, .ref b1), (2, .int b2), (3, .int b3), (4, .int b4)]) hx hb d_Machine_goOn_46 hl (by decide) rfl (fun ls hl => ?_)
          suffices key : ∀ (k_2658 : Nat) (y_2659 : Int32) (y_2660 : Nat → Int64) (H : Heap) (locs : List Loc) (ls : Array Slot), (zI y_2659 0 240) → (zqa qB y_2660) → (240 : Int) - y_2659.toInt < (k_2658 : Int) → va_P G.1 classes [(b0, .inr (5, [.int b5, .int b6, .ref b7, .ref b8, .ref b9, .ref b10, .ref b11, .ref b12, .int b13, .ref b14, .ref b15, .ref b16, .ref b17, .ref b18, .ref b19])), (b14, .inl (G.2 0, 240, .inl b20)), (b16, .inl (G.2 0, 240, .inl b21)), (b17, .inl (G.2 0, 240, .inl b22)), (b18, .inl (G.2 0, 242, .inl b23)), (b1, .inr (6, [.int b24, .int 4, .int 2, .ref b25, .ref b26])), (b25, .inl (G.2 1, 8, .inr (.inl y_2660)))] H → va_D A [(b0, .inr (5, [.int b5, .int b6, .ref b7, .ref b8, .ref b9, .ref b10, .ref b11, .ref b12, .int b13, .ref b14, .ref b15, .ref b16, .ref b17, .ref b18, .ref b19])), (b14, .inl (G.2 0, 240, .inl b20)), (b16, .inl (G.2 0, 240, .inl b21)), (b17, .inl (G.2 0, 240, .inl b22)), (b18, .inl (G.2 0, 242, .inl b23)), (b1, .inr (6, [.int b24, .int 4, .int 2, .ref b25, .ref b26])), (b25, .inl (G.2 1, 8, .inr (.inl y_2660)))] → va_S A s.heap H locs → lv_has ls 10 [(9, .int y_2659), (8, .int v_2581), (6, .long y_2568), (5, .int y_2303), (0, .ref b0), (1, .ref b1), (2, .int b2), (3, .int b3), (4, .int b4)] → W p l e m_s2_Machine_goOn s m ([.ref b0, .ref b1, .int b2, .int b3, .int b4] : List Value).toArray below meth c H locs 0 0 (MQ below (zQ G (fun v w => ∃ (e0 : Nat → Int64), v = none ∧ w = [(b0, .inr (5, [.int b5, .int b6, .ref b7, .ref b8, .ref b9, .ref b10, .ref b11, .ref b12, .int b13, .ref b14, .ref b15, .ref b16, .ref b17, .ref b18, .ref b19])), (b14, .inl (G.2 0, 240, .inl b20)), (b16, .inl (G.2 0, 240, .inl b21)), (b17, .inl (G.2 0, 240, .inl b22)), (b18, .inl (G.2 0, 242, .inl b23)), (b1, .inr (6, [.int b24, .int 4, .int 2, .ref b25, .ref b26])), (b25, .inl (G.2 1, 8, .inr (.inl e0)))] ∧ (zqa qB e0)) A) ([.ref b0, .ref b1, .int b2, .int b3, .int b4] : List Value).toArray s m_s2_Machine_goOn.cells m_s2_Machine_goOn.slots A) (F0 m 48 ls []) by
            exact key 241 (v_2583) (y_2569) _ _ _ hv_2583 hy_2569 (zm_upi hv_2583 (by decide)) hP hD hS (lv_sub hl [0, 1, 2, 3, 4, 5, 6, 7, 8] rfl)
          intro k_2658
          induction k_2658 with
          | zero =>
            intro y_2659 y_2660 H locs ls hy_2659 hy_2660 hmk_2658 hP hD hS hl
            exact (zm_up0 hy_2659 hmk_2658).elim
          | succ k_2658 ihk_2658 =>
            intro y_2659 y_2660 H locs ls hy_2659 hy_2660 hmk_2658 hP hD hS hl
            refine lv_iload hx hb d_Machine_goOn_48 (lv_at hl 0 rfl) ?_
            refine lv_aload_n hx hb d_Machine_goOn_50 rfl (lv_at hl 4 rfl) ?_
            refine va_get (D := G.1) (ci := 5) (v := .ref b18) (C := R_Machine) (T := F_Machine) (N := 15) hx hb hts i_Machine hown hK hP 0 rfl rfl 13 (by decide) (hts _ q195) (fun _ h9 => h9) rfl d_Machine_goOn_51 ?_
            refine lv_iload hx hb d_Machine_goOn_54 (lv_at hl 1 rfl) ?_
            refine lv_iconst (v := 1) hx hb d_Machine_goOn_56 (by decide) ?_
            refine lv_iadd hx hb d_Machine_goOn_57 ?_
            refine lv_topi (fun v_2661 ev_2661 => ?_)
            obtain ⟨qv_2661, hv_2661⟩ := zI_add (l := 1) (h := 241) hv_2582 zc_1 ev_2661 (by decide)
            rw [li_1] at qv_2661
            refine va_iald hx hb hK hP 4 0 rfl rfl (zI.inn hv_2661 (by decide)) d_Machine_goOn_58 ?_
            refine lv_topi (fun v_2662 ev_2662 => ?_)
            have hv_2662 : zI v_2662 0 240 := (hb23 _).eq ev_2662
            refine lv_icmp_ge (tgt := 118) hx hb d_Machine_goOn_59 (by decide) (fun hc_2663 => ?_) (fun hc_2663 => ?_)
            · have _nhc_2663 := hc_2663
              have ni_2664 := (fa_le _ _).mp hc_2663
              refine lv_lload hx hb d_Machine_goOn_118 (lv_at hl 2 rfl) ?_
              refine lv_lload hx hb d_Machine_goOn_120 (lv_at hl 2 rfl) ?_
              refine lv_lconst (v := 1) hx hb d_Machine_goOn_122 (by decide) ?_
              refine lv_lsub hx hb d_Machine_goOn_123 ?_
              refine lv_topl (fun v_2665 ev_2665 => ?_)
              refine lv_land hx hb d_Machine_goOn_124 ?_
              refine lv_topl (fun v_2666 ev_2666 => ?_)
              refine lv_lstore (lv' := [(6, .long v_2666), (9, .int y_2659), (8, .int v_2581), (5, .int y_2303), (0, .ref b0), (1, .ref b1), (2, .int b2), (3, .int b3), (4, .int b4)]) hx hb d_Machine_goOn_125 hl (by decide) rfl (fun ls hl => ?_)
              refine lv_goto (tgt := 19) hx hb d_Machine_goOn_127 (by decide) ?_
              exact ihk_2567 (v_2666) (y_2660) _ _ _ hy_2660 (fun h9 => z_decB ev_2666 (hli_2570 h9)) (z_dec ev_2665 ev_2666 (by omega) hmk_2567) hP hD hS (lv_sub hl [0, 3, 4, 5, 6, 7, 8] rfl)
            · have _nhc_2663 := hc_2663
              have ni_2667 := (fa_lt _ _).mp (zi_nle hc_2663)
              have hv_2668 : zI y_2659 0 239 := zI.lt_l hy_2659 hv_2662 (zi_nle hc_2663) (by decide)
              have hv_2669 : zI v_2662 1 240 := zI.lt_r hy_2659 hv_2662 (zi_nle hc_2663) (by decide)
              refine lv_aload_n hx hb d_Machine_goOn_62 rfl (lv_at hl 4 rfl) ?_
              refine lv_iload hx hb d_Machine_goOn_63 (lv_at hl 0 rfl) ?_
              refine z_callV (index := 174) (As := [.int y_2659]) (rest := []) (wr := [(b16, .inl (G.2 0, 240, .inl b21)), (b17, .inl (G.2 0, 240, .inl b22)), (b18, .inl (G.2 0, 242, .inl b23)), (b1, .inr (6, [.int b24, .int 4, .int 2, .ref b25, .ref b26])), (b25, .inl (G.2 1, 8, .inr (.inl y_2660)))]) Z (s1_Machine_letter l G (b0) (y_2659) (b5) (b6) (b7) (b8) (b9) (b10) (b11) (b12) (b13) (b14) (b15) (b16) (b17) (b18) (b19) (b20) hv_2668 hb5 hb6 hb13 hb20) hl.1 q732 q674 q675 q6 q676 ⟨by decide, by decide, by show _ = some 1; decide +kernel⟩ ⟨Nat.le_of_ble_eq_true rfl, Nat.le_of_ble_eq_true rfl⟩ ⟨Nat.le_of_ble_eq_true rfl, Nat.le_of_ble_eq_true rfl⟩ rfl (Nat.le_of_ble_eq_true rfl) d_Machine_goOn_65 hP hD hS hA 0 5 rfl rfl rfl [0, 1] [2, 3, 4, 5, 6] rfl rfl rfl rfl (by decide) (fun v w1 H locs hw_2670 hP hD hS => ?_)
              obtain ⟨x_2671, rfl, rfl, hx_2671⟩ := hw_2670
              have hP : va_P G.1 classes [(b16, .inl (G.2 0, 240, .inl b21)), (b17, .inl (G.2 0, 240, .inl b22)), (b18, .inl (G.2 0, 242, .inl b23)), (b1, .inr (6, [.int b24, .int 4, .int 2, .ref b25, .ref b26])), (b25, .inl (G.2 1, 8, .inr (.inl y_2660))), (b0, .inr (5, [.int b5, .int b6, .ref b7, .ref b8, .ref b9, .ref b10, .ref b11, .ref b12, .int b13, .ref b14, .ref b15, .ref b16, .ref b17, .ref b18, .ref b19])), (b14, .inl (G.2 0, 240, .inl b20))] H := hP
              have hD := z_tie hP hD rfl
              refine W.widen (k := 0) (n := 0) (Nat.le_of_ble_eq_true rfl) (Nat.le_of_ble_eq_true rfl) ?_
              refine lv_iload_n hx hb d_Machine_goOn_68 rfl (lv_at hl 6 rfl) ?_
              refine lv_icmp_ne (tgt := 112) hx hb d_Machine_goOn_69 (by decide) (fun hc_2672 => ?_) (fun hc_2672 => ?_)
              · have _nhc_2672 := hc_2672
                have ni_2673 : ¬ (x_2671 : Int32).toInt = (b2 : Int32).toInt := fun z => hc_2672 ((fa_eq _ _).mpr z)
                obtain ⟨v_2674, ev_2674⟩ : ∃ z : Int32, z = y_2659 + 1 := ⟨_, rfl⟩
                obtain ⟨qv_2674, hv_2674⟩ := zI_add (l := 1) (h := 240) hv_2668 zc_1 ev_2674 (by decide)
                rw [li_1] at qv_2674
                refine lv_iinc (v := v_2674) (lv' := [(9, .int v_2674), (8, .int v_2581), (6, .long y_2568), (5, .int y_2303), (0, .ref b0), (1, .ref b1), (2, .int b2), (3, .int b3), (4, .int b4)]) hx hb d_Machine_goOn_112 hl (k := 0) rfl (by rw [ev_2674]; rfl) (by decide) rfl (fun ls hl => ?_)
                refine lv_goto (tgt := 48) hx hb d_Machine_goOn_115 (by decide) ?_
                exact ihk_2658 (v_2674) (y_2660) _ _ _ (zI.wk (l' := 0) (h' := 240) hv_2674 (by decide)) hy_2660 (zm_up qv_2674 hmk_2658 (by decide)) (hP.sub [5, 6, 0, 1, 2, 3, 4] rfl) (hD.sub [5, 6, 0, 1, 2, 3, 4] (by decide) rfl) hS (lv_sub hl [0, 1, 2, 3, 4, 5, 6, 7, 8] rfl)
              · have _nhc_2672 := hc_2672
                have ni_2675 := (fa_eq _ _).mp hc_2672
                refine lv_iload_n hx hb d_Machine_goOn_72 rfl (lv_at hl 7 rfl) ?_
                refine lv_aload_n hx hb d_Machine_goOn_73 rfl (lv_at hl 4 rfl) ?_
                refine va_get (D := G.1) (ci := 5) (v := .ref b16) (C := R_Machine) (T := F_Machine) (N := 15) hx hb hts i_Machine hown hK hP 5 rfl rfl 11 (by decide) (hts _ q191) (fun _ h9 => h9) rfl d_Machine_goOn_74 ?_
                refine lv_iload hx hb d_Machine_goOn_77 (lv_at hl 0 rfl) ?_
                refine va_iald hx hb hK hP 0 0 rfl rfl (zI.inn hv_2668 (by decide)) d_Machine_goOn_79 ?_
                refine lv_topi (fun v_2676 ev_2676 => ?_)
                refine lv_iload hx hb d_Machine_goOn_80 (lv_at hl 8 rfl) ?_
                refine lv_isub hx hb d_Machine_goOn_82 ?_
                refine lv_topi (fun v_2677 ev_2677 => ?_)
                refine lv_icmp_lt (tgt := 112) hx hb d_Machine_goOn_83 (by decide) (fun hc_2678 => ?_) (fun hc_2678 => ?_)
                · have _nhc_2678 := hc_2678
                  have ni_2679 := (fa_lt _ _).mp hc_2678
                  have hv_2680 : zI b3 (-2147483648) 2147483646 := zI.lt_l (zI_all b3) (zI_all v_2677) hc_2678 (by decide)
                  have hv_2681 : zI v_2677 (-2147483647) 2147483647 := zI.lt_r (zI_all b3) (zI_all v_2677) hc_2678 (by decide)
                  obtain ⟨v_2682, ev_2682⟩ : ∃ z : Int32, z = y_2659 + 1 := ⟨_, rfl⟩
                  obtain ⟨qv_2682, hv_2682⟩ := zI_add (l := 1) (h := 240) hv_2668 zc_1 ev_2682 (by decide)
                  rw [li_1] at qv_2682
                  refine lv_iinc (v := v_2682) (lv' := [(9, .int v_2682), (8, .int v_2581), (6, .long y_2568), (5, .int y_2303), (0, .ref b0), (1, .ref b1), (2, .int b2), (3, .int b3), (4, .int b4)]) hx hb d_Machine_goOn_112 hl (k := 0) rfl (by rw [ev_2682]; rfl) (by decide) rfl (fun ls hl => ?_)
                  refine lv_goto (tgt := 48) hx hb d_Machine_goOn_115 (by decide) ?_
                  exact ihk_2658 (v_2682) (y_2660) _ _ _ (zI.wk (l' := 0) (h' := 240) hv_2682 (by decide)) hy_2660 (zm_up qv_2682 hmk_2658 (by decide)) (hP.sub [5, 6, 0, 1, 2, 3, 4] rfl) (hD.sub [5, 6, 0, 1, 2, 3, 4] (by decide) rfl) hS (lv_sub hl [0, 1, 2, 3, 4, 5, 6, 7, 8] rfl)
                · have _nhc_2678 := hc_2678
                  have ni_2683 := (fa_le _ _).mp (zi_nlt hc_2678)
                  refine lv_iload_n hx hb d_Machine_goOn_86 rfl (lv_at hl 7 rfl) ?_
                  refine lv_aload_n hx hb d_Machine_goOn_87 rfl (lv_at hl 4 rfl) ?_
                  refine va_get (D := G.1) (ci := 5) (v := .ref b17) (C := R_Machine) (T := F_Machine) (N := 15) hx hb hts i_Machine hown hK hP 5 rfl rfl 12 (by decide) (hts _ q193) (fun _ h9 => h9) rfl d_Machine_goOn_88 ?_
                  refine lv_iload hx hb d_Machine_goOn_91 (lv_at hl 0 rfl) ?_
                  refine va_iald hx hb hK hP 1 0 rfl rfl (zI.inn hv_2668 (by decide)) d_Machine_goOn_93 ?_
                  refine lv_topi (fun v_2684 ev_2684 => ?_)
                  refine lv_iload hx hb d_Machine_goOn_94 (lv_at hl 8 rfl) ?_
                  refine lv_iadd hx hb d_Machine_goOn_96 ?_
                  refine lv_topi (fun v_2685 ev_2685 => ?_)
                  refine lv_icmp_gt (tgt := 112) hx hb d_Machine_goOn_97 (by decide) (fun hc_2686 => ?_) (fun hc_2686 => ?_)
                  · have _nhc_2686 := hc_2686
                    have ni_2687 := (fa_lt _ _).mp hc_2686
                    have hv_2688 : zI v_2685 (-2147483648) 2147483646 := zI.lt_l (zI_all v_2685) (zI_all b3) hc_2686 (by decide)
                    have hv_2689 : zI b3 (-2147483647) 2147483647 := zI.lt_r (zI_all v_2685) (zI_all b3) hc_2686 (by decide)
                    obtain ⟨v_2690, ev_2690⟩ : ∃ z : Int32, z = y_2659 + 1 := ⟨_, rfl⟩
                    obtain ⟨qv_2690, hv_2690⟩ := zI_add (l := 1) (h := 240) hv_2668 zc_1 ev_2690 (by decide)
                    rw [li_1] at qv_2690
                    refine lv_iinc (v := v_2690) (lv' := [(9, .int v_2690), (8, .int v_2581), (6, .long y_2568), (5, .int y_2303), (0, .ref b0), (1, .ref b1), (2, .int b2), (3, .int b3), (4, .int b4)]) hx hb d_Machine_goOn_112 hl (k := 0) rfl (by rw [ev_2690]; rfl) (by decide) rfl (fun ls hl => ?_)
                    refine lv_goto (tgt := 48) hx hb d_Machine_goOn_115 (by decide) ?_
                    exact ihk_2658 (v_2690) (y_2660) _ _ _ (zI.wk (l' := 0) (h' := 240) hv_2690 (by decide)) hy_2660 (zm_up qv_2690 hmk_2658 (by decide)) (hP.sub [5, 6, 0, 1, 2, 3, 4] rfl) (hD.sub [5, 6, 0, 1, 2, 3, 4] (by decide) rfl) hS (lv_sub hl [0, 1, 2, 3, 4, 5, 6, 7, 8] rfl)
                  · have _nhc_2686 := hc_2686
                    have ni_2691 := (fa_le _ _).mp (zi_nlt hc_2686)
                    refine lv_aload_n hx hb d_Machine_goOn_100 rfl (lv_at hl 5 rfl) ?_
                    refine lv_iconst (v := 1) hx hb d_Machine_goOn_101 (by decide) ?_
                    refine lv_iconst (v := 0) hx hb d_Machine_goOn_102 (by decide) ?_
                    refine lv_aload_n hx hb d_Machine_goOn_103 rfl (lv_at hl 4 rfl) ?_
                    refine lv_iload hx hb d_Machine_goOn_104 (lv_at hl 0 rfl) ?_
                    refine z_callV (index := 176) (As := [.int y_2659]) (rest := [.int 0, .int 1, .ref b1]) (wr := [(b16, .inl (G.2 0, 240, .inl b21)), (b17, .inl (G.2 0, 240, .inl b22)), (b18, .inl (G.2 0, 242, .inl b23)), (b1, .inr (6, [.int b24, .int 4, .int 2, .ref b25, .ref b26])), (b25, .inl (G.2 1, 8, .inr (.inl y_2660)))]) Z (s1_Machine_to l G (b0) (y_2659) (b5) (b6) (b7) (b8) (b9) (b10) (b11) (b12) (b13) (b14) (b15) (b16) (b17) (b18) (b19) (b20) hv_2668 hb5 hb6 hb13 hb20) hl.1 q733 q681 q682 q6 q683 ⟨by decide, by decide, by show _ = some 1; decide +kernel⟩ ⟨Nat.le_of_ble_eq_true rfl, Nat.le_of_ble_eq_true rfl⟩ ⟨Nat.le_of_ble_eq_true rfl, Nat.le_of_ble_eq_true rfl⟩ rfl (Nat.le_of_ble_eq_true rfl) d_Machine_goOn_106 hP hD hS hA 5 5 rfl rfl rfl [5, 6] [0, 1, 2, 3, 4] rfl rfl rfl rfl (by decide) (fun v w1 H locs hw_2692 hP hD hS => ?_)
                    obtain ⟨x_2693, rfl, rfl, hx_2693⟩ := hw_2692
                    have hP : va_P G.1 classes [(b16, .inl (G.2 0, 240, .inl b21)), (b17, .inl (G.2 0, 240, .inl b22)), (b18, .inl (G.2 0, 242, .inl b23)), (b1, .inr (6, [.int b24, .int 4, .int 2, .ref b25, .ref b26])), (b25, .inl (G.2 1, 8, .inr (.inl y_2660))), (b0, .inr (5, [.int b5, .int b6, .ref b7, .ref b8, .ref b9, .ref b10, .ref b11, .ref b12, .int b13, .ref b14, .ref b15, .ref b16, .ref b17, .ref b18, .ref b19])), (b14, .inl (G.2 0, 240, .inl b20))] H := hP
                    have hD := z_tie hP hD rfl
                    refine W.widen (k := 0) (n := 0) (Nat.le_of_ble_eq_true rfl) (Nat.le_of_ble_eq_true rfl) ?_
                    refine z_callV (index := 139) (As := [.int 1, .int 0, .int x_2693]) (rest := []) (wr := [(b16, .inl (G.2 0, 240, .inl b21)), (b17, .inl (G.2 0, 240, .inl b22)), (b18, .inl (G.2 0, 242, .inl b23)), (b0, .inr (5, [.int b5, .int b6, .ref b7, .ref b8, .ref b9, .ref b10, .ref b11, .ref b12, .int b13, .ref b14, .ref b15, .ref b16, .ref b17, .ref b18, .ref b19])), (b14, .inl (G.2 0, 240, .inl b20))]) Z (s1_Sets_put l G (b1) (1) (0) (x_2693) (b24) (b25) (b26) (y_2660) (zI.wk (l' := 0) (h' := 1) zc_1 (by decide)) zc_0 hx_2693 hb24 hy_2660) hl.1 q709 q710 q711 q7 q712 ⟨by decide, by decide, by show _ = some 3; decide +kernel⟩ ⟨Nat.le_of_ble_eq_true rfl, Nat.le_of_ble_eq_true rfl⟩ ⟨Nat.le_of_ble_eq_true rfl, Nat.le_of_ble_eq_true rfl⟩ rfl (Nat.le_of_ble_eq_true rfl) d_Machine_goOn_109 hP hD hS hA 3 6 rfl rfl rfl [3, 4] [0, 1, 2, 5, 6] rfl rfl rfl rfl (by decide) (fun v w1 H locs hw_2694 hP hD hS => ?_)
                    obtain ⟨f_2695, rfl, rfl, hf_2695⟩ := hw_2694
                    have hP : va_P G.1 classes [(b16, .inl (G.2 0, 240, .inl b21)), (b17, .inl (G.2 0, 240, .inl b22)), (b18, .inl (G.2 0, 242, .inl b23)), (b0, .inr (5, [.int b5, .int b6, .ref b7, .ref b8, .ref b9, .ref b10, .ref b11, .ref b12, .int b13, .ref b14, .ref b15, .ref b16, .ref b17, .ref b18, .ref b19])), (b14, .inl (G.2 0, 240, .inl b20)), (b1, .inr (6, [.int b24, .int 4, .int 2, .ref b25, .ref b26])), (b25, .inl (G.2 1, 8, .inr (.inl f_2695)))] H := hP
                    have hD := z_tie hP hD rfl
                    refine W.widen (k := 0) (n := 0) (Nat.le_of_ble_eq_true rfl) (Nat.le_of_ble_eq_true rfl) ?_
                    obtain ⟨v_2696, ev_2696⟩ : ∃ z : Int32, z = y_2659 + 1 := ⟨_, rfl⟩
                    obtain ⟨qv_2696, hv_2696⟩ := zI_add (l := 1) (h := 240) hv_2668 zc_1 ev_2696 (by decide)
                    rw [li_1] at qv_2696
                    refine lv_iinc (v := v_2696) (lv' := [(9, .int v_2696), (8, .int v_2581), (6, .long y_2568), (5, .int y_2303), (0, .ref b0), (1, .ref b1), (2, .int b2), (3, .int b3), (4, .int b4)]) hx hb d_Machine_goOn_112 hl (k := 0) rfl (by rw [ev_2696]; rfl) (by decide) rfl (fun ls hl => ?_)
                    refine lv_goto (tgt := 48) hx hb d_Machine_goOn_115 (by decide) ?_
                    exact ihk_2658 (v_2696) (f_2695) _ _ _ (zI.wk (l' := 0) (h' := 240) hv_2696 (by decide)) hf_2695 (zm_up qv_2696 hmk_2658 (by decide)) (hP.sub [3, 4, 0, 1, 2, 5, 6] rfl) (hD.sub [3, 4, 0, 1, 2, 5, 6] (by decide) rfl) hS (lv_sub hl [0, 1, 2, 3, 4, 5, 6, 7, 8] rfl)
theorem d_Machine_failsAt_13 : decode prog_4_method_15_code 13 = .ok (.ireturn, 1) := by decide +kernel
theorem d_Machine_failsAt_72 : decode prog_4_method_15_code 72 = .ok (.ireturn, 1) := by decide +kernel
abbrev m_s1_Machine_failsAt : Room := { frames := 3, cells := 0, slots := 0, locals := 71 }
set_option maxHeartbeats 4000000 in
set_option maxRecDepth 100000 in
theorem s1_Machine_failsAt (l : Launch) (G : zG) (b0 : Nat) (b1 : Nat) (b2 : Int32) (b3 : Int32) (b4 : Nat) (b5 : Int32) (b6 : Int32) (b7 : Nat) (b8 : Nat) (b9 : Nat) (b10 : Nat) (b11 : Nat) (b12 : Nat) (b13 : Int32) (b14 : Nat) (b15 : Nat) (b16 : Nat) (b17 : Nat) (b18 : Nat) (b19 : Nat) (b20 : Nat → Int64) (b21 : Nat → Int32) (b22 : Nat → Int32) (b23 : Nat → Int32) (b24 : Nat → Int32) (b25 : Int32) (b26 : Int32) (b27 : Int32) (b28 : Nat) (b29 : Nat) (b30 : Nat) (b31 : Nat → Int32) (b32 : Nat → Int32) (b33 : Nat → Int32) (b34 : Int32) (b35 : Nat) (b36 : Nat) (b37 : Nat → Int64) (hb2 : zI b2 0 19) (hb5 : zI b5 0 1) (hb6 : zI b6 0 241) (hb13 : zI b13 0 240) (hb25 : zI b25 0 20) (hb26 : zI b26 0 3) (hb27 : zI b27 0 20) (hb34 : zI b34 0 2) (hb21 : zK b21) (hb24 : zR b24 0 240) (hb31 : zR b31 0 12) (hb32 : zR b32 0 9) (hb37 : zqa qB b37) : zM l G y_Machine_failsAt prog_4_method_15_code 7 (Option.some Jvm.ClassFile.FieldType.int) m_s1_Machine_failsAt [.ref b0, .ref b1, .int b2, .int b3, .ref b4] [(b0, .inr (5, [.int b5, .int b6, .ref b7, .ref b8, .ref b9, .ref b10, .ref b11, .ref b12, .int b13, .ref b14, .ref b15, .ref b16, .ref b17, .ref b18, .ref b19])), (b12, .inl (G.2 1, 4, .inr (.inl b20))), (b14, .inl (G.2 0, 240, .inl b21)), (b16, .inl (G.2 0, 240, .inl b22)), (b17, .inl (G.2 0, 240, .inl b23)), (b18, .inl (G.2 0, 242, .inl b24)), (b1, .inr (2, [.int b25, .int b26, .int b27, .ref b28, .ref b29, .ref b30])), (b28, .inl (G.2 0, 20, .inl b31)), (b29, .inl (G.2 0, 240, .inl b32)), (b30, .inl (G.2 0, 240, .inl b33)), (b4, .inr (6, [.int b34, .int 4, .int 2, .ref b35, .ref b36])), (b35, .inl (G.2 1, 8, .inr (.inl b37)))] (fun v w => ∃ (e0 : Int32), ∃ (e1 : Nat → Int64), v = some (.int e0) ∧ w = [(b0, .inr (5, [.int b5, .int b6, .ref b7, .ref b8, .ref b9, .ref b10, .ref b11, .ref b12, .int b13, .ref b14, .ref b15, .ref b16, .ref b17, .ref b18, .ref b19])), (b12, .inl (G.2 1, 4, .inr (.inl b20))), (b14, .inl (G.2 0, 240, .inl b21)), (b16, .inl (G.2 0, 240, .inl b22)), (b17, .inl (G.2 0, 240, .inl b23)), (b18, .inl (G.2 0, 242, .inl b24)), (b1, .inr (2, [.int b25, .int b26, .int b27, .ref b28, .ref b29, .ref b30])), (b28, .inl (G.2 0, 20, .inl b31)), (b29, .inl (G.2 0, 240, .inl b32)), (b30, .inl (G.2 0, 240, .inl b33)), (b4, .inr (6, [.int b34, .int 4, .int 2, .ref b35, .ref b36])), (b35, .inl (G.2 1, 8, .inr (.inl e1)))] ∧ (zI e0 (-1) 12) ∧ (zqa qB e1)) := by
  refine z_start (by decide +kernel) (Nat.le_of_ble_eq_true rfl) ?_
  intro p e s m below meth c A Z hr hnm hA hP hD hS ls hl
  have Z : zC p s m _ meth c prog_4_method_15_code 7 "TraceMachines$Machine" G := Z
  obtain ⟨hx, hb, hml, hown, hts, hK, hN, hlocks⟩ := id Z
  have hl : lv_has ls 7 [(0, .ref b0), (1, .ref b1), (2, .int b2), (3, .int b3), (4, .ref b4)] := hl
  refine lv_aload hx hb d_Machine_failsAt_0 (lv_at hl 4 rfl) ?_
  refine z_callV (index := 136) (As := []) (rest := []) (wr := [(b0, .inr (5, [.int b5, .int b6, .ref b7, .ref b8, .ref b9, .ref b10, .ref b11, .ref b12, .int b13, .ref b14, .ref b15, .ref b16, .ref b17, .ref b18, .ref b19])), (b12, .inl (G.2 1, 4, .inr (.inl b20))), (b14, .inl (G.2 0, 240, .inl b21)), (b16, .inl (G.2 0, 240, .inl b22)), (b17, .inl (G.2 0, 240, .inl b23)), (b18, .inl (G.2 0, 242, .inl b24)), (b1, .inr (2, [.int b25, .int b26, .int b27, .ref b28, .ref b29, .ref b30])), (b28, .inl (G.2 0, 20, .inl b31)), (b29, .inl (G.2 0, 240, .inl b32)), (b30, .inl (G.2 0, 240, .inl b33))]) Z (s1_Sets_clear l G (b4) (b34) (b35) (b36) (b37) hb34 hb37) hl.1 q704 q705 q706 q7 q707 ⟨by decide, by decide, by show _ = some 0; decide +kernel⟩ ⟨Nat.le_of_ble_eq_true rfl, Nat.le_of_ble_eq_true rfl⟩ ⟨Nat.le_of_ble_eq_true rfl, Nat.le_of_ble_eq_true rfl⟩ rfl (Nat.le_of_ble_eq_true rfl) d_Machine_failsAt_2 hP hD hS hA 10 6 rfl rfl rfl [10, 11] [0, 1, 2, 3, 4, 5, 6, 7, 8, 9] rfl rfl rfl rfl (by decide) (fun v w1 H locs hw_1 hP hD hS => ?_)
  obtain ⟨f_2, rfl, rfl, hf_2⟩ := hw_1
  have hP : va_P G.1 classes [(b0, .inr (5, [.int b5, .int b6, .ref b7, .ref b8, .ref b9, .ref b10, .ref b11, .ref b12, .int b13, .ref b14, .ref b15, .ref b16, .ref b17, .ref b18, .ref b19])), (b12, .inl (G.2 1, 4, .inr (.inl b20))), (b14, .inl (G.2 0, 240, .inl b21)), (b16, .inl (G.2 0, 240, .inl b22)), (b17, .inl (G.2 0, 240, .inl b23)), (b18, .inl (G.2 0, 242, .inl b24)), (b1, .inr (2, [.int b25, .int b26, .int b27, .ref b28, .ref b29, .ref b30])), (b28, .inl (G.2 0, 20, .inl b31)), (b29, .inl (G.2 0, 240, .inl b32)), (b30, .inl (G.2 0, 240, .inl b33)), (b4, .inr (6, [.int b34, .int 4, .int 2, .ref b35, .ref b36])), (b35, .inl (G.2 1, 8, .inr (.inl f_2)))] H := hP
  have hD := z_tie hP hD rfl
  refine W.widen (k := 0) (n := 0) (Nat.le_of_ble_eq_true rfl) (Nat.le_of_ble_eq_true rfl) ?_
  refine lv_aload_n hx hb d_Machine_failsAt_5 rfl (lv_at hl 0 rfl) ?_
  refine va_get (D := G.1) (ci := 5) (v := .int b6) (C := R_Machine) (T := F_Machine) (N := 15) hx hb hts i_Machine hown hK hP 0 rfl rfl 1 (by decide) (hts _ q168) (fun _ h9 => h9) rfl d_Machine_failsAt_6 ?_
  refine lv_if_ne (tgt := 14) hx hb d_Machine_failsAt_9 (by decide) (fun hc_3 => ?_) (fun hc_3 => ?_)
  · have _nhc_3 := hc_3
    have ni_4 : ¬ (b6 : Int32).toInt = (0 : Int32).toInt := fun z => hc_3 ((fa_eq _ _).mpr z)
    simp only [li_0] at ni_4
    have hv_5 : zI b6 1 241 := zI.ne_lo hb6 zc_0 hc_3 (by decide)
    refine lv_aload hx hb d_Machine_failsAt_14 (lv_at hl 4 rfl) ?_
    refine lv_iconst (v := 0) hx hb d_Machine_failsAt_16 (by decide) ?_
    refine lv_iconst (v := 0) hx hb d_Machine_failsAt_17 (by decide) ?_
    refine lv_iconst (v := 0) hx hb d_Machine_failsAt_18 (by decide) ?_
    refine z_callV (index := 139) (As := [.int 0, .int 0, .int 0]) (rest := []) (wr := [(b0, .inr (5, [.int b5, .int b6, .ref b7, .ref b8, .ref b9, .ref b10, .ref b11, .ref b12, .int b13, .ref b14, .ref b15, .ref b16, .ref b17, .ref b18, .ref b19])), (b12, .inl (G.2 1, 4, .inr (.inl b20))), (b14, .inl (G.2 0, 240, .inl b21)), (b16, .inl (G.2 0, 240, .inl b22)), (b17, .inl (G.2 0, 240, .inl b23)), (b18, .inl (G.2 0, 242, .inl b24)), (b1, .inr (2, [.int b25, .int b26, .int b27, .ref b28, .ref b29, .ref b30])), (b28, .inl (G.2 0, 20, .inl b31)), (b29, .inl (G.2 0, 240, .inl b32)), (b30, .inl (G.2 0, 240, .inl b33))]) Z (s1_Sets_put l G (b4) (0) (0) (0) (b34) (b35) (b36) (f_2) (zI.wk (l' := 0) (h' := 1) zc_0 (by decide)) zc_0 (zI.wk (l' := 0) (h' := 240) zc_0 (by decide)) hb34 hf_2) hl.1 q709 q710 q711 q7 q712 ⟨by decide, by decide, by show _ = some 3; decide +kernel⟩ ⟨Nat.le_of_ble_eq_true rfl, Nat.le_of_ble_eq_true rfl⟩ ⟨Nat.le_of_ble_eq_true rfl, Nat.le_of_ble_eq_true rfl⟩ rfl (Nat.le_of_ble_eq_true rfl) d_Machine_failsAt_19 hP hD hS hA 10 6 rfl rfl rfl [10, 11] [0, 1, 2, 3, 4, 5, 6, 7, 8, 9] rfl rfl rfl rfl (by decide) (fun v w1 H locs hw_6 hP hD hS => ?_)
    obtain ⟨f_7, rfl, rfl, hf_7⟩ := hw_6
    have hP : va_P G.1 classes [(b0, .inr (5, [.int b5, .int b6, .ref b7, .ref b8, .ref b9, .ref b10, .ref b11, .ref b12, .int b13, .ref b14, .ref b15, .ref b16, .ref b17, .ref b18, .ref b19])), (b12, .inl (G.2 1, 4, .inr (.inl b20))), (b14, .inl (G.2 0, 240, .inl b21)), (b16, .inl (G.2 0, 240, .inl b22)), (b17, .inl (G.2 0, 240, .inl b23)), (b18, .inl (G.2 0, 242, .inl b24)), (b1, .inr (2, [.int b25, .int b26, .int b27, .ref b28, .ref b29, .ref b30])), (b28, .inl (G.2 0, 20, .inl b31)), (b29, .inl (G.2 0, 240, .inl b32)), (b30, .inl (G.2 0, 240, .inl b33)), (b4, .inr (6, [.int b34, .int 4, .int 2, .ref b35, .ref b36])), (b35, .inl (G.2 1, 8, .inr (.inl f_7)))] H := hP
    have hD := z_tie hP hD rfl
    refine W.widen (k := 0) (n := 0) (Nat.le_of_ble_eq_true rfl) (Nat.le_of_ble_eq_true rfl) ?_
    refine lv_aload_n hx hb d_Machine_failsAt_22 rfl (lv_at hl 1 rfl) ?_
    refine va_get (D := G.1) (ci := 2) (v := .ref b28) (C := R_Traces) (T := F_Traces) (N := 6) hx hb hts i_Traces hown hK hP 6 rfl rfl 3 (by decide) (hts _ q71) (fun _ h9 => h9) rfl d_Machine_failsAt_23 ?_
    refine lv_iload_n hx hb d_Machine_failsAt_26 rfl (lv_at hl 2 rfl) ?_
    refine va_iald hx hb hK hP 7 0 rfl rfl (zI.inn hb2 (by decide)) d_Machine_failsAt_27 ?_
    refine lv_topi (fun v_8 ev_8 => ?_)
    have hv_8 : zI v_8 0 12 := (hb31 _).eq ev_8
    refine lv_istore (lv' := [(5, .int v_8), (0, .ref b0), (1, .ref b1), (2, .int b2), (3, .int b3), (4, .ref b4)]) hx hb d_Machine_failsAt_28 hl (by decide) rfl (fun ls hl => ?_)
    refine lv_iconst (v := 0) hx hb d_Machine_failsAt_30 (by decide) ?_
    refine lv_istore (lv' := [(6, .int 0), (5, .int v_8), (0, .ref b0), (1, .ref b1), (2, .int b2), (3, .int b3), (4, .ref b4)]) hx hb d_Machine_failsAt_31 hl (by decide) rfl (fun ls hl => ?_)
    suffices key : ∀ (k_146 : Nat) (y_147 : Int32) (y_148 : Nat → Int64) (H : Heap) (locs : List Loc) (ls : Array Slot), (zI y_147 0 12) → (zqa qB y_148) → (12 : Int) - y_147.toInt < (k_146 : Int) → va_P G.1 classes [(b0, .inr (5, [.int b5, .int b6, .ref b7, .ref b8, .ref b9, .ref b10, .ref b11, .ref b12, .int b13, .ref b14, .ref b15, .ref b16, .ref b17, .ref b18, .ref b19])), (b12, .inl (G.2 1, 4, .inr (.inl b20))), (b14, .inl (G.2 0, 240, .inl b21)), (b16, .inl (G.2 0, 240, .inl b22)), (b17, .inl (G.2 0, 240, .inl b23)), (b18, .inl (G.2 0, 242, .inl b24)), (b1, .inr (2, [.int b25, .int b26, .int b27, .ref b28, .ref b29, .ref b30])), (b28, .inl (G.2 0, 20, .inl b31)), (b29, .inl (G.2 0, 240, .inl b32)), (b30, .inl (G.2 0, 240, .inl b33)), (b4, .inr (6, [.int b34, .int 4, .int 2, .ref b35, .ref b36])), (b35, .inl (G.2 1, 8, .inr (.inl y_148)))] H → va_D A [(b0, .inr (5, [.int b5, .int b6, .ref b7, .ref b8, .ref b9, .ref b10, .ref b11, .ref b12, .int b13, .ref b14, .ref b15, .ref b16, .ref b17, .ref b18, .ref b19])), (b12, .inl (G.2 1, 4, .inr (.inl b20))), (b14, .inl (G.2 0, 240, .inl b21)), (b16, .inl (G.2 0, 240, .inl b22)), (b17, .inl (G.2 0, 240, .inl b23)), (b18, .inl (G.2 0, 242, .inl b24)), (b1, .inr (2, [.int b25, .int b26, .int b27, .ref b28, .ref b29, .ref b30])), (b28, .inl (G.2 0, 20, .inl b31)), (b29, .inl (G.2 0, 240, .inl b32)), (b30, .inl (G.2 0, 240, .inl b33)), (b4, .inr (6, [.int b34, .int 4, .int 2, .ref b35, .ref b36])), (b35, .inl (G.2 1, 8, .inr (.inl y_148)))] → va_S A s.heap H locs → lv_has ls 7 [(6, .int y_147), (5, .int v_8), (0, .ref b0), (1, .ref b1), (2, .int b2), (3, .int b3), (4, .ref b4)] → W p l e m_s1_Machine_failsAt s m ([.ref b0, .ref b1, .int b2, .int b3, .ref b4] : List Value).toArray below meth c H locs 0 0 (MQ below (zQ G (fun v w => ∃ (e0 : Int32), ∃ (e1 : Nat → Int64), v = some (.int e0) ∧ w = [(b0, .inr (5, [.int b5, .int b6, .ref b7, .ref b8, .ref b9, .ref b10, .ref b11, .ref b12, .int b13, .ref b14, .ref b15, .ref b16, .ref b17, .ref b18, .ref b19])), (b12, .inl (G.2 1, 4, .inr (.inl b20))), (b14, .inl (G.2 0, 240, .inl b21)), (b16, .inl (G.2 0, 240, .inl b22)), (b17, .inl (G.2 0, 240, .inl b23)), (b18, .inl (G.2 0, 242, .inl b24)), (b1, .inr (2, [.int b25, .int b26, .int b27, .ref b28, .ref b29, .ref b30])), (b28, .inl (G.2 0, 20, .inl b31)), (b29, .inl (G.2 0, 240, .inl b32)), (b30, .inl (G.2 0, 240, .inl b33)), (b4, .inr (6, [.int b34, .int 4, .int 2, .ref b35, .ref b36])), (b35, .inl (G.2 1, 8, .inr (.inl e1)))] ∧ (zI e0 (-1) 12) ∧ (zqa qB e1)) A) ([.ref b0, .ref b1, .int b2, .int b3, .ref b4] : List Value).toArray s m_s1_Machine_failsAt.cells m_s1_Machine_failsAt.slots A) (F0 m 33 ls []) by
      exact key 13 (0) (f_7) _ _ _ (zI.wk (l' := 0) (h' := 12) zc_0 (by decide)) hf_7 (zm_upi (zI.wk (l' := 0) (h' := 12) zc_0 (by decide)) (by decide)) hP hD hS (lv_sub hl [0, 1, 2, 3, 4, 5, 6] rfl)
    intro k_146
    induction k_146 with
    | zero =>
      intro y_147 y_148 H locs ls hy_147 hy_148 hmk_146 hP hD hS hl
      exact (zm_up0 hy_147 hmk_146).elim
    | succ k_146 ihk_146 =>
      intro y_147 y_148 H locs ls hy_147 hy_148 hmk_146 hP hD hS hl
      refine lv_iload hx hb d_Machine_failsAt_33 (lv_at hl 0 rfl) ?_
      refine lv_iload hx hb d_Machine_failsAt_35 (lv_at hl 1 rfl) ?_
      refine lv_icmp_ge (tgt := 79) hx hb d_Machine_failsAt_37 (by decide) (fun hc_149 => ?_) (fun hc_149 => ?_)
      · have _nhc_149 := hc_149
        have ni_150 := (fa_le _ _).mp hc_149
        refine lv_aload_n hx hb d_Machine_failsAt_79 rfl (lv_at hl 2 rfl) ?_
        refine lv_aload hx hb d_Machine_failsAt_80 (lv_at hl 6 rfl) ?_
        refine lv_iconst (v := 0) hx hb d_Machine_failsAt_82 (by decide) ?_
        refine lv_iconst (v := 0) hx hb d_Machine_failsAt_83 (by decide) ?_
        refine z_callV (index := 162) (As := [.ref b4, .int 0, .int 0]) (rest := []) (wr := [(b14, .inl (G.2 0, 240, .inl b21)), (b16, .inl (G.2 0, 240, .inl b22)), (b17, .inl (G.2 0, 240, .inl b23)), (b18, .inl (G.2 0, 242, .inl b24)), (b1, .inr (2, [.int b25, .int b26, .int b27, .ref b28, .ref b29, .ref b30])), (b28, .inl (G.2 0, 20, .inl b31)), (b29, .inl (G.2 0, 240, .inl b32)), (b30, .inl (G.2 0, 240, .inl b33))]) Z (s1_Machine_takes l G (b0) (b4) (0) (0) (b5) (b6) (b7) (b8) (b9) (b10) (b11) (b12) (b13) (b14) (b15) (b16) (b17) (b18) (b19) (b20) (b34) (b35) (b36) (y_148) (zI.wk (l' := 0) (h' := 1) zc_0 (by decide)) zc_0 hb5 (zI.wk (l' := 0) (h' := 241) hv_5 (by decide)) hb13 hb34 hy_148) hl.1 q742 q743 q744 q6 q745 ⟨by decide, by decide, by show _ = some 3; decide +kernel⟩ ⟨Nat.le_of_ble_eq_true rfl, Nat.le_of_ble_eq_true rfl⟩ ⟨Nat.le_of_ble_eq_true rfl, Nat.le_of_ble_eq_true rfl⟩ rfl (Nat.le_of_ble_eq_true rfl) d_Machine_failsAt_84 hP hD hS hA 0 5 rfl rfl rfl [0, 1, 10, 11] [2, 3, 4, 5, 6, 7, 8, 9] rfl rfl rfl rfl (by decide) (fun v w1 H locs hw_151 hP hD hS => ?_)
        obtain ⟨x_152, rfl, rfl, hx_152⟩ := hw_151
        have hP : va_P G.1 classes [(b14, .inl (G.2 0, 240, .inl b21)), (b16, .inl (G.2 0, 240, .inl b22)), (b17, .inl (G.2 0, 240, .inl b23)), (b18, .inl (G.2 0, 242, .inl b24)), (b1, .inr (2, [.int b25, .int b26, .int b27, .ref b28, .ref b29, .ref b30])), (b28, .inl (G.2 0, 20, .inl b31)), (b29, .inl (G.2 0, 240, .inl b32)), (b30, .inl (G.2 0, 240, .inl b33)), (b0, .inr (5, [.int b5, .int b6, .ref b7, .ref b8, .ref b9, .ref b10, .ref b11, .ref b12, .int b13, .ref b14, .ref b15, .ref b16, .ref b17, .ref b18, .ref b19])), (b12, .inl (G.2 1, 4, .inr (.inl b20))), (b4, .inr (6, [.int b34, .int 4, .int 2, .ref b35, .ref b36])), (b35, .inl (G.2 1, 8, .inr (.inl y_148)))] H := hP
        have hD := z_tie hP hD rfl
        refine W.widen (k := 0) (n := 0) (Nat.le_of_ble_eq_true rfl) (Nat.le_of_ble_eq_true rfl) ?_
        refine lv_if_eq (tgt := 94) hx hb d_Machine_failsAt_87 (by decide) (fun hc_153 => ?_) (fun hc_153 => ?_)
        · have _nhc_153 := hc_153
          have ni_154 := (fa_eq _ _).mp hc_153
          rw [li_0] at ni_154
          have hv_155 : zI x_152 0 0 := zI.eq_l hx_152 zc_0 hc_153
          refine lv_iload hx hb d_Machine_failsAt_94 (lv_at hl 1 rfl) ?_
          exact z_iret hx hb hr hlocks (hP.sub [8, 9, 0, 1, 2, 3, 4, 5, 6, 7, 10, 11] rfl) (hD.sub [8, 9, 0, 1, 2, 3, 4, 5, 6, 7, 10, 11] (by decide) rfl) hS (Nat.le_of_ble_eq_true rfl) (Nat.le_of_ble_eq_true rfl) d_Machine_failsAt_96 ⟨v_8, y_148, rfl, rfl, (zI.wk (l' := (-1)) (h' := 12) hv_8 (by decide)), hy_148⟩
        · have _nhc_153 := hc_153
          have ni_156 : ¬ (x_152 : Int32).toInt = (0 : Int32).toInt := fun z => hc_153 ((fa_eq _ _).mpr z)
          simp only [li_0] at ni_156
          have hv_157 : zI x_152 1 1 := zI.ne_lo hx_152 zc_0 hc_153 (by decide)
          refine lv_iconst (v := (-1)) hx hb d_Machine_failsAt_90 (by decide) ?_
          refine lv_goto (tgt := 96) hx hb d_Machine_failsAt_91 (by decide) ?_
          exact z_iret hx hb hr hlocks (hP.sub [8, 9, 0, 1, 2, 3, 4, 5, 6, 7, 10, 11] rfl) (hD.sub [8, 9, 0, 1, 2, 3, 4, 5, 6, 7, 10, 11] (by decide) rfl) hS (Nat.le_of_ble_eq_true rfl) (Nat.le_of_ble_eq_true rfl) d_Machine_failsAt_96 ⟨(-1), y_148, rfl, rfl, (zI.wk (l' := (-1)) (h' := 12) zc_m1 (by decide)), hy_148⟩
      · have _nhc_149 := hc_149
        have ni_158 := (fa_lt _ _).mp (zi_nle hc_149)
        have hv_159 : zI y_147 0 11 := zI.lt_l hy_147 hv_8 (zi_nle hc_149) (by decide)
        have hv_160 : zI v_8 1 12 := zI.lt_r hy_147 hv_8 (zi_nle hc_149) (by decide)
        refine lv_aload_n hx hb d_Machine_failsAt_40 rfl (lv_at hl 2 rfl) ?_
        refine lv_aload hx hb d_Machine_failsAt_41 (lv_at hl 6 rfl) ?_
        refine lv_aload_n hx hb d_Machine_failsAt_43 rfl (lv_at hl 3 rfl) ?_
        refine lv_iload_n hx hb d_Machine_failsAt_44 rfl (lv_at hl 4 rfl) ?_
        refine lv_iload hx hb d_Machine_failsAt_45 (lv_at hl 0 rfl) ?_
        refine z_callV (index := 148) (As := [.int b2, .int y_147]) (rest := [.ref b4, .ref b0]) (wr := [(b0, .inr (5, [.int b5, .int b6, .ref b7, .ref b8, .ref b9, .ref b10, .ref b11, .ref b12, .int b13, .ref b14, .ref b15, .ref b16, .ref b17, .ref b18, .ref b19])), (b12, .inl (G.2 1, 4, .inr (.inl b20))), (b14, .inl (G.2 0, 240, .inl b21)), (b16, .inl (G.2 0, 240, .inl b22)), (b17, .inl (G.2 0, 240, .inl b23)), (b18, .inl (G.2 0, 242, .inl b24)), (b28, .inl (G.2 0, 20, .inl b31)), (b30, .inl (G.2 0, 240, .inl b33)), (b4, .inr (6, [.int b34, .int 4, .int 2, .ref b35, .ref b36])), (b35, .inl (G.2 1, 8, .inr (.inl y_148)))]) Z (s1_Traces_letterAt l G (b1) (b2) (y_147) (b25) (b26) (b27) (b28) (b29) (b30) (b32) hb2 hv_159 hb25 hb26 hb27 hb32) hl.1 q713 q580 q581 q3 q582 ⟨by decide, by decide, by show _ = some 2; decide +kernel⟩ ⟨Nat.le_of_ble_eq_true rfl, Nat.le_of_ble_eq_true rfl⟩ ⟨Nat.le_of_ble_eq_true rfl, Nat.le_of_ble_eq_true rfl⟩ rfl (Nat.le_of_ble_eq_true rfl) d_Machine_failsAt_47 hP hD hS hA 6 2 rfl rfl rfl [6, 8] [0, 1, 2, 3, 4, 5, 7, 9, 10, 11] rfl rfl rfl rfl (by decide) (fun v w1 H locs hw_161 hP hD hS => ?_)
        obtain ⟨x_162, rfl, rfl, hx_162⟩ := hw_161
        have hP : va_P G.1 classes [(b0, .inr (5, [.int b5, .int b6, .ref b7, .ref b8, .ref b9, .ref b10, .ref b11, .ref b12, .int b13, .ref b14, .ref b15, .ref b16, .ref b17, .ref b18, .ref b19])), (b12, .inl (G.2 1, 4, .inr (.inl b20))), (b14, .inl (G.2 0, 240, .inl b21)), (b16, .inl (G.2 0, 240, .inl b22)), (b17, .inl (G.2 0, 240, .inl b23)), (b18, .inl (G.2 0, 242, .inl b24)), (b28, .inl (G.2 0, 20, .inl b31)), (b30, .inl (G.2 0, 240, .inl b33)), (b4, .inr (6, [.int b34, .int 4, .int 2, .ref b35, .ref b36])), (b35, .inl (G.2 1, 8, .inr (.inl y_148))), (b1, .inr (2, [.int b25, .int b26, .int b27, .ref b28, .ref b29, .ref b30])), (b29, .inl (G.2 0, 240, .inl b32))] H := hP
        have hD := z_tie hP hD rfl
        refine W.widen (k := 0) (n := 0) (Nat.le_of_ble_eq_true rfl) (Nat.le_of_ble_eq_true rfl) ?_
        refine lv_aload_n hx hb d_Machine_failsAt_50 rfl (lv_at hl 3 rfl) ?_
        refine lv_iload_n hx hb d_Machine_failsAt_51 rfl (lv_at hl 4 rfl) ?_
        refine lv_iload hx hb d_Machine_failsAt_52 (lv_at hl 0 rfl) ?_
        refine z_callV (index := 151) (As := [.int b2, .int y_147]) (rest := [.int x_162, .ref b4, .ref b0]) (wr := [(b0, .inr (5, [.int b5, .int b6, .ref b7, .ref b8, .ref b9, .ref b10, .ref b11, .ref b12, .int b13, .ref b14, .ref b15, .ref b16, .ref b17, .ref b18, .ref b19])), (b12, .inl (G.2 1, 4, .inr (.inl b20))), (b14, .inl (G.2 0, 240, .inl b21)), (b16, .inl (G.2 0, 240, .inl b22)), (b17, .inl (G.2 0, 240, .inl b23)), (b18, .inl (G.2 0, 242, .inl b24)), (b28, .inl (G.2 0, 20, .inl b31)), (b4, .inr (6, [.int b34, .int 4, .int 2, .ref b35, .ref b36])), (b35, .inl (G.2 1, 8, .inr (.inl y_148))), (b29, .inl (G.2 0, 240, .inl b32))]) Z (s1_Traces_valueAt l G (b1) (b2) (y_147) (b25) (b26) (b27) (b28) (b29) (b30) (b33) hb2 hv_159 hb25 hb26 hb27) hl.1 q714 q588 q589 q3 q590 ⟨by decide, by decide, by show _ = some 2; decide +kernel⟩ ⟨Nat.le_of_ble_eq_true rfl, Nat.le_of_ble_eq_true rfl⟩ ⟨Nat.le_of_ble_eq_true rfl, Nat.le_of_ble_eq_true rfl⟩ rfl (Nat.le_of_ble_eq_true rfl) d_Machine_failsAt_54 hP hD hS hA 10 2 rfl rfl rfl [10, 7] [0, 1, 2, 3, 4, 5, 6, 8, 9, 11] rfl rfl rfl rfl (by decide) (fun v w1 H locs hw_163 hP hD hS => ?_)
        obtain ⟨x_164, rfl, rfl⟩ := hw_163
        have hP : va_P G.1 classes [(b0, .inr (5, [.int b5, .int b6, .ref b7, .ref b8, .ref b9, .ref b10, .ref b11, .ref b12, .int b13, .ref b14, .ref b15, .ref b16, .ref b17, .ref b18, .ref b19])), (b12, .inl (G.2 1, 4, .inr (.inl b20))), (b14, .inl (G.2 0, 240, .inl b21)), (b16, .inl (G.2 0, 240, .inl b22)), (b17, .inl (G.2 0, 240, .inl b23)), (b18, .inl (G.2 0, 242, .inl b24)), (b28, .inl (G.2 0, 20, .inl b31)), (b4, .inr (6, [.int b34, .int 4, .int 2, .ref b35, .ref b36])), (b35, .inl (G.2 1, 8, .inr (.inl y_148))), (b29, .inl (G.2 0, 240, .inl b32)), (b1, .inr (2, [.int b25, .int b26, .int b27, .ref b28, .ref b29, .ref b30])), (b30, .inl (G.2 0, 240, .inl b33))] H := hP
        have hD := z_tie hP hD rfl
        refine W.widen (k := 0) (n := 0) (Nat.le_of_ble_eq_true rfl) (Nat.le_of_ble_eq_true rfl) ?_
        refine lv_iload_n hx hb d_Machine_failsAt_57 rfl (lv_at hl 5 rfl) ?_
        refine z_callV (index := 154) (As := [.ref b4, .int x_162, .int x_164, .int b3]) (rest := []) (wr := [(b12, .inl (G.2 1, 4, .inr (.inl b20))), (b28, .inl (G.2 0, 20, .inl b31)), (b29, .inl (G.2 0, 240, .inl b32)), (b1, .inr (2, [.int b25, .int b26, .int b27, .ref b28, .ref b29, .ref b30])), (b30, .inl (G.2 0, 240, .inl b33))]) Z (s2_Machine_goOn l G (b0) (b4) (x_162) (x_164) (b3) (b5) (b6) (b7) (b8) (b9) (b10) (b11) (b12) (b13) (b14) (b15) (b16) (b17) (b18) (b19) (b21) (b22) (b23) (b24) (b34) (b35) (b36) (y_148) hx_162 hb5 (zI.wk (l' := 0) (h' := 241) hv_5 (by decide)) hb13 hb34 hb21 hb24 hy_148) hl.1 q715 q717 qs16 q6 q718 ⟨by decide, by decide, by show _ = some 4; decide +kernel⟩ ⟨Nat.le_of_ble_eq_true rfl, Nat.le_of_ble_eq_true rfl⟩ ⟨Nat.le_of_ble_eq_true rfl, Nat.le_of_ble_eq_true rfl⟩ rfl (Nat.le_of_ble_eq_true rfl) d_Machine_failsAt_58 hP hD hS hA 0 5 rfl rfl rfl [0, 2, 3, 4, 5, 7, 8] [1, 6, 9, 10, 11] rfl rfl rfl rfl (by decide) (fun v w1 H locs hw_165 hP hD hS => ?_)
        obtain ⟨f_166, rfl, rfl, hf_166⟩ := hw_165
        have hP : va_P G.1 classes [(b12, .inl (G.2 1, 4, .inr (.inl b20))), (b28, .inl (G.2 0, 20, .inl b31)), (b29, .inl (G.2 0, 240, .inl b32)), (b1, .inr (2, [.int b25, .int b26, .int b27, .ref b28, .ref b29, .ref b30])), (b30, .inl (G.2 0, 240, .inl b33)), (b0, .inr (5, [.int b5, .int b6, .ref b7, .ref b8, .ref b9, .ref b10, .ref b11, .ref b12, .int b13, .ref b14, .ref b15, .ref b16, .ref b17, .ref b18, .ref b19])), (b14, .inl (G.2 0, 240, .inl b21)), (b16, .inl (G.2 0, 240, .inl b22)), (b17, .inl (G.2 0, 240, .inl b23)), (b18, .inl (G.2 0, 242, .inl b24)), (b4, .inr (6, [.int b34, .int 4, .int 2, .ref b35, .ref b36])), (b35, .inl (G.2 1, 8, .inr (.inl f_166)))] H := hP
        have hD := z_tie hP hD rfl
        refine W.widen (k := 0) (n := 0) (Nat.le_of_ble_eq_true rfl) (Nat.le_of_ble_eq_true rfl) ?_
        refine lv_aload hx hb d_Machine_failsAt_61 (lv_at hl 6 rfl) ?_
        refine lv_iconst (v := 0) hx hb d_Machine_failsAt_63 (by decide) ?_
        refine z_callV (index := 158) (As := [.int 0]) (rest := []) (wr := [(b12, .inl (G.2 1, 4, .inr (.inl b20))), (b28, .inl (G.2 0, 20, .inl b31)), (b29, .inl (G.2 0, 240, .inl b32)), (b1, .inr (2, [.int b25, .int b26, .int b27, .ref b28, .ref b29, .ref b30])), (b30, .inl (G.2 0, 240, .inl b33)), (b0, .inr (5, [.int b5, .int b6, .ref b7, .ref b8, .ref b9, .ref b10, .ref b11, .ref b12, .int b13, .ref b14, .ref b15, .ref b16, .ref b17, .ref b18, .ref b19])), (b14, .inl (G.2 0, 240, .inl b21)), (b16, .inl (G.2 0, 240, .inl b22)), (b17, .inl (G.2 0, 240, .inl b23)), (b18, .inl (G.2 0, 242, .inl b24))]) Z (s1_Sets_isEmpty l G (b4) (0) (b34) (b35) (b36) (f_166) (zI.wk (l' := 0) (h' := 1) zc_0 (by decide)) hb34 hf_166) hl.1 q738 q739 q740 q7 q741 ⟨by decide, by decide, by show _ = some 1; decide +kernel⟩ ⟨Nat.le_of_ble_eq_true rfl, Nat.le_of_ble_eq_true rfl⟩ ⟨Nat.le_of_ble_eq_true rfl, Nat.le_of_ble_eq_true rfl⟩ rfl (Nat.le_of_ble_eq_true rfl) d_Machine_failsAt_64 hP hD hS hA 10 6 rfl rfl rfl [10, 11] [0, 1, 2, 3, 4, 5, 6, 7, 8, 9] rfl rfl rfl rfl (by decide) (fun v w1 H locs hw_167 hP hD hS => ?_)
        obtain ⟨x_168, rfl, rfl, hx_168⟩ := hw_167
        have hP : va_P G.1 classes [(b12, .inl (G.2 1, 4, .inr (.inl b20))), (b28, .inl (G.2 0, 20, .inl b31)), (b29, .inl (G.2 0, 240, .inl b32)), (b1, .inr (2, [.int b25, .int b26, .int b27, .ref b28, .ref b29, .ref b30])), (b30, .inl (G.2 0, 240, .inl b33)), (b0, .inr (5, [.int b5, .int b6, .ref b7, .ref b8, .ref b9, .ref b10, .ref b11, .ref b12, .int b13, .ref b14, .ref b15, .ref b16, .ref b17, .ref b18, .ref b19])), (b14, .inl (G.2 0, 240, .inl b21)), (b16, .inl (G.2 0, 240, .inl b22)), (b17, .inl (G.2 0, 240, .inl b23)), (b18, .inl (G.2 0, 242, .inl b24)), (b4, .inr (6, [.int b34, .int 4, .int 2, .ref b35, .ref b36])), (b35, .inl (G.2 1, 8, .inr (.inl f_166)))] H := hP
        have hD := z_tie hP hD rfl
        refine W.widen (k := 0) (n := 0) (Nat.le_of_ble_eq_true rfl) (Nat.le_of_ble_eq_true rfl) ?_
        refine lv_if_eq (tgt := 73) hx hb d_Machine_failsAt_67 (by decide) (fun hc_169 => ?_) (fun hc_169 => ?_)
        · have _nhc_169 := hc_169
          have ni_170 := (fa_eq _ _).mp hc_169
          rw [li_0] at ni_170
          have hv_171 : zI x_168 0 0 := zI.eq_l hx_168 zc_0 hc_169
          obtain ⟨v_172, ev_172⟩ : ∃ z : Int32, z = y_147 + 1 := ⟨_, rfl⟩
          obtain ⟨qv_172, hv_172⟩ := zI_add (l := 1) (h := 12) hv_159 zc_1 ev_172 (by decide)
          rw [li_1] at qv_172
          refine lv_iinc (v := v_172) (lv' := [(6, .int v_172), (5, .int v_8), (0, .ref b0), (1, .ref b1), (2, .int b2), (3, .int b3), (4, .ref b4)]) hx hb d_Machine_failsAt_73 hl (k := 0) rfl (by rw [ev_172]; rfl) (by decide) rfl (fun ls hl => ?_)
          refine lv_goto (tgt := 33) hx hb d_Machine_failsAt_76 (by decide) ?_
          exact ihk_146 (v_172) (f_166) _ _ _ (zI.wk (l' := 0) (h' := 12) hv_172 (by decide)) hf_166 (zm_up qv_172 hmk_146 (by decide)) (hP.sub [5, 0, 6, 7, 8, 9, 3, 1, 2, 4, 10, 11] rfl) (hD.sub [5, 0, 6, 7, 8, 9, 3, 1, 2, 4, 10, 11] (by decide) rfl) hS (lv_sub hl [0, 1, 2, 3, 4, 5, 6] rfl)
        · have _nhc_169 := hc_169
          have ni_173 : ¬ (x_168 : Int32).toInt = (0 : Int32).toInt := fun z => hc_169 ((fa_eq _ _).mpr z)
          simp only [li_0] at ni_173
          have hv_174 : zI x_168 1 1 := zI.ne_lo hx_168 zc_0 hc_169 (by decide)
          refine lv_iload hx hb d_Machine_failsAt_70 (lv_at hl 0 rfl) ?_
          exact z_iret hx hb hr hlocks (hP.sub [5, 0, 6, 7, 8, 9, 3, 1, 2, 4, 10, 11] rfl) (hD.sub [5, 0, 6, 7, 8, 9, 3, 1, 2, 4, 10, 11] (by decide) rfl) hS (Nat.le_of_ble_eq_true rfl) (Nat.le_of_ble_eq_true rfl) d_Machine_failsAt_72 ⟨y_147, f_166, rfl, rfl, (zI.wk (l' := (-1)) (h' := 12) hv_159 (by decide)), hf_166⟩
  · have _nhc_3 := hc_3
    have ni_175 := (fa_eq _ _).mp hc_3
    rw [li_0] at ni_175
    have hv_176 : zI b6 0 0 := zI.eq_l hb6 zc_0 hc_3
    refine lv_iconst (v := 0) hx hb d_Machine_failsAt_12 (by decide) ?_
    exact z_iret hx hb hr hlocks hP hD hS (Nat.le_of_ble_eq_true rfl) (Nat.le_of_ble_eq_true rfl) d_Machine_failsAt_13 ⟨0, f_2, rfl, rfl, (zI.wk (l' := (-1)) (h' := 12) zc_0 (by decide)), hf_2⟩
theorem d_Parting_isOf_0 : decode prog_7_method_2_code 0 = .ok (.aload_n 0, 1) := by decide +kernel
theorem d_Parting_isOf_1 : decode prog_7_method_2_code 1 = .ok (.getfield 36, 3) := by decide +kernel
theorem d_Parting_isOf_4 : decode prog_7_method_2_code 4 = .ok (.ifCond .eq 23, 3) := by decide +kernel
theorem d_Parting_isOf_7 : decode prog_7_method_2_code 7 = .ok (.aload_n 0, 1) := by decide +kernel
theorem d_Parting_isOf_8 : decode prog_7_method_2_code 8 = .ok (.getfield 40, 3) := by decide +kernel
theorem d_Parting_isOf_11 : decode prog_7_method_2_code 11 = .ok (.iload_n 1, 1) := by decide +kernel
theorem d_Parting_isOf_12 : decode prog_7_method_2_code 12 = .ok (.if_icmp .ne 15, 3) := by decide +kernel
theorem d_Parting_isOf_15 : decode prog_7_method_2_code 15 = .ok (.aload_n 0, 1) := by decide +kernel
theorem d_Parting_isOf_16 : decode prog_7_method_2_code 16 = .ok (.getfield 44, 3) := by decide +kernel
theorem d_Parting_isOf_19 : decode prog_7_method_2_code 19 = .ok (.iload_n 2, 1) := by decide +kernel
theorem d_Parting_isOf_20 : decode prog_7_method_2_code 20 = .ok (.if_icmp .ne 7, 3) := by decide +kernel
theorem d_Parting_isOf_23 : decode prog_7_method_2_code 23 = .ok (.iconst 1, 1) := by decide +kernel
theorem d_Parting_isOf_24 : decode prog_7_method_2_code 24 = .ok (.goto 4, 3) := by decide +kernel
theorem d_Parting_isOf_27 : decode prog_7_method_2_code 27 = .ok (.iconst 0, 1) := by decide +kernel
theorem d_Parting_isOf_28 : decode prog_7_method_2_code 28 = .ok (.ireturn, 1) := by decide +kernel
abbrev m_s1_Parting_isOf : Room := { frames := 0, cells := 0, slots := 0, locals := 0 }
set_option maxHeartbeats 4000000 in
set_option maxRecDepth 100000 in
theorem s1_Parting_isOf (l : Launch) (G : zG) (b0 : Nat) (b1 : Int32) (b2 : Int32) (b3 : Int32) (b4 : Int32) (b5 : Nat) (b6 : Int32) (b7 : Int32) (b8 : Nat) (b9 : Nat) (b10 : Nat) (b11 : Nat) (b12 : Nat) (hb3 : zI b3 0 1) (hb4 : zI b4 (-2) 8) : zM l G y_Parting_isOf prog_7_method_2_code 3 (Option.some Jvm.ClassFile.FieldType.boolean) m_s1_Parting_isOf [.ref b0, .int b1, .int b2] [(b0, .inr (8, [.int b3, .int b4, .ref b5, .int b6, .int b7, .ref b8, .ref b9, .ref b10, .ref b11, .ref b12]))] (fun v w => ∃ (e0 : Int32), v = some (.int e0) ∧ w = [(b0, .inr (8, [.int b3, .int b4, .ref b5, .int b6, .int b7, .ref b8, .ref b9, .ref b10, .ref b11, .ref b12]))] ∧ (zI e0 0 1)) := by
  refine z_start (by decide +kernel) (Nat.le_of_ble_eq_true rfl) ?_
  intro p e s m below meth c A Z hr hnm hA hP hD hS ls hl
  have Z : zC p s m _ meth c prog_7_method_2_code 3 "TraceMachines$Parting" G := Z
  obtain ⟨hx, hb, hml, hown, hts, hK, hN, hlocks⟩ := id Z
  have hl : lv_has ls 3 [(0, .ref b0), (1, .int b1), (2, .int b2)] := hl
  refine lv_aload_n hx hb d_Parting_isOf_0 rfl (lv_at hl 0 rfl) ?_
  refine va_get (D := G.1) (ci := 8) (v := .int b3) (C := R_Parting) (T := F_Parting) (N := 10) hx hb hts i_Parting hown hK hP 0 rfl rfl 0 (by decide) (hts _ q299) (fun _ h9 => h9) rfl d_Parting_isOf_1 ?_
  refine lv_if_eq (tgt := 27) hx hb d_Parting_isOf_4 (by decide) (fun hc_1 => ?_) (fun hc_1 => ?_)
  · have _nhc_1 := hc_1
    have ni_2 := (fa_eq _ _).mp hc_1
    rw [li_0] at ni_2
    have hv_3 : zI b3 0 0 := zI.eq_l hb3 zc_0 hc_1
    refine lv_iconst (v := 0) hx hb d_Parting_isOf_27 (by decide) ?_
    exact z_zret hx hb hr hlocks rfl hP hD hS (Nat.le_of_ble_eq_true rfl) (Nat.le_of_ble_eq_true rfl) d_Parting_isOf_28 ⟨0, rfl, rfl, (zI.wk (l' := 0) (h' := 1) zc_0 (by decide))⟩
  · have _nhc_1 := hc_1
    have ni_4 : ¬ (b3 : Int32).toInt = (0 : Int32).toInt := fun z => hc_1 ((fa_eq _ _).mpr z)
    simp only [li_0] at ni_4
    have hv_5 : zI b3 1 1 := zI.ne_lo hb3 zc_0 hc_1 (by decide)
    refine lv_aload_n hx hb d_Parting_isOf_7 rfl (lv_at hl 0 rfl) ?_
    refine va_get (D := G.1) (ci := 8) (v := .int b6) (C := R_Parting) (T := F_Parting) (N := 10) hx hb hts i_Parting hown hK hP 0 rfl rfl 3 (by decide) (hts _ q305) (fun _ h9 => h9) rfl d_Parting_isOf_8 ?_
    refine lv_iload_n hx hb d_Parting_isOf_11 rfl (lv_at hl 1 rfl) ?_
    refine lv_icmp_ne (tgt := 27) hx hb d_Parting_isOf_12 (by decide) (fun hc_6 => ?_) (fun hc_6 => ?_)
    · have _nhc_6 := hc_6
      have ni_7 : ¬ (b6 : Int32).toInt = (b1 : Int32).toInt := fun z => hc_6 ((fa_eq _ _).mpr z)
      refine lv_iconst (v := 0) hx hb d_Parting_isOf_27 (by decide) ?_
      exact z_zret hx hb hr hlocks rfl hP hD hS (Nat.le_of_ble_eq_true rfl) (Nat.le_of_ble_eq_true rfl) d_Parting_isOf_28 ⟨0, rfl, rfl, (zI.wk (l' := 0) (h' := 1) zc_0 (by decide))⟩
    · have _nhc_6 := hc_6
      have ni_8 := (fa_eq _ _).mp hc_6
      refine lv_aload_n hx hb d_Parting_isOf_15 rfl (lv_at hl 0 rfl) ?_
      refine va_get (D := G.1) (ci := 8) (v := .int b7) (C := R_Parting) (T := F_Parting) (N := 10) hx hb hts i_Parting hown hK hP 0 rfl rfl 4 (by decide) (hts _ q306) (fun _ h9 => h9) rfl d_Parting_isOf_16 ?_
      refine lv_iload_n hx hb d_Parting_isOf_19 rfl (lv_at hl 2 rfl) ?_
      refine lv_icmp_ne (tgt := 27) hx hb d_Parting_isOf_20 (by decide) (fun hc_9 => ?_) (fun hc_9 => ?_)
      · have _nhc_9 := hc_9
        have ni_10 : ¬ (b7 : Int32).toInt = (b2 : Int32).toInt := fun z => hc_9 ((fa_eq _ _).mpr z)
        refine lv_iconst (v := 0) hx hb d_Parting_isOf_27 (by decide) ?_
        exact z_zret hx hb hr hlocks rfl hP hD hS (Nat.le_of_ble_eq_true rfl) (Nat.le_of_ble_eq_true rfl) d_Parting_isOf_28 ⟨0, rfl, rfl, (zI.wk (l' := 0) (h' := 1) zc_0 (by decide))⟩
      · have _nhc_9 := hc_9
        have ni_11 := (fa_eq _ _).mp hc_9
        refine lv_iconst (v := 1) hx hb d_Parting_isOf_23 (by decide) ?_
        refine lv_goto (tgt := 28) hx hb d_Parting_isOf_24 (by decide) ?_
        exact z_zret hx hb hr hlocks rfl hP hD hS (Nat.le_of_ble_eq_true rfl) (Nat.le_of_ble_eq_true rfl) d_Parting_isOf_28 ⟨1, rfl, rfl, (zI.wk (l' := 0) (h' := 1) zc_1 (by decide))⟩
theorem d_Parting_setOf_0 : decode prog_7_method_3_code 0 = .ok (.aload_n 0, 1) := by decide +kernel
theorem d_Parting_setOf_1 : decode prog_7_method_3_code 1 = .ok (.iconst 1, 1) := by decide +kernel
theorem d_Parting_setOf_2 : decode prog_7_method_3_code 2 = .ok (.putfield 36, 3) := by decide +kernel
theorem d_Parting_setOf_5 : decode prog_7_method_3_code 5 = .ok (.aload_n 0, 1) := by decide +kernel
theorem d_Parting_setOf_6 : decode prog_7_method_3_code 6 = .ok (.iload_n 1, 1) := by decide +kernel
theorem d_Parting_setOf_7 : decode prog_7_method_3_code 7 = .ok (.putfield 40, 3) := by decide +kernel
theorem d_Parting_setOf_10 : decode prog_7_method_3_code 10 = .ok (.aload_n 0, 1) := by decide +kernel
theorem d_Parting_setOf_11 : decode prog_7_method_3_code 11 = .ok (.iload_n 2, 1) := by decide +kernel
theorem d_Parting_setOf_12 : decode prog_7_method_3_code 12 = .ok (.putfield 44, 3) := by decide +kernel
theorem d_Parting_setOf_15 : decode prog_7_method_3_code 15 = .ok (.return_, 1) := by decide +kernel
abbrev m_s1_Parting_setOf : Room := { frames := 0, cells := 0, slots := 0, locals := 0 }
set_option maxHeartbeats 4000000 in
set_option maxRecDepth 100000 in
theorem s1_Parting_setOf (l : Launch) (G : zG) (b0 : Nat) (b1 : Int32) (b2 : Int32) (b3 : Int32) (b4 : Int32) (b5 : Nat) (b6 : Int32) (b7 : Int32) (b8 : Nat) (b9 : Nat) (b10 : Nat) (b11 : Nat) (b12 : Nat) (hb3 : zI b3 0 1) (hb4 : zI b4 (-2) 8) : zM l G y_Parting_setOf prog_7_method_3_code 3 (Option.none : Option Jvm.ClassFile.FieldType) m_s1_Parting_setOf [.ref b0, .int b1, .int b2] [(b0, .inr (8, [.int b3, .int b4, .ref b5, .int b6, .int b7, .ref b8, .ref b9, .ref b10, .ref b11, .ref b12]))] (fun v w => v = none ∧ w = [(b0, .inr (8, [.int 1, .int b4, .ref b5, .int b1, .int b2, .ref b8, .ref b9, .ref b10, .ref b11, .ref b12]))]) := by
  refine z_start (by decide +kernel) (Nat.le_of_ble_eq_true rfl) ?_
  intro p e s m below meth c A Z hr hnm hA hP hD hS ls hl
  have Z : zC p s m _ meth c prog_7_method_3_code 3 "TraceMachines$Parting" G := Z
  obtain ⟨hx, hb, hml, hown, hts, hK, hN, hlocks⟩ := id Z
  have hl : lv_has ls 3 [(0, .ref b0), (1, .int b1), (2, .int b2)] := hl
  refine lv_aload_n hx hb d_Parting_setOf_0 rfl (lv_at hl 0 rfl) ?_
  refine lv_iconst (v := 1) hx hb d_Parting_setOf_1 (by decide) ?_
  refine va_put (D := G.1) (ci := 8) (v := .int 1) (ty := .boolean) (C := R_Parting) (T := F_Parting) (N := 10) hx hb hts i_Parting t_Parting t_Parting_ok n_Parting hown hK hP hD hS 0 rfl rfl 0 (by decide) (hts _ q299) (fun _ h9 => h9) rfl (by decide +kernel) rfl rfl (Nat.le_of_ble_eq_true rfl) d_Parting_setOf_2 (fun H locs hP hD hS => ?_)
  have hP : va_P G.1 classes [(b0, .inr (8, [.int 1, .int b4, .ref b5, .int b6, .int b7, .ref b8, .ref b9, .ref b10, .ref b11, .ref b12]))] H := hP
  have hD := z_tie hP hD rfl
  refine lv_aload_n hx hb d_Parting_setOf_5 rfl (lv_at hl 0 rfl) ?_
  refine lv_iload_n hx hb d_Parting_setOf_6 rfl (lv_at hl 1 rfl) ?_
  refine va_put (D := G.1) (ci := 8) (v := .int b1) (ty := .int) (C := R_Parting) (T := F_Parting) (N := 10) hx hb hts i_Parting t_Parting t_Parting_ok n_Parting hown hK hP hD hS 0 rfl rfl 3 (by decide) (hts _ q305) (fun _ h9 => h9) rfl (by decide +kernel) rfl rfl (Nat.le_of_ble_eq_true rfl) d_Parting_setOf_7 (fun H locs hP hD hS => ?_)
  have hP : va_P G.1 classes [(b0, .inr (8, [.int 1, .int b4, .ref b5, .int b1, .int b7, .ref b8, .ref b9, .ref b10, .ref b11, .ref b12]))] H := hP
  have hD := z_tie hP hD rfl
  refine lv_aload_n hx hb d_Parting_setOf_10 rfl (lv_at hl 0 rfl) ?_
  refine lv_iload_n hx hb d_Parting_setOf_11 rfl (lv_at hl 2 rfl) ?_
  refine va_put (D := G.1) (ci := 8) (v := .int b2) (ty := .int) (C := R_Parting) (T := F_Parting) (N := 10) hx hb hts i_Parting t_Parting t_Parting_ok n_Parting hown hK hP hD hS 0 rfl rfl 4 (by decide) (hts _ q306) (fun _ h9 => h9) rfl (by decide +kernel) rfl rfl (Nat.le_of_ble_eq_true rfl) d_Parting_setOf_12 (fun H locs hP hD hS => ?_)
  have hP : va_P G.1 classes [(b0, .inr (8, [.int 1, .int b4, .ref b5, .int b1, .int b2, .ref b8, .ref b9, .ref b10, .ref b11, .ref b12]))] H := hP
  have hD := z_tie hP hD rfl
  exact z_vret hx hb hr hlocks hP hD hS (Nat.le_of_ble_eq_true rfl) (Nat.le_of_ble_eq_true rfl) d_Parting_setOf_15 ⟨rfl, rfl⟩
theorem d_Parting_spell_0 : decode prog_7_method_7_code 0 = .ok (.aload_n 0, 1) := by decide +kernel
theorem d_Parting_spell_1 : decode prog_7_method_7_code 1 = .ok (.aload_n 0, 1) := by decide +kernel
theorem d_Parting_spell_2 : decode prog_7_method_7_code 2 = .ok (.getfield 33, 3) := by decide +kernel
theorem d_Parting_spell_5 : decode prog_7_method_7_code 5 = .ok (.iload_n 1, 1) := by decide +kernel
theorem d_Parting_spell_6 : decode prog_7_method_7_code 6 = .ok (.iaload, 1) := by decide +kernel
theorem d_Parting_spell_7 : decode prog_7_method_7_code 7 = .ok (.putfield 47, 3) := by decide +kernel
theorem d_Parting_spell_10 : decode prog_7_method_7_code 10 = .ok (.iload_n 1, 1) := by decide +kernel
theorem d_Parting_spell_11 : decode prog_7_method_7_code 11 = .ok (.istore_n 2, 1) := by decide +kernel
theorem d_Parting_spell_12 : decode prog_7_method_7_code 12 = .ok (.aload_n 0, 1) := by decide +kernel
theorem d_Parting_spell_13 : decode prog_7_method_7_code 13 = .ok (.getfield 47, 3) := by decide +kernel
theorem d_Parting_spell_16 : decode prog_7_method_7_code 16 = .ok (.iconst 1, 1) := by decide +kernel
theorem d_Parting_spell_17 : decode prog_7_method_7_code 17 = .ok (.isub, 1) := by decide +kernel
theorem d_Parting_spell_18 : decode prog_7_method_7_code 18 = .ok (.istore_n 3, 1) := by decide +kernel
theorem d_Parting_spell_19 : decode prog_7_method_7_code 19 = .ok (.iload_n 3, 1) := by decide +kernel
theorem d_Parting_spell_20 : decode prog_7_method_7_code 20 = .ok (.ifCond .lt 28, 3) := by decide +kernel
theorem d_Parting_spell_23 : decode prog_7_method_7_code 23 = .ok (.aload_n 0, 1) := by decide +kernel
theorem d_Parting_spell_24 : decode prog_7_method_7_code 24 = .ok (.getfield 9, 3) := by decide +kernel
theorem d_Parting_spell_27 : decode prog_7_method_7_code 27 = .ok (.iload_n 3, 1) := by decide +kernel
theorem d_Parting_spell_28 : decode prog_7_method_7_code 28 = .ok (.aload_n 0, 1) := by decide +kernel
theorem d_Parting_spell_29 : decode prog_7_method_7_code 29 = .ok (.getfield 30, 3) := by decide +kernel
theorem d_Parting_spell_32 : decode prog_7_method_7_code 32 = .ok (.iload_n 2, 1) := by decide +kernel
theorem d_Parting_spell_33 : decode prog_7_method_7_code 33 = .ok (.iaload, 1) := by decide +kernel
theorem d_Parting_spell_34 : decode prog_7_method_7_code 34 = .ok (.iastore, 1) := by decide +kernel
theorem d_Parting_spell_35 : decode prog_7_method_7_code 35 = .ok (.aload_n 0, 1) := by decide +kernel
theorem d_Parting_spell_36 : decode prog_7_method_7_code 36 = .ok (.getfield 27, 3) := by decide +kernel
theorem d_Parting_spell_39 : decode prog_7_method_7_code 39 = .ok (.iload_n 2, 1) := by decide +kernel
theorem d_Parting_spell_40 : decode prog_7_method_7_code 40 = .ok (.iaload, 1) := by decide +kernel
theorem d_Parting_spell_41 : decode prog_7_method_7_code 41 = .ok (.istore_n 2, 1) := by decide +kernel
theorem d_Parting_spell_42 : decode prog_7_method_7_code 42 = .ok (.iinc 3 (-1), 3) := by decide +kernel
theorem d_Parting_spell_45 : decode prog_7_method_7_code 45 = .ok (.goto (-26), 3) := by decide +kernel
theorem d_Parting_spell_48 : decode prog_7_method_7_code 48 = .ok (.return_, 1) := by decide +kernel
abbrev m_s1_Parting_spell : Room := { frames := 0, cells := 0, slots := 0, locals := 0 }
set_option maxHeartbeats 4000000 in
set_option maxRecDepth 100000 in
theorem s1_Parting_spell (l : Launch) (G : zG) (b0 : Nat) (b1 : Int32) (b2 : Int32) (b3 : Int32) (b4 : Nat) (b5 : Int32) (b6 : Int32) (b7 : Nat) (b8 : Nat) (b9 : Nat) (b10 : Nat) (b11 : Nat) (b12 : Nat → Int32) (b13 : Nat → Int32) (b14 : Nat → Int32) (b15 : Nat → Int32) (hb1 : zI b1 0 399) (hb2 : zI b2 0 1) (hb3 : zI b3 (-2) 8) (hb12 : zR b12 0 9) (hb13 : zR b13 0 399) (hb14 : zR b14 0 9) (hb15 : zR b15 0 8) : zM l G y_Parting_spell prog_7_method_7_code 4 (Option.none : Option Jvm.ClassFile.FieldType) m_s1_Parting_spell [.ref b0, .int b1] [(b0, .inr (8, [.int b2, .int b3, .ref b4, .int b5, .int b6, .ref b7, .ref b8, .ref b9, .ref b10, .ref b11])), (b4, .inl (G.2 0, 8, .inl b12)), (b9, .inl (G.2 0, 400, .inl b13)), (b10, .inl (G.2 0, 400, .inl b14)), (b11, .inl (G.2 0, 400, .inl b15))] (fun v w => ∃ (e0 : Int32), ∃ (e1 : Nat → Int32), v = none ∧ w = [(b0, .inr (8, [.int b2, .int e0, .ref b4, .int b5, .int b6, .ref b7, .ref b8, .ref b9, .ref b10, .ref b11])), (b4, .inl (G.2 0, 8, .inl e1)), (b9, .inl (G.2 0, 400, .inl b13)), (b10, .inl (G.2 0, 400, .inl b14)), (b11, .inl (G.2 0, 400, .inl b15))] ∧ (zI e0 (-2) 8) ∧ (zR e1 0 9)) := by
  refine z_start (by decide +kernel) (Nat.le_of_ble_eq_true rfl) ?_
  intro p e s m below meth c A Z hr hnm hA hP hD hS ls hl
  have Z : zC p s m _ meth c prog_7_method_7_code 4 "TraceMachines$Parting" G := Z
  obtain ⟨hx, hb, hml, hown, hts, hK, hN, hlocks⟩ := id Z
  have hl : lv_has ls 4 [(0, .ref b0), (1, .int b1)] := hl
  refine lv_aload_n hx hb d_Parting_spell_0 rfl (lv_at hl 0 rfl) ?_
  refine lv_aload_n hx hb d_Parting_spell_1 rfl (lv_at hl 0 rfl) ?_
  refine va_get (D := G.1) (ci := 8) (v := .ref b11) (C := R_Parting) (T := F_Parting) (N := 10) hx hb hts i_Parting hown hK hP 0 rfl rfl 9 (by decide) (hts _ q311) (fun _ h9 => h9) rfl d_Parting_spell_2 ?_
  refine lv_iload_n hx hb d_Parting_spell_5 rfl (lv_at hl 1 rfl) ?_
  refine va_iald hx hb hK hP 4 0 rfl rfl (zI.inn hb1 (by decide)) d_Parting_spell_6 ?_
  refine lv_topi (fun v_1 ev_1 => ?_)
  have hv_1 : zI v_1 0 8 := (hb15 _).eq ev_1
  refine va_put (D := G.1) (ci := 8) (v := .int v_1) (ty := .int) (C := R_Parting) (T := F_Parting) (N := 10) hx hb hts i_Parting t_Parting t_Parting_ok n_Parting hown hK hP hD hS 0 rfl rfl 1 (by decide) (hts _ q301) (fun _ h9 => h9) rfl (by decide +kernel) rfl rfl (Nat.le_of_ble_eq_true rfl) d_Parting_spell_7 (fun H locs hP hD hS => ?_)
  have hP : va_P G.1 classes [(b0, .inr (8, [.int b2, .int v_1, .ref b4, .int b5, .int b6, .ref b7, .ref b8, .ref b9, .ref b10, .ref b11])), (b4, .inl (G.2 0, 8, .inl b12)), (b9, .inl (G.2 0, 400, .inl b13)), (b10, .inl (G.2 0, 400, .inl b14)), (b11, .inl (G.2 0, 400, .inl b15))] H := hP
  have hD := z_tie hP hD rfl
  refine lv_iload_n hx hb d_Parting_spell_10 rfl (lv_at hl 1 rfl) ?_
  refine lv_istore_n (lv' := [(2, .int b1), (0, .ref b0), (1, .int b1)]) hx hb d_Parting_spell_11 rfl hl (by decide) rfl (fun ls hl => ?_)
  refine lv_aload_n hx hb d_Parting_spell_12 rfl (lv_at hl 1 rfl) ?_
  refine va_get (D := G.1) (ci := 8) (v := .int v_1) (C := R_Parting) (T := F_Parting) (N := 10) hx hb hts i_Parting hown hK hP 0 rfl rfl 1 (by decide) (hts _ q301) (fun _ h9 => h9) rfl d_Parting_spell_13 ?_
  refine lv_iconst (v := 1) hx hb d_Parting_spell_16 (by decide) ?_
  refine lv_isub hx hb d_Parting_spell_17 ?_
  refine lv_topi (fun v_2 ev_2 => ?_)
  obtain ⟨qv_2, hv_2⟩ := zI_sub (l := -1) (h := 7) hv_1 zc_1 ev_2 (by decide)
  rw [li_1] at qv_2
  refine lv_istore_n (lv' := [(3, .int v_2), (2, .int b1), (0, .ref b0), (1, .int b1)]) hx hb d_Parting_spell_18 rfl hl (by decide) rfl (fun ls hl => ?_)
  suffices key : ∀ (k_24 : Nat) (y_25 : Int32) (y_26 : Int32) (y_27 : Nat → Int32) (H : Heap) (locs : List Loc) (ls : Array Slot), (zI y_25 (-1) 7) → (zI y_26 0 399) → (zR y_27 0 9) → y_25.toInt - ((-1)) < (k_24 : Int) → va_P G.1 classes [(b0, .inr (8, [.int b2, .int v_1, .ref b4, .int b5, .int b6, .ref b7, .ref b8, .ref b9, .ref b10, .ref b11])), (b4, .inl (G.2 0, 8, .inl y_27)), (b9, .inl (G.2 0, 400, .inl b13)), (b10, .inl (G.2 0, 400, .inl b14)), (b11, .inl (G.2 0, 400, .inl b15))] H → va_D A [(b0, .inr (8, [.int b2, .int v_1, .ref b4, .int b5, .int b6, .ref b7, .ref b8, .ref b9, .ref b10, .ref b11])), (b4, .inl (G.2 0, 8, .inl y_27)), (b9, .inl (G.2 0, 400, .inl b13)), (b10, .inl (G.2 0, 400, .inl b14)), (b11, .inl (G.2 0, 400, .inl b15))] → va_S A s.heap H locs → lv_has ls 4 [(3, .int y_25), (2, .int y_26), (0, .ref b0), (1, .int b1)] → W p l e m_s1_Parting_spell s m ([.ref b0, .int b1] : List Value).toArray below meth c H locs 0 0 (MQ below (zQ G (fun v w => ∃ (e0 : Int32), ∃ (e1 : Nat → Int32), v = none ∧ w = [(b0, .inr (8, [.int b2, .int e0, .ref b4, .int b5, .int b6, .ref b7, .ref b8, .ref b9, .ref b10, .ref b11])), (b4, .inl (G.2 0, 8, .inl e1)), (b9, .inl (G.2 0, 400, .inl b13)), (b10, .inl (G.2 0, 400, .inl b14)), (b11, .inl (G.2 0, 400, .inl b15))] ∧ (zI e0 (-2) 8) ∧ (zR e1 0 9)) A) ([.ref b0, .int b1] : List Value).toArray s m_s1_Parting_spell.cells m_s1_Parting_spell.slots A) (F0 m 19 ls []) by
    exact key 9 (v_2) (b1) (b12) _ _ _ hv_2 hb1 hb12 (zm_dni hv_2 (by decide)) hP hD hS (lv_sub hl [0, 1, 2, 3] rfl)
  intro k_24
  induction k_24 with
  | zero =>
    intro y_25 y_26 y_27 H locs ls hy_25 hy_26 hy_27 hmk_24 hP hD hS hl
    exact (zm_dn0 hy_25 hmk_24).elim
  | succ k_24 ihk_24 =>
    intro y_25 y_26 y_27 H locs ls hy_25 hy_26 hy_27 hmk_24 hP hD hS hl
    refine lv_iload_n hx hb d_Parting_spell_19 rfl (lv_at hl 0 rfl) ?_
    refine lv_if_lt (tgt := 48) hx hb d_Parting_spell_20 (by decide) (fun hc_28 => ?_) (fun hc_28 => ?_)
    · have _nhc_28 := hc_28
      have ni_29 := (fa_lt _ _).mp hc_28
      rw [li_0] at ni_29
      have hv_30 : zI y_25 (-1) (-1) := zI.lt_l hy_25 zc_0 hc_28 (by decide)
      exact z_vret hx hb hr hlocks hP hD hS (Nat.le_of_ble_eq_true rfl) (Nat.le_of_ble_eq_true rfl) d_Parting_spell_48 ⟨v_1, y_27, rfl, rfl, (zI.wk (l' := (-2)) (h' := 8) hv_1 (by decide)), hy_27⟩
    · have _nhc_28 := hc_28
      have ni_31 := (fa_le _ _).mp (zi_nlt hc_28)
      rw [li_0] at ni_31
      have hv_32 : zI y_25 0 7 := zI.le_r zc_0 hy_25 (zi_nlt hc_28) (by decide)
      refine lv_aload_n hx hb d_Parting_spell_23 rfl (lv_at hl 2 rfl) ?_
      refine va_get (D := G.1) (ci := 8) (v := .ref b4) (C := R_Parting) (T := F_Parting) (N := 10) hx hb hts i_Parting hown hK hP 0 rfl rfl 2 (by decide) (hts _ q303) (fun _ h9 => h9) rfl d_Parting_spell_24 ?_
      refine lv_iload_n hx hb d_Parting_spell_27 rfl (lv_at hl 0 rfl) ?_
      refine lv_aload_n hx hb d_Parting_spell_28 rfl (lv_at hl 2 rfl) ?_
      refine va_get (D := G.1) (ci := 8) (v := .ref b10) (C := R_Parting) (T := F_Parting) (N := 10) hx hb hts i_Parting hown hK hP 0 rfl rfl 8 (by decide) (hts _ q310) (fun _ h9 => h9) rfl d_Parting_spell_29 ?_
      refine lv_iload_n hx hb d_Parting_spell_32 rfl (lv_at hl 1 rfl) ?_
      refine va_iald hx hb hK hP 3 0 rfl rfl (zI.inn hy_26 (by decide)) d_Parting_spell_33 ?_
      refine lv_topi (fun v_33 ev_33 => ?_)
      have hv_33 : zI v_33 0 9 := (hb14 _).eq ev_33
      refine va_iast hx hb hK hP hD hS 1 0 rfl rfl (zI.inn hv_32 (by decide)) d_Parting_spell_34 (fun H locs hP hD hS => ?_)
      obtain ⟨f_34, hf_34, gf_34, uf_34, hP, hD⟩ := z_newfu 1 hP hD rfl hy_27 hv_33
      have hP : va_P G.1 classes [(b0, .inr (8, [.int b2, .int v_1, .ref b4, .int b5, .int b6, .ref b7, .ref b8, .ref b9, .ref b10, .ref b11])), (b4, .inl (G.2 0, 8, .inl f_34)), (b9, .inl (G.2 0, 400, .inl b13)), (b10, .inl (G.2 0, 400, .inl b14)), (b11, .inl (G.2 0, 400, .inl b15))] H := hP
      have hD := z_tie hP hD rfl
      refine lv_aload_n hx hb d_Parting_spell_35 rfl (lv_at hl 2 rfl) ?_
      refine va_get (D := G.1) (ci := 8) (v := .ref b9) (C := R_Parting) (T := F_Parting) (N := 10) hx hb hts i_Parting hown hK hP 0 rfl rfl 7 (by decide) (hts _ q309) (fun _ h9 => h9) rfl d_Parting_spell_36 ?_
      refine lv_iload_n hx hb d_Parting_spell_39 rfl (lv_at hl 1 rfl) ?_
      refine va_iald hx hb hK hP 2 0 rfl rfl (zI.inn hy_26 (by decide)) d_Parting_spell_40 ?_
      refine lv_topi (fun v_35 ev_35 => ?_)
      have hv_35 : zI v_35 0 399 := (hb13 _).eq ev_35
      refine lv_istore_n (lv' := [(2, .int v_35), (3, .int y_25), (0, .ref b0), (1, .int b1)]) hx hb d_Parting_spell_41 rfl hl (by decide) rfl (fun ls hl => ?_)
      obtain ⟨v_36, ev_36⟩ : ∃ z : Int32, z = y_25 + (-1) := ⟨_, rfl⟩
      obtain ⟨qv_36, hv_36⟩ := zI_add (l := -1) (h := 6) hv_32 zc_m1 ev_36 (by decide)
      rw [li_m1] at qv_36
      refine lv_iinc (v := v_36) (lv' := [(3, .int v_36), (2, .int v_35), (0, .ref b0), (1, .int b1)]) hx hb d_Parting_spell_42 hl (k := 1) rfl (by rw [ev_36]; rfl) (by decide) rfl (fun ls hl => ?_)
      refine lv_goto (tgt := 19) hx hb d_Parting_spell_45 (by decide) ?_
      exact ihk_24 (v_36) (v_35) (f_34) _ _ _ (zI.wk (l' := (-1)) (h' := 7) hv_36 (by decide)) hv_35 hf_34 (zm_dn qv_36 hmk_24 (by decide)) hP hD hS (lv_sub hl [0, 1, 2, 3] rfl)
theorem d_Model_isTrace_0 : decode prog_14_method_5_code 0 = .ok (.iload_n 1, 1) := by decide +kernel
theorem d_Model_isTrace_1 : decode prog_14_method_5_code 1 = .ok (.i2l, 1) := by decide +kernel
theorem d_Model_isTrace_2 : decode prog_14_method_5_code 2 = .ok (.lconst 0, 1) := by decide +kernel
theorem d_Model_isTrace_3 : decode prog_14_method_5_code 3 = .ok (.aload_n 0, 1) := by decide +kernel
theorem d_Model_isTrace_4 : decode prog_14_method_5_code 4 = .ok (.invokevirtual 134, 3) := by decide +kernel
theorem d_Model_isTrace_7 : decode prog_14_method_5_code 7 = .ok (.i2l, 1) := by decide +kernel
theorem d_Model_isTrace_8 : decode prog_14_method_5_code 8 = .ok (.lconst 1, 1) := by decide +kernel
theorem d_Model_isTrace_9 : decode prog_14_method_5_code 9 = .ok (.lsub, 1) := by decide +kernel
theorem d_Model_isTrace_10 : decode prog_14_method_5_code 10 = .ok (.invokestatic 138, 3) := by decide +kernel
theorem d_Model_in_0 : decode prog_14_method_3_code 0 = .ok (.lload_n 0, 1) := by decide +kernel
theorem d_Model_in_1 : decode prog_14_method_3_code 1 = .ok (.lload_n 2, 1) := by decide +kernel
theorem d_Model_in_2 : decode prog_14_method_3_code 2 = .ok (.lcmp, 1) := by decide +kernel
theorem d_Model_in_3 : decode prog_14_method_3_code 3 = .ok (.ifCond .lt 14, 3) := by decide +kernel
theorem d_Model_in_6 : decode prog_14_method_3_code 6 = .ok (.lload_n 0, 1) := by decide +kernel
theorem d_Model_in_7 : decode prog_14_method_3_code 7 = .ok (.lload 4, 2) := by decide +kernel
theorem d_Model_in_9 : decode prog_14_method_3_code 9 = .ok (.lcmp, 1) := by decide +kernel
theorem d_Model_in_10 : decode prog_14_method_3_code 10 = .ok (.ifCond .gt 7, 3) := by decide +kernel
theorem d_Model_in_13 : decode prog_14_method_3_code 13 = .ok (.iconst 1, 1) := by decide +kernel
theorem d_Model_in_14 : decode prog_14_method_3_code 14 = .ok (.goto 4, 3) := by decide +kernel
theorem d_Model_in_17 : decode prog_14_method_3_code 17 = .ok (.iconst 0, 1) := by decide +kernel
theorem d_Model_in_18 : decode prog_14_method_3_code 18 = .ok (.ireturn, 1) := by decide +kernel
theorem zcl_1 : zJ 1 1 1 := ⟨by decide +kernel, by decide +kernel⟩
theorem ll_1 : (1 : Int64).toInt = 1 := by decide +kernel
abbrev m_s2_Model_in : Room := { frames := 0, cells := 0, slots := 0, locals := 0 }
set_option maxHeartbeats 4000000 in
set_option maxRecDepth 100000 in
theorem s2_Model_in (l : Launch) (G : zG) (b0 : Int64) (b1 : Int64) (b2 : Int64)  : zM l G y_Model_in prog_14_method_3_code 6 (Option.some Jvm.ClassFile.FieldType.boolean) m_s2_Model_in [.long b0, .long b1, .long b2] [] (fun v w => (v = some (.int 0) ∧ w = [] ∧ b0.toInt < b1.toInt) ∨ (v = some (.int 0) ∧ w = [] ∧ b1.toInt ≤ b0.toInt ∧ b2.toInt < b0.toInt) ∨ (v = some (.int 1) ∧ w = [] ∧ b1.toInt ≤ b0.toInt ∧ b0.toInt ≤ b2.toInt)) := by
  refine z_start (by decide +kernel) (Nat.le_of_ble_eq_true rfl) ?_
  intro p e s m below meth c A Z hr hnm hA hP hD hS ls hl
  have Z : zC p s m _ meth c prog_14_method_3_code 6 "TraceMachinesModel" G := Z
  obtain ⟨hx, hb, hml, hown, hts, hK, hN, hlocks⟩ := id Z
  have hl : lv_has ls 6 [(0, .long b0), (2, .long b1), (4, .long b2)] := hl
  refine lv_lload_n hx hb d_Model_in_0 rfl (lv_at hl 0 rfl) ?_
  refine lv_lload_n hx hb d_Model_in_1 rfl (lv_at hl 1 rfl) ?_
  refine W.lcmp hx hb d_Model_in_2 ?_
  refine lv_topi (fun v_1 ev_1 => ?_)
  refine lv_if_lt (tgt := 17) hx hb d_Model_in_3 (by decide) (fun hc_2 => ?_) (fun hc_2 => ?_)
  · have ni_3 := hc_2
    rw [ev_1] at ni_3
    simp only [lg_cmp_lt, lg_cmp_le, lg_cmp_gt, lg_cmp_ge, lg_cmp_eq, fa_lt64, fa_le64, fa_eq64, Int32.toInt_toInt64] at ni_3
    have hv_4 : zJ b0 (-9223372036854775808) 9223372036854775806 := by have _a := ni_3; have _b := (zJ_all b0); have _c := (zJ_all b1); simp only [Int32.toInt_toInt64] at *; exact ⟨by omega, by omega⟩
    have hv_5 : zJ b1 (-9223372036854775807) 9223372036854775807 := by have _a := ni_3; have _b := (zJ_all b1); have _c := hv_4; simp only [Int32.toInt_toInt64] at *; exact ⟨by omega, by omega⟩
    refine lv_iconst (v := 0) hx hb d_Model_in_17 (by decide) ?_
    exact z_zret hx hb hr hlocks rfl hP hD hS (Nat.le_of_ble_eq_true rfl) (Nat.le_of_ble_eq_true rfl) d_Model_in_18 (Or.inl ⟨rfl, rfl, by omega⟩)
  · have ni_6 := hc_2
    rw [ev_1] at ni_6
    simp only [lg_cmp_lt, lg_cmp_le, lg_cmp_gt, lg_cmp_ge, lg_cmp_eq, fa_lt64, fa_le64, fa_eq64, Int32.toInt_toInt64] at ni_6
    refine lv_lload_n hx hb d_Model_in_6 rfl (lv_at hl 0 rfl) ?_
    refine lv_lload hx hb d_Model_in_7 (lv_at hl 2 rfl) ?_
    refine W.lcmp hx hb d_Model_in_9 ?_
    refine lv_topi (fun v_7 ev_7 => ?_)
    refine lv_if_gt (tgt := 17) hx hb d_Model_in_10 (by decide) (fun hc_8 => ?_) (fun hc_8 => ?_)
    · have ni_9 := hc_8
      rw [ev_7] at ni_9
      simp only [lg_cmp_lt, lg_cmp_le, lg_cmp_gt, lg_cmp_ge, lg_cmp_eq, fa_lt64, fa_le64, fa_eq64, Int32.toInt_toInt64] at ni_9
      have hv_10 : zJ b0 (-9223372036854775807) 9223372036854775807 := by have _a := ni_9; have _b := (zJ_all b0); have _c := (zJ_all b2); simp only [Int32.toInt_toInt64] at *; exact ⟨by omega, by omega⟩
      have hv_11 : zJ b2 (-9223372036854775808) 9223372036854775806 := by have _a := ni_9; have _b := (zJ_all b2); have _c := hv_10; simp only [Int32.toInt_toInt64] at *; exact ⟨by omega, by omega⟩
      refine lv_iconst (v := 0) hx hb d_Model_in_17 (by decide) ?_
      exact z_zret hx hb hr hlocks rfl hP hD hS (Nat.le_of_ble_eq_true rfl) (Nat.le_of_ble_eq_true rfl) d_Model_in_18 (Or.inr (Or.inl ⟨rfl, rfl, by omega, by omega⟩))
    · have ni_12 := hc_8
      rw [ev_7] at ni_12
      simp only [lg_cmp_lt, lg_cmp_le, lg_cmp_gt, lg_cmp_ge, lg_cmp_eq, fa_lt64, fa_le64, fa_eq64, Int32.toInt_toInt64] at ni_12
      refine lv_iconst (v := 1) hx hb d_Model_in_13 (by decide) ?_
      refine lv_goto (tgt := 18) hx hb d_Model_in_14 (by decide) ?_
      exact z_zret hx hb hr hlocks rfl hP hD hS (Nat.le_of_ble_eq_true rfl) (Nat.le_of_ble_eq_true rfl) d_Model_in_18 (Or.inr (Or.inr (⟨rfl, rfl, by omega, by omega⟩)))
theorem d_Model_isTrace_13 : decode prog_14_method_5_code 13 = .ok (.ireturn, 1) := by decide +kernel
abbrev m_s1_Model_isTrace : Room := { frames := 1, cells := 0, slots := 0, locals := 25 }
set_option maxHeartbeats 4000000 in
set_option maxRecDepth 100000 in
theorem s1_Model_isTrace (l : Launch) (G : zG) (b0 : Nat) (b1 : Int32) (b2 : Int32) (b3 : Nat) (b4 : Nat) (b5 : Nat) (b6 : Nat) (b7 : Int32) (b8 : Nat) (b9 : Int32) (b10 : Int32) (b11 : Int32) (b12 : Int32) (b13 : Nat) (b14 : Nat) (b15 : Nat) (b16 : Int32) (b17 : Nat) (b18 : Nat) (b19 : Nat) (b20 : Nat) (b21 : Nat) (b22 : Nat) (b23 : Nat) (b24 : Nat) (b25 : Nat) (b26 : Nat) (b27 : Nat) (b28 : Nat) (b29 : Int32) (b30 : Nat) (b31 : Nat) (b32 : Int32) (b33 : Int32) (b34 : Int32) (b35 : Int32) (b36 : Nat) (b37 : Nat) (b38 : Nat) (b39 : Nat) (b40 : Nat) (b41 : Nat) (b42 : Nat) (b43 : Int32) (b44 : Nat) (b45 : Nat) (b46 : Int32) (b47 : Nat) (b48 : Nat) (b49 : Nat) (b50 : Nat) (b51 : Nat) (b52 : Int32) (b53 : Nat) (b54 : Nat) (b55 : Nat) (b56 : Nat → Int32) (hb7 : zI b7 0 8) (hb9 : zI b9 0 240) (hb10 : zI b10 0 240) (hb12 : zI b12 0 1) (hb16 : zI b16 0 12) (hb29 : zI b29 0 1) (hb32 : zI b32 0 1) (hb56 : zW5 b56) : zM l G y_Model_isTrace prog_14_method_5_code 2 (Option.some Jvm.ClassFile.FieldType.boolean) m_s1_Model_isTrace [.ref b0, .int b1] [(b0, .inr (12, [.int b2, .ref b3, .ref b4, .ref b5, .ref b6, .int b7, .ref b8, .int b9, .int b10, .int b11, .int b12, .ref b13, .ref b14, .ref b15, .int b16, .ref b17, .ref b18, .ref b19, .ref b20, .ref b21, .ref b22, .ref b23, .ref b24, .ref b25, .ref b26, .ref b27, .ref b28, .int b29, .ref b30, .ref b31, .int b32, .int b33, .int b34, .int b35, .ref b36, .ref b37, .ref b38, .ref b39, .ref b40, .ref b41, .ref b42, .int b43, .ref b44, .ref b45, .int b46, .ref b47, .ref b48, .ref b49, .ref b50, .ref b51, .int b52, .ref b53, .ref b54, .ref b55])), (b3, .inl (G.2 0, 503, .inl b56))] (fun v w => ∃ (e0 : Int32), v = some (.int e0) ∧ w = [(b0, .inr (12, [.int b2, .ref b3, .ref b4, .ref b5, .ref b6, .int b7, .ref b8, .int b9, .int b10, .int b11, .int b12, .ref b13, .ref b14, .ref b15, .int b16, .ref b17, .ref b18, .ref b19, .ref b20, .ref b21, .ref b22, .ref b23, .ref b24, .ref b25, .ref b26, .ref b27, .ref b28, .int b29, .ref b30, .ref b31, .int b32, .int b33, .int b34, .int b35, .ref b36, .ref b37, .ref b38, .ref b39, .ref b40, .ref b41, .ref b42, .int b43, .ref b44, .ref b45, .int b46, .ref b47, .ref b48, .ref b49, .ref b50, .ref b51, .int b52, .ref b53, .ref b54, .ref b55])), (b3, .inl (G.2 0, 503, .inl b56))] ∧ (zI e0 0 1)) := by
  refine z_start (by decide +kernel) (Nat.le_of_ble_eq_true rfl) ?_
  intro p e s m below meth c A Z hr hnm hA hP hD hS ls hl
  have Z : zC p s m _ meth c prog_14_method_5_code 2 "TraceMachinesModel" G := Z
  obtain ⟨hx, hb, hml, hown, hts, hK, hN, hlocks⟩ := id Z
  have hl : lv_has ls 2 [(0, .ref b0), (1, .int b1)] := hl
  refine lv_iload_n hx hb d_Model_isTrace_0 rfl (lv_at hl 1 rfl) ?_
  refine lv_i2l (v := b1.toInt64) hx hb d_Model_isTrace_1 rfl ?_
  refine lv_lconst (v := 0) hx hb d_Model_isTrace_2 (by decide) ?_
  refine lv_aload_n hx hb d_Model_isTrace_3 rfl (lv_at hl 0 rfl) ?_
  refine z_callV (index := 134) (As := []) (rest := [.long 0, .long b1.toInt64]) (wr := []) Z (s1_Model_many l G (b0) (b2) (b3) (b4) (b5) (b6) (b7) (b8) (b9) (b10) (b11) (b12) (b13) (b14) (b15) (b16) (b17) (b18) (b19) (b20) (b21) (b22) (b23) (b24) (b25) (b26) (b27) (b28) (b29) (b30) (b31) (b32) (b33) (b34) (b35) (b36) (b37) (b38) (b39) (b40) (b41) (b42) (b43) (b44) (b45) (b46) (b47) (b48) (b49) (b50) (b51) (b52) (b53) (b54) (b55) (b56) hb7 hb9 hb10 hb12 hb16 hb29 hb32 hb56) hl.1 q1320 q1322 qs51 q14 q1323 ⟨by decide, by decide, by show _ = some 0; decide +kernel⟩ ⟨Nat.le_of_ble_eq_true rfl, Nat.le_of_ble_eq_true rfl⟩ ⟨Nat.le_of_ble_eq_true rfl, Nat.le_of_ble_eq_true rfl⟩ rfl (Nat.le_of_ble_eq_true rfl) d_Model_isTrace_4 hP hD hS hA 0 12 rfl rfl rfl [0, 1] [] rfl rfl rfl rfl (by decide) (fun v w1 H locs hw_1 hP hD hS => ?_)
  obtain ⟨x_2, rfl, rfl, hx_2⟩ := hw_1
  have hP : va_P G.1 classes [(b0, .inr (12, [.int b2, .ref b3, .ref b4, .ref b5, .ref b6, .int b7, .ref b8, .int b9, .int b10, .int b11, .int b12, .ref b13, .ref b14, .ref b15, .int b16, .ref b17, .ref b18, .ref b19, .ref b20, .ref b21, .ref b22, .ref b23, .ref b24, .ref b25, .ref b26, .ref b27, .ref b28, .int b29, .ref b30, .ref b31, .int b32, .int b33, .int b34, .int b35, .ref b36, .ref b37, .ref b38, .ref b39, .ref b40, .ref b41, .ref b42, .int b43, .ref b44, .ref b45, .int b46, .ref b47, .ref b48, .ref b49, .ref b50, .ref b51, .int b52, .ref b53, .ref b54, .ref b55])), (b3, .inl (G.2 0, 503, .inl b56))] H := hP
  have hD := z_tie hP hD rfl
  refine W.widen (k := 0) (n := 0) (Nat.le_of_ble_eq_true rfl) (Nat.le_of_ble_eq_true rfl) ?_
  refine lv_i2l (v := x_2.toInt64) hx hb d_Model_isTrace_7 rfl ?_
  refine lv_lconst (v := 1) hx hb d_Model_isTrace_8 (by decide) ?_
  refine lv_lsub hx hb d_Model_isTrace_9 ?_
  refine lv_topl (fun v_3 ev_3 => ?_)
  obtain ⟨qv_3, hv_3⟩ := zJ_sub (l := -1) (h := 19) (zI_i2l hx_2 rfl).2 zcl_1 ev_3 (by decide)
  try simp only [Int32.toInt_toInt64, ll_1] at qv_3
  refine z_callS (index := 138) (As := [.long b1.toInt64, .long 0, .long v_3]) (rest := []) (wr := [(b0, .inr (12, [.int b2, .ref b3, .ref b4, .ref b5, .ref b6, .int b7, .ref b8, .int b9, .int b10, .int b11, .int b12, .ref b13, .ref b14, .ref b15, .int b16, .ref b17, .ref b18, .ref b19, .ref b20, .ref b21, .ref b22, .ref b23, .ref b24, .ref b25, .ref b26, .ref b27, .ref b28, .int b29, .ref b30, .ref b31, .int b32, .int b33, .int b34, .int b35, .ref b36, .ref b37, .ref b38, .ref b39, .ref b40, .ref b41, .ref b42, .int b43, .ref b44, .ref b45, .int b46, .ref b47, .ref b48, .ref b49, .ref b50, .ref b51, .int b52, .ref b53, .ref b54, .ref b55])), (b3, .inl (G.2 0, 503, .inl b56))]) Z (s2_Model_in l G (b1.toInt64) (0) (v_3)) hl.1 q1281 q1282 q14 q1283 ⟨by decide, by decide, by show _ = some 3; decide +kernel⟩ ⟨Nat.le_of_ble_eq_true rfl, Nat.le_of_ble_eq_true rfl⟩ ⟨Nat.le_of_ble_eq_true rfl, Nat.le_of_ble_eq_true rfl⟩ rfl (Nat.le_of_ble_eq_true rfl) d_Model_isTrace_10 hP hD hS hA [] [0, 1] rfl rfl rfl rfl (by decide) (fun v w1 H locs hw_4 hP hD hS => ?_)
  rcases hw_4 with ⟨rfl, rfl, hq_5⟩ | ⟨rfl, rfl, hq_6, hq_7⟩ | ⟨rfl, rfl, hq_8, hq_9⟩
  · have hP : va_P G.1 classes [(b0, .inr (12, [.int b2, .ref b3, .ref b4, .ref b5, .ref b6, .int b7, .ref b8, .int b9, .int b10, .int b11, .int b12, .ref b13, .ref b14, .ref b15, .int b16, .ref b17, .ref b18, .ref b19, .ref b20, .ref b21, .ref b22, .ref b23, .ref b24, .ref b25, .ref b26, .ref b27, .ref b28, .int b29, .ref b30, .ref b31, .int b32, .int b33, .int b34, .int b35, .ref b36, .ref b37, .ref b38, .ref b39, .ref b40, .ref b41, .ref b42, .int b43, .ref b44, .ref b45, .int b46, .ref b47, .ref b48, .ref b49, .ref b50, .ref b51, .int b52, .ref b53, .ref b54, .ref b55])), (b3, .inl (G.2 0, 503, .inl b56))] H := hP
    have hD := z_tie hP hD rfl
    try simp only [Int32.toInt_toInt64, ll_0] at hq_5
    have hv_10 : zI b1 (-2147483648) (-1) := by have _a := hq_5; have _b := (zI_all b1); have _c := zcl_0; simp only [Int32.toInt_toInt64] at *; exact ⟨by omega, by omega⟩
    refine W.widen (k := 0) (n := 0) (Nat.le_of_ble_eq_true rfl) (Nat.le_of_ble_eq_true rfl) ?_
    exact z_zret hx hb hr hlocks rfl hP hD hS (Nat.le_of_ble_eq_true rfl) (Nat.le_of_ble_eq_true rfl) d_Model_isTrace_13 ⟨0, rfl, rfl, (zI.wk (l' := 0) (h' := 1) zc_0 (by decide))⟩
  · have hP : va_P G.1 classes [(b0, .inr (12, [.int b2, .ref b3, .ref b4, .ref b5, .ref b6, .int b7, .ref b8, .int b9, .int b10, .int b11, .int b12, .ref b13, .ref b14, .ref b15, .int b16, .ref b17, .ref b18, .ref b19, .ref b20, .ref b21, .ref b22, .ref b23, .ref b24, .ref b25, .ref b26, .ref b27, .ref b28, .int b29, .ref b30, .ref b31, .int b32, .int b33, .int b34, .int b35, .ref b36, .ref b37, .ref b38, .ref b39, .ref b40, .ref b41, .ref b42, .int b43, .ref b44, .ref b45, .int b46, .ref b47, .ref b48, .ref b49, .ref b50, .ref b51, .int b52, .ref b53, .ref b54, .ref b55])), (b3, .inl (G.2 0, 503, .inl b56))] H := hP
    have hD := z_tie hP hD rfl
    try simp only [Int32.toInt_toInt64, ll_0] at hq_6
    have hv_11 : zI b1 0 2147483647 := by have _a := hq_6; have _b := (zI_all b1); have _c := zcl_0; simp only [Int32.toInt_toInt64] at *; exact ⟨by omega, by omega⟩
    try simp only [Int32.toInt_toInt64] at hq_7
    refine W.widen (k := 0) (n := 0) (Nat.le_of_ble_eq_true rfl) (Nat.le_of_ble_eq_true rfl) ?_
    exact z_zret hx hb hr hlocks rfl hP hD hS (Nat.le_of_ble_eq_true rfl) (Nat.le_of_ble_eq_true rfl) d_Model_isTrace_13 ⟨0, rfl, rfl, (zI.wk (l' := 0) (h' := 1) zc_0 (by decide))⟩
  · have hP : va_P G.1 classes [(b0, .inr (12, [.int b2, .ref b3, .ref b4, .ref b5, .ref b6, .int b7, .ref b8, .int b9, .int b10, .int b11, .int b12, .ref b13, .ref b14, .ref b15, .int b16, .ref b17, .ref b18, .ref b19, .ref b20, .ref b21, .ref b22, .ref b23, .ref b24, .ref b25, .ref b26, .ref b27, .ref b28, .int b29, .ref b30, .ref b31, .int b32, .int b33, .int b34, .int b35, .ref b36, .ref b37, .ref b38, .ref b39, .ref b40, .ref b41, .ref b42, .int b43, .ref b44, .ref b45, .int b46, .ref b47, .ref b48, .ref b49, .ref b50, .ref b51, .int b52, .ref b53, .ref b54, .ref b55])), (b3, .inl (G.2 0, 503, .inl b56))] H := hP
    have hD := z_tie hP hD rfl
    try simp only [Int32.toInt_toInt64, ll_0] at hq_8
    have hv_12 : zI b1 0 2147483647 := by have _a := hq_8; have _b := (zI_all b1); have _c := zcl_0; simp only [Int32.toInt_toInt64] at *; exact ⟨by omega, by omega⟩
    try simp only [Int32.toInt_toInt64] at hq_9
    have hv_13 : zI b1 0 19 := by have _a := hq_9; have _b := hv_12; have _c := hv_3; simp only [Int32.toInt_toInt64] at *; exact ⟨by omega, by omega⟩
    have hv_14 : zJ v_3 0 19 := by have _a := hq_9; have _b := hv_3; have _c := (zI_i2l hv_13 rfl).2; simp only [Int32.toInt_toInt64] at *; exact ⟨by omega, by omega⟩
    refine W.widen (k := 0) (n := 0) (Nat.le_of_ble_eq_true rfl) (Nat.le_of_ble_eq_true rfl) ?_
    exact z_zret hx hb hr hlocks rfl hP hD hS (Nat.le_of_ble_eq_true rfl) (Nat.le_of_ble_eq_true rfl) d_Model_isTrace_13 ⟨1, rfl, rfl, (zI.wk (l' := 0) (h' := 1) zc_1 (by decide))⟩
theorem d_Model_end_0 : decode prog_14_method_10_code 0 = .ok (.aload_n 0, 1) := by decide +kernel
theorem d_Model_end_1 : decode prog_14_method_10_code 1 = .ok (.iconst 0, 1) := by decide +kernel
theorem d_Model_end_2 : decode prog_14_method_10_code 2 = .ok (.putfield 1, 3) := by decide +kernel
theorem d_Model_end_5 : decode prog_14_method_10_code 5 = .ok (.iload_n 1, 1) := by decide +kernel
theorem d_Model_end_6 : decode prog_14_method_10_code 6 = .ok (.i2l, 1) := by decide +kernel
theorem d_Model_end_7 : decode prog_14_method_10_code 7 = .ok (.lconst 0, 1) := by decide +kernel
theorem d_Model_end_8 : decode prog_14_method_10_code 8 = .ok (.aload_n 0, 1) := by decide +kernel
theorem d_Model_end_9 : decode prog_14_method_10_code 9 = .ok (.getfield 142, 3) := by decide +kernel
theorem d_Model_end_12 : decode prog_14_method_10_code 12 = .ok (.i2l, 1) := by decide +kernel
theorem d_Model_end_13 : decode prog_14_method_10_code 13 = .ok (.invokestatic 138, 3) := by decide +kernel
theorem d_Model_end_16 : decode prog_14_method_10_code 16 = .ok (.ifCond .ne 5, 3) := by decide +kernel
theorem d_Model_end_19 : decode prog_14_method_10_code 19 = .ok (.iconst 0, 1) := by decide +kernel
theorem d_Model_end_20 : decode prog_14_method_10_code 20 = .ok (.ireturn, 1) := by decide +kernel
theorem d_Model_end_21 : decode prog_14_method_10_code 21 = .ok (.aload_n 0, 1) := by decide +kernel
theorem d_Model_end_22 : decode prog_14_method_10_code 22 = .ok (.iload_n 1, 1) := by decide +kernel
theorem d_Model_end_23 : decode prog_14_method_10_code 23 = .ok (.putfield 142, 3) := by decide +kernel
theorem d_Model_end_26 : decode prog_14_method_10_code 26 = .ok (.iconst 1, 1) := by decide +kernel
theorem d_Model_end_27 : decode prog_14_method_10_code 27 = .ok (.ireturn, 1) := by decide +kernel
abbrev m_s1_Model_end : Room := { frames := 1, cells := 0, slots := 0, locals := 25 }
set_option maxHeartbeats 4000000 in
set_option maxRecDepth 100000 in
theorem s1_Model_end (l : Launch) (G : zG) (b0 : Nat) (b1 : Int32) (b2 : Int32) (b3 : Nat) (b4 : Nat) (b5 : Nat) (b6 : Nat) (b7 : Int32) (b8 : Nat) (b9 : Int32) (b10 : Int32) (b11 : Int32) (b12 : Int32) (b13 : Nat) (b14 : Nat) (b15 : Nat) (b16 : Int32) (b17 : Nat) (b18 : Nat) (b19 : Nat) (b20 : Nat) (b21 : Nat) (b22 : Nat) (b23 : Nat) (b24 : Nat) (b25 : Nat) (b26 : Nat) (b27 : Nat) (b28 : Nat) (b29 : Int32) (b30 : Nat) (b31 : Nat) (b32 : Int32) (b33 : Int32) (b34 : Int32) (b35 : Int32) (b36 : Nat) (b37 : Nat) (b38 : Nat) (b39 : Nat) (b40 : Nat) (b41 : Nat) (b42 : Nat) (b43 : Int32) (b44 : Nat) (b45 : Nat) (b46 : Int32) (b47 : Nat) (b48 : Nat) (b49 : Nat) (b50 : Nat) (b51 : Nat) (b52 : Int32) (b53 : Nat) (b54 : Nat) (b55 : Nat) (hb7 : zI b7 0 8) (hb9 : zI b9 0 240) (hb10 : zI b10 0 240) (hb12 : zI b12 0 1) (hb16 : zI b16 0 12) (hb29 : zI b29 0 1) (hb32 : zI b32 0 1) : zM l G y_Model_end prog_14_method_10_code 2 (Option.some Jvm.ClassFile.FieldType.boolean) m_s1_Model_end [.ref b0, .int b1] [(b0, .inr (12, [.int b2, .ref b3, .ref b4, .ref b5, .ref b6, .int b7, .ref b8, .int b9, .int b10, .int b11, .int b12, .ref b13, .ref b14, .ref b15, .int b16, .ref b17, .ref b18, .ref b19, .ref b20, .ref b21, .ref b22, .ref b23, .ref b24, .ref b25, .ref b26, .ref b27, .ref b28, .int b29, .ref b30, .ref b31, .int b32, .int b33, .int b34, .int b35, .ref b36, .ref b37, .ref b38, .ref b39, .ref b40, .ref b41, .ref b42, .int b43, .ref b44, .ref b45, .int b46, .ref b47, .ref b48, .ref b49, .ref b50, .ref b51, .int b52, .ref b53, .ref b54, .ref b55]))] (fun v w => ∃ (e0 : Int32), ∃ (e1 : Int32), v = some (.int e0) ∧ w = [(b0, .inr (12, [.int 0, .ref b3, .ref b4, .ref b5, .ref b6, .int b7, .ref b8, .int e1, .int b10, .int b11, .int b12, .ref b13, .ref b14, .ref b15, .int b16, .ref b17, .ref b18, .ref b19, .ref b20, .ref b21, .ref b22, .ref b23, .ref b24, .ref b25, .ref b26, .ref b27, .ref b28, .int b29, .ref b30, .ref b31, .int b32, .int b33, .int b34, .int b35, .ref b36, .ref b37, .ref b38, .ref b39, .ref b40, .ref b41, .ref b42, .int b43, .ref b44, .ref b45, .int b46, .ref b47, .ref b48, .ref b49, .ref b50, .ref b51, .int b52, .ref b53, .ref b54, .ref b55]))] ∧ (zI e0 0 1) ∧ (zI e1 0 240)) := by
  refine z_start (by decide +kernel) (Nat.le_of_ble_eq_true rfl) ?_
  intro p e s m below meth c A Z hr hnm hA hP hD hS ls hl
  have Z : zC p s m _ meth c prog_14_method_10_code 2 "TraceMachinesModel" G := Z
  obtain ⟨hx, hb, hml, hown, hts, hK, hN, hlocks⟩ := id Z
  have hl : lv_has ls 2 [(0, .ref b0), (1, .int b1)] := hl
  refine lv_aload_n hx hb d_Model_end_0 rfl (lv_at hl 0 rfl) ?_
  refine lv_iconst (v := 0) hx hb d_Model_end_1 (by decide) ?_
  refine va_put (D := G.1) (ci := 12) (v := .int 0) (ty := .int) (C := R_Model) (T := F_Model) (N := 54) hx hb hts i_Model t_Model t_Model_ok n_Model hown hK hP hD hS 0 rfl rfl 0 (by decide) (hts _ q1109) (fun _ h9 => h9) rfl (by decide +kernel) rfl rfl (Nat.le_of_ble_eq_true rfl) d_Model_end_2 (fun H locs hP hD hS => ?_)
  have hP : va_P G.1 classes [(b0, .inr (12, [.int 0, .ref b3, .ref b4, .ref b5, .ref b6, .int b7, .ref b8, .int b9, .int b10, .int b11, .int b12, .ref b13, .ref b14, .ref b15, .int b16, .ref b17, .ref b18, .ref b19, .ref b20, .ref b21, .ref b22, .ref b23, .ref b24, .ref b25, .ref b26, .ref b27, .ref b28, .int b29, .ref b30, .ref b31, .int b32, .int b33, .int b34, .int b35, .ref b36, .ref b37, .ref b38, .ref b39, .ref b40, .ref b41, .ref b42, .int b43, .ref b44, .ref b45, .int b46, .ref b47, .ref b48, .ref b49, .ref b50, .ref b51, .int b52, .ref b53, .ref b54, .ref b55]))] H := hP
  have hD := z_tie hP hD rfl
  refine lv_iload_n hx hb d_Model_end_5 rfl (lv_at hl 1 rfl) ?_
  refine lv_i2l (v := b1.toInt64) hx hb d_Model_end_6 rfl ?_
  refine lv_lconst (v := 0) hx hb d_Model_end_7 (by decide) ?_
  refine lv_aload_n hx hb d_Model_end_8 rfl (lv_at hl 0 rfl) ?_
  refine va_get (D := G.1) (ci := 12) (v := .int b9) (C := R_Model) (T := F_Model) (N := 54) hx hb hts i_Model hown hK hP 0 rfl rfl 7 (by decide) (hts _ q1116) (fun _ h9 => h9) rfl d_Model_end_9 ?_
  refine lv_i2l (v := b9.toInt64) hx hb d_Model_end_12 rfl ?_
  refine z_callS (index := 138) (As := [.long b1.toInt64, .long 0, .long b9.toInt64]) (rest := []) (wr := [(b0, .inr (12, [.int 0, .ref b3, .ref b4, .ref b5, .ref b6, .int b7, .ref b8, .int b9, .int b10, .int b11, .int b12, .ref b13, .ref b14, .ref b15, .int b16, .ref b17, .ref b18, .ref b19, .ref b20, .ref b21, .ref b22, .ref b23, .ref b24, .ref b25, .ref b26, .ref b27, .ref b28, .int b29, .ref b30, .ref b31, .int b32, .int b33, .int b34, .int b35, .ref b36, .ref b37, .ref b38, .ref b39, .ref b40, .ref b41, .ref b42, .int b43, .ref b44, .ref b45, .int b46, .ref b47, .ref b48, .ref b49, .ref b50, .ref b51, .int b52, .ref b53, .ref b54, .ref b55]))]) Z (s2_Model_in l G (b1.toInt64) (0) (b9.toInt64)) hl.1 q1281 q1282 q14 q1283 ⟨by decide, by decide, by show _ = some 3; decide +kernel⟩ ⟨Nat.le_of_ble_eq_true rfl, Nat.le_of_ble_eq_true rfl⟩ ⟨Nat.le_of_ble_eq_true rfl, Nat.le_of_ble_eq_true rfl⟩ rfl (Nat.le_of_ble_eq_true rfl) d_Model_end_13 hP hD hS hA [] [0] rfl rfl rfl rfl (by decide) (fun v w1 H locs hw_1 hP hD hS => ?_)
  rcases hw_1 with ⟨rfl, rfl, hq_2⟩ | ⟨rfl, rfl, hq_3, hq_4⟩ | ⟨rfl, rfl, hq_5, hq_6⟩
  · have hP : va_P G.1 classes [(b0, .inr (12, [.int 0, .ref b3, .ref b4, .ref b5, .ref b6, .int b7, .ref b8, .int b9, .int b10, .int b11, .int b12, .ref b13, .ref b14, .ref b15, .int b16, .ref b17, .ref b18, .ref b19, .ref b20, .ref b21, .ref b22, .ref b23, .ref b24, .ref b25, .ref b26, .ref b27, .ref b28, .int b29, .ref b30, .ref b31, .int b32, .int b33, .int b34, .int b35, .ref b36, .ref b37, .ref b38, .ref b39, .ref b40, .ref b41, .ref b42, .int b43, .ref b44, .ref b45, .int b46, .ref b47, .ref b48, .ref b49, .ref b50, .ref b51, .int b52, .ref b53, .ref b54, .ref b55]))] H := hP
    have hD := z_tie hP hD rfl
    try simp only [Int32.toInt_toInt64, ll_0] at hq_2
    have hv_7 : zI b1 (-2147483648) (-1) := by have _a := hq_2; have _b := (zI_all b1); have _c := zcl_0; simp only [Int32.toInt_toInt64] at *; exact ⟨by omega, by omega⟩
    refine W.widen (k := 0) (n := 0) (Nat.le_of_ble_eq_true rfl) (Nat.le_of_ble_eq_true rfl) ?_
    refine lv_if_ne (tgt := 21) hx hb d_Model_end_16 (by decide) (fun hc => absurd hc (by decide +kernel)) (fun _ => ?_)
    refine lv_iconst (v := 0) hx hb d_Model_end_19 (by decide) ?_
    exact z_zret hx hb hr hlocks rfl hP hD hS (Nat.le_of_ble_eq_true rfl) (Nat.le_of_ble_eq_true rfl) d_Model_end_20 ⟨0, b9, rfl, rfl, (zI.wk (l' := 0) (h' := 1) zc_0 (by decide)), hb9⟩
  · have hP : va_P G.1 classes [(b0, .inr (12, [.int 0, .ref b3, .ref b4, .ref b5, .ref b6, .int b7, .ref b8, .int b9, .int b10, .int b11, .int b12, .ref b13, .ref b14, .ref b15, .int b16, .ref b17, .ref b18, .ref b19, .ref b20, .ref b21, .ref b22, .ref b23, .ref b24, .ref b25, .ref b26, .ref b27, .ref b28, .int b29, .ref b30, .ref b31, .int b32, .int b33, .int b34, .int b35, .ref b36, .ref b37, .ref b38, .ref b39, .ref b40, .ref b41, .ref b42, .int b43, .ref b44, .ref b45, .int b46, .ref b47, .ref b48, .ref b49, .ref b50, .ref b51, .int b52, .ref b53, .ref b54, .ref b55]))] H := hP
    have hD := z_tie hP hD rfl
    try simp only [Int32.toInt_toInt64, ll_0] at hq_3
    have hv_8 : zI b1 0 2147483647 := by have _a := hq_3; have _b := (zI_all b1); have _c := zcl_0; simp only [Int32.toInt_toInt64] at *; exact ⟨by omega, by omega⟩
    try simp only [Int32.toInt_toInt64] at hq_4
    have hv_9 : zI b1 1 2147483647 := by have _a := hq_4; have _b := hv_8; have _c := (zI_i2l hb9 rfl).2; simp only [Int32.toInt_toInt64] at *; exact ⟨by omega, by omega⟩
    refine W.widen (k := 0) (n := 0) (Nat.le_of_ble_eq_true rfl) (Nat.le_of_ble_eq_true rfl) ?_
    refine lv_if_ne (tgt := 21) hx hb d_Model_end_16 (by decide) (fun hc => absurd hc (by decide +kernel)) (fun _ => ?_)
    refine lv_iconst (v := 0) hx hb d_Model_end_19 (by decide) ?_
    exact z_zret hx hb hr hlocks rfl hP hD hS (Nat.le_of_ble_eq_true rfl) (Nat.le_of_ble_eq_true rfl) d_Model_end_20 ⟨0, b9, rfl, rfl, (zI.wk (l' := 0) (h' := 1) zc_0 (by decide)), hb9⟩
  · have hP : va_P G.1 classes [(b0, .inr (12, [.int 0, .ref b3, .ref b4, .ref b5, .ref b6, .int b7, .ref b8, .int b9, .int b10, .int b11, .int b12, .ref b13, .ref b14, .ref b15, .int b16, .ref b17, .ref b18, .ref b19, .ref b20, .ref b21, .ref b22, .ref b23, .ref b24, .ref b25, .ref b26, .ref b27, .ref b28, .int b29, .ref b30, .ref b31, .int b32, .int b33, .int b34, .int b35, .ref b36, .ref b37, .ref b38, .ref b39, .ref b40, .ref b41, .ref b42, .int b43, .ref b44, .ref b45, .int b46, .ref b47, .ref b48, .ref b49, .ref b50, .ref b51, .int b52, .ref b53, .ref b54, .ref b55]))] H := hP
    have hD := z_tie hP hD rfl
    try simp only [Int32.toInt_toInt64, ll_0] at hq_5
    have hv_10 : zI b1 0 2147483647 := by have _a := hq_5; have _b := (zI_all b1); have _c := zcl_0; simp only [Int32.toInt_toInt64] at *; exact ⟨by omega, by omega⟩
    try simp only [Int32.toInt_toInt64] at hq_6
    have hv_11 : zI b1 0 240 := by have _a := hq_6; have _b := hv_10; have _c := (zI_i2l hb9 rfl).2; simp only [Int32.toInt_toInt64] at *; exact ⟨by omega, by omega⟩
    refine W.widen (k := 0) (n := 0) (Nat.le_of_ble_eq_true rfl) (Nat.le_of_ble_eq_true rfl) ?_
    refine lv_if_ne (tgt := 21) hx hb d_Model_end_16 (by decide) (fun _ => ?_) (fun hc => absurd hc (by decide +kernel))
    refine lv_aload_n hx hb d_Model_end_21 rfl (lv_at hl 0 rfl) ?_
    refine lv_iload_n hx hb d_Model_end_22 rfl (lv_at hl 1 rfl) ?_
    refine va_put (D := G.1) (ci := 12) (v := .int b1) (ty := .int) (C := R_Model) (T := F_Model) (N := 54) hx hb hts i_Model t_Model t_Model_ok n_Model hown hK hP hD hS 0 rfl rfl 7 (by decide) (hts _ q1116) (fun _ h9 => h9) rfl (by decide +kernel) rfl rfl (Nat.le_of_ble_eq_true rfl) d_Model_end_23 (fun H locs hP hD hS => ?_)
    have hP : va_P G.1 classes [(b0, .inr (12, [.int 0, .ref b3, .ref b4, .ref b5, .ref b6, .int b7, .ref b8, .int b1, .int b10, .int b11, .int b12, .ref b13, .ref b14, .ref b15, .int b16, .ref b17, .ref b18, .ref b19, .ref b20, .ref b21, .ref b22, .ref b23, .ref b24, .ref b25, .ref b26, .ref b27, .ref b28, .int b29, .ref b30, .ref b31, .int b32, .int b33, .int b34, .int b35, .ref b36, .ref b37, .ref b38, .ref b39, .ref b40, .ref b41, .ref b42, .int b43, .ref b44, .ref b45, .int b46, .ref b47, .ref b48, .ref b49, .ref b50, .ref b51, .int b52, .ref b53, .ref b54, .ref b55]))] H := hP
    have hD := z_tie hP hD rfl
    refine lv_iconst (v := 1) hx hb d_Model_end_26 (by decide) ?_
    exact z_zret hx hb hr hlocks rfl hP hD hS (Nat.le_of_ble_eq_true rfl) (Nat.le_of_ble_eq_true rfl) d_Model_end_27 ⟨1, b1, rfl, rfl, (zI.wk (l' := 0) (h' := 1) zc_1 (by decide)), hv_11⟩
theorem d_Model_isDigitHere_0 : decode prog_14_method_13_code 0 = .ok (.aload_n 0, 1) := by decide +kernel
theorem d_Model_isDigitHere_1 : decode prog_14_method_13_code 1 = .ok (.getfield 149, 3) := by decide +kernel
theorem d_Model_isDigitHere_4 : decode prog_14_method_13_code 4 = .ok (.aload_n 0, 1) := by decide +kernel
theorem d_Model_isDigitHere_5 : decode prog_14_method_13_code 5 = .ok (.getfield 142, 3) := by decide +kernel
theorem d_Model_isDigitHere_8 : decode prog_14_method_13_code 8 = .ok (.if_icmp .ge 29, 3) := by decide +kernel
theorem d_Model_isDigitHere_11 : decode prog_14_method_13_code 11 = .ok (.aload_n 0, 1) := by decide +kernel
theorem d_Model_isDigitHere_12 : decode prog_14_method_13_code 12 = .ok (.getfield 27, 3) := by decide +kernel
theorem d_Model_isDigitHere_15 : decode prog_14_method_13_code 15 = .ok (.aload_n 0, 1) := by decide +kernel
theorem d_Model_isDigitHere_16 : decode prog_14_method_13_code 16 = .ok (.getfield 149, 3) := by decide +kernel
theorem d_Model_isDigitHere_19 : decode prog_14_method_13_code 19 = .ok (.baload, 1) := by decide +kernel
theorem d_Model_isDigitHere_20 : decode prog_14_method_13_code 20 = .ok (.i2l, 1) := by decide +kernel
theorem d_Model_isDigitHere_21 : decode prog_14_method_13_code 21 = .ok (.ldc2_w 155, 3) := by decide +kernel
theorem d_Model_isDigitHere_24 : decode prog_14_method_13_code 24 = .ok (.ldc2_w 157, 3) := by decide +kernel
theorem d_Model_isDigitHere_27 : decode prog_14_method_13_code 27 = .ok (.invokestatic 138, 3) := by decide +kernel
theorem d_Model_isDigitHere_30 : decode prog_14_method_13_code 30 = .ok (.ifCond .eq 7, 3) := by decide +kernel
theorem d_Model_isDigitHere_33 : decode prog_14_method_13_code 33 = .ok (.iconst 1, 1) := by decide +kernel
theorem d_Model_isDigitHere_34 : decode prog_14_method_13_code 34 = .ok (.goto 4, 3) := by decide +kernel
theorem d_Model_isDigitHere_37 : decode prog_14_method_13_code 37 = .ok (.iconst 0, 1) := by decide +kernel
theorem d_Model_isDigitHere_38 : decode prog_14_method_13_code 38 = .ok (.ireturn, 1) := by decide +kernel
theorem ll_48 : (48 : Int64).toInt = 48 := by decide +kernel
theorem zcl_48 : zJ 48 48 48 := ⟨by decide +kernel, by decide +kernel⟩
theorem ll_57 : (57 : Int64).toInt = 57 := by decide +kernel
theorem zcl_57 : zJ 57 57 57 := ⟨by decide +kernel, by decide +kernel⟩
abbrev m_s1_Model_isDigitHere : Room := { frames := 1, cells := 0, slots := 0, locals := 25 }
set_option maxHeartbeats 4000000 in
set_option maxRecDepth 100000 in
theorem s1_Model_isDigitHere (l : Launch) (G : zG) (b0 : Nat) (b1 : Int32) (b2 : Nat) (b3 : Nat) (b4 : Nat) (b5 : Nat) (b6 : Int32) (b7 : Nat) (b8 : Int32) (b9 : Int32) (b10 : Int32) (b11 : Int32) (b12 : Nat) (b13 : Nat) (b14 : Nat) (b15 : Int32) (b16 : Nat) (b17 : Nat) (b18 : Nat) (b19 : Nat) (b20 : Nat) (b21 : Nat) (b22 : Nat) (b23 : Nat) (b24 : Nat) (b25 : Nat) (b26 : Nat) (b27 : Nat) (b28 : Int32) (b29 : Nat) (b30 : Nat) (b31 : Int32) (b32 : Int32) (b33 : Int32) (b34 : Int32) (b35 : Nat) (b36 : Nat) (b37 : Nat) (b38 : Nat) (b39 : Nat) (b40 : Nat) (b41 : Nat) (b42 : Int32) (b43 : Nat) (b44 : Nat) (b45 : Int32) (b46 : Nat) (b47 : Nat) (b48 : Nat) (b49 : Nat) (b50 : Nat) (b51 : Int32) (b52 : Nat) (b53 : Nat) (b54 : Nat) (b55 : Nat → Int32) (hb6 : zI b6 0 8) (hb8 : zI b8 0 240) (hb9 : zI b9 0 240) (hb11 : zI b11 0 1) (hb15 : zI b15 0 12) (hb28 : zI b28 0 1) (hb31 : zI b31 0 1) : zM l G y_Model_isDigitHere prog_14_method_13_code 1 (Option.some Jvm.ClassFile.FieldType.boolean) m_s1_Model_isDigitHere [.ref b0] [(b0, .inr (12, [.int b1, .ref b2, .ref b3, .ref b4, .ref b5, .int b6, .ref b7, .int b8, .int b9, .int b10, .int b11, .ref b12, .ref b13, .ref b14, .int b15, .ref b16, .ref b17, .ref b18, .ref b19, .ref b20, .ref b21, .ref b22, .ref b23, .ref b24, .ref b25, .ref b26, .ref b27, .int b28, .ref b29, .ref b30, .int b31, .int b32, .int b33, .int b34, .ref b35, .ref b36, .ref b37, .ref b38, .ref b39, .ref b40, .ref b41, .int b42, .ref b43, .ref b44, .int b45, .ref b46, .ref b47, .ref b48, .ref b49, .ref b50, .int b51, .ref b52, .ref b53, .ref b54])), (b7, .inl (G.2 3, 240, .inl b55))] (fun v w => (v = some (.int 0) ∧ w = [(b0, .inr (12, [.int b1, .ref b2, .ref b3, .ref b4, .ref b5, .int b6, .ref b7, .int b8, .int b9, .int b10, .int b11, .ref b12, .ref b13, .ref b14, .int b15, .ref b16, .ref b17, .ref b18, .ref b19, .ref b20, .ref b21, .ref b22, .ref b23, .ref b24, .ref b25, .ref b26, .ref b27, .int b28, .ref b29, .ref b30, .int b31, .int b32, .int b33, .int b34, .ref b35, .ref b36, .ref b37, .ref b38, .ref b39, .ref b40, .ref b41, .int b42, .ref b43, .ref b44, .int b45, .ref b46, .ref b47, .ref b48, .ref b49, .ref b50, .int b51, .ref b52, .ref b53, .ref b54])), (b7, .inl (G.2 3, 240, .inl b55))] ∧ b8.toInt ≤ b9.toInt) ∨ (v = some (.int 0) ∧ w = [(b0, .inr (12, [.int b1, .ref b2, .ref b3, .ref b4, .ref b5, .int b6, .ref b7, .int b8, .int b9, .int b10, .int b11, .ref b12, .ref b13, .ref b14, .int b15, .ref b16, .ref b17, .ref b18, .ref b19, .ref b20, .ref b21, .ref b22, .ref b23, .ref b24, .ref b25, .ref b26, .ref b27, .int b28, .ref b29, .ref b30, .int b31, .int b32, .int b33, .int b34, .ref b35, .ref b36, .ref b37, .ref b38, .ref b39, .ref b40, .ref b41, .int b42, .ref b43, .ref b44, .int b45, .ref b46, .ref b47, .ref b48, .ref b49, .ref b50, .int b51, .ref b52, .ref b53, .ref b54])), (b7, .inl (G.2 3, 240, .inl b55))] ∧ b9.toInt < b8.toInt) ∨ (v = some (.int 0) ∧ w = [(b0, .inr (12, [.int b1, .ref b2, .ref b3, .ref b4, .ref b5, .int b6, .ref b7, .int b8, .int b9, .int b10, .int b11, .ref b12, .ref b13, .ref b14, .int b15, .ref b16, .ref b17, .ref b18, .ref b19, .ref b20, .ref b21, .ref b22, .ref b23, .ref b24, .ref b25, .ref b26, .ref b27, .int b28, .ref b29, .ref b30, .int b31, .int b32, .int b33, .int b34, .ref b35, .ref b36, .ref b37, .ref b38, .ref b39, .ref b40, .ref b41, .int b42, .ref b43, .ref b44, .int b45, .ref b46, .ref b47, .ref b48, .ref b49, .ref b50, .int b51, .ref b52, .ref b53, .ref b54])), (b7, .inl (G.2 3, 240, .inl b55))] ∧ b9.toInt < b8.toInt) ∨ (v = some (.int 1) ∧ w = [(b0, .inr (12, [.int b1, .ref b2, .ref b3, .ref b4, .ref b5, .int b6, .ref b7, .int b8, .int b9, .int b10, .int b11, .ref b12, .ref b13, .ref b14, .int b15, .ref b16, .ref b17, .ref b18, .ref b19, .ref b20, .ref b21, .ref b22, .ref b23, .ref b24, .ref b25, .ref b26, .ref b27, .int b28, .ref b29, .ref b30, .int b31, .int b32, .int b33, .int b34, .ref b35, .ref b36, .ref b37, .ref b38, .ref b39, .ref b40, .ref b41, .int b42, .ref b43, .ref b44, .int b45, .ref b46, .ref b47, .ref b48, .ref b49, .ref b50, .int b51, .ref b52, .ref b53, .ref b54])), (b7, .inl (G.2 3, 240, .inl b55))] ∧ b9.toInt < b8.toInt)) := by
  refine z_start (by decide +kernel) (Nat.le_of_ble_eq_true rfl) ?_
  intro p e s m below meth c A Z hr hnm hA hP hD hS ls hl
  have Z : zC p s m _ meth c prog_14_method_13_code 1 "TraceMachinesModel" G := Z
  obtain ⟨hx, hb, hml, hown, hts, hK, hN, hlocks⟩ := id Z
  have hl : lv_has ls 1 [(0, .ref b0)] := hl
  refine lv_aload_n hx hb d_Model_isDigitHere_0 rfl (lv_at hl 0 rfl) ?_
  refine va_get (D := G.1) (ci := 12) (v := .int b9) (C := R_Model) (T := F_Model) (N := 54) hx hb hts i_Model hown hK hP 0 rfl rfl 8 (by decide) (hts _ q1117) (fun _ h9 => h9) rfl d_Model_isDigitHere_1 ?_
  refine lv_aload_n hx hb d_Model_isDigitHere_4 rfl (lv_at hl 0 rfl) ?_
  refine va_get (D := G.1) (ci := 12) (v := .int b8) (C := R_Model) (T := F_Model) (N := 54) hx hb hts i_Model hown hK hP 0 rfl rfl 7 (by decide) (hts _ q1116) (fun _ h9 => h9) rfl d_Model_isDigitHere_5 ?_
  refine lv_icmp_ge (tgt := 37) hx hb d_Model_isDigitHere_8 (by decide) (fun hc_1 => ?_) (fun hc_1 => ?_)
  · have _nhc_1 := hc_1
    have ni_2 := (fa_le _ _).mp hc_1
    refine lv_iconst (v := 0) hx hb d_Model_isDigitHere_37 (by decide) ?_
    exact z_zret hx hb hr hlocks rfl hP hD hS (Nat.le_of_ble_eq_true rfl) (Nat.le_of_ble_eq_true rfl) d_Model_isDigitHere_38 (Or.inl ⟨rfl, rfl, by omega⟩)
  · have _nhc_1 := hc_1
    have ni_3 := (fa_lt _ _).mp (zi_nle hc_1)
    have hv_4 : zI b9 0 239 := zI.lt_l hb9 hb8 (zi_nle hc_1) (by decide)
    have hv_5 : zI b8 1 240 := zI.lt_r hb9 hb8 (zi_nle hc_1) (by decide)
    refine lv_aload_n hx hb d_Model_isDigitHere_11 rfl (lv_at hl 0 rfl) ?_
    refine va_get (D := G.1) (ci := 12) (v := .ref b7) (C := R_Model) (T := F_Model) (N := 54) hx hb hts i_Model hown hK hP 0 rfl rfl 6 (by decide) (hts _ q1115) (fun _ h9 => h9) rfl d_Model_isDigitHere_12 ?_
    refine lv_aload_n hx hb d_Model_isDigitHere_15 rfl (lv_at hl 0 rfl) ?_
    refine va_get (D := G.1) (ci := 12) (v := .int b9) (C := R_Model) (T := F_Model) (N := 54) hx hb hts i_Model hown hK hP 0 rfl rfl 8 (by decide) (hts _ q1117) (fun _ h9 => h9) rfl d_Model_isDigitHere_16 ?_
    refine va_bald hx hb hK hP 1 3 rfl rfl (zI.inn hv_4 (by decide)) d_Model_isDigitHere_19 ?_
    refine lv_topi (fun v_6 ev_6 => ?_)
    refine lv_i2l (v := v_6.toInt64) hx hb d_Model_isDigitHere_20 rfl ?_
    refine lv_ldc2 hx hb hown (hts _ q1310) d_Model_isDigitHere_21 ?_
    refine lv_ldc2 hx hb hown (hts _ q1311) d_Model_isDigitHere_24 ?_
    refine z_callS (index := 138) (As := [.long v_6.toInt64, .long 48, .long 57]) (rest := []) (wr := [(b0, .inr (12, [.int b1, .ref b2, .ref b3, .ref b4, .ref b5, .int b6, .ref b7, .int b8, .int b9, .int b10, .int b11, .ref b12, .ref b13, .ref b14, .int b15, .ref b16, .ref b17, .ref b18, .ref b19, .ref b20, .ref b21, .ref b22, .ref b23, .ref b24, .ref b25, .ref b26, .ref b27, .int b28, .ref b29, .ref b30, .int b31, .int b32, .int b33, .int b34, .ref b35, .ref b36, .ref b37, .ref b38, .ref b39, .ref b40, .ref b41, .int b42, .ref b43, .ref b44, .int b45, .ref b46, .ref b47, .ref b48, .ref b49, .ref b50, .int b51, .ref b52, .ref b53, .ref b54])), (b7, .inl (G.2 3, 240, .inl b55))]) Z (s2_Model_in l G (v_6.toInt64) (48) (57)) hl.1 q1281 q1282 q14 q1283 ⟨by decide, by decide, by show _ = some 3; decide +kernel⟩ ⟨Nat.le_of_ble_eq_true rfl, Nat.le_of_ble_eq_true rfl⟩ ⟨Nat.le_of_ble_eq_true rfl, Nat.le_of_ble_eq_true rfl⟩ rfl (Nat.le_of_ble_eq_true rfl) d_Model_isDigitHere_27 hP hD hS hA [] [0, 1] rfl rfl rfl rfl (by decide) (fun v w1 H locs hw_7 hP hD hS => ?_)
    rcases hw_7 with ⟨rfl, rfl, hq_8⟩ | ⟨rfl, rfl, hq_9, hq_10⟩ | ⟨rfl, rfl, hq_11, hq_12⟩
    · have hP : va_P G.1 classes [(b0, .inr (12, [.int b1, .ref b2, .ref b3, .ref b4, .ref b5, .int b6, .ref b7, .int b8, .int b9, .int b10, .int b11, .ref b12, .ref b13, .ref b14, .int b15, .ref b16, .ref b17, .ref b18, .ref b19, .ref b20, .ref b21, .ref b22, .ref b23, .ref b24, .ref b25, .ref b26, .ref b27, .int b28, .ref b29, .ref b30, .int b31, .int b32, .int b33, .int b34, .ref b35, .ref b36, .ref b37, .ref b38, .ref b39, .ref b40, .ref b41, .int b42, .ref b43, .ref b44, .int b45, .ref b46, .ref b47, .ref b48, .ref b49, .ref b50, .int b51, .ref b52, .ref b53, .ref b54])), (b7, .inl (G.2 3, 240, .inl b55))] H := hP
      have hD := z_tie hP hD rfl
      try simp only [Int32.toInt_toInt64, ll_48] at hq_8
      have hv_13 : zI v_6 (-2147483648) 47 := by have _a := hq_8; have _b := (zI_all v_6); have _c := zcl_48; simp only [Int32.toInt_toInt64] at *; exact ⟨by omega, by omega⟩
      refine W.widen (k := 0) (n := 0) (Nat.le_of_ble_eq_true rfl) (Nat.le_of_ble_eq_true rfl) ?_
      refine lv_if_eq (tgt := 37) hx hb d_Model_isDigitHere_30 (by decide) (fun _ => ?_) (fun hc => absurd hc (by decide +kernel))
      refine lv_iconst (v := 0) hx hb d_Model_isDigitHere_37 (by decide) ?_
      exact z_zret hx hb hr hlocks rfl hP hD hS (Nat.le_of_ble_eq_true rfl) (Nat.le_of_ble_eq_true rfl) d_Model_isDigitHere_38 (Or.inr (Or.inl ⟨rfl, rfl, by omega⟩))
    · have hP : va_P G.1 classes [(b0, .inr (12, [.int b1, .ref b2, .ref b3, .ref b4, .ref b5, .int b6, .ref b7, .int b8, .int b9, .int b10, .int b11, .ref b12, .ref b13, .ref b14, .int b15, .ref b16, .ref b17, .ref b18, .ref b19, .ref b20, .ref b21, .ref b22, .ref b23, .ref b24, .ref b25, .ref b26, .ref b27, .int b28, .ref b29, .ref b30, .int b31, .int b32, .int b33, .int b34, .ref b35, .ref b36, .ref b37, .ref b38, .ref b39, .ref b40, .ref b41, .int b42, .ref b43, .ref b44, .int b45, .ref b46, .ref b47, .ref b48, .ref b49, .ref b50, .int b51, .ref b52, .ref b53, .ref b54])), (b7, .inl (G.2 3, 240, .inl b55))] H := hP
      have hD := z_tie hP hD rfl
      try simp only [Int32.toInt_toInt64, ll_48] at hq_9
      have hv_14 : zI v_6 48 2147483647 := by have _a := hq_9; have _b := (zI_all v_6); have _c := zcl_48; simp only [Int32.toInt_toInt64] at *; exact ⟨by omega, by omega⟩
      try simp only [Int32.toInt_toInt64, ll_57] at hq_10
      have hv_15 : zI v_6 58 2147483647 := by have _a := hq_10; have _b := hv_14; have _c := zcl_57; simp only [Int32.toInt_toInt64] at *; exact ⟨by omega, by omega⟩
      refine W.widen (k := 0) (n := 0) (Nat.le_of_ble_eq_true rfl) (Nat.le_of_ble_eq_true rfl) ?_
      refine lv_if_eq (tgt := 37) hx hb d_Model_isDigitHere_30 (by decide) (fun _ => ?_) (fun hc => absurd hc (by decide +kernel))
      refine lv_iconst (v := 0) hx hb d_Model_isDigitHere_37 (by decide) ?_
      exact z_zret hx hb hr hlocks rfl hP hD hS (Nat.le_of_ble_eq_true rfl) (Nat.le_of_ble_eq_true rfl) d_Model_isDigitHere_38 (Or.inr (Or.inr (Or.inl ⟨rfl, rfl, by omega⟩)))
    · have hP : va_P G.1 classes [(b0, .inr (12, [.int b1, .ref b2, .ref b3, .ref b4, .ref b5, .int b6, .ref b7, .int b8, .int b9, .int b10, .int b11, .ref b12, .ref b13, .ref b14, .int b15, .ref b16, .ref b17, .ref b18, .ref b19, .ref b20, .ref b21, .ref b22, .ref b23, .ref b24, .ref b25, .ref b26, .ref b27, .int b28, .ref b29, .ref b30, .int b31, .int b32, .int b33, .int b34, .ref b35, .ref b36, .ref b37, .ref b38, .ref b39, .ref b40, .ref b41, .int b42, .ref b43, .ref b44, .int b45, .ref b46, .ref b47, .ref b48, .ref b49, .ref b50, .int b51, .ref b52, .ref b53, .ref b54])), (b7, .inl (G.2 3, 240, .inl b55))] H := hP
      have hD := z_tie hP hD rfl
      try simp only [Int32.toInt_toInt64, ll_48] at hq_11
      have hv_16 : zI v_6 48 2147483647 := by have _a := hq_11; have _b := (zI_all v_6); have _c := zcl_48; simp only [Int32.toInt_toInt64] at *; exact ⟨by omega, by omega⟩
      try simp only [Int32.toInt_toInt64, ll_57] at hq_12
      have hv_17 : zI v_6 48 57 := by have _a := hq_12; have _b := hv_16; have _c := zcl_57; simp only [Int32.toInt_toInt64] at *; exact ⟨by omega, by omega⟩
      refine W.widen (k := 0) (n := 0) (Nat.le_of_ble_eq_true rfl) (Nat.le_of_ble_eq_true rfl) ?_
      refine lv_if_eq (tgt := 37) hx hb d_Model_isDigitHere_30 (by decide) (fun hc => absurd hc (by decide +kernel)) (fun _ => ?_)
      refine lv_iconst (v := 1) hx hb d_Model_isDigitHere_33 (by decide) ?_
      refine lv_goto (tgt := 38) hx hb d_Model_isDigitHere_34 (by decide) ?_
      exact z_zret hx hb hr hlocks rfl hP hD hS (Nat.le_of_ble_eq_true rfl) (Nat.le_of_ble_eq_true rfl) d_Model_isDigitHere_38 (Or.inr (Or.inr (Or.inr (⟨rfl, rfl, by omega⟩))))
theorem d_Model_endsReading_0 : decode prog_14_method_17_code 0 = .ok (.aload_n 0, 1) := by decide +kernel
theorem d_Model_endsReading_1 : decode prog_14_method_17_code 1 = .ok (.getfield 145, 3) := by decide +kernel
theorem d_Model_endsReading_4 : decode prog_14_method_17_code 4 = .ok (.ifCond .eq 25, 3) := by decide +kernel
theorem d_Model_endsReading_7 : decode prog_14_method_17_code 7 = .ok (.aload_n 0, 1) := by decide +kernel
theorem d_Model_endsReading_8 : decode prog_14_method_17_code 8 = .ok (.invokevirtual 162, 3) := by decide +kernel
theorem d_Model_endsReading_11 : decode prog_14_method_17_code 11 = .ok (.ifCond .ne 14, 3) := by decide +kernel
theorem d_Model_endsReading_14 : decode prog_14_method_17_code 14 = .ok (.aload_n 0, 1) := by decide +kernel
theorem d_Model_endsReading_15 : decode prog_14_method_17_code 15 = .ok (.getfield 149, 3) := by decide +kernel
theorem d_Model_endsReading_18 : decode prog_14_method_17_code 18 = .ok (.aload_n 0, 1) := by decide +kernel
theorem d_Model_endsReading_19 : decode prog_14_method_17_code 19 = .ok (.getfield 142, 3) := by decide +kernel
theorem d_Model_endsReading_22 : decode prog_14_method_17_code 22 = .ok (.if_icmp .ge 7, 3) := by decide +kernel
theorem d_Model_endsReading_25 : decode prog_14_method_17_code 25 = .ok (.aload_n 0, 1) := by decide +kernel
theorem d_Model_endsReading_26 : decode prog_14_method_17_code 26 = .ok (.invokevirtual 169, 3) := by decide +kernel
theorem d_Model_endsReading_29 : decode prog_14_method_17_code 29 = .ok (.aload_n 0, 1) := by decide +kernel
theorem d_Model_endsReading_30 : decode prog_14_method_17_code 30 = .ok (.iconst 0, 1) := by decide +kernel
theorem d_Model_endsReading_31 : decode prog_14_method_17_code 31 = .ok (.putfield 142, 3) := by decide +kernel
theorem d_Model_endsReading_34 : decode prog_14_method_17_code 34 = .ok (.return_, 1) := by decide +kernel
abbrev m_s1_Model_endsReading : Room := { frames := 1, cells := 0, slots := 0, locals := 20 }
set_option maxHeartbeats 4000000 in
set_option maxRecDepth 100000 in
theorem s1_Model_endsReading (l : Launch) (G : zG) (b0 : Nat) (b1 : Int32) (b2 : Nat) (b3 : Nat) (b4 : Nat) (b5 : Nat) (b6 : Int32) (b7 : Nat) (b8 : Int32) (b9 : Int32) (b10 : Int32) (b11 : Int32) (b12 : Nat) (b13 : Nat) (b14 : Nat) (b15 : Int32) (b16 : Nat) (b17 : Nat) (b18 : Nat) (b19 : Nat) (b20 : Nat) (b21 : Nat) (b22 : Nat) (b23 : Nat) (b24 : Nat) (b25 : Nat) (b26 : Nat) (b27 : Nat) (b28 : Int32) (b29 : Nat) (b30 : Nat) (b31 : Int32) (b32 : Int32) (b33 : Int32) (b34 : Int32) (b35 : Nat) (b36 : Nat) (b37 : Nat) (b38 : Nat) (b39 : Nat) (b40 : Nat) (b41 : Nat) (b42 : Int32) (b43 : Nat) (b44 : Nat) (b45 : Int32) (b46 : Nat) (b47 : Nat) (b48 : Nat) (b49 : Nat) (b50 : Nat) (b51 : Int32) (b52 : Nat) (b53 : Nat) (b54 : Nat) (b55 : Nat → Int32) (hb6 : zI b6 0 8) (hb8 : zI b8 0 240) (hb9 : zI b9 0 240) (hb11 : zI b11 0 1) (hb15 : zI b15 0 12) (hb28 : zI b28 0 1) (hb31 : zI b31 0 1) : zM l G y_Model_endsReading prog_14_method_17_code 1 (Option.none : Option Jvm.ClassFile.FieldType) m_s1_Model_endsReading [.ref b0] [(b0, .inr (12, [.int b1, .ref b2, .ref b3, .ref b4, .ref b5, .int b6, .ref b7, .int b8, .int b9, .int b10, .int b11, .ref b12, .ref b13, .ref b14, .int b15, .ref b16, .ref b17, .ref b18, .ref b19, .ref b20, .ref b21, .ref b22, .ref b23, .ref b24, .ref b25, .ref b26, .ref b27, .int b28, .ref b29, .ref b30, .int b31, .int b32, .int b33, .int b34, .ref b35, .ref b36, .ref b37, .ref b38, .ref b39, .ref b40, .ref b41, .int b42, .ref b43, .ref b44, .int b45, .ref b46, .ref b47, .ref b48, .ref b49, .ref b50, .int b51, .ref b52, .ref b53, .ref b54])), (b7, .inl (G.2 3, 240, .inl b55))] (fun v w => ∃ (e0 : Int32), ∃ (e1 : Int32), ∃ (e2 : Int32), v = none ∧ w = [(b0, .inr (12, [.int b1, .ref b2, .ref b3, .ref b4, .ref b5, .int b6, .ref b7, .int 0, .int e0, .int e1, .int e2, .ref b12, .ref b13, .ref b14, .int b15, .ref b16, .ref b17, .ref b18, .ref b19, .ref b20, .ref b21, .ref b22, .ref b23, .ref b24, .ref b25, .ref b26, .ref b27, .int b28, .ref b29, .ref b30, .int b31, .int b32, .int b33, .int b34, .ref b35, .ref b36, .ref b37, .ref b38, .ref b39, .ref b40, .ref b41, .int b42, .ref b43, .ref b44, .int b45, .ref b46, .ref b47, .ref b48, .ref b49, .ref b50, .int b51, .ref b52, .ref b53, .ref b54])), (b7, .inl (G.2 3, 240, .inl b55))] ∧ (zI e0 0 240) ∧ (zI e2 0 1)) := by
  refine z_start (by decide +kernel) (Nat.le_of_ble_eq_true rfl) ?_
  intro p e s m below meth c A Z hr hnm hA hP hD hS ls hl
  have Z : zC p s m _ meth c prog_14_method_17_code 1 "TraceMachinesModel" G := Z
  obtain ⟨hx, hb, hml, hown, hts, hK, hN, hlocks⟩ := id Z
  have hl : lv_has ls 1 [(0, .ref b0)] := hl
  refine lv_aload_n hx hb d_Model_endsReading_0 rfl (lv_at hl 0 rfl) ?_
  refine va_get (D := G.1) (ci := 12) (v := .int b11) (C := R_Model) (T := F_Model) (N := 54) hx hb hts i_Model hown hK hP 0 rfl rfl 10 (by decide) (hts _ q1119) (fun _ h9 => h9) rfl d_Model_endsReading_1 ?_
  refine lv_if_eq (tgt := 29) hx hb d_Model_endsReading_4 (by decide) (fun hc_1 => ?_) (fun hc_1 => ?_)
  · have _nhc_1 := hc_1
    have ni_2 := (fa_eq _ _).mp hc_1
    rw [li_0] at ni_2
    have hv_3 : zI b11 0 0 := zI.eq_l hb11 zc_0 hc_1
    refine lv_aload_n hx hb d_Model_endsReading_29 rfl (lv_at hl 0 rfl) ?_
    refine lv_iconst (v := 0) hx hb d_Model_endsReading_30 (by decide) ?_
    refine va_put (D := G.1) (ci := 12) (v := .int 0) (ty := .int) (C := R_Model) (T := F_Model) (N := 54) hx hb hts i_Model t_Model t_Model_ok n_Model hown hK hP hD hS 0 rfl rfl 7 (by decide) (hts _ q1116) (fun _ h9 => h9) rfl (by decide +kernel) rfl rfl (Nat.le_of_ble_eq_true rfl) d_Model_endsReading_31 (fun H locs hP hD hS => ?_)
    have hP : va_P G.1 classes [(b0, .inr (12, [.int b1, .ref b2, .ref b3, .ref b4, .ref b5, .int b6, .ref b7, .int 0, .int b9, .int b10, .int b11, .ref b12, .ref b13, .ref b14, .int b15, .ref b16, .ref b17, .ref b18, .ref b19, .ref b20, .ref b21, .ref b22, .ref b23, .ref b24, .ref b25, .ref b26, .ref b27, .int b28, .ref b29, .ref b30, .int b31, .int b32, .int b33, .int b34, .ref b35, .ref b36, .ref b37, .ref b38, .ref b39, .ref b40, .ref b41, .int b42, .ref b43, .ref b44, .int b45, .ref b46, .ref b47, .ref b48, .ref b49, .ref b50, .int b51, .ref b52, .ref b53, .ref b54])), (b7, .inl (G.2 3, 240, .inl b55))] H := hP
    have hD := z_tie hP hD rfl
    exact z_vret hx hb hr hlocks hP hD hS (Nat.le_of_ble_eq_true rfl) (Nat.le_of_ble_eq_true rfl) d_Model_endsReading_34 ⟨b9, b10, b11, rfl, rfl, hb9, (zI.wk (l' := 0) (h' := 1) hv_3 (by decide))⟩
  · have _nhc_1 := hc_1
    have ni_4 : ¬ (b11 : Int32).toInt = (0 : Int32).toInt := fun z => hc_1 ((fa_eq _ _).mpr z)
    simp only [li_0] at ni_4
    have hv_5 : zI b11 1 1 := zI.ne_lo hb11 zc_0 hc_1 (by decide)
    refine lv_aload_n hx hb d_Model_endsReading_7 rfl (lv_at hl 0 rfl) ?_
    refine z_callV (index := 162) (As := []) (rest := []) (wr := []) Z (s1_Model_next l G (b0) (b1) (b2) (b3) (b4) (b5) (b6) (b7) (b8) (b9) (b10) (b11) (b12) (b13) (b14) (b15) (b16) (b17) (b18) (b19) (b20) (b21) (b22) (b23) (b24) (b25) (b26) (b27) (b28) (b29) (b30) (b31) (b32) (b33) (b34) (b35) (b36) (b37) (b38) (b39) (b40) (b41) (b42) (b43) (b44) (b45) (b46) (b47) (b48) (b49) (b50) (b51) (b52) (b53) (b54) (b55) hb6 hb8 hb9 (zI.wk (l' := 0) (h' := 1) hv_5 (by decide)) hb15 hb28 hb31) hl.1 q1292 q1294 qs45 q14 q1295 ⟨by decide, by decide, by show _ = some 0; decide +kernel⟩ ⟨Nat.le_of_ble_eq_true rfl, Nat.le_of_ble_eq_true rfl⟩ ⟨Nat.le_of_ble_eq_true rfl, Nat.le_of_ble_eq_true rfl⟩ rfl (Nat.le_of_ble_eq_true rfl) d_Model_endsReading_8 hP hD hS hA 0 12 rfl rfl rfl [0, 1] [] rfl rfl rfl rfl (by decide) (fun v w1 H locs hw_6 hP hD hS => ?_)
    obtain ⟨x_7, x_8, rfl, rfl, hx_8, hfx_9⟩ := hw_6
    have hP : va_P G.1 classes [(b0, .inr (12, [.int b1, .ref b2, .ref b3, .ref b4, .ref b5, .int b6, .ref b7, .int b8, .int x_8, .int b10, .int b11, .ref b12, .ref b13, .ref b14, .int b15, .ref b16, .ref b17, .ref b18, .ref b19, .ref b20, .ref b21, .ref b22, .ref b23, .ref b24, .ref b25, .ref b26, .ref b27, .int b28, .ref b29, .ref b30, .int b31, .int b32, .int b33, .int b34, .ref b35, .ref b36, .ref b37, .ref b38, .ref b39, .ref b40, .ref b41, .int b42, .ref b43, .ref b44, .int b45, .ref b46, .ref b47, .ref b48, .ref b49, .ref b50, .int b51, .ref b52, .ref b53, .ref b54])), (b7, .inl (G.2 3, 240, .inl b55))] H := hP
    have hD := z_tie hP hD rfl
    refine W.widen (k := 0) (n := 0) (Nat.le_of_ble_eq_true rfl) (Nat.le_of_ble_eq_true rfl) ?_
    refine lv_if_ne (tgt := 25) hx hb d_Model_endsReading_11 (by decide) (fun hc_10 => ?_) (fun hc_10 => ?_)
    · have _nhc_10 := hc_10
      have ni_11 : ¬ (x_7 : Int32).toInt = (0 : Int32).toInt := fun z => hc_10 ((fa_eq _ _).mpr z)
      simp only [li_0] at ni_11
      refine lv_aload_n hx hb d_Model_endsReading_25 rfl (lv_at hl 0 rfl) ?_
      refine z_callV (index := 169) (As := []) (rest := []) (wr := [(b7, .inl (G.2 3, 240, .inl b55))]) Z (s1_Model_wrong l G (b0) (b1) (b2) (b3) (b4) (b5) (b6) (b7) (b8) (x_8) (b10) (b11) (b12) (b13) (b14) (b15) (b16) (b17) (b18) (b19) (b20) (b21) (b22) (b23) (b24) (b25) (b26) (b27) (b28) (b29) (b30) (b31) (b32) (b33) (b34) (b35) (b36) (b37) (b38) (b39) (b40) (b41) (b42) (b43) (b44) (b45) (b46) (b47) (b48) (b49) (b50) (b51) (b52) (b53) (b54) hb6 hb8 hx_8 (zI.wk (l' := 0) (h' := 1) hv_5 (by decide)) hb15 hb28 hb31) hl.1 q1296 q1298 qs46 q14 q1299 ⟨by decide, by decide, by show _ = some 0; decide +kernel⟩ ⟨Nat.le_of_ble_eq_true rfl, Nat.le_of_ble_eq_true rfl⟩ ⟨Nat.le_of_ble_eq_true rfl, Nat.le_of_ble_eq_true rfl⟩ rfl (Nat.le_of_ble_eq_true rfl) d_Model_endsReading_26 hP hD hS hA 0 12 rfl rfl rfl [0] [1] rfl rfl rfl rfl (by decide) (fun v w1 H locs hw_12 hP hD hS => ?_)
      obtain ⟨x_13, rfl, rfl⟩ := hw_12
      have hP : va_P G.1 classes [(b7, .inl (G.2 3, 240, .inl b55)), (b0, .inr (12, [.int b1, .ref b2, .ref b3, .ref b4, .ref b5, .int b6, .ref b7, .int b8, .int x_8, .int x_13, .int 0, .ref b12, .ref b13, .ref b14, .int b15, .ref b16, .ref b17, .ref b18, .ref b19, .ref b20, .ref b21, .ref b22, .ref b23, .ref b24, .ref b25, .ref b26, .ref b27, .int b28, .ref b29, .ref b30, .int b31, .int b32, .int b33, .int b34, .ref b35, .ref b36, .ref b37, .ref b38, .ref b39, .ref b40, .ref b41, .int b42, .ref b43, .ref b44, .int b45, .ref b46, .ref b47, .ref b48, .ref b49, .ref b50, .int b51, .ref b52, .ref b53, .ref b54]))] H := hP
      have hD := z_tie hP hD rfl
      refine W.widen (k := 0) (n := 0) (Nat.le_of_ble_eq_true rfl) (Nat.le_of_ble_eq_true rfl) ?_
      refine lv_aload_n hx hb d_Model_endsReading_29 rfl (lv_at hl 0 rfl) ?_
      refine lv_iconst (v := 0) hx hb d_Model_endsReading_30 (by decide) ?_
      refine va_put (D := G.1) (ci := 12) (v := .int 0) (ty := .int) (C := R_Model) (T := F_Model) (N := 54) hx hb hts i_Model t_Model t_Model_ok n_Model hown hK hP hD hS 1 rfl rfl 7 (by decide) (hts _ q1116) (fun _ h9 => h9) rfl (by decide +kernel) rfl rfl (Nat.le_of_ble_eq_true rfl) d_Model_endsReading_31 (fun H locs hP hD hS => ?_)
      have hP : va_P G.1 classes [(b7, .inl (G.2 3, 240, .inl b55)), (b0, .inr (12, [.int b1, .ref b2, .ref b3, .ref b4, .ref b5, .int b6, .ref b7, .int 0, .int x_8, .int x_13, .int 0, .ref b12, .ref b13, .ref b14, .int b15, .ref b16, .ref b17, .ref b18, .ref b19, .ref b20, .ref b21, .ref b22, .ref b23, .ref b24, .ref b25, .ref b26, .ref b27, .int b28, .ref b29, .ref b30, .int b31, .int b32, .int b33, .int b34, .ref b35, .ref b36, .ref b37, .ref b38, .ref b39, .ref b40, .ref b41, .int b42, .ref b43, .ref b44, .int b45, .ref b46, .ref b47, .ref b48, .ref b49, .ref b50, .int b51, .ref b52, .ref b53, .ref b54]))] H := hP
      have hD := z_tie hP hD rfl
      exact z_vret hx hb hr hlocks (hP.sub [1, 0] rfl) (hD.sub [1, 0] (by decide) rfl) hS (Nat.le_of_ble_eq_true rfl) (Nat.le_of_ble_eq_true rfl) d_Model_endsReading_34 ⟨x_8, x_13, 0, rfl, rfl, hx_8, (zI.wk (l' := 0) (h' := 1) zc_0 (by decide))⟩
    · have _nhc_10 := hc_10
      have ni_14 := (fa_eq _ _).mp hc_10
      rw [li_0] at ni_14
      have hv_15 : zI x_7 0 0 := zI.eq_l (zI_all x_7) zc_0 hc_10
      refine lv_aload_n hx hb d_Model_endsReading_14 rfl (lv_at hl 0 rfl) ?_
      refine va_get (D := G.1) (ci := 12) (v := .int x_8) (C := R_Model) (T := F_Model) (N := 54) hx hb hts i_Model hown hK hP 0 rfl rfl 8 (by decide) (hts _ q1117) (fun _ h9 => h9) rfl d_Model_endsReading_15 ?_
      refine lv_aload_n hx hb d_Model_endsReading_18 rfl (lv_at hl 0 rfl) ?_
      refine va_get (D := G.1) (ci := 12) (v := .int b8) (C := R_Model) (T := F_Model) (N := 54) hx hb hts i_Model hown hK hP 0 rfl rfl 7 (by decide) (hts _ q1116) (fun _ h9 => h9) rfl d_Model_endsReading_19 ?_
      refine lv_icmp_ge (tgt := 29) hx hb d_Model_endsReading_22 (by decide) (fun hc_16 => ?_) (fun hc_16 => ?_)
      · have _nhc_16 := hc_16
        have ni_17 := (fa_le _ _).mp hc_16
        refine lv_aload_n hx hb d_Model_endsReading_29 rfl (lv_at hl 0 rfl) ?_
        refine lv_iconst (v := 0) hx hb d_Model_endsReading_30 (by decide) ?_
        refine va_put (D := G.1) (ci := 12) (v := .int 0) (ty := .int) (C := R_Model) (T := F_Model) (N := 54) hx hb hts i_Model t_Model t_Model_ok n_Model hown hK hP hD hS 0 rfl rfl 7 (by decide) (hts _ q1116) (fun _ h9 => h9) rfl (by decide +kernel) rfl rfl (Nat.le_of_ble_eq_true rfl) d_Model_endsReading_31 (fun H locs hP hD hS => ?_)
        have hP : va_P G.1 classes [(b0, .inr (12, [.int b1, .ref b2, .ref b3, .ref b4, .ref b5, .int b6, .ref b7, .int 0, .int x_8, .int b10, .int b11, .ref b12, .ref b13, .ref b14, .int b15, .ref b16, .ref b17, .ref b18, .ref b19, .ref b20, .ref b21, .ref b22, .ref b23, .ref b24, .ref b25, .ref b26, .ref b27, .int b28, .ref b29, .ref b30, .int b31, .int b32, .int b33, .int b34, .ref b35, .ref b36, .ref b37, .ref b38, .ref b39, .ref b40, .ref b41, .int b42, .ref b43, .ref b44, .int b45, .ref b46, .ref b47, .ref b48, .ref b49, .ref b50, .int b51, .ref b52, .ref b53, .ref b54])), (b7, .inl (G.2 3, 240, .inl b55))] H := hP
        have hD := z_tie hP hD rfl
        exact z_vret hx hb hr hlocks hP hD hS (Nat.le_of_ble_eq_true rfl) (Nat.le_of_ble_eq_true rfl) d_Model_endsReading_34 ⟨x_8, b10, b11, rfl, rfl, hx_8, (zI.wk (l' := 0) (h' := 1) hv_5 (by decide))⟩
      · have _nhc_16 := hc_16
        have ni_18 := (fa_lt _ _).mp (zi_nle hc_16)
        have hv_19 : zI x_8 0 239 := zI.lt_l hx_8 hb8 (zi_nle hc_16) (by decide)
        have hv_20 : zI b8 1 240 := zI.lt_r hx_8 hb8 (zi_nle hc_16) (by decide)
        refine lv_aload_n hx hb d_Model_endsReading_25 rfl (lv_at hl 0 rfl) ?_
        refine z_callV (index := 169) (As := []) (rest := []) (wr := [(b7, .inl (G.2 3, 240, .inl b55))]) Z (s1_Model_wrong l G (b0) (b1) (b2) (b3) (b4) (b5) (b6) (b7) (b8) (x_8) (b10) (b11) (b12) (b13) (b14) (b15) (b16) (b17) (b18) (b19) (b20) (b21) (b22) (b23) (b24) (b25) (b26) (b27) (b28) (b29) (b30) (b31) (b32) (b33) (b34) (b35) (b36) (b37) (b38) (b39) (b40) (b41) (b42) (b43) (b44) (b45) (b46) (b47) (b48) (b49) (b50) (b51) (b52) (b53) (b54) hb6 (zI.wk (l' := 0) (h' := 240) hv_20 (by decide)) (zI.wk (l' := 0) (h' := 240) hv_19 (by decide)) (zI.wk (l' := 0) (h' := 1) hv_5 (by decide)) hb15 hb28 hb31) hl.1 q1296 q1298 qs46 q14 q1299 ⟨by decide, by decide, by show _ = some 0; decide +kernel⟩ ⟨Nat.le_of_ble_eq_true rfl, Nat.le_of_ble_eq_true rfl⟩ ⟨Nat.le_of_ble_eq_true rfl, Nat.le_of_ble_eq_true rfl⟩ rfl (Nat.le_of_ble_eq_true rfl) d_Model_endsReading_26 hP hD hS hA 0 12 rfl rfl rfl [0] [1] rfl rfl rfl rfl (by decide) (fun v w1 H locs hw_21 hP hD hS => ?_)
        obtain ⟨x_22, rfl, rfl⟩ := hw_21
        have hP : va_P G.1 classes [(b7, .inl (G.2 3, 240, .inl b55)), (b0, .inr (12, [.int b1, .ref b2, .ref b3, .ref b4, .ref b5, .int b6, .ref b7, .int b8, .int x_8, .int x_22, .int 0, .ref b12, .ref b13, .ref b14, .int b15, .ref b16, .ref b17, .ref b18, .ref b19, .ref b20, .ref b21, .ref b22, .ref b23, .ref b24, .ref b25, .ref b26, .ref b27, .int b28, .ref b29, .ref b30, .int b31, .int b32, .int b33, .int b34, .ref b35, .ref b36, .ref b37, .ref b38, .ref b39, .ref b40, .ref b41, .int b42, .ref b43, .ref b44, .int b45, .ref b46, .ref b47, .ref b48, .ref b49, .ref b50, .int b51, .ref b52, .ref b53, .ref b54]))] H := hP
        have hD := z_tie hP hD rfl
        refine W.widen (k := 0) (n := 0) (Nat.le_of_ble_eq_true rfl) (Nat.le_of_ble_eq_true rfl) ?_
        refine lv_aload_n hx hb d_Model_endsReading_29 rfl (lv_at hl 0 rfl) ?_
        refine lv_iconst (v := 0) hx hb d_Model_endsReading_30 (by decide) ?_
        refine va_put (D := G.1) (ci := 12) (v := .int 0) (ty := .int) (C := R_Model) (T := F_Model) (N := 54) hx hb hts i_Model t_Model t_Model_ok n_Model hown hK hP hD hS 1 rfl rfl 7 (by decide) (hts _ q1116) (fun _ h9 => h9) rfl (by decide +kernel) rfl rfl (Nat.le_of_ble_eq_true rfl) d_Model_endsReading_31 (fun H locs hP hD hS => ?_)
        have hP : va_P G.1 classes [(b7, .inl (G.2 3, 240, .inl b55)), (b0, .inr (12, [.int b1, .ref b2, .ref b3, .ref b4, .ref b5, .int b6, .ref b7, .int 0, .int x_8, .int x_22, .int 0, .ref b12, .ref b13, .ref b14, .int b15, .ref b16, .ref b17, .ref b18, .ref b19, .ref b20, .ref b21, .ref b22, .ref b23, .ref b24, .ref b25, .ref b26, .ref b27, .int b28, .ref b29, .ref b30, .int b31, .int b32, .int b33, .int b34, .ref b35, .ref b36, .ref b37, .ref b38, .ref b39, .ref b40, .ref b41, .int b42, .ref b43, .ref b44, .int b45, .ref b46, .ref b47, .ref b48, .ref b49, .ref b50, .int b51, .ref b52, .ref b53, .ref b54]))] H := hP
        have hD := z_tie hP hD rfl
        exact z_vret hx hb hr hlocks (hP.sub [1, 0] rfl) (hD.sub [1, 0] (by decide) rfl) hS (Nat.le_of_ble_eq_true rfl) (Nat.le_of_ble_eq_true rfl) d_Model_endsReading_34 ⟨x_8, x_22, 0, rfl, rfl, (zI.wk (l' := 0) (h' := 240) hv_19 (by decide)), (zI.wk (l' := 0) (h' := 1) zc_0 (by decide))⟩
theorem d_Model_depth_0 : decode prog_14_method_21_code 0 = .ok (.aload_n 0, 1) := by decide +kernel
theorem d_Model_depth_1 : decode prog_14_method_21_code 1 = .ok (.iconst 0, 1) := by decide +kernel
theorem d_Model_depth_2 : decode prog_14_method_21_code 2 = .ok (.putfield 1, 3) := by decide +kernel
theorem d_Model_depth_5 : decode prog_14_method_21_code 5 = .ok (.aload_n 0, 1) := by decide +kernel
theorem d_Model_depth_6 : decode prog_14_method_21_code 6 = .ok (.sipush 501, 3) := by decide +kernel
theorem d_Model_depth_9 : decode prog_14_method_21_code 9 = .ok (.iload_n 1, 1) := by decide +kernel
theorem d_Model_depth_10 : decode prog_14_method_21_code 10 = .ok (.iconst 3, 1) := by decide +kernel
theorem d_Model_depth_11 : decode prog_14_method_21_code 11 = .ok (.invokevirtual 195, 3) := by decide +kernel
theorem d_Model_change_0 : decode prog_14_method_20_code 0 = .ok (.iload_n 2, 1) := by decide +kernel
theorem d_Model_change_1 : decode prog_14_method_20_code 1 = .ok (.i2l, 1) := by decide +kernel
theorem d_Model_change_2 : decode prog_14_method_20_code 2 = .ok (.lconst 0, 1) := by decide +kernel
theorem d_Model_change_3 : decode prog_14_method_20_code 3 = .ok (.iload_n 3, 1) := by decide +kernel
theorem d_Model_change_4 : decode prog_14_method_20_code 4 = .ok (.i2l, 1) := by decide +kernel
theorem d_Model_change_5 : decode prog_14_method_20_code 5 = .ok (.invokestatic 138, 3) := by decide +kernel
theorem d_Model_change_8 : decode prog_14_method_20_code 8 = .ok (.ifCond .ne 5, 3) := by decide +kernel
theorem d_Model_change_11 : decode prog_14_method_20_code 11 = .ok (.iconst (-1), 1) := by decide +kernel
theorem d_Model_change_12 : decode prog_14_method_20_code 12 = .ok (.ireturn, 1) := by decide +kernel
theorem d_Model_change_13 : decode prog_14_method_20_code 13 = .ok (.aload_n 0, 1) := by decide +kernel
theorem d_Model_change_14 : decode prog_14_method_20_code 14 = .ok (.getfield 13, 3) := by decide +kernel
theorem d_Model_change_17 : decode prog_14_method_20_code 17 = .ok (.iload_n 1, 1) := by decide +kernel
theorem d_Model_change_18 : decode prog_14_method_20_code 18 = .ok (.iaload, 1) := by decide +kernel
theorem d_Model_change_19 : decode prog_14_method_20_code 19 = .ok (.istore 4, 2) := by decide +kernel
theorem d_Model_change_21 : decode prog_14_method_20_code 21 = .ok (.iload 4, 2) := by decide +kernel
theorem d_Model_change_23 : decode prog_14_method_20_code 23 = .ok (.iload_n 2, 1) := by decide +kernel
theorem d_Model_change_24 : decode prog_14_method_20_code 24 = .ok (.if_icmp .ne 6, 3) := by decide +kernel
theorem d_Model_change_27 : decode prog_14_method_20_code 27 = .ok (.bipush (-3), 2) := by decide +kernel
theorem d_Model_change_29 : decode prog_14_method_20_code 29 = .ok (.ireturn, 1) := by decide +kernel
theorem d_Model_change_30 : decode prog_14_method_20_code 30 = .ok (.aload_n 0, 1) := by decide +kernel
theorem d_Model_change_31 : decode prog_14_method_20_code 31 = .ok (.invokevirtual 188, 3) := by decide +kernel
theorem d_Model_change_34 : decode prog_14_method_20_code 34 = .ok (.aload_n 0, 1) := by decide +kernel
theorem d_Model_change_35 : decode prog_14_method_20_code 35 = .ok (.getfield 13, 3) := by decide +kernel
theorem d_Model_change_38 : decode prog_14_method_20_code 38 = .ok (.iload_n 1, 1) := by decide +kernel
theorem d_Model_change_39 : decode prog_14_method_20_code 39 = .ok (.iload_n 2, 1) := by decide +kernel
theorem d_Model_change_40 : decode prog_14_method_20_code 40 = .ok (.iastore, 1) := by decide +kernel
theorem d_Model_change_41 : decode prog_14_method_20_code 41 = .ok (.iload 4, 2) := by decide +kernel
theorem d_Model_change_43 : decode prog_14_method_20_code 43 = .ok (.ireturn, 1) := by decide +kernel
theorem ll_3 : (3 : Int64).toInt = 3 := by decide +kernel
theorem zcl_3 : zJ 3 3 3 := ⟨by decide +kernel, by decide +kernel⟩
theorem zc_501 : zI 501 501 501 := ⟨by decide +kernel, by decide +kernel⟩
abbrev m_s2_Model_change : Room := { frames := 1, cells := 0, slots := 0, locals := 25 }
set_option maxHeartbeats 4000000 in
set_option maxRecDepth 100000 in
theorem s2_Model_change (l : Launch) (G : zG) (b0 : Nat) (b1 : Int32) (b2 : Int32) (b3 : Nat) (b4 : Nat) (b5 : Nat) (b6 : Nat) (b7 : Int32) (b8 : Nat) (b9 : Int32) (b10 : Int32) (b11 : Int32) (b12 : Int32) (b13 : Nat) (b14 : Nat) (b15 : Nat) (b16 : Int32) (b17 : Nat) (b18 : Nat) (b19 : Nat) (b20 : Nat) (b21 : Nat) (b22 : Nat) (b23 : Nat) (b24 : Nat) (b25 : Nat) (b26 : Nat) (b27 : Nat) (b28 : Nat) (b29 : Int32) (b30 : Nat) (b31 : Nat) (b32 : Int32) (b33 : Int32) (b34 : Int32) (b35 : Int32) (b36 : Nat) (b37 : Nat) (b38 : Nat) (b39 : Nat) (b40 : Nat) (b41 : Nat) (b42 : Nat) (b43 : Int32) (b44 : Nat) (b45 : Nat) (b46 : Int32) (b47 : Nat) (b48 : Nat) (b49 : Nat) (b50 : Nat) (b51 : Nat) (b52 : Int32) (b53 : Nat) (b54 : Nat) (b55 : Nat) (b56 : Nat → Int32) (b57 : Nat → Int32) (hb7 : zI b7 0 8) (hb9 : zI b9 0 240) (hb10 : zI b10 0 240) (hb12 : zI b12 0 1) (hb16 : zI b16 0 12) (hb29 : zI b29 0 1) (hb32 : zI b32 0 1) (hb56 : zW5 b56) (hb57 : zW5 b57) : zM l G y_Model_change prog_14_method_20_code 5 (Option.some Jvm.ClassFile.FieldType.int) m_s2_Model_change [.ref b0, .int 501, .int b1, .int 3] [(b0, .inr (12, [.int b2, .ref b3, .ref b4, .ref b5, .ref b6, .int b7, .ref b8, .int b9, .int b10, .int b11, .int b12, .ref b13, .ref b14, .ref b15, .int b16, .ref b17, .ref b18, .ref b19, .ref b20, .ref b21, .ref b22, .ref b23, .ref b24, .ref b25, .ref b26, .ref b27, .ref b28, .int b29, .ref b30, .ref b31, .int b32, .int b33, .int b34, .int b35, .ref b36, .ref b37, .ref b38, .ref b39, .ref b40, .ref b41, .ref b42, .int b43, .ref b44, .ref b45, .int b46, .ref b47, .ref b48, .ref b49, .ref b50, .ref b51, .int b52, .ref b53, .ref b54, .ref b55])), (b3, .inl (G.2 0, 503, .inl b56)), (b6, .inl (G.2 0, 4024, .inl b57))] (fun v w => ∃ (e0 : Int32), ∃ (e1 : Int32), ∃ (e2 : Nat → Int32), ∃ (e3 : Nat → Int32), v = some (.int e0) ∧ w = [(b0, .inr (12, [.int b2, .ref b3, .ref b4, .ref b5, .ref b6, .int e1, .ref b8, .int b9, .int b10, .int b11, .int b12, .ref b13, .ref b14, .ref b15, .int b16, .ref b17, .ref b18, .ref b19, .ref b20, .ref b21, .ref b22, .ref b23, .ref b24, .ref b25, .ref b26, .ref b27, .ref b28, .int b29, .ref b30, .ref b31, .int b32, .int b33, .int b34, .int b35, .ref b36, .ref b37, .ref b38, .ref b39, .ref b40, .ref b41, .ref b42, .int b43, .ref b44, .ref b45, .int b46, .ref b47, .ref b48, .ref b49, .ref b50, .ref b51, .int b52, .ref b53, .ref b54, .ref b55])), (b3, .inl (G.2 0, 503, .inl e2)), (b6, .inl (G.2 0, 4024, .inl e3))] ∧ (zI e0 (-3) 3) ∧ (zI e1 0 8) ∧ (zW5 e2) ∧ (zW5 e3)) := by
  refine z_start (by decide +kernel) (Nat.le_of_ble_eq_true rfl) ?_
  intro p e s m below meth c A Z hr hnm hA hP hD hS ls hl
  have Z : zC p s m _ meth c prog_14_method_20_code 5 "TraceMachinesModel" G := Z
  obtain ⟨hx, hb, hml, hown, hts, hK, hN, hlocks⟩ := id Z
  have hl : lv_has ls 5 [(0, .ref b0), (1, .int 501), (2, .int b1), (3, .int 3)] := hl
  refine lv_iload_n hx hb d_Model_change_0 rfl (lv_at hl 2 rfl) ?_
  refine lv_i2l (v := b1.toInt64) hx hb d_Model_change_1 rfl ?_
  refine lv_lconst (v := 0) hx hb d_Model_change_2 (by decide) ?_
  refine lv_iload_n hx hb d_Model_change_3 rfl (lv_at hl 3 rfl) ?_
  refine lv_i2l (v := 3) hx hb d_Model_change_4 (by decide +kernel) ?_
  refine z_callS (index := 138) (As := [.long b1.toInt64, .long 0, .long 3]) (rest := []) (wr := [(b0, .inr (12, [.int b2, .ref b3, .ref b4, .ref b5, .ref b6, .int b7, .ref b8, .int b9, .int b10, .int b11, .int b12, .ref b13, .ref b14, .ref b15, .int b16, .ref b17, .ref b18, .ref b19, .ref b20, .ref b21, .ref b22, .ref b23, .ref b24, .ref b25, .ref b26, .ref b27, .ref b28, .int b29, .ref b30, .ref b31, .int b32, .int b33, .int b34, .int b35, .ref b36, .ref b37, .ref b38, .ref b39, .ref b40, .ref b41, .ref b42, .int b43, .ref b44, .ref b45, .int b46, .ref b47, .ref b48, .ref b49, .ref b50, .ref b51, .int b52, .ref b53, .ref b54, .ref b55])), (b3, .inl (G.2 0, 503, .inl b56)), (b6, .inl (G.2 0, 4024, .inl b57))]) Z (s2_Model_in l G (b1.toInt64) (0) (3)) hl.1 q1281 q1282 q14 q1283 ⟨by decide, by decide, by show _ = some 3; decide +kernel⟩ ⟨Nat.le_of_ble_eq_true rfl, Nat.le_of_ble_eq_true rfl⟩ ⟨Nat.le_of_ble_eq_true rfl, Nat.le_of_ble_eq_true rfl⟩ rfl (Nat.le_of_ble_eq_true rfl) d_Model_change_5 hP hD hS hA [] [0, 1, 2] rfl rfl rfl rfl (by decide) (fun v w1 H locs hw_1 hP hD hS => ?_)
  rcases hw_1 with ⟨rfl, rfl, hq_2⟩ | ⟨rfl, rfl, hq_3, hq_4⟩ | ⟨rfl, rfl, hq_5, hq_6⟩
  · have hP : va_P G.1 classes [(b0, .inr (12, [.int b2, .ref b3, .ref b4, .ref b5, .ref b6, .int b7, .ref b8, .int b9, .int b10, .int b11, .int b12, .ref b13, .ref b14, .ref b15, .int b16, .ref b17, .ref b18, .ref b19, .ref b20, .ref b21, .ref b22, .ref b23, .ref b24, .ref b25, .ref b26, .ref b27, .ref b28, .int b29, .ref b30, .ref b31, .int b32, .int b33, .int b34, .int b35, .ref b36, .ref b37, .ref b38, .ref b39, .ref b40, .ref b41, .ref b42, .int b43, .ref b44, .ref b45, .int b46, .ref b47, .ref b48, .ref b49, .ref b50, .ref b51, .int b52, .ref b53, .ref b54, .ref b55])), (b3, .inl (G.2 0, 503, .inl b56)), (b6, .inl (G.2 0, 4024, .inl b57))] H := hP
    have hD := z_tie hP hD rfl
    try simp only [Int32.toInt_toInt64, ll_0] at hq_2
    have hv_7 : zI b1 (-2147483648) (-1) := by have _a := hq_2; have _b := (zI_all b1); have _c := zcl_0; simp only [Int32.toInt_toInt64] at *; exact ⟨by omega, by omega⟩
    refine W.widen (k := 0) (n := 0) (Nat.le_of_ble_eq_true rfl) (Nat.le_of_ble_eq_true rfl) ?_
    refine lv_if_ne (tgt := 13) hx hb d_Model_change_8 (by decide) (fun hc => absurd hc (by decide +kernel)) (fun _ => ?_)
    refine lv_iconst (v := (-1)) hx hb d_Model_change_11 (by decide) ?_
    exact z_iret hx hb hr hlocks hP hD hS (Nat.le_of_ble_eq_true rfl) (Nat.le_of_ble_eq_true rfl) d_Model_change_12 ⟨(-1), b7, b56, b57, rfl, rfl, (zI.wk (l' := (-3)) (h' := 3) zc_m1 (by decide)), hb7, hb56, hb57⟩
  · have hP : va_P G.1 classes [(b0, .inr (12, [.int b2, .ref b3, .ref b4, .ref b5, .ref b6, .int b7, .ref b8, .int b9, .int b10, .int b11, .int b12, .ref b13, .ref b14, .ref b15, .int b16, .ref b17, .ref b18, .ref b19, .ref b20, .ref b21, .ref b22, .ref b23, .ref b24, .ref b25, .ref b26, .ref b27, .ref b28, .int b29, .ref b30, .ref b31, .int b32, .int b33, .int b34, .int b35, .ref b36, .ref b37, .ref b38, .ref b39, .ref b40, .ref b41, .ref b42, .int b43, .ref b44, .ref b45, .int b46, .ref b47, .ref b48, .ref b49, .ref b50, .ref b51, .int b52, .ref b53, .ref b54, .ref b55])), (b3, .inl (G.2 0, 503, .inl b56)), (b6, .inl (G.2 0, 4024, .inl b57))] H := hP
    have hD := z_tie hP hD rfl
    try simp only [Int32.toInt_toInt64, ll_0] at hq_3
    have hv_8 : zI b1 0 2147483647 := by have _a := hq_3; have _b := (zI_all b1); have _c := zcl_0; simp only [Int32.toInt_toInt64] at *; exact ⟨by omega, by omega⟩
    try simp only [Int32.toInt_toInt64, ll_3] at hq_4
    have hv_9 : zI b1 4 2147483647 := by have _a := hq_4; have _b := hv_8; have _c := zcl_3; simp only [Int32.toInt_toInt64] at *; exact ⟨by omega, by omega⟩
    refine W.widen (k := 0) (n := 0) (Nat.le_of_ble_eq_true rfl) (Nat.le_of_ble_eq_true rfl) ?_
    refine lv_if_ne (tgt := 13) hx hb d_Model_change_8 (by decide) (fun hc => absurd hc (by decide +kernel)) (fun _ => ?_)
    refine lv_iconst (v := (-1)) hx hb d_Model_change_11 (by decide) ?_
    exact z_iret hx hb hr hlocks hP hD hS (Nat.le_of_ble_eq_true rfl) (Nat.le_of_ble_eq_true rfl) d_Model_change_12 ⟨(-1), b7, b56, b57, rfl, rfl, (zI.wk (l' := (-3)) (h' := 3) zc_m1 (by decide)), hb7, hb56, hb57⟩
  · have hP : va_P G.1 classes [(b0, .inr (12, [.int b2, .ref b3, .ref b4, .ref b5, .ref b6, .int b7, .ref b8, .int b9, .int b10, .int b11, .int b12, .ref b13, .ref b14, .ref b15, .int b16, .ref b17, .ref b18, .ref b19, .ref b20, .ref b21, .ref b22, .ref b23, .ref b24, .ref b25, .ref b26, .ref b27, .ref b28, .int b29, .ref b30, .ref b31, .int b32, .int b33, .int b34, .int b35, .ref b36, .ref b37, .ref b38, .ref b39, .ref b40, .ref b41, .ref b42, .int b43, .ref b44, .ref b45, .int b46, .ref b47, .ref b48, .ref b49, .ref b50, .ref b51, .int b52, .ref b53, .ref b54, .ref b55])), (b3, .inl (G.2 0, 503, .inl b56)), (b6, .inl (G.2 0, 4024, .inl b57))] H := hP
    have hD := z_tie hP hD rfl
    try simp only [Int32.toInt_toInt64, ll_0] at hq_5
    have hv_10 : zI b1 0 2147483647 := by have _a := hq_5; have _b := (zI_all b1); have _c := zcl_0; simp only [Int32.toInt_toInt64] at *; exact ⟨by omega, by omega⟩
    try simp only [Int32.toInt_toInt64, ll_3] at hq_6
    have hv_11 : zI b1 0 3 := by have _a := hq_6; have _b := hv_10; have _c := zcl_3; simp only [Int32.toInt_toInt64] at *; exact ⟨by omega, by omega⟩
    refine W.widen (k := 0) (n := 0) (Nat.le_of_ble_eq_true rfl) (Nat.le_of_ble_eq_true rfl) ?_
    refine lv_if_ne (tgt := 13) hx hb d_Model_change_8 (by decide) (fun _ => ?_) (fun hc => absurd hc (by decide +kernel))
    refine lv_aload_n hx hb d_Model_change_13 rfl (lv_at hl 0 rfl) ?_
    refine va_get (D := G.1) (ci := 12) (v := .ref b3) (C := R_Model) (T := F_Model) (N := 54) hx hb hts i_Model hown hK hP 0 rfl rfl 1 (by decide) (hts _ q1110) (fun _ h9 => h9) rfl d_Model_change_14 ?_
    refine lv_iload_n hx hb d_Model_change_17 rfl (lv_at hl 1 rfl) ?_
    refine va_iald hx hb hK hP 1 0 rfl rfl (i := 501) (z_in rfl) d_Model_change_18 ?_
    refine lv_topi (fun v_12 ev_12 => ?_)
    have hv_12 : zI v_12 0 3 := zW5.ld hb56 zc_501 ev_12 (by decide)
    refine lv_istore (lv' := [(4, .int v_12), (0, .ref b0), (1, .int 501), (2, .int b1), (3, .int 3)]) hx hb d_Model_change_19 hl (by decide) rfl (fun ls hl => ?_)
    refine lv_iload hx hb d_Model_change_21 (lv_at hl 0 rfl) ?_
    refine lv_iload_n hx hb d_Model_change_23 rfl (lv_at hl 3 rfl) ?_
    refine lv_icmp_ne (tgt := 30) hx hb d_Model_change_24 (by decide) (fun hc_13 => ?_) (fun hc_13 => ?_)
    · have _nhc_13 := hc_13
      have ni_14 : ¬ (v_12 : Int32).toInt = (b1 : Int32).toInt := fun z => hc_13 ((fa_eq _ _).mpr z)
      refine lv_aload_n hx hb d_Model_change_30 rfl (lv_at hl 1 rfl) ?_
      refine z_callV (index := 188) (As := []) (rest := []) (wr := []) Z (s1_Model_remember l G (b0) (b2) (b3) (b4) (b5) (b6) (b7) (b8) (b9) (b10) (b11) (b12) (b13) (b14) (b15) (b16) (b17) (b18) (b19) (b20) (b21) (b22) (b23) (b24) (b25) (b26) (b27) (b28) (b29) (b30) (b31) (b32) (b33) (b34) (b35) (b36) (b37) (b38) (b39) (b40) (b41) (b42) (b43) (b44) (b45) (b46) (b47) (b48) (b49) (b50) (b51) (b52) (b53) (b54) (b55) (b56) (b57) hb7 hb9 hb10 hb12 hb16 hb29 hb32 hb56 hb57) hl.1 q1316 q1318 qs50 q14 q1319 ⟨by decide, by decide, by show _ = some 0; decide +kernel⟩ ⟨Nat.le_of_ble_eq_true rfl, Nat.le_of_ble_eq_true rfl⟩ ⟨Nat.le_of_ble_eq_true rfl, Nat.le_of_ble_eq_true rfl⟩ rfl (Nat.le_of_ble_eq_true rfl) d_Model_change_31 hP hD hS hA 0 12 rfl rfl rfl [0, 1, 2] [] rfl rfl rfl rfl (by decide) (fun v w1 H locs hw_15 hP hD hS => ?_)
      obtain ⟨x_16, f_17, rfl, rfl, hx_16, hf_17⟩ := hw_15
      have hP : va_P G.1 classes [(b0, .inr (12, [.int b2, .ref b3, .ref b4, .ref b5, .ref b6, .int x_16, .ref b8, .int b9, .int b10, .int b11, .int b12, .ref b13, .ref b14, .ref b15, .int b16, .ref b17, .ref b18, .ref b19, .ref b20, .ref b21, .ref b22, .ref b23, .ref b24, .ref b25, .ref b26, .ref b27, .ref b28, .int b29, .ref b30, .ref b31, .int b32, .int b33, .int b34, .int b35, .ref b36, .ref b37, .ref b38, .ref b39, .ref b40, .ref b41, .ref b42, .int b43, .ref b44, .ref b45, .int b46, .ref b47, .ref b48, .ref b49, .ref b50, .ref b51, .int b52, .ref b53, .ref b54, .ref b55])), (b3, .inl (G.2 0, 503, .inl b56)), (b6, .inl (G.2 0, 4024, .inl f_17))] H := hP
      have hD := z_tie hP hD rfl
      refine W.widen (k := 0) (n := 0) (Nat.le_of_ble_eq_true rfl) (Nat.le_of_ble_eq_true rfl) ?_
      refine lv_aload_n hx hb d_Model_change_34 rfl (lv_at hl 1 rfl) ?_
      refine va_get (D := G.1) (ci := 12) (v := .ref b3) (C := R_Model) (T := F_Model) (N := 54) hx hb hts i_Model hown hK hP 0 rfl rfl 1 (by decide) (hts _ q1110) (fun _ h9 => h9) rfl d_Model_change_35 ?_
      refine lv_iload_n hx hb d_Model_change_38 rfl (lv_at hl 2 rfl) ?_
      refine lv_iload_n hx hb d_Model_change_39 rfl (lv_at hl 3 rfl) ?_
      refine va_iast hx hb hK hP hD hS 1 0 rfl rfl (i := 501) (z_in rfl) d_Model_change_40 (fun H locs hP hD hS => ?_)
      obtain ⟨f_18, hf_18, gf_18, uf_18, hP, hD⟩ := z_newfw 1 hP hD rfl hb56 (zRk_v zc_501 hv_11 (by decide))
      have hP : va_P G.1 classes [(b0, .inr (12, [.int b2, .ref b3, .ref b4, .ref b5, .ref b6, .int x_16, .ref b8, .int b9, .int b10, .int b11, .int b12, .ref b13, .ref b14, .ref b15, .int b16, .ref b17, .ref b18, .ref b19, .ref b20, .ref b21, .ref b22, .ref b23, .ref b24, .ref b25, .ref b26, .ref b27, .ref b28, .int b29, .ref b30, .ref b31, .int b32, .int b33, .int b34, .int b35, .ref b36, .ref b37, .ref b38, .ref b39, .ref b40, .ref b41, .ref b42, .int b43, .ref b44, .ref b45, .int b46, .ref b47, .ref b48, .ref b49, .ref b50, .ref b51, .int b52, .ref b53, .ref b54, .ref b55])), (b3, .inl (G.2 0, 503, .inl f_18)), (b6, .inl (G.2 0, 4024, .inl f_17))] H := hP
      have hD := z_tie hP hD rfl
      refine lv_iload hx hb d_Model_change_41 (lv_at hl 0 rfl) ?_
      exact z_iret hx hb hr hlocks hP hD hS (Nat.le_of_ble_eq_true rfl) (Nat.le_of_ble_eq_true rfl) d_Model_change_43 ⟨v_12, x_16, f_18, f_17, rfl, rfl, (zI.wk (l' := (-3)) (h' := 3) hv_12 (by decide)), hx_16, hf_18, hf_17⟩
    · have _nhc_13 := hc_13
      have ni_19 := (fa_eq _ _).mp hc_13
      refine lv_bipush (v := (-3)) hx hb d_Model_change_27 (by decide) ?_
      exact z_iret hx hb hr hlocks hP hD hS (Nat.le_of_ble_eq_true rfl) (Nat.le_of_ble_eq_true rfl) d_Model_change_29 ⟨(-3), b7, b56, b57, rfl, rfl, (zI.wk (l' := (-3)) (h' := 3) zc_m3 (by decide)), hb7, hb56, hb57⟩
theorem d_Model_depth_14 : decode prog_14_method_21_code 14 = .ok (.ireturn, 1) := by decide +kernel
abbrev m_s1_Model_depth : Room := { frames := 2, cells := 0, slots := 0, locals := 49 }
set_option maxHeartbeats 4000000 in
set_option maxRecDepth 100000 in
theorem s1_Model_depth (l : Launch) (G : zG) (b0 : Nat) (b1 : Int32) (b2 : Int32) (b3 : Nat) (b4 : Nat) (b5 : Nat) (b6 : Nat) (b7 : Int32) (b8 : Nat) (b9 : Int32) (b10 : Int32) (b11 : Int32) (b12 : Int32) (b13 : Nat) (b14 : Nat) (b15 : Nat) (b16 : Int32) (b17 : Nat) (b18 : Nat) (b19 : Nat) (b20 : Nat) (b21 : Nat) (b22 : Nat) (b23 : Nat) (b24 : Nat) (b25 : Nat) (b26 : Nat) (b27 : Nat) (b28 : Nat) (b29 : Int32) (b30 : Nat) (b31 : Nat) (b32 : Int32) (b33 : Int32) (b34 : Int32) (b35 : Int32) (b36 : Nat) (b37 : Nat) (b38 : Nat) (b39 : Nat) (b40 : Nat) (b41 : Nat) (b42 : Nat) (b43 : Int32) (b44 : Nat) (b45 : Nat) (b46 : Int32) (b47 : Nat) (b48 : Nat) (b49 : Nat) (b50 : Nat) (b51 : Nat) (b52 : Int32) (b53 : Nat) (b54 : Nat) (b55 : Nat) (b56 : Nat → Int32) (b57 : Nat → Int32) (hb7 : zI b7 0 8) (hb9 : zI b9 0 240) (hb10 : zI b10 0 240) (hb12 : zI b12 0 1) (hb16 : zI b16 0 12) (hb29 : zI b29 0 1) (hb32 : zI b32 0 1) (hb56 : zW5 b56) (hb57 : zW5 b57) : zM l G y_Model_depth prog_14_method_21_code 2 (Option.some Jvm.ClassFile.FieldType.int) m_s1_Model_depth [.ref b0, .int b1] [(b0, .inr (12, [.int b2, .ref b3, .ref b4, .ref b5, .ref b6, .int b7, .ref b8, .int b9, .int b10, .int b11, .int b12, .ref b13, .ref b14, .ref b15, .int b16, .ref b17, .ref b18, .ref b19, .ref b20, .ref b21, .ref b22, .ref b23, .ref b24, .ref b25, .ref b26, .ref b27, .ref b28, .int b29, .ref b30, .ref b31, .int b32, .int b33, .int b34, .int b35, .ref b36, .ref b37, .ref b38, .ref b39, .ref b40, .ref b41, .ref b42, .int b43, .ref b44, .ref b45, .int b46, .ref b47, .ref b48, .ref b49, .ref b50, .ref b51, .int b52, .ref b53, .ref b54, .ref b55])), (b3, .inl (G.2 0, 503, .inl b56)), (b6, .inl (G.2 0, 4024, .inl b57))] (fun v w => ∃ (e0 : Int32), ∃ (e1 : Int32), ∃ (e2 : Nat → Int32), ∃ (e3 : Nat → Int32), v = some (.int e0) ∧ w = [(b0, .inr (12, [.int 0, .ref b3, .ref b4, .ref b5, .ref b6, .int e1, .ref b8, .int b9, .int b10, .int b11, .int b12, .ref b13, .ref b14, .ref b15, .int b16, .ref b17, .ref b18, .ref b19, .ref b20, .ref b21, .ref b22, .ref b23, .ref b24, .ref b25, .ref b26, .ref b27, .ref b28, .int b29, .ref b30, .ref b31, .int b32, .int b33, .int b34, .int b35, .ref b36, .ref b37, .ref b38, .ref b39, .ref b40, .ref b41, .ref b42, .int b43, .ref b44, .ref b45, .int b46, .ref b47, .ref b48, .ref b49, .ref b50, .ref b51, .int b52, .ref b53, .ref b54, .ref b55])), (b3, .inl (G.2 0, 503, .inl e2)), (b6, .inl (G.2 0, 4024, .inl e3))] ∧ (zI e0 (-3) 3) ∧ (zI e1 0 8) ∧ (zW5 e2) ∧ (zW5 e3)) := by
  refine z_start (by decide +kernel) (Nat.le_of_ble_eq_true rfl) ?_
  intro p e s m below meth c A Z hr hnm hA hP hD hS ls hl
  have Z : zC p s m _ meth c prog_14_method_21_code 2 "TraceMachinesModel" G := Z
  obtain ⟨hx, hb, hml, hown, hts, hK, hN, hlocks⟩ := id Z
  have hl : lv_has ls 2 [(0, .ref b0), (1, .int b1)] := hl
  refine lv_aload_n hx hb d_Model_depth_0 rfl (lv_at hl 0 rfl) ?_
  refine lv_iconst (v := 0) hx hb d_Model_depth_1 (by decide) ?_
  refine va_put (D := G.1) (ci := 12) (v := .int 0) (ty := .int) (C := R_Model) (T := F_Model) (N := 54) hx hb hts i_Model t_Model t_Model_ok n_Model hown hK hP hD hS 0 rfl rfl 0 (by decide) (hts _ q1109) (fun _ h9 => h9) rfl (by decide +kernel) rfl rfl (Nat.le_of_ble_eq_true rfl) d_Model_depth_2 (fun H locs hP hD hS => ?_)
  have hP : va_P G.1 classes [(b0, .inr (12, [.int 0, .ref b3, .ref b4, .ref b5, .ref b6, .int b7, .ref b8, .int b9, .int b10, .int b11, .int b12, .ref b13, .ref b14, .ref b15, .int b16, .ref b17, .ref b18, .ref b19, .ref b20, .ref b21, .ref b22, .ref b23, .ref b24, .ref b25, .ref b26, .ref b27, .ref b28, .int b29, .ref b30, .ref b31, .int b32, .int b33, .int b34, .int b35, .ref b36, .ref b37, .ref b38, .ref b39, .ref b40, .ref b41, .ref b42, .int b43, .ref b44, .ref b45, .int b46, .ref b47, .ref b48, .ref b49, .ref b50, .ref b51, .int b52, .ref b53, .ref b54, .ref b55])), (b3, .inl (G.2 0, 503, .inl b56)), (b6, .inl (G.2 0, 4024, .inl b57))] H := hP
  have hD := z_tie hP hD rfl
  refine lv_aload_n hx hb d_Model_depth_5 rfl (lv_at hl 0 rfl) ?_
  refine lv_sipush (v := 501) hx hb d_Model_depth_6 (by decide) ?_
  refine lv_iload_n hx hb d_Model_depth_9 rfl (lv_at hl 1 rfl) ?_
  refine lv_iconst (v := 3) hx hb d_Model_depth_10 (by decide) ?_
  refine z_callV (index := 195) (As := [.int 501, .int b1, .int 3]) (rest := []) (wr := []) Z (s2_Model_change l G (b0) (b1) (0) (b3) (b4) (b5) (b6) (b7) (b8) (b9) (b10) (b11) (b12) (b13) (b14) (b15) (b16) (b17) (b18) (b19) (b20) (b21) (b22) (b23) (b24) (b25) (b26) (b27) (b28) (b29) (b30) (b31) (b32) (b33) (b34) (b35) (b36) (b37) (b38) (b39) (b40) (b41) (b42) (b43) (b44) (b45) (b46) (b47) (b48) (b49) (b50) (b51) (b52) (b53) (b54) (b55) (b56) (b57) hb7 hb9 hb10 hb12 hb16 hb29 hb32 hb56 hb57) hl.1 q1336 q1338 qs53 q14 q1339 ⟨by decide, by decide, by show _ = some 3; decide +kernel⟩ ⟨Nat.le_of_ble_eq_true rfl, Nat.le_of_ble_eq_true rfl⟩ ⟨Nat.le_of_ble_eq_true rfl, Nat.le_of_ble_eq_true rfl⟩ rfl (Nat.le_of_ble_eq_true rfl) d_Model_depth_11 hP hD hS hA 0 12 rfl rfl rfl [0, 1, 2] [] rfl rfl rfl rfl (by decide) (fun v w1 H locs hw_1 hP hD hS => ?_)
  obtain ⟨x_2, x_3, f_4, f_5, rfl, rfl, hx_2, hx_3, hf_4, hf_5⟩ := hw_1
  have hP : va_P G.1 classes [(b0, .inr (12, [.int 0, .ref b3, .ref b4, .ref b5, .ref b6, .int x_3, .ref b8, .int b9, .int b10, .int b11, .int b12, .ref b13, .ref b14, .ref b15, .int b16, .ref b17, .ref b18, .ref b19, .ref b20, .ref b21, .ref b22, .ref b23, .ref b24, .ref b25, .ref b26, .ref b27, .ref b28, .int b29, .ref b30, .ref b31, .int b32, .int b33, .int b34, .int b35, .ref b36, .ref b37, .ref b38, .ref b39, .ref b40, .ref b41, .ref b42, .int b43, .ref b44, .ref b45, .int b46, .ref b47, .ref b48, .ref b49, .ref b50, .ref b51, .int b52, .ref b53, .ref b54, .ref b55])), (b3, .inl (G.2 0, 503, .inl f_4)), (b6, .inl (G.2 0, 4024, .inl f_5))] H := hP
  have hD := z_tie hP hD rfl
  refine W.widen (k := 0) (n := 0) (Nat.le_of_ble_eq_true rfl) (Nat.le_of_ble_eq_true rfl) ?_
  exact z_iret hx hb hr hlocks hP hD hS (Nat.le_of_ble_eq_true rfl) (Nat.le_of_ble_eq_true rfl) d_Model_depth_14 ⟨x_2, x_3, f_4, f_5, rfl, rfl, hx_2, hx_3, hf_4, hf_5⟩
theorem d_Model_margin_0 : decode prog_14_method_22_code 0 = .ok (.aload_n 0, 1) := by decide +kernel
theorem d_Model_margin_1 : decode prog_14_method_22_code 1 = .ok (.iconst 0, 1) := by decide +kernel
theorem d_Model_margin_2 : decode prog_14_method_22_code 2 = .ok (.putfield 1, 3) := by decide +kernel
theorem d_Model_margin_5 : decode prog_14_method_22_code 5 = .ok (.aload_n 0, 1) := by decide +kernel
theorem d_Model_margin_6 : decode prog_14_method_22_code 6 = .ok (.sipush 502, 3) := by decide +kernel
theorem d_Model_margin_9 : decode prog_14_method_22_code 9 = .ok (.iload_n 1, 1) := by decide +kernel
theorem d_Model_margin_10 : decode prog_14_method_22_code 10 = .ok (.bipush 20, 2) := by decide +kernel
theorem d_Model_margin_12 : decode prog_14_method_22_code 12 = .ok (.invokevirtual 195, 3) := by decide +kernel
theorem ll_20 : (20 : Int64).toInt = 20 := by decide +kernel
theorem zcl_20 : zJ 20 20 20 := ⟨by decide +kernel, by decide +kernel⟩
theorem zc_502 : zI 502 502 502 := ⟨by decide +kernel, by decide +kernel⟩
abbrev m_s4_Model_change : Room := { frames := 1, cells := 0, slots := 0, locals := 25 }
set_option maxHeartbeats 4000000 in
set_option maxRecDepth 100000 in
theorem s4_Model_change (l : Launch) (G : zG) (b0 : Nat) (b1 : Int32) (b2 : Int32) (b3 : Nat) (b4 : Nat) (b5 : Nat) (b6 : Nat) (b7 : Int32) (b8 : Nat) (b9 : Int32) (b10 : Int32) (b11 : Int32) (b12 : Int32) (b13 : Nat) (b14 : Nat) (b15 : Nat) (b16 : Int32) (b17 : Nat) (b18 : Nat) (b19 : Nat) (b20 : Nat) (b21 : Nat) (b22 : Nat) (b23 : Nat) (b24 : Nat) (b25 : Nat) (b26 : Nat) (b27 : Nat) (b28 : Nat) (b29 : Int32) (b30 : Nat) (b31 : Nat) (b32 : Int32) (b33 : Int32) (b34 : Int32) (b35 : Int32) (b36 : Nat) (b37 : Nat) (b38 : Nat) (b39 : Nat) (b40 : Nat) (b41 : Nat) (b42 : Nat) (b43 : Int32) (b44 : Nat) (b45 : Nat) (b46 : Int32) (b47 : Nat) (b48 : Nat) (b49 : Nat) (b50 : Nat) (b51 : Nat) (b52 : Int32) (b53 : Nat) (b54 : Nat) (b55 : Nat) (b56 : Nat → Int32) (b57 : Nat → Int32) (hb7 : zI b7 0 8) (hb9 : zI b9 0 240) (hb10 : zI b10 0 240) (hb12 : zI b12 0 1) (hb16 : zI b16 0 12) (hb29 : zI b29 0 1) (hb32 : zI b32 0 1) (hb56 : zW5 b56) (hb57 : zW5 b57) : zM l G y_Model_change prog_14_method_20_code 5 (Option.some Jvm.ClassFile.FieldType.int) m_s4_Model_change [.ref b0, .int 502, .int b1, .int 20] [(b0, .inr (12, [.int b2, .ref b3, .ref b4, .ref b5, .ref b6, .int b7, .ref b8, .int b9, .int b10, .int b11, .int b12, .ref b13, .ref b14, .ref b15, .int b16, .ref b17, .ref b18, .ref b19, .ref b20, .ref b21, .ref b22, .ref b23, .ref b24, .ref b25, .ref b26, .ref b27, .ref b28, .int b29, .ref b30, .ref b31, .int b32, .int b33, .int b34, .int b35, .ref b36, .ref b37, .ref b38, .ref b39, .ref b40, .ref b41, .ref b42, .int b43, .ref b44, .ref b45, .int b46, .ref b47, .ref b48, .ref b49, .ref b50, .ref b51, .int b52, .ref b53, .ref b54, .ref b55])), (b3, .inl (G.2 0, 503, .inl b56)), (b6, .inl (G.2 0, 4024, .inl b57))] (fun v w => ∃ (e0 : Int32), ∃ (e1 : Int32), ∃ (e2 : Nat → Int32), ∃ (e3 : Nat → Int32), v = some (.int e0) ∧ w = [(b0, .inr (12, [.int b2, .ref b3, .ref b4, .ref b5, .ref b6, .int e1, .ref b8, .int b9, .int b10, .int b11, .int b12, .ref b13, .ref b14, .ref b15, .int b16, .ref b17, .ref b18, .ref b19, .ref b20, .ref b21, .ref b22, .ref b23, .ref b24, .ref b25, .ref b26, .ref b27, .ref b28, .int b29, .ref b30, .ref b31, .int b32, .int b33, .int b34, .int b35, .ref b36, .ref b37, .ref b38, .ref b39, .ref b40, .ref b41, .ref b42, .int b43, .ref b44, .ref b45, .int b46, .ref b47, .ref b48, .ref b49, .ref b50, .ref b51, .int b52, .ref b53, .ref b54, .ref b55])), (b3, .inl (G.2 0, 503, .inl e2)), (b6, .inl (G.2 0, 4024, .inl e3))] ∧ (zI e0 (-3) 20) ∧ (zI e1 0 8) ∧ (zW5 e2) ∧ (zW5 e3)) := by
  refine z_start (by decide +kernel) (Nat.le_of_ble_eq_true rfl) ?_
  intro p e s m below meth c A Z hr hnm hA hP hD hS ls hl
  have Z : zC p s m _ meth c prog_14_method_20_code 5 "TraceMachinesModel" G := Z
  obtain ⟨hx, hb, hml, hown, hts, hK, hN, hlocks⟩ := id Z
  have hl : lv_has ls 5 [(0, .ref b0), (1, .int 502), (2, .int b1), (3, .int 20)] := hl
  refine lv_iload_n hx hb d_Model_change_0 rfl (lv_at hl 2 rfl) ?_
  refine lv_i2l (v := b1.toInt64) hx hb d_Model_change_1 rfl ?_
  refine lv_lconst (v := 0) hx hb d_Model_change_2 (by decide) ?_
  refine lv_iload_n hx hb d_Model_change_3 rfl (lv_at hl 3 rfl) ?_
  refine lv_i2l (v := 20) hx hb d_Model_change_4 (by decide +kernel) ?_
  refine z_callS (index := 138) (As := [.long b1.toInt64, .long 0, .long 20]) (rest := []) (wr := [(b0, .inr (12, [.int b2, .ref b3, .ref b4, .ref b5, .ref b6, .int b7, .ref b8, .int b9, .int b10, .int b11, .int b12, .ref b13, .ref b14, .ref b15, .int b16, .ref b17, .ref b18, .ref b19, .ref b20, .ref b21, .ref b22, .ref b23, .ref b24, .ref b25, .ref b26, .ref b27, .ref b28, .int b29, .ref b30, .ref b31, .int b32, .int b33, .int b34, .int b35, .ref b36, .ref b37, .ref b38, .ref b39, .ref b40, .ref b41, .ref b42, .int b43, .ref b44, .ref b45, .int b46, .ref b47, .ref b48, .ref b49, .ref b50, .ref b51, .int b52, .ref b53, .ref b54, .ref b55])), (b3, .inl (G.2 0, 503, .inl b56)), (b6, .inl (G.2 0, 4024, .inl b57))]) Z (s2_Model_in l G (b1.toInt64) (0) (20)) hl.1 q1281 q1282 q14 q1283 ⟨by decide, by decide, by show _ = some 3; decide +kernel⟩ ⟨Nat.le_of_ble_eq_true rfl, Nat.le_of_ble_eq_true rfl⟩ ⟨Nat.le_of_ble_eq_true rfl, Nat.le_of_ble_eq_true rfl⟩ rfl (Nat.le_of_ble_eq_true rfl) d_Model_change_5 hP hD hS hA [] [0, 1, 2] rfl rfl rfl rfl (by decide) (fun v w1 H locs hw_1 hP hD hS => ?_)
  rcases hw_1 with ⟨rfl, rfl, hq_2⟩ | ⟨rfl, rfl, hq_3, hq_4⟩ | ⟨rfl, rfl, hq_5, hq_6⟩
  · have hP : va_P G.1 classes [(b0, .inr (12, [.int b2, .ref b3, .ref b4, .ref b5, .ref b6, .int b7, .ref b8, .int b9, .int b10, .int b11, .int b12, .ref b13, .ref b14, .ref b15, .int b16, .ref b17, .ref b18, .ref b19, .ref b20, .ref b21, .ref b22, .ref b23, .ref b24, .ref b25, .ref b26, .ref b27, .ref b28, .int b29, .ref b30, .ref b31, .int b32, .int b33, .int b34, .int b35, .ref b36, .ref b37, .ref b38, .ref b39, .ref b40, .ref b41, .ref b42, .int b43, .ref b44, .ref b45, .int b46, .ref b47, .ref b48, .ref b49, .ref b50, .ref b51, .int b52, .ref b53, .ref b54, .ref b55])), (b3, .inl (G.2 0, 503, .inl b56)), (b6, .inl (G.2 0, 4024, .inl b57))] H := hP
    have hD := z_tie hP hD rfl
    try simp only [Int32.toInt_toInt64, ll_0] at hq_2
    have hv_7 : zI b1 (-2147483648) (-1) := by have _a := hq_2; have _b := (zI_all b1); have _c := zcl_0; simp only [Int32.toInt_toInt64] at *; exact ⟨by omega, by omega⟩
    refine W.widen (k := 0) (n := 0) (Nat.le_of_ble_eq_true rfl) (Nat.le_of_ble_eq_true rfl) ?_
    refine lv_if_ne (tgt := 13) hx hb d_Model_change_8 (by decide) (fun hc => absurd hc (by decide +kernel)) (fun _ => ?_)
    refine lv_iconst (v := (-1)) hx hb d_Model_change_11 (by decide) ?_
    exact z_iret hx hb hr hlocks hP hD hS (Nat.le_of_ble_eq_true rfl) (Nat.le_of_ble_eq_true rfl) d_Model_change_12 ⟨(-1), b7, b56, b57, rfl, rfl, (zI.wk (l' := (-3)) (h' := 20) zc_m1 (by decide)), hb7, hb56, hb57⟩
  · have hP : va_P G.1 classes [(b0, .inr (12, [.int b2, .ref b3, .ref b4, .ref b5, .ref b6, .int b7, .ref b8, .int b9, .int b10, .int b11, .int b12, .ref b13, .ref b14, .ref b15, .int b16, .ref b17, .ref b18, .ref b19, .ref b20, .ref b21, .ref b22, .ref b23, .ref b24, .ref b25, .ref b26, .ref b27, .ref b28, .int b29, .ref b30, .ref b31, .int b32, .int b33, .int b34, .int b35, .ref b36, .ref b37, .ref b38, .ref b39, .ref b40, .ref b41, .ref b42, .int b43, .ref b44, .ref b45, .int b46, .ref b47, .ref b48, .ref b49, .ref b50, .ref b51, .int b52, .ref b53, .ref b54, .ref b55])), (b3, .inl (G.2 0, 503, .inl b56)), (b6, .inl (G.2 0, 4024, .inl b57))] H := hP
    have hD := z_tie hP hD rfl
    try simp only [Int32.toInt_toInt64, ll_0] at hq_3
    have hv_8 : zI b1 0 2147483647 := by have _a := hq_3; have _b := (zI_all b1); have _c := zcl_0; simp only [Int32.toInt_toInt64] at *; exact ⟨by omega, by omega⟩
    try simp only [Int32.toInt_toInt64, ll_20] at hq_4
    have hv_9 : zI b1 21 2147483647 := by have _a := hq_4; have _b := hv_8; have _c := zcl_20; simp only [Int32.toInt_toInt64] at *; exact ⟨by omega, by omega⟩
    refine W.widen (k := 0) (n := 0) (Nat.le_of_ble_eq_true rfl) (Nat.le_of_ble_eq_true rfl) ?_
    refine lv_if_ne (tgt := 13) hx hb d_Model_change_8 (by decide) (fun hc => absurd hc (by decide +kernel)) (fun _ => ?_)
    refine lv_iconst (v := (-1)) hx hb d_Model_change_11 (by decide) ?_
    exact z_iret hx hb hr hlocks hP hD hS (Nat.le_of_ble_eq_true rfl) (Nat.le_of_ble_eq_true rfl) d_Model_change_12 ⟨(-1), b7, b56, b57, rfl, rfl, (zI.wk (l' := (-3)) (h' := 20) zc_m1 (by decide)), hb7, hb56, hb57⟩
  · have hP : va_P G.1 classes [(b0, .inr (12, [.int b2, .ref b3, .ref b4, .ref b5, .ref b6, .int b7, .ref b8, .int b9, .int b10, .int b11, .int b12, .ref b13, .ref b14, .ref b15, .int b16, .ref b17, .ref b18, .ref b19, .ref b20, .ref b21, .ref b22, .ref b23, .ref b24, .ref b25, .ref b26, .ref b27, .ref b28, .int b29, .ref b30, .ref b31, .int b32, .int b33, .int b34, .int b35, .ref b36, .ref b37, .ref b38, .ref b39, .ref b40, .ref b41, .ref b42, .int b43, .ref b44, .ref b45, .int b46, .ref b47, .ref b48, .ref b49, .ref b50, .ref b51, .int b52, .ref b53, .ref b54, .ref b55])), (b3, .inl (G.2 0, 503, .inl b56)), (b6, .inl (G.2 0, 4024, .inl b57))] H := hP
    have hD := z_tie hP hD rfl
    try simp only [Int32.toInt_toInt64, ll_0] at hq_5
    have hv_10 : zI b1 0 2147483647 := by have _a := hq_5; have _b := (zI_all b1); have _c := zcl_0; simp only [Int32.toInt_toInt64] at *; exact ⟨by omega, by omega⟩
    try simp only [Int32.toInt_toInt64, ll_20] at hq_6
    have hv_11 : zI b1 0 20 := by have _a := hq_6; have _b := hv_10; have _c := zcl_20; simp only [Int32.toInt_toInt64] at *; exact ⟨by omega, by omega⟩
    refine W.widen (k := 0) (n := 0) (Nat.le_of_ble_eq_true rfl) (Nat.le_of_ble_eq_true rfl) ?_
    refine lv_if_ne (tgt := 13) hx hb d_Model_change_8 (by decide) (fun _ => ?_) (fun hc => absurd hc (by decide +kernel))
    refine lv_aload_n hx hb d_Model_change_13 rfl (lv_at hl 0 rfl) ?_
    refine va_get (D := G.1) (ci := 12) (v := .ref b3) (C := R_Model) (T := F_Model) (N := 54) hx hb hts i_Model hown hK hP 0 rfl rfl 1 (by decide) (hts _ q1110) (fun _ h9 => h9) rfl d_Model_change_14 ?_
    refine lv_iload_n hx hb d_Model_change_17 rfl (lv_at hl 1 rfl) ?_
    refine va_iald hx hb hK hP 1 0 rfl rfl (i := 502) (z_in rfl) d_Model_change_18 ?_
    refine lv_topi (fun v_12 ev_12 => ?_)
    have hv_12 : zI v_12 0 20 := zW5.ld hb56 zc_502 ev_12 (by decide)
    refine lv_istore (lv' := [(4, .int v_12), (0, .ref b0), (1, .int 502), (2, .int b1), (3, .int 20)]) hx hb d_Model_change_19 hl (by decide) rfl (fun ls hl => ?_)
    refine lv_iload hx hb d_Model_change_21 (lv_at hl 0 rfl) ?_
    refine lv_iload_n hx hb d_Model_change_23 rfl (lv_at hl 3 rfl) ?_
    refine lv_icmp_ne (tgt := 30) hx hb d_Model_change_24 (by decide) (fun hc_13 => ?_) (fun hc_13 => ?_)
    · have _nhc_13 := hc_13
      have ni_14 : ¬ (v_12 : Int32).toInt = (b1 : Int32).toInt := fun z => hc_13 ((fa_eq _ _).mpr z)
      refine lv_aload_n hx hb d_Model_change_30 rfl (lv_at hl 1 rfl) ?_
      refine z_callV (index := 188) (As := []) (rest := []) (wr := []) Z (s1_Model_remember l G (b0) (b2) (b3) (b4) (b5) (b6) (b7) (b8) (b9) (b10) (b11) (b12) (b13) (b14) (b15) (b16) (b17) (b18) (b19) (b20) (b21) (b22) (b23) (b24) (b25) (b26) (b27) (b28) (b29) (b30) (b31) (b32) (b33) (b34) (b35) (b36) (b37) (b38) (b39) (b40) (b41) (b42) (b43) (b44) (b45) (b46) (b47) (b48) (b49) (b50) (b51) (b52) (b53) (b54) (b55) (b56) (b57) hb7 hb9 hb10 hb12 hb16 hb29 hb32 hb56 hb57) hl.1 q1316 q1318 qs50 q14 q1319 ⟨by decide, by decide, by show _ = some 0; decide +kernel⟩ ⟨Nat.le_of_ble_eq_true rfl, Nat.le_of_ble_eq_true rfl⟩ ⟨Nat.le_of_ble_eq_true rfl, Nat.le_of_ble_eq_true rfl⟩ rfl (Nat.le_of_ble_eq_true rfl) d_Model_change_31 hP hD hS hA 0 12 rfl rfl rfl [0, 1, 2] [] rfl rfl rfl rfl (by decide) (fun v w1 H locs hw_15 hP hD hS => ?_)
      obtain ⟨x_16, f_17, rfl, rfl, hx_16, hf_17⟩ := hw_15
      have hP : va_P G.1 classes [(b0, .inr (12, [.int b2, .ref b3, .ref b4, .ref b5, .ref b6, .int x_16, .ref b8, .int b9, .int b10, .int b11, .int b12, .ref b13, .ref b14, .ref b15, .int b16, .ref b17, .ref b18, .ref b19, .ref b20, .ref b21, .ref b22, .ref b23, .ref b24, .ref b25, .ref b26, .ref b27, .ref b28, .int b29, .ref b30, .ref b31, .int b32, .int b33, .int b34, .int b35, .ref b36, .ref b37, .ref b38, .ref b39, .ref b40, .ref b41, .ref b42, .int b43, .ref b44, .ref b45, .int b46, .ref b47, .ref b48, .ref b49, .ref b50, .ref b51, .int b52, .ref b53, .ref b54, .ref b55])), (b3, .inl (G.2 0, 503, .inl b56)), (b6, .inl (G.2 0, 4024, .inl f_17))] H := hP
      have hD := z_tie hP hD rfl
      refine W.widen (k := 0) (n := 0) (Nat.le_of_ble_eq_true rfl) (Nat.le_of_ble_eq_true rfl) ?_
      refine lv_aload_n hx hb d_Model_change_34 rfl (lv_at hl 1 rfl) ?_
      refine va_get (D := G.1) (ci := 12) (v := .ref b3) (C := R_Model) (T := F_Model) (N := 54) hx hb hts i_Model hown hK hP 0 rfl rfl 1 (by decide) (hts _ q1110) (fun _ h9 => h9) rfl d_Model_change_35 ?_
      refine lv_iload_n hx hb d_Model_change_38 rfl (lv_at hl 2 rfl) ?_
      refine lv_iload_n hx hb d_Model_change_39 rfl (lv_at hl 3 rfl) ?_
      refine va_iast hx hb hK hP hD hS 1 0 rfl rfl (i := 502) (z_in rfl) d_Model_change_40 (fun H locs hP hD hS => ?_)
      obtain ⟨f_18, hf_18, gf_18, uf_18, hP, hD⟩ := z_newfw 1 hP hD rfl hb56 (zRk_v zc_502 hv_11 (by decide))
      have hP : va_P G.1 classes [(b0, .inr (12, [.int b2, .ref b3, .ref b4, .ref b5, .ref b6, .int x_16, .ref b8, .int b9, .int b10, .int b11, .int b12, .ref b13, .ref b14, .ref b15, .int b16, .ref b17, .ref b18, .ref b19, .ref b20, .ref b21, .ref b22, .ref b23, .ref b24, .ref b25, .ref b26, .ref b27, .ref b28, .int b29, .ref b30, .ref b31, .int b32, .int b33, .int b34, .int b35, .ref b36, .ref b37, .ref b38, .ref b39, .ref b40, .ref b41, .ref b42, .int b43, .ref b44, .ref b45, .int b46, .ref b47, .ref b48, .ref b49, .ref b50, .ref b51, .int b52, .ref b53, .ref b54, .ref b55])), (b3, .inl (G.2 0, 503, .inl f_18)), (b6, .inl (G.2 0, 4024, .inl f_17))] H := hP
      have hD := z_tie hP hD rfl
      refine lv_iload hx hb d_Model_change_41 (lv_at hl 0 rfl) ?_
      exact z_iret hx hb hr hlocks hP hD hS (Nat.le_of_ble_eq_true rfl) (Nat.le_of_ble_eq_true rfl) d_Model_change_43 ⟨v_12, x_16, f_18, f_17, rfl, rfl, (zI.wk (l' := (-3)) (h' := 20) hv_12 (by decide)), hx_16, hf_18, hf_17⟩
    · have _nhc_13 := hc_13
      have ni_19 := (fa_eq _ _).mp hc_13
      refine lv_bipush (v := (-3)) hx hb d_Model_change_27 (by decide) ?_
      exact z_iret hx hb hr hlocks hP hD hS (Nat.le_of_ble_eq_true rfl) (Nat.le_of_ble_eq_true rfl) d_Model_change_29 ⟨(-3), b7, b56, b57, rfl, rfl, (zI.wk (l' := (-3)) (h' := 20) zc_m3 (by decide)), hb7, hb56, hb57⟩
theorem d_Model_margin_15 : decode prog_14_method_22_code 15 = .ok (.ireturn, 1) := by decide +kernel
abbrev m_s1_Model_margin : Room := { frames := 2, cells := 0, slots := 0, locals := 49 }
set_option maxHeartbeats 4000000 in
set_option maxRecDepth 100000 in
theorem s1_Model_margin (l : Launch) (G : zG) (b0 : Nat) (b1 : Int32) (b2 : Int32) (b3 : Nat) (b4 : Nat) (b5 : Nat) (b6 : Nat) (b7 : Int32) (b8 : Nat) (b9 : Int32) (b10 : Int32) (b11 : Int32) (b12 : Int32) (b13 : Nat) (b14 : Nat) (b15 : Nat) (b16 : Int32) (b17 : Nat) (b18 : Nat) (b19 : Nat) (b20 : Nat) (b21 : Nat) (b22 : Nat) (b23 : Nat) (b24 : Nat) (b25 : Nat) (b26 : Nat) (b27 : Nat) (b28 : Nat) (b29 : Int32) (b30 : Nat) (b31 : Nat) (b32 : Int32) (b33 : Int32) (b34 : Int32) (b35 : Int32) (b36 : Nat) (b37 : Nat) (b38 : Nat) (b39 : Nat) (b40 : Nat) (b41 : Nat) (b42 : Nat) (b43 : Int32) (b44 : Nat) (b45 : Nat) (b46 : Int32) (b47 : Nat) (b48 : Nat) (b49 : Nat) (b50 : Nat) (b51 : Nat) (b52 : Int32) (b53 : Nat) (b54 : Nat) (b55 : Nat) (b56 : Nat → Int32) (b57 : Nat → Int32) (hb7 : zI b7 0 8) (hb9 : zI b9 0 240) (hb10 : zI b10 0 240) (hb12 : zI b12 0 1) (hb16 : zI b16 0 12) (hb29 : zI b29 0 1) (hb32 : zI b32 0 1) (hb56 : zW5 b56) (hb57 : zW5 b57) : zM l G y_Model_margin prog_14_method_22_code 2 (Option.some Jvm.ClassFile.FieldType.int) m_s1_Model_margin [.ref b0, .int b1] [(b0, .inr (12, [.int b2, .ref b3, .ref b4, .ref b5, .ref b6, .int b7, .ref b8, .int b9, .int b10, .int b11, .int b12, .ref b13, .ref b14, .ref b15, .int b16, .ref b17, .ref b18, .ref b19, .ref b20, .ref b21, .ref b22, .ref b23, .ref b24, .ref b25, .ref b26, .ref b27, .ref b28, .int b29, .ref b30, .ref b31, .int b32, .int b33, .int b34, .int b35, .ref b36, .ref b37, .ref b38, .ref b39, .ref b40, .ref b41, .ref b42, .int b43, .ref b44, .ref b45, .int b46, .ref b47, .ref b48, .ref b49, .ref b50, .ref b51, .int b52, .ref b53, .ref b54, .ref b55])), (b3, .inl (G.2 0, 503, .inl b56)), (b6, .inl (G.2 0, 4024, .inl b57))] (fun v w => ∃ (e0 : Int32), ∃ (e1 : Int32), ∃ (e2 : Nat → Int32), ∃ (e3 : Nat → Int32), v = some (.int e0) ∧ w = [(b0, .inr (12, [.int 0, .ref b3, .ref b4, .ref b5, .ref b6, .int e1, .ref b8, .int b9, .int b10, .int b11, .int b12, .ref b13, .ref b14, .ref b15, .int b16, .ref b17, .ref b18, .ref b19, .ref b20, .ref b21, .ref b22, .ref b23, .ref b24, .ref b25, .ref b26, .ref b27, .ref b28, .int b29, .ref b30, .ref b31, .int b32, .int b33, .int b34, .int b35, .ref b36, .ref b37, .ref b38, .ref b39, .ref b40, .ref b41, .ref b42, .int b43, .ref b44, .ref b45, .int b46, .ref b47, .ref b48, .ref b49, .ref b50, .ref b51, .int b52, .ref b53, .ref b54, .ref b55])), (b3, .inl (G.2 0, 503, .inl e2)), (b6, .inl (G.2 0, 4024, .inl e3))] ∧ (zI e0 (-3) 20) ∧ (zI e1 0 8) ∧ (zW5 e2) ∧ (zW5 e3)) := by
  refine z_start (by decide +kernel) (Nat.le_of_ble_eq_true rfl) ?_
  intro p e s m below meth c A Z hr hnm hA hP hD hS ls hl
  have Z : zC p s m _ meth c prog_14_method_22_code 2 "TraceMachinesModel" G := Z
  obtain ⟨hx, hb, hml, hown, hts, hK, hN, hlocks⟩ := id Z
  have hl : lv_has ls 2 [(0, .ref b0), (1, .int b1)] := hl
  refine lv_aload_n hx hb d_Model_margin_0 rfl (lv_at hl 0 rfl) ?_
  refine lv_iconst (v := 0) hx hb d_Model_margin_1 (by decide) ?_
  refine va_put (D := G.1) (ci := 12) (v := .int 0) (ty := .int) (C := R_Model) (T := F_Model) (N := 54) hx hb hts i_Model t_Model t_Model_ok n_Model hown hK hP hD hS 0 rfl rfl 0 (by decide) (hts _ q1109) (fun _ h9 => h9) rfl (by decide +kernel) rfl rfl (Nat.le_of_ble_eq_true rfl) d_Model_margin_2 (fun H locs hP hD hS => ?_)
  have hP : va_P G.1 classes [(b0, .inr (12, [.int 0, .ref b3, .ref b4, .ref b5, .ref b6, .int b7, .ref b8, .int b9, .int b10, .int b11, .int b12, .ref b13, .ref b14, .ref b15, .int b16, .ref b17, .ref b18, .ref b19, .ref b20, .ref b21, .ref b22, .ref b23, .ref b24, .ref b25, .ref b26, .ref b27, .ref b28, .int b29, .ref b30, .ref b31, .int b32, .int b33, .int b34, .int b35, .ref b36, .ref b37, .ref b38, .ref b39, .ref b40, .ref b41, .ref b42, .int b43, .ref b44, .ref b45, .int b46, .ref b47, .ref b48, .ref b49, .ref b50, .ref b51, .int b52, .ref b53, .ref b54, .ref b55])), (b3, .inl (G.2 0, 503, .inl b56)), (b6, .inl (G.2 0, 4024, .inl b57))] H := hP
  have hD := z_tie hP hD rfl
  refine lv_aload_n hx hb d_Model_margin_5 rfl (lv_at hl 0 rfl) ?_
  refine lv_sipush (v := 502) hx hb d_Model_margin_6 (by decide) ?_
  refine lv_iload_n hx hb d_Model_margin_9 rfl (lv_at hl 1 rfl) ?_
  refine lv_bipush (v := 20) hx hb d_Model_margin_10 (by decide) ?_
  refine z_callV (index := 195) (As := [.int 502, .int b1, .int 20]) (rest := []) (wr := []) Z (s4_Model_change l G (b0) (b1) (0) (b3) (b4) (b5) (b6) (b7) (b8) (b9) (b10) (b11) (b12) (b13) (b14) (b15) (b16) (b17) (b18) (b19) (b20) (b21) (b22) (b23) (b24) (b25) (b26) (b27) (b28) (b29) (b30) (b31) (b32) (b33) (b34) (b35) (b36) (b37) (b38) (b39) (b40) (b41) (b42) (b43) (b44) (b45) (b46) (b47) (b48) (b49) (b50) (b51) (b52) (b53) (b54) (b55) (b56) (b57) hb7 hb9 hb10 hb12 hb16 hb29 hb32 hb56 hb57) hl.1 q1336 q1338 qs53 q14 q1339 ⟨by decide, by decide, by show _ = some 3; decide +kernel⟩ ⟨Nat.le_of_ble_eq_true rfl, Nat.le_of_ble_eq_true rfl⟩ ⟨Nat.le_of_ble_eq_true rfl, Nat.le_of_ble_eq_true rfl⟩ rfl (Nat.le_of_ble_eq_true rfl) d_Model_margin_12 hP hD hS hA 0 12 rfl rfl rfl [0, 1, 2] [] rfl rfl rfl rfl (by decide) (fun v w1 H locs hw_1 hP hD hS => ?_)
  obtain ⟨x_2, x_3, f_4, f_5, rfl, rfl, hx_2, hx_3, hf_4, hf_5⟩ := hw_1
  have hP : va_P G.1 classes [(b0, .inr (12, [.int 0, .ref b3, .ref b4, .ref b5, .ref b6, .int x_3, .ref b8, .int b9, .int b10, .int b11, .int b12, .ref b13, .ref b14, .ref b15, .int b16, .ref b17, .ref b18, .ref b19, .ref b20, .ref b21, .ref b22, .ref b23, .ref b24, .ref b25, .ref b26, .ref b27, .ref b28, .int b29, .ref b30, .ref b31, .int b32, .int b33, .int b34, .int b35, .ref b36, .ref b37, .ref b38, .ref b39, .ref b40, .ref b41, .ref b42, .int b43, .ref b44, .ref b45, .int b46, .ref b47, .ref b48, .ref b49, .ref b50, .ref b51, .int b52, .ref b53, .ref b54, .ref b55])), (b3, .inl (G.2 0, 503, .inl f_4)), (b6, .inl (G.2 0, 4024, .inl f_5))] H := hP
  have hD := z_tie hP hD rfl
  refine W.widen (k := 0) (n := 0) (Nat.le_of_ble_eq_true rfl) (Nat.le_of_ble_eq_true rfl) ?_
  exact z_iret hx hb hr hlocks hP hD hS (Nat.le_of_ble_eq_true rfl) (Nat.le_of_ble_eq_true rfl) d_Model_margin_15 ⟨x_2, x_3, f_4, f_5, rfl, rfl, hx_2, hx_3, hf_4, hf_5⟩
theorem d_Model_pathOf_0 : decode prog_14_method_24_code 0 = .ok (.aload_n 0, 1) := by decide +kernel
theorem d_Model_pathOf_1 : decode prog_14_method_24_code 1 = .ok (.getfield 46, 3) := by decide +kernel
theorem d_Model_pathOf_4 : decode prog_14_method_24_code 4 = .ok (.sipush 260, 3) := by decide +kernel
theorem d_Model_pathOf_7 : decode prog_14_method_24_code 7 = .ok (.iload_n 1, 1) := by decide +kernel
theorem d_Model_pathOf_8 : decode prog_14_method_24_code 8 = .ok (.imul, 1) := by decide +kernel
theorem d_Model_pathOf_9 : decode prog_14_method_24_code 9 = .ok (.bipush 13, 2) := by decide +kernel
theorem d_Model_pathOf_11 : decode prog_14_method_24_code 11 = .ok (.iload_n 2, 1) := by decide +kernel
theorem d_Model_pathOf_12 : decode prog_14_method_24_code 12 = .ok (.imul, 1) := by decide +kernel
theorem d_Model_pathOf_13 : decode prog_14_method_24_code 13 = .ok (.iadd, 1) := by decide +kernel
theorem d_Model_pathOf_14 : decode prog_14_method_24_code 14 = .ok (.iload_n 3, 1) := by decide +kernel
theorem d_Model_pathOf_15 : decode prog_14_method_24_code 15 = .ok (.iadd, 1) := by decide +kernel
theorem d_Model_pathOf_16 : decode prog_14_method_24_code 16 = .ok (.iaload, 1) := by decide +kernel
theorem d_Model_pathOf_17 : decode prog_14_method_24_code 17 = .ok (.ireturn, 1) := by decide +kernel
theorem zc_260 : zI 260 260 260 := ⟨by decide +kernel, by decide +kernel⟩
theorem li_260 : (260 : Int32).toInt = 260 := by decide +kernel
abbrev m_s1_Model_pathOf : Room := { frames := 0, cells := 0, slots := 0, locals := 0 }
set_option maxHeartbeats 4000000 in
set_option maxRecDepth 100000 in
theorem s1_Model_pathOf (l : Launch) (G : zG) (b0 : Nat) (b1 : Int32) (b2 : Int32) (b3 : Int32) (b4 : Int32) (b5 : Nat) (b6 : Nat) (b7 : Nat) (b8 : Nat) (b9 : Int32) (b10 : Nat) (b11 : Int32) (b12 : Int32) (b13 : Int32) (b14 : Int32) (b15 : Nat) (b16 : Nat) (b17 : Nat) (b18 : Int32) (b19 : Nat) (b20 : Nat) (b21 : Nat) (b22 : Nat) (b23 : Nat) (b24 : Nat) (b25 : Nat) (b26 : Nat) (b27 : Nat) (b28 : Nat) (b29 : Nat) (b30 : Nat) (b31 : Int32) (b32 : Nat) (b33 : Nat) (b34 : Int32) (b35 : Int32) (b36 : Int32) (b37 : Int32) (b38 : Nat) (b39 : Nat) (b40 : Nat) (b41 : Nat) (b42 : Nat) (b43 : Nat) (b44 : Nat) (b45 : Int32) (b46 : Nat) (b47 : Nat) (b48 : Int32) (b49 : Nat) (b50 : Nat) (b51 : Nat) (b52 : Nat) (b53 : Nat) (b54 : Int32) (b55 : Nat) (b56 : Nat) (b57 : Nat) (b58 : Nat → Int32) (hb1 : zI b1 0 1) (hb2 : zI b2 0 19) (hb3 : zI b3 0 12) (hb9 : zI b9 0 8) (hb11 : zI b11 0 240) (hb12 : zI b12 0 240) (hb14 : zI b14 0 1) (hb18 : zI b18 0 12) (hb31 : zI b31 0 1) (hb34 : zI b34 0 1) (hb58 : zqa qP b58) : zM l G y_Model_pathOf prog_14_method_24_code 4 (Option.some Jvm.ClassFile.FieldType.int) m_s1_Model_pathOf [.ref b0, .int b1, .int b2, .int b3] [(b0, .inr (12, [.int b4, .ref b5, .ref b6, .ref b7, .ref b8, .int b9, .ref b10, .int b11, .int b12, .int b13, .int b14, .ref b15, .ref b16, .ref b17, .int b18, .ref b19, .ref b20, .ref b21, .ref b22, .ref b23, .ref b24, .ref b25, .ref b26, .ref b27, .ref b28, .ref b29, .ref b30, .int b31, .ref b32, .ref b33, .int b34, .int b35, .int b36, .int b37, .ref b38, .ref b39, .ref b40, .ref b41, .ref b42, .ref b43, .ref b44, .int b45, .ref b46, .ref b47, .int b48, .ref b49, .ref b50, .ref b51, .ref b52, .ref b53, .int b54, .ref b55, .ref b56, .ref b57])), (b21, .inl (G.2 0, 520, .inl b58))] (fun v w => ∃ (e0 : Int32), v = some (.int e0) ∧ w = [(b0, .inr (12, [.int b4, .ref b5, .ref b6, .ref b7, .ref b8, .int b9, .ref b10, .int b11, .int b12, .int b13, .int b14, .ref b15, .ref b16, .ref b17, .int b18, .ref b19, .ref b20, .ref b21, .ref b22, .ref b23, .ref b24, .ref b25, .ref b26, .ref b27, .ref b28, .ref b29, .ref b30, .int b31, .ref b32, .ref b33, .int b34, .int b35, .int b36, .int b37, .ref b38, .ref b39, .ref b40, .ref b41, .ref b42, .ref b43, .ref b44, .int b45, .ref b46, .ref b47, .int b48, .ref b49, .ref b50, .ref b51, .ref b52, .ref b53, .int b54, .ref b55, .ref b56, .ref b57])), (b21, .inl (G.2 0, 520, .inl b58))] ∧ (zI e0 0 240)) := by
  refine z_start (by decide +kernel) (Nat.le_of_ble_eq_true rfl) ?_
  intro p e s m below meth c A Z hr hnm hA hP hD hS ls hl
  have Z : zC p s m _ meth c prog_14_method_24_code 4 "TraceMachinesModel" G := Z
  obtain ⟨hx, hb, hml, hown, hts, hK, hN, hlocks⟩ := id Z
  have hl : lv_has ls 4 [(0, .ref b0), (1, .int b1), (2, .int b2), (3, .int b3)] := hl
  refine lv_aload_n hx hb d_Model_pathOf_0 rfl (lv_at hl 0 rfl) ?_
  refine va_get (D := G.1) (ci := 12) (v := .ref b21) (C := R_Model) (T := F_Model) (N := 54) hx hb hts i_Model hown hK hP 0 rfl rfl 17 (by decide) (hts _ q1126) (fun _ h9 => h9) rfl d_Model_pathOf_1 ?_
  refine lv_sipush (v := 260) hx hb d_Model_pathOf_4 (by decide) ?_
  refine lv_iload_n hx hb d_Model_pathOf_7 rfl (lv_at hl 1 rfl) ?_
  refine lv_imul hx hb d_Model_pathOf_8 ?_
  refine lv_topi (fun v_1 ev_1 => ?_)
  obtain ⟨qv_1, hv_1⟩ := zI_mul (l := 0) (h := 260) zc_260 hb1 ev_1 (by decide)
  rw [li_260] at qv_1
  refine lv_bipush (v := 13) hx hb d_Model_pathOf_9 (by decide) ?_
  refine lv_iload_n hx hb d_Model_pathOf_11 rfl (lv_at hl 2 rfl) ?_
  refine lv_imul hx hb d_Model_pathOf_12 ?_
  refine lv_topi (fun v_2 ev_2 => ?_)
  obtain ⟨qv_2, hv_2⟩ := zI_mul (l := 0) (h := 247) zc_13 hb2 ev_2 (by decide)
  rw [li_13] at qv_2
  refine lv_iadd hx hb d_Model_pathOf_13 ?_
  refine lv_topi (fun v_3 ev_3 => ?_)
  obtain ⟨qv_3, hv_3⟩ := zI_add (l := 0) (h := 507) hv_1 hv_2 ev_3 (by decide)
  refine lv_iload_n hx hb d_Model_pathOf_14 rfl (lv_at hl 3 rfl) ?_
  refine lv_iadd hx hb d_Model_pathOf_15 ?_
  refine lv_topi (fun v_4 ev_4 => ?_)
  obtain ⟨qv_4, hv_4⟩ := zI_add (l := 0) (h := 519) hv_3 hb3 ev_4 (by decide)
  refine va_iald hx hb hK hP 1 0 rfl rfl (zI.inn hv_4 (by decide)) d_Model_pathOf_16 ?_
  refine lv_topi (fun v_5 ev_5 => ?_)
  obtain ⟨hv_5, kv_5⟩ := zQP.ld hb58 hv_4 ev_5 (by decide)
  exact z_iret hx hb hr hlocks hP hD hS (Nat.le_of_ble_eq_true rfl) (Nat.le_of_ble_eq_true rfl) d_Model_pathOf_17 ⟨v_5, rfl, rfl, hv_5⟩
theorem d_Model_stateAt_0 : decode prog_14_method_32_code 0 = .ok (.aload_n 0, 1) := by decide +kernel
theorem d_Model_stateAt_1 : decode prog_14_method_32_code 1 = .ok (.getfield 55, 3) := by decide +kernel
theorem d_Model_stateAt_4 : decode prog_14_method_32_code 4 = .ok (.sipush 241, 3) := by decide +kernel
theorem d_Model_stateAt_7 : decode prog_14_method_32_code 7 = .ok (.iload_n 1, 1) := by decide +kernel
theorem d_Model_stateAt_8 : decode prog_14_method_32_code 8 = .ok (.imul, 1) := by decide +kernel
theorem d_Model_stateAt_9 : decode prog_14_method_32_code 9 = .ok (.aload_n 0, 1) := by decide +kernel
theorem d_Model_stateAt_10 : decode prog_14_method_32_code 10 = .ok (.iload_n 1, 1) := by decide +kernel
theorem d_Model_stateAt_11 : decode prog_14_method_32_code 11 = .ok (.iload_n 2, 1) := by decide +kernel
theorem d_Model_stateAt_12 : decode prog_14_method_32_code 12 = .ok (.iload_n 3, 1) := by decide +kernel
theorem d_Model_stateAt_13 : decode prog_14_method_32_code 13 = .ok (.invokevirtual 211, 3) := by decide +kernel
theorem d_Model_stateAt_16 : decode prog_14_method_32_code 16 = .ok (.iadd, 1) := by decide +kernel
theorem d_Model_stateAt_17 : decode prog_14_method_32_code 17 = .ok (.iaload, 1) := by decide +kernel
theorem d_Model_stateAt_18 : decode prog_14_method_32_code 18 = .ok (.ireturn, 1) := by decide +kernel
theorem zc_241 : zI 241 241 241 := ⟨by decide +kernel, by decide +kernel⟩
theorem li_241 : (241 : Int32).toInt = 241 := by decide +kernel
abbrev m_s1_Model_stateAt : Room := { frames := 1, cells := 0, slots := 0, locals := 23 }
set_option maxHeartbeats 4000000 in
set_option maxRecDepth 100000 in
theorem s1_Model_stateAt (l : Launch) (G : zG) (b0 : Nat) (b1 : Int32) (b2 : Int32) (b3 : Int32) (b4 : Int32) (b5 : Nat) (b6 : Nat) (b7 : Nat) (b8 : Nat) (b9 : Int32) (b10 : Nat) (b11 : Int32) (b12 : Int32) (b13 : Int32) (b14 : Int32) (b15 : Nat) (b16 : Nat) (b17 : Nat) (b18 : Int32) (b19 : Nat) (b20 : Nat) (b21 : Nat) (b22 : Nat) (b23 : Nat) (b24 : Nat) (b25 : Nat) (b26 : Nat) (b27 : Nat) (b28 : Nat) (b29 : Nat) (b30 : Nat) (b31 : Int32) (b32 : Nat) (b33 : Nat) (b34 : Int32) (b35 : Int32) (b36 : Int32) (b37 : Int32) (b38 : Nat) (b39 : Nat) (b40 : Nat) (b41 : Nat) (b42 : Nat) (b43 : Nat) (b44 : Nat) (b45 : Int32) (b46 : Nat) (b47 : Nat) (b48 : Int32) (b49 : Nat) (b50 : Nat) (b51 : Nat) (b52 : Nat) (b53 : Nat) (b54 : Int32) (b55 : Nat) (b56 : Nat) (b57 : Nat) (b58 : Nat → Int32) (b59 : Nat → Int32) (hb1 : zI b1 0 1) (hb2 : zI b2 0 19) (hb3 : zI b3 0 12) (hb9 : zI b9 0 8) (hb11 : zI b11 0 240) (hb12 : zI b12 0 240) (hb14 : zI b14 0 1) (hb18 : zI b18 0 12) (hb31 : zI b31 0 1) (hb34 : zI b34 0 1) (hb58 : zqa qP b58) (hb59 : zR b59 0 240) : zM l G y_Model_stateAt prog_14_method_32_code 4 (Option.some Jvm.ClassFile.FieldType.int) m_s1_Model_stateAt [.ref b0, .int b1, .int b2, .int b3] [(b0, .inr (12, [.int b4, .ref b5, .ref b6, .ref b7, .ref b8, .int b9, .ref b10, .int b11, .int b12, .int b13, .int b14, .ref b15, .ref b16, .ref b17, .int b18, .ref b19, .ref b20, .ref b21, .ref b22, .ref b23, .ref b24, .ref b25, .ref b26, .ref b27, .ref b28, .ref b29, .ref b30, .int b31, .ref b32, .ref b33, .int b34, .int b35, .int b36, .int b37, .ref b38, .ref b39, .ref b40, .ref b41, .ref b42, .ref b43, .ref b44, .int b45, .ref b46, .ref b47, .int b48, .ref b49, .ref b50, .ref b51, .ref b52, .ref b53, .int b54, .ref b55, .ref b56, .ref b57])), (b21, .inl (G.2 0, 520, .inl b58)), (b24, .inl (G.2 0, 482, .inl b59))] (fun v w => ∃ (e0 : Int32), v = some (.int e0) ∧ w = [(b0, .inr (12, [.int b4, .ref b5, .ref b6, .ref b7, .ref b8, .int b9, .ref b10, .int b11, .int b12, .int b13, .int b14, .ref b15, .ref b16, .ref b17, .int b18, .ref b19, .ref b20, .ref b21, .ref b22, .ref b23, .ref b24, .ref b25, .ref b26, .ref b27, .ref b28, .ref b29, .ref b30, .int b31, .ref b32, .ref b33, .int b34, .int b35, .int b36, .int b37, .ref b38, .ref b39, .ref b40, .ref b41, .ref b42, .ref b43, .ref b44, .int b45, .ref b46, .ref b47, .int b48, .ref b49, .ref b50, .ref b51, .ref b52, .ref b53, .int b54, .ref b55, .ref b56, .ref b57])), (b21, .inl (G.2 0, 520, .inl b58)), (b24, .inl (G.2 0, 482, .inl b59))] ∧ (zI e0 0 240)) := by
  refine z_start (by decide +kernel) (Nat.le_of_ble_eq_true rfl) ?_
  intro p e s m below meth c A Z hr hnm hA hP hD hS ls hl
  have Z : zC p s m _ meth c prog_14_method_32_code 4 "TraceMachinesModel" G := Z
  obtain ⟨hx, hb, hml, hown, hts, hK, hN, hlocks⟩ := id Z
  have hl : lv_has ls 4 [(0, .ref b0), (1, .int b1), (2, .int b2), (3, .int b3)] := hl
  refine lv_aload_n hx hb d_Model_stateAt_0 rfl (lv_at hl 0 rfl) ?_
  refine va_get (D := G.1) (ci := 12) (v := .ref b24) (C := R_Model) (T := F_Model) (N := 54) hx hb hts i_Model hown hK hP 0 rfl rfl 20 (by decide) (hts _ q1129) (fun _ h9 => h9) rfl d_Model_stateAt_1 ?_
  refine lv_sipush (v := 241) hx hb d_Model_stateAt_4 (by decide) ?_
  refine lv_iload_n hx hb d_Model_stateAt_7 rfl (lv_at hl 1 rfl) ?_
  refine lv_imul hx hb d_Model_stateAt_8 ?_
  refine lv_topi (fun v_1 ev_1 => ?_)
  obtain ⟨qv_1, hv_1⟩ := zI_mul (l := 0) (h := 241) zc_241 hb1 ev_1 (by decide)
  rw [li_241] at qv_1
  refine lv_aload_n hx hb d_Model_stateAt_9 rfl (lv_at hl 0 rfl) ?_
  refine lv_iload_n hx hb d_Model_stateAt_10 rfl (lv_at hl 1 rfl) ?_
  refine lv_iload_n hx hb d_Model_stateAt_11 rfl (lv_at hl 2 rfl) ?_
  refine lv_iload_n hx hb d_Model_stateAt_12 rfl (lv_at hl 3 rfl) ?_
  refine z_callV (index := 211) (As := [.int b1, .int b2, .int b3]) (rest := [.int v_1, .ref b24]) (wr := [(b24, .inl (G.2 0, 482, .inl b59))]) Z (s1_Model_pathOf l G (b0) (b1) (b2) (b3) (b4) (b5) (b6) (b7) (b8) (b9) (b10) (b11) (b12) (b13) (b14) (b15) (b16) (b17) (b18) (b19) (b20) (b21) (b22) (b23) (b24) (b25) (b26) (b27) (b28) (b29) (b30) (b31) (b32) (b33) (b34) (b35) (b36) (b37) (b38) (b39) (b40) (b41) (b42) (b43) (b44) (b45) (b46) (b47) (b48) (b49) (b50) (b51) (b52) (b53) (b54) (b55) (b56) (b57) (b58) hb1 hb2 hb3 hb9 hb11 hb12 hb14 hb18 hb31 hb34 hb58) hl.1 q1380 q1382 qs61 q14 q1383 ⟨by decide, by decide, by show _ = some 3; decide +kernel⟩ ⟨Nat.le_of_ble_eq_true rfl, Nat.le_of_ble_eq_true rfl⟩ ⟨Nat.le_of_ble_eq_true rfl, Nat.le_of_ble_eq_true rfl⟩ rfl (Nat.le_of_ble_eq_true rfl) d_Model_stateAt_13 hP hD hS hA 0 12 rfl rfl rfl [0, 1] [2] rfl rfl rfl rfl (by decide) (fun v w1 H locs hw_2 hP hD hS => ?_)
  obtain ⟨x_3, rfl, rfl, hx_3⟩ := hw_2
  have hP : va_P G.1 classes [(b24, .inl (G.2 0, 482, .inl b59)), (b0, .inr (12, [.int b4, .ref b5, .ref b6, .ref b7, .ref b8, .int b9, .ref b10, .int b11, .int b12, .int b13, .int b14, .ref b15, .ref b16, .ref b17, .int b18, .ref b19, .ref b20, .ref b21, .ref b22, .ref b23, .ref b24, .ref b25, .ref b26, .ref b27, .ref b28, .ref b29, .ref b30, .int b31, .ref b32, .ref b33, .int b34, .int b35, .int b36, .int b37, .ref b38, .ref b39, .ref b40, .ref b41, .ref b42, .ref b43, .ref b44, .int b45, .ref b46, .ref b47, .int b48, .ref b49, .ref b50, .ref b51, .ref b52, .ref b53, .int b54, .ref b55, .ref b56, .ref b57])), (b21, .inl (G.2 0, 520, .inl b58))] H := hP
  have hD := z_tie hP hD rfl
  refine W.widen (k := 0) (n := 0) (Nat.le_of_ble_eq_true rfl) (Nat.le_of_ble_eq_true rfl) ?_
  refine lv_iadd hx hb d_Model_stateAt_16 ?_
  refine lv_topi (fun v_4 ev_4 => ?_)
  obtain ⟨qv_4, hv_4⟩ := zI_add (l := 0) (h := 481) hv_1 hx_3 ev_4 (by decide)
  refine va_iald hx hb hK hP 0 0 rfl rfl (zI.inn hv_4 (by decide)) d_Model_stateAt_17 ?_
  refine lv_topi (fun v_5 ev_5 => ?_)
  have hv_5 : zI v_5 0 240 := (hb59 _).eq ev_5
  exact z_iret hx hb hr hlocks (hP.sub [1, 2, 0] rfl) (hD.sub [1, 2, 0] (by decide) rfl) hS (Nat.le_of_ble_eq_true rfl) (Nat.le_of_ble_eq_true rfl) d_Model_stateAt_18 ⟨v_5, rfl, rfl, hv_5⟩
theorem d_Model_areAlike_0 : decode prog_14_method_30_code 0 = .ok (.aload_n 0, 1) := by decide +kernel
theorem d_Model_areAlike_1 : decode prog_14_method_30_code 1 = .ok (.getfield 52, 3) := by decide +kernel
theorem d_Model_areAlike_4 : decode prog_14_method_30_code 4 = .ok (.iload_n 1, 1) := by decide +kernel
theorem d_Model_areAlike_5 : decode prog_14_method_30_code 5 = .ok (.iaload, 1) := by decide +kernel
theorem d_Model_areAlike_6 : decode prog_14_method_30_code 6 = .ok (.aload_n 0, 1) := by decide +kernel
theorem d_Model_areAlike_7 : decode prog_14_method_30_code 7 = .ok (.getfield 52, 3) := by decide +kernel
theorem d_Model_areAlike_10 : decode prog_14_method_30_code 10 = .ok (.iload_n 2, 1) := by decide +kernel
theorem d_Model_areAlike_11 : decode prog_14_method_30_code 11 = .ok (.iaload, 1) := by decide +kernel
theorem d_Model_areAlike_12 : decode prog_14_method_30_code 12 = .ok (.if_icmp .ne 7, 3) := by decide +kernel
theorem d_Model_areAlike_15 : decode prog_14_method_30_code 15 = .ok (.iconst 1, 1) := by decide +kernel
theorem d_Model_areAlike_16 : decode prog_14_method_30_code 16 = .ok (.goto 4, 3) := by decide +kernel
theorem d_Model_areAlike_19 : decode prog_14_method_30_code 19 = .ok (.iconst 0, 1) := by decide +kernel
theorem d_Model_areAlike_20 : decode prog_14_method_30_code 20 = .ok (.istore_n 3, 1) := by decide +kernel
theorem d_Model_areAlike_21 : decode prog_14_method_30_code 21 = .ok (.iconst 0, 1) := by decide +kernel
theorem d_Model_areAlike_22 : decode prog_14_method_30_code 22 = .ok (.istore 4, 2) := by decide +kernel
theorem d_Model_areAlike_24 : decode prog_14_method_30_code 24 = .ok (.iload_n 3, 1) := by decide +kernel
theorem d_Model_areAlike_25 : decode prog_14_method_30_code 25 = .ok (.ifCond .eq 53, 3) := by decide +kernel
theorem d_Model_areAlike_28 : decode prog_14_method_30_code 28 = .ok (.iload 4, 2) := by decide +kernel
theorem d_Model_areAlike_30 : decode prog_14_method_30_code 30 = .ok (.aload_n 0, 1) := by decide +kernel
theorem d_Model_areAlike_31 : decode prog_14_method_30_code 31 = .ok (.getfield 52, 3) := by decide +kernel
theorem d_Model_areAlike_34 : decode prog_14_method_30_code 34 = .ok (.iload_n 1, 1) := by decide +kernel
theorem d_Model_areAlike_35 : decode prog_14_method_30_code 35 = .ok (.iaload, 1) := by decide +kernel
theorem d_Model_areAlike_36 : decode prog_14_method_30_code 36 = .ok (.if_icmp .ge 42, 3) := by decide +kernel
theorem d_Model_areAlike_39 : decode prog_14_method_30_code 39 = .ok (.aload_n 0, 1) := by decide +kernel
theorem d_Model_areAlike_40 : decode prog_14_method_30_code 40 = .ok (.getfield 49, 3) := by decide +kernel
theorem d_Model_areAlike_43 : decode prog_14_method_30_code 43 = .ok (.bipush 20, 2) := by decide +kernel
theorem d_Model_areAlike_45 : decode prog_14_method_30_code 45 = .ok (.iload_n 1, 1) := by decide +kernel
theorem d_Model_areAlike_46 : decode prog_14_method_30_code 46 = .ok (.imul, 1) := by decide +kernel
theorem d_Model_areAlike_47 : decode prog_14_method_30_code 47 = .ok (.iload 4, 2) := by decide +kernel
theorem d_Model_areAlike_49 : decode prog_14_method_30_code 49 = .ok (.iadd, 1) := by decide +kernel
theorem d_Model_areAlike_50 : decode prog_14_method_30_code 50 = .ok (.iaload, 1) := by decide +kernel
theorem d_Model_areAlike_51 : decode prog_14_method_30_code 51 = .ok (.aload_n 0, 1) := by decide +kernel
theorem d_Model_areAlike_52 : decode prog_14_method_30_code 52 = .ok (.getfield 49, 3) := by decide +kernel
theorem d_Model_areAlike_55 : decode prog_14_method_30_code 55 = .ok (.bipush 20, 2) := by decide +kernel
theorem d_Model_areAlike_57 : decode prog_14_method_30_code 57 = .ok (.iload_n 2, 1) := by decide +kernel
theorem d_Model_areAlike_58 : decode prog_14_method_30_code 58 = .ok (.imul, 1) := by decide +kernel
theorem d_Model_areAlike_59 : decode prog_14_method_30_code 59 = .ok (.iload 4, 2) := by decide +kernel
theorem d_Model_areAlike_61 : decode prog_14_method_30_code 61 = .ok (.iadd, 1) := by decide +kernel
theorem d_Model_areAlike_62 : decode prog_14_method_30_code 62 = .ok (.iaload, 1) := by decide +kernel
theorem d_Model_areAlike_63 : decode prog_14_method_30_code 63 = .ok (.if_icmp .ne 7, 3) := by decide +kernel
theorem d_Model_areAlike_66 : decode prog_14_method_30_code 66 = .ok (.iconst 1, 1) := by decide +kernel
theorem d_Model_areAlike_67 : decode prog_14_method_30_code 67 = .ok (.goto 4, 3) := by decide +kernel
theorem d_Model_areAlike_70 : decode prog_14_method_30_code 70 = .ok (.iconst 0, 1) := by decide +kernel
theorem d_Model_areAlike_71 : decode prog_14_method_30_code 71 = .ok (.istore_n 3, 1) := by decide +kernel
theorem d_Model_areAlike_72 : decode prog_14_method_30_code 72 = .ok (.iinc 4 1, 3) := by decide +kernel
theorem d_Model_areAlike_75 : decode prog_14_method_30_code 75 = .ok (.goto (-51), 3) := by decide +kernel
theorem d_Model_areAlike_78 : decode prog_14_method_30_code 78 = .ok (.iload_n 3, 1) := by decide +kernel
theorem d_Model_keep_0 : decode prog_14_method_92_code 0 = .ok (.aload_n 0, 1) := by decide +kernel
theorem d_Model_keep_1 : decode prog_14_method_92_code 1 = .ok (.iconst 0, 1) := by decide +kernel
theorem d_Model_keep_2 : decode prog_14_method_92_code 2 = .ok (.putfield 1, 3) := by decide +kernel
theorem d_Model_keep_5 : decode prog_14_method_92_code 5 = .ok (.iload_n 1, 1) := by decide +kernel
theorem d_Model_keep_6 : decode prog_14_method_92_code 6 = .ok (.i2l, 1) := by decide +kernel
theorem d_Model_keep_7 : decode prog_14_method_92_code 7 = .ok (.lconst 0, 1) := by decide +kernel
theorem d_Model_keep_8 : decode prog_14_method_92_code 8 = .ok (.lconst 1, 1) := by decide +kernel
theorem d_Model_keep_9 : decode prog_14_method_92_code 9 = .ok (.invokestatic 138, 3) := by decide +kernel
theorem d_Model_keep_12 : decode prog_14_method_92_code 12 = .ok (.ifCond .ne 5, 3) := by decide +kernel
theorem d_Model_keep_15 : decode prog_14_method_92_code 15 = .ok (.iconst 0, 1) := by decide +kernel
theorem d_Model_keep_16 : decode prog_14_method_92_code 16 = .ok (.ireturn, 1) := by decide +kernel
theorem d_Model_keep_17 : decode prog_14_method_92_code 17 = .ok (.iconst 0, 1) := by decide +kernel
theorem d_Model_keep_18 : decode prog_14_method_92_code 18 = .ok (.istore_n 2, 1) := by decide +kernel
theorem d_Model_keep_19 : decode prog_14_method_92_code 19 = .ok (.iload_n 2, 1) := by decide +kernel
theorem d_Model_keep_20 : decode prog_14_method_92_code 20 = .ok (.sipush 503, 3) := by decide +kernel
theorem d_Model_keep_23 : decode prog_14_method_92_code 23 = .ok (.if_icmp .ge 27, 3) := by decide +kernel
theorem d_Model_keep_26 : decode prog_14_method_92_code 26 = .ok (.aload_n 0, 1) := by decide +kernel
theorem d_Model_keep_27 : decode prog_14_method_92_code 27 = .ok (.getfield 17, 3) := by decide +kernel
theorem d_Model_keep_30 : decode prog_14_method_92_code 30 = .ok (.sipush 503, 3) := by decide +kernel
theorem d_Model_keep_33 : decode prog_14_method_92_code 33 = .ok (.iload_n 1, 1) := by decide +kernel
theorem d_Model_keep_34 : decode prog_14_method_92_code 34 = .ok (.imul, 1) := by decide +kernel
theorem d_Model_keep_35 : decode prog_14_method_92_code 35 = .ok (.iload_n 2, 1) := by decide +kernel
theorem d_Model_keep_36 : decode prog_14_method_92_code 36 = .ok (.iadd, 1) := by decide +kernel
theorem d_Model_keep_37 : decode prog_14_method_92_code 37 = .ok (.aload_n 0, 1) := by decide +kernel
theorem d_Model_keep_38 : decode prog_14_method_92_code 38 = .ok (.getfield 13, 3) := by decide +kernel
theorem d_Model_keep_41 : decode prog_14_method_92_code 41 = .ok (.iload_n 2, 1) := by decide +kernel
theorem d_Model_keep_42 : decode prog_14_method_92_code 42 = .ok (.iaload, 1) := by decide +kernel
theorem d_Model_keep_43 : decode prog_14_method_92_code 43 = .ok (.iastore, 1) := by decide +kernel
theorem d_Model_keep_44 : decode prog_14_method_92_code 44 = .ok (.iinc 2 1, 3) := by decide +kernel
theorem d_Model_keep_47 : decode prog_14_method_92_code 47 = .ok (.goto (-28), 3) := by decide +kernel
theorem d_Model_keep_50 : decode prog_14_method_92_code 50 = .ok (.aload_n 0, 1) := by decide +kernel
theorem d_Model_keep_51 : decode prog_14_method_92_code 51 = .ok (.getfield 20, 3) := by decide +kernel
theorem d_Model_keep_54 : decode prog_14_method_92_code 54 = .ok (.iload_n 1, 1) := by decide +kernel
theorem d_Model_keep_55 : decode prog_14_method_92_code 55 = .ok (.iconst 1, 1) := by decide +kernel
theorem d_Model_keep_56 : decode prog_14_method_92_code 56 = .ok (.bastore, 1) := by decide +kernel
theorem d_Model_keep_57 : decode prog_14_method_92_code 57 = .ok (.iconst 1, 1) := by decide +kernel
theorem d_Model_keep_58 : decode prog_14_method_92_code 58 = .ok (.ireturn, 1) := by decide +kernel
abbrev m_s1_Model_keep : Room := { frames := 1, cells := 0, slots := 0, locals := 25 }
set_option maxHeartbeats 4000000 in
set_option maxRecDepth 100000 in
theorem s1_Model_keep (l : Launch) (G : zG) (b0 : Nat) (b1 : Int32) (b2 : Int32) (b3 : Nat) (b4 : Nat) (b5 : Nat) (b6 : Nat) (b7 : Int32) (b8 : Nat) (b9 : Int32) (b10 : Int32) (b11 : Int32) (b12 : Int32) (b13 : Nat) (b14 : Nat) (b15 : Nat) (b16 : Int32) (b17 : Nat) (b18 : Nat) (b19 : Nat) (b20 : Nat) (b21 : Nat) (b22 : Nat) (b23 : Nat) (b24 : Nat) (b25 : Nat) (b26 : Nat) (b27 : Nat) (b28 : Nat) (b29 : Int32) (b30 : Nat) (b31 : Nat) (b32 : Int32) (b33 : Int32) (b34 : Int32) (b35 : Int32) (b36 : Nat) (b37 : Nat) (b38 : Nat) (b39 : Nat) (b40 : Nat) (b41 : Nat) (b42 : Nat) (b43 : Int32) (b44 : Nat) (b45 : Nat) (b46 : Int32) (b47 : Nat) (b48 : Nat) (b49 : Nat) (b50 : Nat) (b51 : Nat) (b52 : Int32) (b53 : Nat) (b54 : Nat) (b55 : Nat) (b56 : Nat → Int32) (b57 : Nat → Int32) (b58 : Nat → Int32) (hb7 : zI b7 0 8) (hb9 : zI b9 0 240) (hb10 : zI b10 0 240) (hb12 : zI b12 0 1) (hb16 : zI b16 0 12) (hb29 : zI b29 0 1) (hb32 : zI b32 0 1) (hb56 : zW5 b56) (hb57 : zW5 b57) : zM l G y_Model_keep prog_14_method_92_code 3 (Option.some Jvm.ClassFile.FieldType.boolean) m_s1_Model_keep [.ref b0, .int b1] [(b0, .inr (12, [.int b2, .ref b3, .ref b4, .ref b5, .ref b6, .int b7, .ref b8, .int b9, .int b10, .int b11, .int b12, .ref b13, .ref b14, .ref b15, .int b16, .ref b17, .ref b18, .ref b19, .ref b20, .ref b21, .ref b22, .ref b23, .ref b24, .ref b25, .ref b26, .ref b27, .ref b28, .int b29, .ref b30, .ref b31, .int b32, .int b33, .int b34, .int b35, .ref b36, .ref b37, .ref b38, .ref b39, .ref b40, .ref b41, .ref b42, .int b43, .ref b44, .ref b45, .int b46, .ref b47, .ref b48, .ref b49, .ref b50, .ref b51, .int b52, .ref b53, .ref b54, .ref b55])), (b3, .inl (G.2 0, 503, .inl b56)), (b4, .inl (G.2 0, 1006, .inl b57)), (b5, .inl (G.2 4, 2, .inl b58))] (fun v w => ∃ (e0 : Int32), ∃ (e1 : Nat → Int32), ∃ (e2 : Nat → Int32), v = some (.int e0) ∧ w = [(b0, .inr (12, [.int 0, .ref b3, .ref b4, .ref b5, .ref b6, .int b7, .ref b8, .int b9, .int b10, .int b11, .int b12, .ref b13, .ref b14, .ref b15, .int b16, .ref b17, .ref b18, .ref b19, .ref b20, .ref b21, .ref b22, .ref b23, .ref b24, .ref b25, .ref b26, .ref b27, .ref b28, .int b29, .ref b30, .ref b31, .int b32, .int b33, .int b34, .int b35, .ref b36, .ref b37, .ref b38, .ref b39, .ref b40, .ref b41, .ref b42, .int b43, .ref b44, .ref b45, .int b46, .ref b47, .ref b48, .ref b49, .ref b50, .ref b51, .int b52, .ref b53, .ref b54, .ref b55])), (b3, .inl (G.2 0, 503, .inl b56)), (b4, .inl (G.2 0, 1006, .inl e1)), (b5, .inl (G.2 4, 2, .inl e2))] ∧ (zI e0 0 1) ∧ (zW5 e1)) := by
  refine z_start (by decide +kernel) (Nat.le_of_ble_eq_true rfl) ?_
  intro p e s m below meth c A Z hr hnm hA hP hD hS ls hl
  have Z : zC p s m _ meth c prog_14_method_92_code 3 "TraceMachinesModel" G := Z
  obtain ⟨hx, hb, hml, hown, hts, hK, hN, hlocks⟩ := id Z
  have hl : lv_has ls 3 [(0, .ref b0), (1, .int b1)] := hl
  refine lv_aload_n hx hb d_Model_keep_0 rfl (lv_at hl 0 rfl) ?_
  refine lv_iconst (v := 0) hx hb d_Model_keep_1 (by decide) ?_
  refine va_put (D := G.1) (ci := 12) (v := .int 0) (ty := .int) (C := R_Model) (T := F_Model) (N := 54) hx hb hts i_Model t_Model t_Model_ok n_Model hown hK hP hD hS 0 rfl rfl 0 (by decide) (hts _ q1109) (fun _ h9 => h9) rfl (by decide +kernel) rfl rfl (Nat.le_of_ble_eq_true rfl) d_Model_keep_2 (fun H locs hP hD hS => ?_)
  have hP : va_P G.1 classes [(b0, .inr (12, [.int 0, .ref b3, .ref b4, .ref b5, .ref b6, .int b7, .ref b8, .int b9, .int b10, .int b11, .int b12, .ref b13, .ref b14, .ref b15, .int b16, .ref b17, .ref b18, .ref b19, .ref b20, .ref b21, .ref b22, .ref b23, .ref b24, .ref b25, .ref b26, .ref b27, .ref b28, .int b29, .ref b30, .ref b31, .int b32, .int b33, .int b34, .int b35, .ref b36, .ref b37, .ref b38, .ref b39, .ref b40, .ref b41, .ref b42, .int b43, .ref b44, .ref b45, .int b46, .ref b47, .ref b48, .ref b49, .ref b50, .ref b51, .int b52, .ref b53, .ref b54, .ref b55])), (b3, .inl (G.2 0, 503, .inl b56)), (b4, .inl (G.2 0, 1006, .inl b57)), (b5, .inl (G.2 4, 2, .inl b58))] H := hP
  have hD := z_tie hP hD rfl
  refine lv_iload_n hx hb d_Model_keep_5 rfl (lv_at hl 1 rfl) ?_
  refine lv_i2l (v := b1.toInt64) hx hb d_Model_keep_6 rfl ?_
  refine lv_lconst (v := 0) hx hb d_Model_keep_7 (by decide) ?_
  refine lv_lconst (v := 1) hx hb d_Model_keep_8 (by decide) ?_
  refine z_callS (index := 138) (As := [.long b1.toInt64, .long 0, .long 1]) (rest := []) (wr := [(b0, .inr (12, [.int 0, .ref b3, .ref b4, .ref b5, .ref b6, .int b7, .ref b8, .int b9, .int b10, .int b11, .int b12, .ref b13, .ref b14, .ref b15, .int b16, .ref b17, .ref b18, .ref b19, .ref b20, .ref b21, .ref b22, .ref b23, .ref b24, .ref b25, .ref b26, .ref b27, .ref b28, .int b29, .ref b30, .ref b31, .int b32, .int b33, .int b34, .int b35, .ref b36, .ref b37, .ref b38, .ref b39, .ref b40, .ref b41, .ref b42, .int b43, .ref b44, .ref b45, .int b46, .ref b47, .ref b48, .ref b49, .ref b50, .ref b51, .int b52, .ref b53, .ref b54, .ref b55])), (b3, .inl (G.2 0, 503, .inl b56)), (b4, .inl (G.2 0, 1006, .inl b57)), (b5, .inl (G.2 4, 2, .inl b58))]) Z (s2_Model_in l G (b1.toInt64) (0) (1)) hl.1 q1281 q1282 q14 q1283 ⟨by decide, by decide, by show _ = some 3; decide +kernel⟩ ⟨Nat.le_of_ble_eq_true rfl, Nat.le_of_ble_eq_true rfl⟩ ⟨Nat.le_of_ble_eq_true rfl, Nat.le_of_ble_eq_true rfl⟩ rfl (Nat.le_of_ble_eq_true rfl) d_Model_keep_9 hP hD hS hA [] [0, 1, 2, 3] rfl rfl rfl rfl (by decide) (fun v w1 H locs hw_1 hP hD hS => ?_)
  rcases hw_1 with ⟨rfl, rfl, hq_2⟩ | ⟨rfl, rfl, hq_3, hq_4⟩ | ⟨rfl, rfl, hq_5, hq_6⟩
  · have hP : va_P G.1 classes [(b0, .inr (12, [.int 0, .ref b3, .ref b4, .ref b5, .ref b6, .int b7, .ref b8, .int b9, .int b10, .int b11, .int b12, .ref b13, .ref b14, .ref b15, .int b16, .ref b17, .ref b18, .ref b19, .ref b20, .ref b21, .ref b22, .ref b23, .ref b24, .ref b25, .ref b26, .ref b27, .ref b28, .int b29, .ref b30, .ref b31, .int b32, .int b33, .int b34, .int b35, .ref b36, .ref b37, .ref b38, .ref b39, .ref b40, .ref b41, .ref b42, .int b43, .ref b44, .ref b45, .int b46, .ref b47, .ref b48, .ref b49, .ref b50, .ref b51, .int b52, .ref b53, .ref b54, .ref b55])), (b3, .inl (G.2 0, 503, .inl b56)), (b4, .inl (G.2 0, 1006, .inl b57)), (b5, .inl (G.2 4, 2, .inl b58))] H := hP
    have hD := z_tie hP hD rfl
    try simp only [Int32.toInt_toInt64, ll_0] at hq_2
    have hv_7 : zI b1 (-2147483648) (-1) := by have _a := hq_2; have _b := (zI_all b1); have _c := zcl_0; simp only [Int32.toInt_toInt64] at *; exact ⟨by omega, by omega⟩
    refine W.widen (k := 0) (n := 0) (Nat.le_of_ble_eq_true rfl) (Nat.le_of_ble_eq_true rfl) ?_
    refine lv_if_ne (tgt := 17) hx hb d_Model_keep_12 (by decide) (fun hc => absurd hc (by decide +kernel)) (fun _ => ?_)
    refine lv_iconst (v := 0) hx hb d_Model_keep_15 (by decide) ?_
    exact z_zret hx hb hr hlocks rfl hP hD hS (Nat.le_of_ble_eq_true rfl) (Nat.le_of_ble_eq_true rfl) d_Model_keep_16 ⟨0, b57, b58, rfl, rfl, (zI.wk (l' := 0) (h' := 1) zc_0 (by decide)), hb57⟩
  · have hP : va_P G.1 classes [(b0, .inr (12, [.int 0, .ref b3, .ref b4, .ref b5, .ref b6, .int b7, .ref b8, .int b9, .int b10, .int b11, .int b12, .ref b13, .ref b14, .ref b15, .int b16, .ref b17, .ref b18, .ref b19, .ref b20, .ref b21, .ref b22, .ref b23, .ref b24, .ref b25, .ref b26, .ref b27, .ref b28, .int b29, .ref b30, .ref b31, .int b32, .int b33, .int b34, .int b35, .ref b36, .ref b37, .ref b38, .ref b39, .ref b40, .ref b41, .ref b42, .int b43, .ref b44, .ref b45, .int b46, .ref b47, .ref b48, .ref b49, .ref b50, .ref b51, .int b52, .ref b53, .ref b54, .ref b55])), (b3, .inl (G.2 0, 503, .inl b56)), (b4, .inl (G.2 0, 1006, .inl b57)), (b5, .inl (G.2 4, 2, .inl b58))] H := hP
    have hD := z_tie hP hD rfl
    try simp only [Int32.toInt_toInt64, ll_0] at hq_3
    have hv_8 : zI b1 0 2147483647 := by have _a := hq_3; have _b := (zI_all b1); have _c := zcl_0; simp only [Int32.toInt_toInt64] at *; exact ⟨by omega, by omega⟩
    try simp only [Int32.toInt_toInt64, ll_1] at hq_4
    have hv_9 : zI b1 2 2147483647 := by have _a := hq_4; have _b := hv_8; have _c := zcl_1; simp only [Int32.toInt_toInt64] at *; exact ⟨by omega, by omega⟩
    refine W.widen (k := 0) (n := 0) (Nat.le_of_ble_eq_true rfl) (Nat.le_of_ble_eq_true rfl) ?_
    refine lv_if_ne (tgt := 17) hx hb d_Model_keep_12 (by decide) (fun hc => absurd hc (by decide +kernel)) (fun _ => ?_)
    refine lv_iconst (v := 0) hx hb d_Model_keep_15 (by decide) ?_
    exact z_zret hx hb hr hlocks rfl hP hD hS (Nat.le_of_ble_eq_true rfl) (Nat.le_of_ble_eq_true rfl) d_Model_keep_16 ⟨0, b57, b58, rfl, rfl, (zI.wk (l' := 0) (h' := 1) zc_0 (by decide)), hb57⟩
  · have hP : va_P G.1 classes [(b0, .inr (12, [.int 0, .ref b3, .ref b4, .ref b5, .ref b6, .int b7, .ref b8, .int b9, .int b10, .int b11, .int b12, .ref b13, .ref b14, .ref b15, .int b16, .ref b17, .ref b18, .ref b19, .ref b20, .ref b21, .ref b22, .ref b23, .ref b24, .ref b25, .ref b26, .ref b27, .ref b28, .int b29, .ref b30, .ref b31, .int b32, .int b33, .int b34, .int b35, .ref b36, .ref b37, .ref b38, .ref b39, .ref b40, .ref b41, .ref b42, .int b43, .ref b44, .ref b45, .int b46, .ref b47, .ref b48, .ref b49, .ref b50, .ref b51, .int b52, .ref b53, .ref b54, .ref b55])), (b3, .inl (G.2 0, 503, .inl b56)), (b4, .inl (G.2 0, 1006, .inl b57)), (b5, .inl (G.2 4, 2, .inl b58))] H := hP
    have hD := z_tie hP hD rfl
    try simp only [Int32.toInt_toInt64, ll_0] at hq_5
    have hv_10 : zI b1 0 2147483647 := by have _a := hq_5; have _b := (zI_all b1); have _c := zcl_0; simp only [Int32.toInt_toInt64] at *; exact ⟨by omega, by omega⟩
    try simp only [Int32.toInt_toInt64, ll_1] at hq_6
    have hv_11 : zI b1 0 1 := by have _a := hq_6; have _b := hv_10; have _c := zcl_1; simp only [Int32.toInt_toInt64] at *; exact ⟨by omega, by omega⟩
    refine W.widen (k := 0) (n := 0) (Nat.le_of_ble_eq_true rfl) (Nat.le_of_ble_eq_true rfl) ?_
    refine lv_if_ne (tgt := 17) hx hb d_Model_keep_12 (by decide) (fun _ => ?_) (fun hc => absurd hc (by decide +kernel))
    refine lv_iconst (v := 0) hx hb d_Model_keep_17 (by decide) ?_
    refine lv_istore_n (lv' := [(2, .int 0), (0, .ref b0), (1, .int b1)]) hx hb d_Model_keep_18 rfl hl (by decide) rfl (fun ls hl => ?_)
    suffices key : ∀ (k_105 : Nat) (y_106 : Int32) (y_107 : Nat → Int32) (H : Heap) (locs : List Loc) (ls : Array Slot), (zI y_106 0 503) → (zW5 y_107) → (503 : Int) - y_106.toInt < (k_105 : Int) → va_P G.1 classes [(b0, .inr (12, [.int 0, .ref b3, .ref b4, .ref b5, .ref b6, .int b7, .ref b8, .int b9, .int b10, .int b11, .int b12, .ref b13, .ref b14, .ref b15, .int b16, .ref b17, .ref b18, .ref b19, .ref b20, .ref b21, .ref b22, .ref b23, .ref b24, .ref b25, .ref b26, .ref b27, .ref b28, .int b29, .ref b30, .ref b31, .int b32, .int b33, .int b34, .int b35, .ref b36, .ref b37, .ref b38, .ref b39, .ref b40, .ref b41, .ref b42, .int b43, .ref b44, .ref b45, .int b46, .ref b47, .ref b48, .ref b49, .ref b50, .ref b51, .int b52, .ref b53, .ref b54, .ref b55])), (b3, .inl (G.2 0, 503, .inl b56)), (b4, .inl (G.2 0, 1006, .inl y_107)), (b5, .inl (G.2 4, 2, .inl b58))] H → va_D A [(b0, .inr (12, [.int 0, .ref b3, .ref b4, .ref b5, .ref b6, .int b7, .ref b8, .int b9, .int b10, .int b11, .int b12, .ref b13, .ref b14, .ref b15, .int b16, .ref b17, .ref b18, .ref b19, .ref b20, .ref b21, .ref b22, .ref b23, .ref b24, .ref b25, .ref b26, .ref b27, .ref b28, .int b29, .ref b30, .ref b31, .int b32, .int b33, .int b34, .int b35, .ref b36, .ref b37, .ref b38, .ref b39, .ref b40, .ref b41, .ref b42, .int b43, .ref b44, .ref b45, .int b46, .ref b47, .ref b48, .ref b49, .ref b50, .ref b51, .int b52, .ref b53, .ref b54, .ref b55])), (b3, .inl (G.2 0, 503, .inl b56)), (b4, .inl (G.2 0, 1006, .inl y_107)), (b5, .inl (G.2 4, 2, .inl b58))] → va_S A s.heap H locs → lv_has ls 3 [(2, .int y_106), (0, .ref b0), (1, .int b1)] → W p l e m_s1_Model_keep s m ([.ref b0, .int b1] : List Value).toArray below meth c H locs 0 0 (MQ below (zQ G (fun v w => ∃ (e0 : Int32), ∃ (e1 : Nat → Int32), ∃ (e2 : Nat → Int32), v = some (.int e0) ∧ w = [(b0, .inr (12, [.int 0, .ref b3, .ref b4, .ref b5, .ref b6, .int b7, .ref b8, .int b9, .int b10, .int b11, .int b12, .ref b13, .ref b14, .ref b15, .int b16, .ref b17, .ref b18, .ref b19, .ref b20, .ref b21, .ref b22, .ref b23, .ref b24, .ref b25, .ref b26, .ref b27, .ref b28, .int b29, .ref b30, .ref b31, .int b32, .int b33, .int b34, .int b35, .ref b36, .ref b37, .ref b38, .ref b39, .ref b40, .ref b41, .ref b42, .int b43, .ref b44, .ref b45, .int b46, .ref b47, .ref b48, .ref b49, .ref b50, .ref b51, .int b52, .ref b53, .ref b54, .ref b55])), (b3, .inl (G.2 0, 503, .inl b56)), (b4, .inl (G.2 0, 1006, .inl e1)), (b5, .inl (G.2 4, 2, .inl e2))] ∧ (zI e0 0 1) ∧ (zW5 e1)) A) ([.ref b0, .int b1] : List Value).toArray s m_s1_Model_keep.cells m_s1_Model_keep.slots A) (F0 m 19 ls []) by
      exact key 504 (0) (b57) _ _ _ (zI.wk (l' := 0) (h' := 503) zc_0 (by decide)) hb57 (zm_upi (zI.wk (l' := 0) (h' := 503) zc_0 (by decide)) (by decide)) hP hD hS (lv_sub hl [0, 1, 2] rfl)
    intro k_105
    induction k_105 with
    | zero =>
      intro y_106 y_107 H locs ls hy_106 hy_107 hmk_105 hP hD hS hl
      exact (zm_up0 hy_106 hmk_105).elim
    | succ k_105 ihk_105 =>
      intro y_106 y_107 H locs ls hy_106 hy_107 hmk_105 hP hD hS hl
      refine lv_iload_n hx hb d_Model_keep_19 rfl (lv_at hl 0 rfl) ?_
      refine lv_sipush (v := 503) hx hb d_Model_keep_20 (by decide) ?_
      refine lv_icmp_ge (tgt := 50) hx hb d_Model_keep_23 (by decide) (fun hc_108 => ?_) (fun hc_108 => ?_)
      · have _nhc_108 := hc_108
        have ni_109 := (fa_le _ _).mp hc_108
        rw [li_503] at ni_109
        have hv_110 : zI y_106 503 503 := zI.le_r zc_503 hy_106 hc_108 (by decide)
        refine lv_aload_n hx hb d_Model_keep_50 rfl (lv_at hl 1 rfl) ?_
        refine va_get (D := G.1) (ci := 12) (v := .ref b5) (C := R_Model) (T := F_Model) (N := 54) hx hb hts i_Model hown hK hP 0 rfl rfl 3 (by decide) (hts _ q1112) (fun _ h9 => h9) rfl d_Model_keep_51 ?_
        refine lv_iload_n hx hb d_Model_keep_54 rfl (lv_at hl 2 rfl) ?_
        refine lv_iconst (v := 1) hx hb d_Model_keep_55 (by decide) ?_
        refine va_zast hx hb hK hP hD hS 3 4 rfl rfl (zI.inn hv_11 (by decide)) d_Model_keep_56 (fun H locs hP hD hS => ?_)
        obtain ⟨f_111, hP, hD⟩ := z_newF 3 hP hD rfl
        have hP : va_P G.1 classes [(b0, .inr (12, [.int 0, .ref b3, .ref b4, .ref b5, .ref b6, .int b7, .ref b8, .int b9, .int b10, .int b11, .int b12, .ref b13, .ref b14, .ref b15, .int b16, .ref b17, .ref b18, .ref b19, .ref b20, .ref b21, .ref b22, .ref b23, .ref b24, .ref b25, .ref b26, .ref b27, .ref b28, .int b29, .ref b30, .ref b31, .int b32, .int b33, .int b34, .int b35, .ref b36, .ref b37, .ref b38, .ref b39, .ref b40, .ref b41, .ref b42, .int b43, .ref b44, .ref b45, .int b46, .ref b47, .ref b48, .ref b49, .ref b50, .ref b51, .int b52, .ref b53, .ref b54, .ref b55])), (b3, .inl (G.2 0, 503, .inl b56)), (b4, .inl (G.2 0, 1006, .inl y_107)), (b5, .inl (G.2 4, 2, .inl f_111))] H := hP
        have hD := z_tie hP hD rfl
        refine lv_iconst (v := 1) hx hb d_Model_keep_57 (by decide) ?_
        exact z_zret hx hb hr hlocks rfl hP hD hS (Nat.le_of_ble_eq_true rfl) (Nat.le_of_ble_eq_true rfl) d_Model_keep_58 ⟨1, y_107, f_111, rfl, rfl, (zI.wk (l' := 0) (h' := 1) zc_1 (by decide)), hy_107⟩
      · have _nhc_108 := hc_108
        have ni_112 := (fa_lt _ _).mp (zi_nle hc_108)
        rw [li_503] at ni_112
        have hv_113 : zI y_106 0 502 := zI.lt_l hy_106 zc_503 (zi_nle hc_108) (by decide)
        refine lv_aload_n hx hb d_Model_keep_26 rfl (lv_at hl 1 rfl) ?_
        refine va_get (D := G.1) (ci := 12) (v := .ref b4) (C := R_Model) (T := F_Model) (N := 54) hx hb hts i_Model hown hK hP 0 rfl rfl 2 (by decide) (hts _ q1111) (fun _ h9 => h9) rfl d_Model_keep_27 ?_
        refine lv_sipush (v := 503) hx hb d_Model_keep_30 (by decide) ?_
        refine lv_iload_n hx hb d_Model_keep_33 rfl (lv_at hl 2 rfl) ?_
        refine lv_imul hx hb d_Model_keep_34 ?_
        refine lv_topi (fun v_114 ev_114 => ?_)
        obtain ⟨qv_114, hv_114⟩ := zI_mul (l := 0) (h := 503) zc_503 hv_11 ev_114 (by decide)
        rw [li_503] at qv_114
        refine lv_iload_n hx hb d_Model_keep_35 rfl (lv_at hl 0 rfl) ?_
        refine lv_iadd hx hb d_Model_keep_36 ?_
        refine lv_topi (fun v_115 ev_115 => ?_)
        obtain ⟨qv_115, hv_115⟩ := zI_add (l := 0) (h := 1005) hv_114 hv_113 ev_115 (by decide)
        refine lv_aload_n hx hb d_Model_keep_37 rfl (lv_at hl 1 rfl) ?_
        refine va_get (D := G.1) (ci := 12) (v := .ref b3) (C := R_Model) (T := F_Model) (N := 54) hx hb hts i_Model hown hK hP 0 rfl rfl 1 (by decide) (hts _ q1110) (fun _ h9 => h9) rfl d_Model_keep_38 ?_
        refine lv_iload_n hx hb d_Model_keep_41 rfl (lv_at hl 0 rfl) ?_
        refine va_iald hx hb hK hP 1 0 rfl rfl (zI.inn hv_113 (by decide)) d_Model_keep_42 ?_
        refine lv_topi (fun v_116 ev_116 => ?_)
        refine va_iast hx hb hK hP hD hS 2 0 rfl rfl (zI.inn hv_115 (by decide)) d_Model_keep_43 (fun H locs hP hD hS => ?_)
        obtain ⟨f_117, hf_117, gf_117, uf_117, hP, hD⟩ := z_newfw 2 hP hD rfl hy_107 (zRk_s hb56 ev_116 hv_113 hv_115 (by decide) (by omega))
        have hP : va_P G.1 classes [(b0, .inr (12, [.int 0, .ref b3, .ref b4, .ref b5, .ref b6, .int b7, .ref b8, .int b9, .int b10, .int b11, .int b12, .ref b13, .ref b14, .ref b15, .int b16, .ref b17, .ref b18, .ref b19, .ref b20, .ref b21, .ref b22, .ref b23, .ref b24, .ref b25, .ref b26, .ref b27, .ref b28, .int b29, .ref b30, .ref b31, .int b32, .int b33, .int b34, .int b35, .ref b36, .ref b37, .ref b38, .ref b39, .ref b40, .ref b41, .ref b42, .int b43, .ref b44, .ref b45, .int b46, .ref b47, .ref b48, .ref b49, .ref b50, .ref b51, .int b52, .ref b53, .ref b54, .ref b55])), (b3, .inl (G.2 0, 503, .inl b56)), (b4, .inl (G.2 0, 1006, .inl f_117)), (b5, .inl (G.2 4, 2, .inl b58))] H := hP
        have hD := z_tie hP hD rfl
        obtain ⟨v_118, ev_118⟩ : ∃ z : Int32, z = y_106 + 1 := ⟨_, rfl⟩
        obtain ⟨qv_118, hv_118⟩ := zI_add (l := 1) (h := 503) hv_113 zc_1 ev_118 (by decide)
        rw [li_1] at qv_118
        refine lv_iinc (v := v_118) (lv' := [(2, .int v_118), (0, .ref b0), (1, .int b1)]) hx hb d_Model_keep_44 hl (k := 0) rfl (by rw [ev_118]; rfl) (by decide) rfl (fun ls hl => ?_)
        refine lv_goto (tgt := 19) hx hb d_Model_keep_47 (by decide) ?_
        exact ihk_105 (v_118) (f_117) _ _ _ (zI.wk (l' := 0) (h' := 503) hv_118 (by decide)) hf_117 (zm_up qv_118 hmk_105 (by decide)) hP hD hS (lv_sub hl [0, 1, 2] rfl)
theorem d_Model_again_0 : decode prog_14_method_93_code 0 = .ok (.aload_n 0, 1) := by decide +kernel
theorem d_Model_again_1 : decode prog_14_method_93_code 1 = .ok (.iconst 0, 1) := by decide +kernel
theorem d_Model_again_2 : decode prog_14_method_93_code 2 = .ok (.putfield 1, 3) := by decide +kernel
theorem d_Model_again_5 : decode prog_14_method_93_code 5 = .ok (.iload_n 1, 1) := by decide +kernel
theorem d_Model_again_6 : decode prog_14_method_93_code 6 = .ok (.i2l, 1) := by decide +kernel
theorem d_Model_again_7 : decode prog_14_method_93_code 7 = .ok (.lconst 0, 1) := by decide +kernel
theorem d_Model_again_8 : decode prog_14_method_93_code 8 = .ok (.lconst 1, 1) := by decide +kernel
theorem d_Model_again_9 : decode prog_14_method_93_code 9 = .ok (.invokestatic 138, 3) := by decide +kernel
theorem d_Model_again_12 : decode prog_14_method_93_code 12 = .ok (.ifCond .eq 12, 3) := by decide +kernel
theorem d_Model_again_15 : decode prog_14_method_93_code 15 = .ok (.aload_n 0, 1) := by decide +kernel
theorem d_Model_again_16 : decode prog_14_method_93_code 16 = .ok (.getfield 20, 3) := by decide +kernel
theorem d_Model_again_19 : decode prog_14_method_93_code 19 = .ok (.iload_n 1, 1) := by decide +kernel
theorem d_Model_again_20 : decode prog_14_method_93_code 20 = .ok (.baload, 1) := by decide +kernel
theorem d_Model_again_21 : decode prog_14_method_93_code 21 = .ok (.ifCond .ne 5, 3) := by decide +kernel
theorem d_Model_again_24 : decode prog_14_method_93_code 24 = .ok (.iconst 0, 1) := by decide +kernel
theorem d_Model_again_25 : decode prog_14_method_93_code 25 = .ok (.ireturn, 1) := by decide +kernel
theorem d_Model_again_26 : decode prog_14_method_93_code 26 = .ok (.iconst 0, 1) := by decide +kernel
theorem d_Model_again_27 : decode prog_14_method_93_code 27 = .ok (.istore_n 2, 1) := by decide +kernel
theorem d_Model_again_28 : decode prog_14_method_93_code 28 = .ok (.iload_n 2, 1) := by decide +kernel
theorem d_Model_again_29 : decode prog_14_method_93_code 29 = .ok (.sipush 503, 3) := by decide +kernel
theorem d_Model_again_32 : decode prog_14_method_93_code 32 = .ok (.if_icmp .ge 27, 3) := by decide +kernel
theorem d_Model_again_35 : decode prog_14_method_93_code 35 = .ok (.aload_n 0, 1) := by decide +kernel
theorem d_Model_again_36 : decode prog_14_method_93_code 36 = .ok (.getfield 13, 3) := by decide +kernel
theorem d_Model_again_39 : decode prog_14_method_93_code 39 = .ok (.iload_n 2, 1) := by decide +kernel
theorem d_Model_again_40 : decode prog_14_method_93_code 40 = .ok (.aload_n 0, 1) := by decide +kernel
theorem d_Model_again_41 : decode prog_14_method_93_code 41 = .ok (.getfield 17, 3) := by decide +kernel
theorem d_Model_again_44 : decode prog_14_method_93_code 44 = .ok (.sipush 503, 3) := by decide +kernel
theorem d_Model_again_47 : decode prog_14_method_93_code 47 = .ok (.iload_n 1, 1) := by decide +kernel
theorem d_Model_again_48 : decode prog_14_method_93_code 48 = .ok (.imul, 1) := by decide +kernel
theorem d_Model_again_49 : decode prog_14_method_93_code 49 = .ok (.iload_n 2, 1) := by decide +kernel
theorem d_Model_again_50 : decode prog_14_method_93_code 50 = .ok (.iadd, 1) := by decide +kernel
theorem d_Model_again_51 : decode prog_14_method_93_code 51 = .ok (.iaload, 1) := by decide +kernel
theorem d_Model_again_52 : decode prog_14_method_93_code 52 = .ok (.iastore, 1) := by decide +kernel
theorem d_Model_again_53 : decode prog_14_method_93_code 53 = .ok (.iinc 2 1, 3) := by decide +kernel
theorem d_Model_again_56 : decode prog_14_method_93_code 56 = .ok (.goto (-28), 3) := by decide +kernel
theorem d_Model_again_59 : decode prog_14_method_93_code 59 = .ok (.aload_n 0, 1) := by decide +kernel
theorem d_Model_again_60 : decode prog_14_method_93_code 60 = .ok (.iconst 0, 1) := by decide +kernel
theorem d_Model_again_61 : decode prog_14_method_93_code 61 = .ok (.putfield 179, 3) := by decide +kernel
theorem d_Model_again_64 : decode prog_14_method_93_code 64 = .ok (.iconst 1, 1) := by decide +kernel
theorem d_Model_again_65 : decode prog_14_method_93_code 65 = .ok (.ireturn, 1) := by decide +kernel
abbrev m_s1_Model_again : Room := { frames := 1, cells := 0, slots := 0, locals := 25 }
set_option maxHeartbeats 4000000 in
set_option maxRecDepth 100000 in
theorem s1_Model_again (l : Launch) (G : zG) (b0 : Nat) (b1 : Int32) (b2 : Int32) (b3 : Nat) (b4 : Nat) (b5 : Nat) (b6 : Nat) (b7 : Int32) (b8 : Nat) (b9 : Int32) (b10 : Int32) (b11 : Int32) (b12 : Int32) (b13 : Nat) (b14 : Nat) (b15 : Nat) (b16 : Int32) (b17 : Nat) (b18 : Nat) (b19 : Nat) (b20 : Nat) (b21 : Nat) (b22 : Nat) (b23 : Nat) (b24 : Nat) (b25 : Nat) (b26 : Nat) (b27 : Nat) (b28 : Nat) (b29 : Int32) (b30 : Nat) (b31 : Nat) (b32 : Int32) (b33 : Int32) (b34 : Int32) (b35 : Int32) (b36 : Nat) (b37 : Nat) (b38 : Nat) (b39 : Nat) (b40 : Nat) (b41 : Nat) (b42 : Nat) (b43 : Int32) (b44 : Nat) (b45 : Nat) (b46 : Int32) (b47 : Nat) (b48 : Nat) (b49 : Nat) (b50 : Nat) (b51 : Nat) (b52 : Int32) (b53 : Nat) (b54 : Nat) (b55 : Nat) (b56 : Nat → Int32) (b57 : Nat → Int32) (b58 : Nat → Int32) (hb7 : zI b7 0 8) (hb9 : zI b9 0 240) (hb10 : zI b10 0 240) (hb12 : zI b12 0 1) (hb16 : zI b16 0 12) (hb29 : zI b29 0 1) (hb32 : zI b32 0 1) (hb56 : zW5 b56) (hb57 : zW5 b57) : zM l G y_Model_again prog_14_method_93_code 3 (Option.some Jvm.ClassFile.FieldType.boolean) m_s1_Model_again [.ref b0, .int b1] [(b0, .inr (12, [.int b2, .ref b3, .ref b4, .ref b5, .ref b6, .int b7, .ref b8, .int b9, .int b10, .int b11, .int b12, .ref b13, .ref b14, .ref b15, .int b16, .ref b17, .ref b18, .ref b19, .ref b20, .ref b21, .ref b22, .ref b23, .ref b24, .ref b25, .ref b26, .ref b27, .ref b28, .int b29, .ref b30, .ref b31, .int b32, .int b33, .int b34, .int b35, .ref b36, .ref b37, .ref b38, .ref b39, .ref b40, .ref b41, .ref b42, .int b43, .ref b44, .ref b45, .int b46, .ref b47, .ref b48, .ref b49, .ref b50, .ref b51, .int b52, .ref b53, .ref b54, .ref b55])), (b3, .inl (G.2 0, 503, .inl b56)), (b4, .inl (G.2 0, 1006, .inl b57)), (b5, .inl (G.2 4, 2, .inl b58))] (fun v w => ∃ (e0 : Int32), ∃ (e1 : Int32), ∃ (e2 : Nat → Int32), v = some (.int e0) ∧ w = [(b0, .inr (12, [.int 0, .ref b3, .ref b4, .ref b5, .ref b6, .int e1, .ref b8, .int b9, .int b10, .int b11, .int b12, .ref b13, .ref b14, .ref b15, .int b16, .ref b17, .ref b18, .ref b19, .ref b20, .ref b21, .ref b22, .ref b23, .ref b24, .ref b25, .ref b26, .ref b27, .ref b28, .int b29, .ref b30, .ref b31, .int b32, .int b33, .int b34, .int b35, .ref b36, .ref b37, .ref b38, .ref b39, .ref b40, .ref b41, .ref b42, .int b43, .ref b44, .ref b45, .int b46, .ref b47, .ref b48, .ref b49, .ref b50, .ref b51, .int b52, .ref b53, .ref b54, .ref b55])), (b3, .inl (G.2 0, 503, .inl e2)), (b4, .inl (G.2 0, 1006, .inl b57)), (b5, .inl (G.2 4, 2, .inl b58))] ∧ (zI e0 0 1) ∧ (zI e1 0 8) ∧ (zW5 e2)) := by
  refine z_start (by decide +kernel) (Nat.le_of_ble_eq_true rfl) ?_
  intro p e s m below meth c A Z hr hnm hA hP hD hS ls hl
  have Z : zC p s m _ meth c prog_14_method_93_code 3 "TraceMachinesModel" G := Z
  obtain ⟨hx, hb, hml, hown, hts, hK, hN, hlocks⟩ := id Z
  have hl : lv_has ls 3 [(0, .ref b0), (1, .int b1)] := hl
  refine lv_aload_n hx hb d_Model_again_0 rfl (lv_at hl 0 rfl) ?_
  refine lv_iconst (v := 0) hx hb d_Model_again_1 (by decide) ?_
  refine va_put (D := G.1) (ci := 12) (v := .int 0) (ty := .int) (C := R_Model) (T := F_Model) (N := 54) hx hb hts i_Model t_Model t_Model_ok n_Model hown hK hP hD hS 0 rfl rfl 0 (by decide) (hts _ q1109) (fun _ h9 => h9) rfl (by decide +kernel) rfl rfl (Nat.le_of_ble_eq_true rfl) d_Model_again_2 (fun H locs hP hD hS => ?_)
  have hP : va_P G.1 classes [(b0, .inr (12, [.int 0, .ref b3, .ref b4, .ref b5, .ref b6, .int b7, .ref b8, .int b9, .int b10, .int b11, .int b12, .ref b13, .ref b14, .ref b15, .int b16, .ref b17, .ref b18, .ref b19, .ref b20, .ref b21, .ref b22, .ref b23, .ref b24, .ref b25, .ref b26, .ref b27, .ref b28, .int b29, .ref b30, .ref b31, .int b32, .int b33, .int b34, .int b35, .ref b36, .ref b37, .ref b38, .ref b39, .ref b40, .ref b41, .ref b42, .int b43, .ref b44, .ref b45, .int b46, .ref b47, .ref b48, .ref b49, .ref b50, .ref b51, .int b52, .ref b53, .ref b54, .ref b55])), (b3, .inl (G.2 0, 503, .inl b56)), (b4, .inl (G.2 0, 1006, .inl b57)), (b5, .inl (G.2 4, 2, .inl b58))] H := hP
  have hD := z_tie hP hD rfl
  refine lv_iload_n hx hb d_Model_again_5 rfl (lv_at hl 1 rfl) ?_
  refine lv_i2l (v := b1.toInt64) hx hb d_Model_again_6 rfl ?_
  refine lv_lconst (v := 0) hx hb d_Model_again_7 (by decide) ?_
  refine lv_lconst (v := 1) hx hb d_Model_again_8 (by decide) ?_
  refine z_callS (index := 138) (As := [.long b1.toInt64, .long 0, .long 1]) (rest := []) (wr := [(b0, .inr (12, [.int 0, .ref b3, .ref b4, .ref b5, .ref b6, .int b7, .ref b8, .int b9, .int b10, .int b11, .int b12, .ref b13, .ref b14, .ref b15, .int b16, .ref b17, .ref b18, .ref b19, .ref b20, .ref b21, .ref b22, .ref b23, .ref b24, .ref b25, .ref b26, .ref b27, .ref b28, .int b29, .ref b30, .ref b31, .int b32, .int b33, .int b34, .int b35, .ref b36, .ref b37, .ref b38, .ref b39, .ref b40, .ref b41, .ref b42, .int b43, .ref b44, .ref b45, .int b46, .ref b47, .ref b48, .ref b49, .ref b50, .ref b51, .int b52, .ref b53, .ref b54, .ref b55])), (b3, .inl (G.2 0, 503, .inl b56)), (b4, .inl (G.2 0, 1006, .inl b57)), (b5, .inl (G.2 4, 2, .inl b58))]) Z (s2_Model_in l G (b1.toInt64) (0) (1)) hl.1 q1281 q1282 q14 q1283 ⟨by decide, by decide, by show _ = some 3; decide +kernel⟩ ⟨Nat.le_of_ble_eq_true rfl, Nat.le_of_ble_eq_true rfl⟩ ⟨Nat.le_of_ble_eq_true rfl, Nat.le_of_ble_eq_true rfl⟩ rfl (Nat.le_of_ble_eq_true rfl) d_Model_again_9 hP hD hS hA [] [0, 1, 2, 3] rfl rfl rfl rfl (by decide) (fun v w1 H locs hw_1 hP hD hS => ?_)
  rcases hw_1 with ⟨rfl, rfl, hq_2⟩ | ⟨rfl, rfl, hq_3, hq_4⟩ | ⟨rfl, rfl, hq_5, hq_6⟩
  · have hP : va_P G.1 classes [(b0, .inr (12, [.int 0, .ref b3, .ref b4, .ref b5, .ref b6, .int b7, .ref b8, .int b9, .int b10, .int b11, .int b12, .ref b13, .ref b14, .ref b15, .int b16, .ref b17, .ref b18, .ref b19, .ref b20, .ref b21, .ref b22, .ref b23, .ref b24, .ref b25, .ref b26, .ref b27, .ref b28, .int b29, .ref b30, .ref b31, .int b32, .int b33, .int b34, .int b35, .ref b36, .ref b37, .ref b38, .ref b39, .ref b40, .ref b41, .ref b42, .int b43, .ref b44, .ref b45, .int b46, .ref b47, .ref b48, .ref b49, .ref b50, .ref b51, .int b52, .ref b53, .ref b54, .ref b55])), (b3, .inl (G.2 0, 503, .inl b56)), (b4, .inl (G.2 0, 1006, .inl b57)), (b5, .inl (G.2 4, 2, .inl b58))] H := hP
    have hD := z_tie hP hD rfl
    try simp only [Int32.toInt_toInt64, ll_0] at hq_2
    have hv_7 : zI b1 (-2147483648) (-1) := by have _a := hq_2; have _b := (zI_all b1); have _c := zcl_0; simp only [Int32.toInt_toInt64] at *; exact ⟨by omega, by omega⟩
    refine W.widen (k := 0) (n := 0) (Nat.le_of_ble_eq_true rfl) (Nat.le_of_ble_eq_true rfl) ?_
    refine lv_if_eq (tgt := 24) hx hb d_Model_again_12 (by decide) (fun _ => ?_) (fun hc => absurd hc (by decide +kernel))
    refine lv_iconst (v := 0) hx hb d_Model_again_24 (by decide) ?_
    exact z_zret hx hb hr hlocks rfl hP hD hS (Nat.le_of_ble_eq_true rfl) (Nat.le_of_ble_eq_true rfl) d_Model_again_25 ⟨0, b7, b56, rfl, rfl, (zI.wk (l' := 0) (h' := 1) zc_0 (by decide)), hb7, hb56⟩
  · have hP : va_P G.1 classes [(b0, .inr (12, [.int 0, .ref b3, .ref b4, .ref b5, .ref b6, .int b7, .ref b8, .int b9, .int b10, .int b11, .int b12, .ref b13, .ref b14, .ref b15, .int b16, .ref b17, .ref b18, .ref b19, .ref b20, .ref b21, .ref b22, .ref b23, .ref b24, .ref b25, .ref b26, .ref b27, .ref b28, .int b29, .ref b30, .ref b31, .int b32, .int b33, .int b34, .int b35, .ref b36, .ref b37, .ref b38, .ref b39, .ref b40, .ref b41, .ref b42, .int b43, .ref b44, .ref b45, .int b46, .ref b47, .ref b48, .ref b49, .ref b50, .ref b51, .int b52, .ref b53, .ref b54, .ref b55])), (b3, .inl (G.2 0, 503, .inl b56)), (b4, .inl (G.2 0, 1006, .inl b57)), (b5, .inl (G.2 4, 2, .inl b58))] H := hP
    have hD := z_tie hP hD rfl
    try simp only [Int32.toInt_toInt64, ll_0] at hq_3
    have hv_8 : zI b1 0 2147483647 := by have _a := hq_3; have _b := (zI_all b1); have _c := zcl_0; simp only [Int32.toInt_toInt64] at *; exact ⟨by omega, by omega⟩
    try simp only [Int32.toInt_toInt64, ll_1] at hq_4
    have hv_9 : zI b1 2 2147483647 := by have _a := hq_4; have _b := hv_8; have _c := zcl_1; simp only [Int32.toInt_toInt64] at *; exact ⟨by omega, by omega⟩
    refine W.widen (k := 0) (n := 0) (Nat.le_of_ble_eq_true rfl) (Nat.le_of_ble_eq_true rfl) ?_
    refine lv_if_eq (tgt := 24) hx hb d_Model_again_12 (by decide) (fun _ => ?_) (fun hc => absurd hc (by decide +kernel))
    refine lv_iconst (v := 0) hx hb d_Model_again_24 (by decide) ?_
    exact z_zret hx hb hr hlocks rfl hP hD hS (Nat.le_of_ble_eq_true rfl) (Nat.le_of_ble_eq_true rfl) d_Model_again_25 ⟨0, b7, b56, rfl, rfl, (zI.wk (l' := 0) (h' := 1) zc_0 (by decide)), hb7, hb56⟩
  · have hP : va_P G.1 classes [(b0, .inr (12, [.int 0, .ref b3, .ref b4, .ref b5, .ref b6, .int b7, .ref b8, .int b9, .int b10, .int b11, .int b12, .ref b13, .ref b14, .ref b15, .int b16, .ref b17, .ref b18, .ref b19, .ref b20, .ref b21, .ref b22, .ref b23, .ref b24, .ref b25, .ref b26, .ref b27, .ref b28, .int b29, .ref b30, .ref b31, .int b32, .int b33, .int b34, .int b35, .ref b36, .ref b37, .ref b38, .ref b39, .ref b40, .ref b41, .ref b42, .int b43, .ref b44, .ref b45, .int b46, .ref b47, .ref b48, .ref b49, .ref b50, .ref b51, .int b52, .ref b53, .ref b54, .ref b55])), (b3, .inl (G.2 0, 503, .inl b56)), (b4, .inl (G.2 0, 1006, .inl b57)), (b5, .inl (G.2 4, 2, .inl b58))] H := hP
    have hD := z_tie hP hD rfl
    try simp only [Int32.toInt_toInt64, ll_0] at hq_5
    have hv_10 : zI b1 0 2147483647 := by have _a := hq_5; have _b := (zI_all b1); have _c := zcl_0; simp only [Int32.toInt_toInt64] at *; exact ⟨by omega, by omega⟩
    try simp only [Int32.toInt_toInt64, ll_1] at hq_6
    have hv_11 : zI b1 0 1 := by have _a := hq_6; have _b := hv_10; have _c := zcl_1; simp only [Int32.toInt_toInt64] at *; exact ⟨by omega, by omega⟩
    refine W.widen (k := 0) (n := 0) (Nat.le_of_ble_eq_true rfl) (Nat.le_of_ble_eq_true rfl) ?_
    refine lv_if_eq (tgt := 24) hx hb d_Model_again_12 (by decide) (fun hc => absurd hc (by decide +kernel)) (fun _ => ?_)
    refine lv_aload_n hx hb d_Model_again_15 rfl (lv_at hl 0 rfl) ?_
    refine va_get (D := G.1) (ci := 12) (v := .ref b5) (C := R_Model) (T := F_Model) (N := 54) hx hb hts i_Model hown hK hP 0 rfl rfl 3 (by decide) (hts _ q1112) (fun _ h9 => h9) rfl d_Model_again_16 ?_
    refine lv_iload_n hx hb d_Model_again_19 rfl (lv_at hl 1 rfl) ?_
    refine va_zald hx hb hK hP 3 4 rfl rfl (zI.inn hv_11 (by decide)) d_Model_again_20 ?_
    refine lv_topi (fun v_12 ev_12 => ?_)
    refine lv_if_ne (tgt := 26) hx hb d_Model_again_21 (by decide) (fun hc_13 => ?_) (fun hc_13 => ?_)
    · have _nhc_13 := hc_13
      have ni_14 : ¬ (v_12 : Int32).toInt = (0 : Int32).toInt := fun z => hc_13 ((fa_eq _ _).mpr z)
      simp only [li_0] at ni_14
      refine lv_iconst (v := 0) hx hb d_Model_again_26 (by decide) ?_
      refine lv_istore_n (lv' := [(2, .int 0), (0, .ref b0), (1, .int b1)]) hx hb d_Model_again_27 rfl hl (by decide) rfl (fun ls hl => ?_)
      suffices key : ∀ (k_106 : Nat) (y_107 : Int32) (y_108 : Nat → Int32) (H : Heap) (locs : List Loc) (ls : Array Slot), (zI y_107 0 503) → (zW5 y_108) → (503 : Int) - y_107.toInt < (k_106 : Int) → va_P G.1 classes [(b0, .inr (12, [.int 0, .ref b3, .ref b4, .ref b5, .ref b6, .int b7, .ref b8, .int b9, .int b10, .int b11, .int b12, .ref b13, .ref b14, .ref b15, .int b16, .ref b17, .ref b18, .ref b19, .ref b20, .ref b21, .ref b22, .ref b23, .ref b24, .ref b25, .ref b26, .ref b27, .ref b28, .int b29, .ref b30, .ref b31, .int b32, .int b33, .int b34, .int b35, .ref b36, .ref b37, .ref b38, .ref b39, .ref b40, .ref b41, .ref b42, .int b43, .ref b44, .ref b45, .int b46, .ref b47, .ref b48, .ref b49, .ref b50, .ref b51, .int b52, .ref b53, .ref b54, .ref b55])), (b3, .inl (G.2 0, 503, .inl y_108)), (b4, .inl (G.2 0, 1006, .inl b57)), (b5, .inl (G.2 4, 2, .inl b58))] H → va_D A [(b0, .inr (12, [.int 0, .ref b3, .ref b4, .ref b5, .ref b6, .int b7, .ref b8, .int b9, .int b10, .int b11, .int b12, .ref b13, .ref b14, .ref b15, .int b16, .ref b17, .ref b18, .ref b19, .ref b20, .ref b21, .ref b22, .ref b23, .ref b24, .ref b25, .ref b26, .ref b27, .ref b28, .int b29, .ref b30, .ref b31, .int b32, .int b33, .int b34, .int b35, .ref b36, .ref b37, .ref b38, .ref b39, .ref b40, .ref b41, .ref b42, .int b43, .ref b44, .ref b45, .int b46, .ref b47, .ref b48, .ref b49, .ref b50, .ref b51, .int b52, .ref b53, .ref b54, .ref b55])), (b3, .inl (G.2 0, 503, .inl y_108)), (b4, .inl (G.2 0, 1006, .inl b57)), (b5, .inl (G.2 4, 2, .inl b58))] → va_S A s.heap H locs → lv_has ls 3 [(2, .int y_107), (0, .ref b0), (1, .int b1)] → W p l e m_s1_Model_again s m ([.ref b0, .int b1] : List Value).toArray below meth c H locs 0 0 (MQ below (zQ G (fun v w => ∃ (e0 : Int32), ∃ (e1 : Int32), ∃ (e2 : Nat → Int32), v = some (.int e0) ∧ w = [(b0, .inr (12, [.int 0, .ref b3, .ref b4, .ref b5, .ref b6, .int e1, .ref b8, .int b9, .int b10, .int b11, .int b12, .ref b13, .ref b14, .ref b15, .int b16, .ref b17, .ref b18, .ref b19, .ref b20, .ref b21, .ref b22, .ref b23, .ref b24, .ref b25, .ref b26, .ref b27, .ref b28, .int b29, .ref b30, .ref b31, .int b32, .int b33, .int b34, .int b35, .ref b36, .ref b37, .ref b38, .ref b39, .ref b40, .ref b41, .ref b42, .int b43, .ref b44, .ref b45, .int b46, .ref b47, .ref b48, .ref b49, .ref b50, .ref b51, .int b52, .ref b53, .ref b54, .ref b55])), (b3, .inl (G.2 0, 503, .inl e2)), (b4, .inl (G.2 0, 1006, .inl b57)), (b5, .inl (G.2 4, 2, .inl b58))] ∧ (zI e0 0 1) ∧ (zI e1 0 8) ∧ (zW5 e2)) A) ([.ref b0, .int b1] : List Value).toArray s m_s1_Model_again.cells m_s1_Model_again.slots A) (F0 m 28 ls []) by
        exact key 504 (0) (b56) _ _ _ (zI.wk (l' := 0) (h' := 503) zc_0 (by decide)) hb56 (zm_upi (zI.wk (l' := 0) (h' := 503) zc_0 (by decide)) (by decide)) hP hD hS (lv_sub hl [0, 1, 2] rfl)
      intro k_106
      induction k_106 with
      | zero =>
        intro y_107 y_108 H locs ls hy_107 hy_108 hmk_106 hP hD hS hl
        exact (zm_up0 hy_107 hmk_106).elim
      | succ k_106 ihk_106 =>
        intro y_107 y_108 H locs ls hy_107 hy_108 hmk_106 hP hD hS hl
        refine lv_iload_n hx hb d_Model_again_28 rfl (lv_at hl 0 rfl) ?_
        refine lv_sipush (v := 503) hx hb d_Model_again_29 (by decide) ?_
        refine lv_icmp_ge (tgt := 59) hx hb d_Model_again_32 (by decide) (fun hc_109 => ?_) (fun hc_109 => ?_)
        · have _nhc_109 := hc_109
          have ni_110 := (fa_le _ _).mp hc_109
          rw [li_503] at ni_110
          have hv_111 : zI y_107 503 503 := zI.le_r zc_503 hy_107 hc_109 (by decide)
          refine lv_aload_n hx hb d_Model_again_59 rfl (lv_at hl 1 rfl) ?_
          refine lv_iconst (v := 0) hx hb d_Model_again_60 (by decide) ?_
          refine va_put (D := G.1) (ci := 12) (v := .int 0) (ty := .int) (C := R_Model) (T := F_Model) (N := 54) hx hb hts i_Model t_Model t_Model_ok n_Model hown hK hP hD hS 0 rfl rfl 5 (by decide) (hts _ q1114) (fun _ h9 => h9) rfl (by decide +kernel) rfl rfl (Nat.le_of_ble_eq_true rfl) d_Model_again_61 (fun H locs hP hD hS => ?_)
          have hP : va_P G.1 classes [(b0, .inr (12, [.int 0, .ref b3, .ref b4, .ref b5, .ref b6, .int 0, .ref b8, .int b9, .int b10, .int b11, .int b12, .ref b13, .ref b14, .ref b15, .int b16, .ref b17, .ref b18, .ref b19, .ref b20, .ref b21, .ref b22, .ref b23, .ref b24, .ref b25, .ref b26, .ref b27, .ref b28, .int b29, .ref b30, .ref b31, .int b32, .int b33, .int b34, .int b35, .ref b36, .ref b37, .ref b38, .ref b39, .ref b40, .ref b41, .ref b42, .int b43, .ref b44, .ref b45, .int b46, .ref b47, .ref b48, .ref b49, .ref b50, .ref b51, .int b52, .ref b53, .ref b54, .ref b55])), (b3, .inl (G.2 0, 503, .inl y_108)), (b4, .inl (G.2 0, 1006, .inl b57)), (b5, .inl (G.2 4, 2, .inl b58))] H := hP
          have hD := z_tie hP hD rfl
          refine lv_iconst (v := 1) hx hb d_Model_again_64 (by decide) ?_
          exact z_zret hx hb hr hlocks rfl hP hD hS (Nat.le_of_ble_eq_true rfl) (Nat.le_of_ble_eq_true rfl) d_Model_again_65 ⟨1, 0, y_108, rfl, rfl, (zI.wk (l' := 0) (h' := 1) zc_1 (by decide)), (zI.wk (l' := 0) (h' := 8) zc_0 (by decide)), hy_108⟩
        · have _nhc_109 := hc_109
          have ni_112 := (fa_lt _ _).mp (zi_nle hc_109)
          rw [li_503] at ni_112
          have hv_113 : zI y_107 0 502 := zI.lt_l hy_107 zc_503 (zi_nle hc_109) (by decide)
          refine lv_aload_n hx hb d_Model_again_35 rfl (lv_at hl 1 rfl) ?_
          refine va_get (D := G.1) (ci := 12) (v := .ref b3) (C := R_Model) (T := F_Model) (N := 54) hx hb hts i_Model hown hK hP 0 rfl rfl 1 (by decide) (hts _ q1110) (fun _ h9 => h9) rfl d_Model_again_36 ?_
          refine lv_iload_n hx hb d_Model_again_39 rfl (lv_at hl 0 rfl) ?_
          refine lv_aload_n hx hb d_Model_again_40 rfl (lv_at hl 1 rfl) ?_
          refine va_get (D := G.1) (ci := 12) (v := .ref b4) (C := R_Model) (T := F_Model) (N := 54) hx hb hts i_Model hown hK hP 0 rfl rfl 2 (by decide) (hts _ q1111) (fun _ h9 => h9) rfl d_Model_again_41 ?_
          refine lv_sipush (v := 503) hx hb d_Model_again_44 (by decide) ?_
          refine lv_iload_n hx hb d_Model_again_47 rfl (lv_at hl 2 rfl) ?_
          refine lv_imul hx hb d_Model_again_48 ?_
          refine lv_topi (fun v_114 ev_114 => ?_)
          obtain ⟨qv_114, hv_114⟩ := zI_mul (l := 0) (h := 503) zc_503 hv_11 ev_114 (by decide)
          rw [li_503] at qv_114
          refine lv_iload_n hx hb d_Model_again_49 rfl (lv_at hl 0 rfl) ?_
          refine lv_iadd hx hb d_Model_again_50 ?_
          refine lv_topi (fun v_115 ev_115 => ?_)
          obtain ⟨qv_115, hv_115⟩ := zI_add (l := 0) (h := 1005) hv_114 hv_113 ev_115 (by decide)
          refine va_iald hx hb hK hP 2 0 rfl rfl (zI.inn hv_115 (by decide)) d_Model_again_51 ?_
          refine lv_topi (fun v_116 ev_116 => ?_)
          refine va_iast hx hb hK hP hD hS 1 0 rfl rfl (zI.inn hv_113 (by decide)) d_Model_again_52 (fun H locs hP hD hS => ?_)
          obtain ⟨f_117, hf_117, gf_117, uf_117, hP, hD⟩ := z_newfw 1 hP hD rfl hy_108 (zRk_s hb57 ev_116 hv_115 hv_113 (by decide) (by omega))
          have hP : va_P G.1 classes [(b0, .inr (12, [.int 0, .ref b3, .ref b4, .ref b5, .ref b6, .int b7, .ref b8, .int b9, .int b10, .int b11, .int b12, .ref b13, .ref b14, .ref b15, .int b16, .ref b17, .ref b18, .ref b19, .ref b20, .ref b21, .ref b22, .ref b23, .ref b24, .ref b25, .ref b26, .ref b27, .ref b28, .int b29, .ref b30, .ref b31, .int b32, .int b33, .int b34, .int b35, .ref b36, .ref b37, .ref b38, .ref b39, .ref b40, .ref b41, .ref b42, .int b43, .ref b44, .ref b45, .int b46, .ref b47, .ref b48, .ref b49, .ref b50, .ref b51, .int b52, .ref b53, .ref b54, .ref b55])), (b3, .inl (G.2 0, 503, .inl f_117)), (b4, .inl (G.2 0, 1006, .inl b57)), (b5, .inl (G.2 4, 2, .inl b58))] H := hP
          have hD := z_tie hP hD rfl
          obtain ⟨v_118, ev_118⟩ : ∃ z : Int32, z = y_107 + 1 := ⟨_, rfl⟩
          obtain ⟨qv_118, hv_118⟩ := zI_add (l := 1) (h := 503) hv_113 zc_1 ev_118 (by decide)
          rw [li_1] at qv_118
          refine lv_iinc (v := v_118) (lv' := [(2, .int v_118), (0, .ref b0), (1, .int b1)]) hx hb d_Model_again_53 hl (k := 0) rfl (by rw [ev_118]; rfl) (by decide) rfl (fun ls hl => ?_)
          refine lv_goto (tgt := 28) hx hb d_Model_again_56 (by decide) ?_
          exact ihk_106 (v_118) (f_117) _ _ _ (zI.wk (l' := 0) (h' := 503) hv_118 (by decide)) hf_117 (zm_up qv_118 hmk_106 (by decide)) hP hD hS (lv_sub hl [0, 1, 2] rfl)
    · have _nhc_13 := hc_13
      have ni_119 := (fa_eq _ _).mp hc_13
      rw [li_0] at ni_119
      have hv_120 : zI v_12 0 0 := zI.eq_l (zI_all v_12) zc_0 hc_13
      refine lv_iconst (v := 0) hx hb d_Model_again_24 (by decide) ?_
      exact z_zret hx hb hr hlocks rfl hP hD hS (Nat.le_of_ble_eq_true rfl) (Nat.le_of_ble_eq_true rfl) d_Model_again_25 ⟨0, b7, b56, rfl, rfl, (zI.wk (l' := 0) (h' := 1) zc_0 (by decide)), hb7, hb56⟩
theorem d_Model_start_0 : decode prog_14_method_46_code 0 = .ok (.iconst 0, 1) := by decide +kernel
theorem d_Model_start_1 : decode prog_14_method_46_code 1 = .ok (.istore_n 2, 1) := by decide +kernel
theorem d_Model_start_2 : decode prog_14_method_46_code 2 = .ok (.iload_n 2, 1) := by decide +kernel
theorem d_Model_start_3 : decode prog_14_method_46_code 3 = .ok (.iconst 4, 1) := by decide +kernel
theorem d_Model_start_4 : decode prog_14_method_46_code 4 = .ok (.if_icmp .ge 16, 3) := by decide +kernel
theorem d_Model_start_7 : decode prog_14_method_46_code 7 = .ok (.aload_n 0, 1) := by decide +kernel
theorem d_Model_start_8 : decode prog_14_method_46_code 8 = .ok (.getfield 76, 3) := by decide +kernel
theorem d_Model_start_11 : decode prog_14_method_46_code 11 = .ok (.iload_n 2, 1) := by decide +kernel
theorem d_Model_start_12 : decode prog_14_method_46_code 12 = .ok (.lconst 0, 1) := by decide +kernel
theorem d_Model_start_13 : decode prog_14_method_46_code 13 = .ok (.lastore, 1) := by decide +kernel
theorem d_Model_start_14 : decode prog_14_method_46_code 14 = .ok (.iinc 2 1, 3) := by decide +kernel
theorem d_Model_start_17 : decode prog_14_method_46_code 17 = .ok (.goto (-15), 3) := by decide +kernel
theorem d_Model_start_20 : decode prog_14_method_46_code 20 = .ok (.aload_n 0, 1) := by decide +kernel
theorem d_Model_start_21 : decode prog_14_method_46_code 21 = .ok (.getfield 76, 3) := by decide +kernel
theorem d_Model_start_24 : decode prog_14_method_46_code 24 = .ok (.iconst 0, 1) := by decide +kernel
theorem d_Model_start_25 : decode prog_14_method_46_code 25 = .ok (.aload_n 0, 1) := by decide +kernel
theorem d_Model_start_26 : decode prog_14_method_46_code 26 = .ok (.getfield 58, 3) := by decide +kernel
theorem d_Model_start_29 : decode prog_14_method_46_code 29 = .ok (.iload_n 1, 1) := by decide +kernel
theorem d_Model_start_30 : decode prog_14_method_46_code 30 = .ok (.iaload, 1) := by decide +kernel
theorem d_Model_start_31 : decode prog_14_method_46_code 31 = .ok (.ifCond .le 7, 3) := by decide +kernel
theorem d_Model_start_34 : decode prog_14_method_46_code 34 = .ok (.lconst 1, 1) := by decide +kernel
theorem d_Model_start_35 : decode prog_14_method_46_code 35 = .ok (.goto 4, 3) := by decide +kernel
theorem d_Model_start_38 : decode prog_14_method_46_code 38 = .ok (.lconst 0, 1) := by decide +kernel
theorem d_Model_start_39 : decode prog_14_method_46_code 39 = .ok (.lastore, 1) := by decide +kernel
theorem d_Model_start_40 : decode prog_14_method_46_code 40 = .ok (.return_, 1) := by decide +kernel
abbrev m_s1_Model_start : Room := { frames := 0, cells := 0, slots := 0, locals := 0 }
set_option maxHeartbeats 4000000 in
set_option maxRecDepth 100000 in
theorem s1_Model_start (l : Launch) (G : zG) (b0 : Nat) (b1 : Int32) (b2 : Int32) (b3 : Nat) (b4 : Nat) (b5 : Nat) (b6 : Nat) (b7 : Int32) (b8 : Nat) (b9 : Int32) (b10 : Int32) (b11 : Int32) (b12 : Int32) (b13 : Nat) (b14 : Nat) (b15 : Nat) (b16 : Int32) (b17 : Nat) (b18 : Nat) (b19 : Nat) (b20 : Nat) (b21 : Nat) (b22 : Nat) (b23 : Nat) (b24 : Nat) (b25 : Nat) (b26 : Nat) (b27 : Nat) (b28 : Nat) (b29 : Int32) (b30 : Nat) (b31 : Nat) (b32 : Int32) (b33 : Int32) (b34 : Int32) (b35 : Int32) (b36 : Nat) (b37 : Nat) (b38 : Nat) (b39 : Nat) (b40 : Nat) (b41 : Nat) (b42 : Nat) (b43 : Int32) (b44 : Nat) (b45 : Nat) (b46 : Int32) (b47 : Nat) (b48 : Nat) (b49 : Nat) (b50 : Nat) (b51 : Nat) (b52 : Int32) (b53 : Nat) (b54 : Nat) (b55 : Nat) (b56 : Nat → Int32) (b57 : Nat → Int64) (hb1 : zI b1 0 1) (hb7 : zI b7 0 8) (hb9 : zI b9 0 240) (hb10 : zI b10 0 240) (hb12 : zI b12 0 1) (hb16 : zI b16 0 12) (hb29 : zI b29 0 1) (hb32 : zI b32 0 1) (hb56 : zR b56 0 241) : zM l G y_Model_start prog_14_method_46_code 3 (Option.none : Option Jvm.ClassFile.FieldType) m_s1_Model_start [.ref b0, .int b1] [(b0, .inr (12, [.int b2, .ref b3, .ref b4, .ref b5, .ref b6, .int b7, .ref b8, .int b9, .int b10, .int b11, .int b12, .ref b13, .ref b14, .ref b15, .int b16, .ref b17, .ref b18, .ref b19, .ref b20, .ref b21, .ref b22, .ref b23, .ref b24, .ref b25, .ref b26, .ref b27, .ref b28, .int b29, .ref b30, .ref b31, .int b32, .int b33, .int b34, .int b35, .ref b36, .ref b37, .ref b38, .ref b39, .ref b40, .ref b41, .ref b42, .int b43, .ref b44, .ref b45, .int b46, .ref b47, .ref b48, .ref b49, .ref b50, .ref b51, .int b52, .ref b53, .ref b54, .ref b55])), (b23, .inl (G.2 0, 2, .inl b56)), (b30, .inl (G.2 1, 4, .inr (.inl b57)))] (fun v w => ∃ (e0 : Nat → Int64), v = none ∧ w = [(b0, .inr (12, [.int b2, .ref b3, .ref b4, .ref b5, .ref b6, .int b7, .ref b8, .int b9, .int b10, .int b11, .int b12, .ref b13, .ref b14, .ref b15, .int b16, .ref b17, .ref b18, .ref b19, .ref b20, .ref b21, .ref b22, .ref b23, .ref b24, .ref b25, .ref b26, .ref b27, .ref b28, .int b29, .ref b30, .ref b31, .int b32, .int b33, .int b34, .int b35, .ref b36, .ref b37, .ref b38, .ref b39, .ref b40, .ref b41, .ref b42, .int b43, .ref b44, .ref b45, .int b46, .ref b47, .ref b48, .ref b49, .ref b50, .ref b51, .int b52, .ref b53, .ref b54, .ref b55])), (b23, .inl (G.2 0, 2, .inl b56)), (b30, .inl (G.2 1, 4, .inr (.inl e0)))]) := by
  refine z_start (by decide +kernel) (Nat.le_of_ble_eq_true rfl) ?_
  intro p e s m below meth c A Z hr hnm hA hP hD hS ls hl
  have Z : zC p s m _ meth c prog_14_method_46_code 3 "TraceMachinesModel" G := Z
  obtain ⟨hx, hb, hml, hown, hts, hK, hN, hlocks⟩ := id Z
  have hl : lv_has ls 3 [(0, .ref b0), (1, .int b1)] := hl
  refine lv_iconst (v := 0) hx hb d_Model_start_0 (by decide) ?_
  refine lv_istore_n (lv' := [(2, .int 0), (0, .ref b0), (1, .int b1)]) hx hb d_Model_start_1 rfl hl (by decide) rfl (fun ls hl => ?_)
  suffices key : ∀ (k_48 : Nat) (y_49 : Int32) (y_50 : Nat → Int64) (H : Heap) (locs : List Loc) (ls : Array Slot), (zI y_49 0 4) → (4 : Int) - y_49.toInt < (k_48 : Int) → va_P G.1 classes [(b0, .inr (12, [.int b2, .ref b3, .ref b4, .ref b5, .ref b6, .int b7, .ref b8, .int b9, .int b10, .int b11, .int b12, .ref b13, .ref b14, .ref b15, .int b16, .ref b17, .ref b18, .ref b19, .ref b20, .ref b21, .ref b22, .ref b23, .ref b24, .ref b25, .ref b26, .ref b27, .ref b28, .int b29, .ref b30, .ref b31, .int b32, .int b33, .int b34, .int b35, .ref b36, .ref b37, .ref b38, .ref b39, .ref b40, .ref b41, .ref b42, .int b43, .ref b44, .ref b45, .int b46, .ref b47, .ref b48, .ref b49, .ref b50, .ref b51, .int b52, .ref b53, .ref b54, .ref b55])), (b23, .inl (G.2 0, 2, .inl b56)), (b30, .inl (G.2 1, 4, .inr (.inl y_50)))] H → va_D A [(b0, .inr (12, [.int b2, .ref b3, .ref b4, .ref b5, .ref b6, .int b7, .ref b8, .int b9, .int b10, .int b11, .int b12, .ref b13, .ref b14, .ref b15, .int b16, .ref b17, .ref b18, .ref b19, .ref b20, .ref b21, .ref b22, .ref b23, .ref b24, .ref b25, .ref b26, .ref b27, .ref b28, .int b29, .ref b30, .ref b31, .int b32, .int b33, .int b34, .int b35, .ref b36, .ref b37, .ref b38, .ref b39, .ref b40, .ref b41, .ref b42, .int b43, .ref b44, .ref b45, .int b46, .ref b47, .ref b48, .ref b49, .ref b50, .ref b51, .int b52, .ref b53, .ref b54, .ref b55])), (b23, .inl (G.2 0, 2, .inl b56)), (b30, .inl (G.2 1, 4, .inr (.inl y_50)))] → va_S A s.heap H locs → lv_has ls 3 [(2, .int y_49), (0, .ref b0), (1, .int b1)] → W p l e m_s1_Model_start s m ([.ref b0, .int b1] : List Value).toArray below meth c H locs 0 0 (MQ below (zQ G (fun v w => ∃ (e0 : Nat → Int64), v = none ∧ w = [(b0, .inr (12, [.int b2, .ref b3, .ref b4, .ref b5, .ref b6, .int b7, .ref b8, .int b9, .int b10, .int b11, .int b12, .ref b13, .ref b14, .ref b15, .int b16, .ref b17, .ref b18, .ref b19, .ref b20, .ref b21, .ref b22, .ref b23, .ref b24, .ref b25, .ref b26, .ref b27, .ref b28, .int b29, .ref b30, .ref b31, .int b32, .int b33, .int b34, .int b35, .ref b36, .ref b37, .ref b38, .ref b39, .ref b40, .ref b41, .ref b42, .int b43, .ref b44, .ref b45, .int b46, .ref b47, .ref b48, .ref b49, .ref b50, .ref b51, .int b52, .ref b53, .ref b54, .ref b55])), (b23, .inl (G.2 0, 2, .inl b56)), (b30, .inl (G.2 1, 4, .inr (.inl e0)))]) A) ([.ref b0, .int b1] : List Value).toArray s m_s1_Model_start.cells m_s1_Model_start.slots A) (F0 m 2 ls []) by
    exact key 5 (0) (b57) _ _ _ (zI.wk (l' := 0) (h' := 4) zc_0 (by decide)) (zm_upi (zI.wk (l' := 0) (h' := 4) zc_0 (by decide)) (by decide)) hP hD hS (lv_sub hl [0, 1, 2] rfl)
  intro k_48
  induction k_48 with
  | zero =>
    intro y_49 y_50 H locs ls hy_49 hmk_48 hP hD hS hl
    exact (zm_up0 hy_49 hmk_48).elim
  | succ k_48 ihk_48 =>
    intro y_49 y_50 H locs ls hy_49 hmk_48 hP hD hS hl
    refine lv_iload_n hx hb d_Model_start_2 rfl (lv_at hl 0 rfl) ?_
    refine lv_iconst (v := 4) hx hb d_Model_start_3 (by decide) ?_
    refine lv_icmp_ge (tgt := 20) hx hb d_Model_start_4 (by decide) (fun hc_51 => ?_) (fun hc_51 => ?_)
    · have _nhc_51 := hc_51
      have ni_52 := (fa_le _ _).mp hc_51
      rw [li_4] at ni_52
      have hv_53 : zI y_49 4 4 := zI.le_r zc_4 hy_49 hc_51 (by decide)
      refine lv_aload_n hx hb d_Model_start_20 rfl (lv_at hl 1 rfl) ?_
      refine va_get (D := G.1) (ci := 12) (v := .ref b30) (C := R_Model) (T := F_Model) (N := 54) hx hb hts i_Model hown hK hP 0 rfl rfl 28 (by decide) (hts _ q1137) (fun _ h9 => h9) rfl d_Model_start_21 ?_
      refine lv_iconst (v := 0) hx hb d_Model_start_24 (by decide) ?_
      refine lv_aload_n hx hb d_Model_start_25 rfl (lv_at hl 1 rfl) ?_
      refine va_get (D := G.1) (ci := 12) (v := .ref b23) (C := R_Model) (T := F_Model) (N := 54) hx hb hts i_Model hown hK hP 0 rfl rfl 21 (by decide) (hts _ q1130) (fun _ h9 => h9) rfl d_Model_start_26 ?_
      refine lv_iload_n hx hb d_Model_start_29 rfl (lv_at hl 2 rfl) ?_
      refine va_iald hx hb hK hP 1 0 rfl rfl (zI.inn hb1 (by decide)) d_Model_start_30 ?_
      refine lv_topi (fun v_54 ev_54 => ?_)
      have hv_54 : zI v_54 0 241 := (hb56 _).eq ev_54
      refine lv_if_le (tgt := 38) hx hb d_Model_start_31 (by decide) (fun hc_55 => ?_) (fun hc_55 => ?_)
      · have _nhc_55 := hc_55
        have ni_56 := (fa_le _ _).mp hc_55
        rw [li_0] at ni_56
        have hv_57 : zI v_54 0 0 := zI.le_l hv_54 zc_0 hc_55 (by decide)
        refine lv_lconst (v := 0) hx hb d_Model_start_38 (by decide) ?_
        refine va_last hx hb hK hP hD hS 2 1 rfl rfl (i := 0) (z_in rfl) d_Model_start_39 (fun H locs hP hD hS => ?_)
        obtain ⟨f_58, hP, hD⟩ := z_newL 2 hP hD rfl
        have hP : va_P G.1 classes [(b0, .inr (12, [.int b2, .ref b3, .ref b4, .ref b5, .ref b6, .int b7, .ref b8, .int b9, .int b10, .int b11, .int b12, .ref b13, .ref b14, .ref b15, .int b16, .ref b17, .ref b18, .ref b19, .ref b20, .ref b21, .ref b22, .ref b23, .ref b24, .ref b25, .ref b26, .ref b27, .ref b28, .int b29, .ref b30, .ref b31, .int b32, .int b33, .int b34, .int b35, .ref b36, .ref b37, .ref b38, .ref b39, .ref b40, .ref b41, .ref b42, .int b43, .ref b44, .ref b45, .int b46, .ref b47, .ref b48, .ref b49, .ref b50, .ref b51, .int b52, .ref b53, .ref b54, .ref b55])), (b23, .inl (G.2 0, 2, .inl b56)), (b30, .inl (G.2 1, 4, .inr (.inl f_58)))] H := hP
        have hD := z_tie hP hD rfl
        exact z_vret hx hb hr hlocks hP hD hS (Nat.le_of_ble_eq_true rfl) (Nat.le_of_ble_eq_true rfl) d_Model_start_40 ⟨f_58, rfl, rfl⟩
      · have _nhc_55 := hc_55
        have ni_59 := (fa_lt _ _).mp (zi_nle hc_55)
        rw [li_0] at ni_59
        have hv_60 : zI v_54 1 241 := zI.lt_r zc_0 hv_54 (zi_nle hc_55) (by decide)
        refine lv_lconst (v := 1) hx hb d_Model_start_34 (by decide) ?_
        refine lv_goto (tgt := 39) hx hb d_Model_start_35 (by decide) ?_
        refine va_last hx hb hK hP hD hS 2 1 rfl rfl (i := 0) (z_in rfl) d_Model_start_39 (fun H locs hP hD hS => ?_)
        obtain ⟨f_61, hP, hD⟩ := z_newL 2 hP hD rfl
        have hP : va_P G.1 classes [(b0, .inr (12, [.int b2, .ref b3, .ref b4, .ref b5, .ref b6, .int b7, .ref b8, .int b9, .int b10, .int b11, .int b12, .ref b13, .ref b14, .ref b15, .int b16, .ref b17, .ref b18, .ref b19, .ref b20, .ref b21, .ref b22, .ref b23, .ref b24, .ref b25, .ref b26, .ref b27, .ref b28, .int b29, .ref b30, .ref b31, .int b32, .int b33, .int b34, .int b35, .ref b36, .ref b37, .ref b38, .ref b39, .ref b40, .ref b41, .ref b42, .int b43, .ref b44, .ref b45, .int b46, .ref b47, .ref b48, .ref b49, .ref b50, .ref b51, .int b52, .ref b53, .ref b54, .ref b55])), (b23, .inl (G.2 0, 2, .inl b56)), (b30, .inl (G.2 1, 4, .inr (.inl f_61)))] H := hP
        have hD := z_tie hP hD rfl
        exact z_vret hx hb hr hlocks hP hD hS (Nat.le_of_ble_eq_true rfl) (Nat.le_of_ble_eq_true rfl) d_Model_start_40 ⟨f_61, rfl, rfl⟩
    · have _nhc_51 := hc_51
      have ni_62 := (fa_lt _ _).mp (zi_nle hc_51)
      rw [li_4] at ni_62
      have hv_63 : zI y_49 0 3 := zI.lt_l hy_49 zc_4 (zi_nle hc_51) (by decide)
      refine lv_aload_n hx hb d_Model_start_7 rfl (lv_at hl 1 rfl) ?_
      refine va_get (D := G.1) (ci := 12) (v := .ref b30) (C := R_Model) (T := F_Model) (N := 54) hx hb hts i_Model hown hK hP 0 rfl rfl 28 (by decide) (hts _ q1137) (fun _ h9 => h9) rfl d_Model_start_8 ?_
      refine lv_iload_n hx hb d_Model_start_11 rfl (lv_at hl 0 rfl) ?_
      refine lv_lconst (v := 0) hx hb d_Model_start_12 (by decide) ?_
      refine va_last hx hb hK hP hD hS 2 1 rfl rfl (zI.inn hv_63 (by decide)) d_Model_start_13 (fun H locs hP hD hS => ?_)
      obtain ⟨f_64, hP, hD⟩ := z_newL 2 hP hD rfl
      have hP : va_P G.1 classes [(b0, .inr (12, [.int b2, .ref b3, .ref b4, .ref b5, .ref b6, .int b7, .ref b8, .int b9, .int b10, .int b11, .int b12, .ref b13, .ref b14, .ref b15, .int b16, .ref b17, .ref b18, .ref b19, .ref b20, .ref b21, .ref b22, .ref b23, .ref b24, .ref b25, .ref b26, .ref b27, .ref b28, .int b29, .ref b30, .ref b31, .int b32, .int b33, .int b34, .int b35, .ref b36, .ref b37, .ref b38, .ref b39, .ref b40, .ref b41, .ref b42, .int b43, .ref b44, .ref b45, .int b46, .ref b47, .ref b48, .ref b49, .ref b50, .ref b51, .int b52, .ref b53, .ref b54, .ref b55])), (b23, .inl (G.2 0, 2, .inl b56)), (b30, .inl (G.2 1, 4, .inr (.inl f_64)))] H := hP
      have hD := z_tie hP hD rfl
      obtain ⟨v_65, ev_65⟩ : ∃ z : Int32, z = y_49 + 1 := ⟨_, rfl⟩
      obtain ⟨qv_65, hv_65⟩ := zI_add (l := 1) (h := 4) hv_63 zc_1 ev_65 (by decide)
      rw [li_1] at qv_65
      refine lv_iinc (v := v_65) (lv' := [(2, .int v_65), (0, .ref b0), (1, .int b1)]) hx hb d_Model_start_14 hl (k := 0) rfl (by rw [ev_65]; rfl) (by decide) rfl (fun ls hl => ?_)
      refine lv_goto (tgt := 2) hx hb d_Model_start_17 (by decide) ?_
      exact ihk_48 (v_65) (f_64) _ _ _ (zI.wk (l' := 0) (h' := 4) hv_65 (by decide)) (zm_up qv_65 hmk_48 (by decide)) hP hD hS (lv_sub hl [0, 1, 2] rfl)
theorem d_Model_rule_0 : decode prog_14_method_80_code 0 = .ok (.aload_n 0, 1) := by decide +kernel
theorem d_Model_rule_1 : decode prog_14_method_80_code 1 = .ok (.iconst 0, 1) := by decide +kernel
theorem d_Model_rule_2 : decode prog_14_method_80_code 2 = .ok (.putfield 1, 3) := by decide +kernel
theorem d_Model_rule_5 : decode prog_14_method_80_code 5 = .ok (.iload_n 1, 1) := by decide +kernel
theorem d_Model_rule_6 : decode prog_14_method_80_code 6 = .ok (.i2l, 1) := by decide +kernel
theorem d_Model_rule_7 : decode prog_14_method_80_code 7 = .ok (.lconst 0, 1) := by decide +kernel
theorem d_Model_rule_8 : decode prog_14_method_80_code 8 = .ok (.ldc2_w 263, 3) := by decide +kernel
theorem d_Model_rule_11 : decode prog_14_method_80_code 11 = .ok (.invokestatic 138, 3) := by decide +kernel
theorem d_Model_rule_14 : decode prog_14_method_80_code 14 = .ok (.ifCond .eq 33, 3) := by decide +kernel
theorem d_Model_rule_17 : decode prog_14_method_80_code 17 = .ok (.iload_n 2, 1) := by decide +kernel
theorem d_Model_rule_18 : decode prog_14_method_80_code 18 = .ok (.invokestatic 391, 3) := by decide +kernel
theorem d_Model_rule_21 : decode prog_14_method_80_code 21 = .ok (.ifCond .eq 26, 3) := by decide +kernel
theorem d_Model_rule_24 : decode prog_14_method_80_code 24 = .ok (.iload_n 3, 1) := by decide +kernel
theorem d_Model_rule_25 : decode prog_14_method_80_code 25 = .ok (.invokestatic 391, 3) := by decide +kernel
theorem d_Model_rule_28 : decode prog_14_method_80_code 28 = .ok (.ifCond .eq 19, 3) := by decide +kernel
theorem d_Model_rule_31 : decode prog_14_method_80_code 31 = .ok (.iload_n 2, 1) := by decide +kernel
theorem d_Model_rule_32 : decode prog_14_method_80_code 32 = .ok (.iload_n 3, 1) := by decide +kernel
theorem d_Model_rule_33 : decode prog_14_method_80_code 33 = .ok (.if_icmp .eq 14, 3) := by decide +kernel
theorem d_Model_rule_36 : decode prog_14_method_80_code 36 = .ok (.iload 4, 2) := by decide +kernel
theorem d_Model_rule_38 : decode prog_14_method_80_code 38 = .ok (.i2l, 1) := by decide +kernel
theorem d_Model_rule_39 : decode prog_14_method_80_code 39 = .ok (.lconst 0, 1) := by decide +kernel
theorem d_Model_rule_40 : decode prog_14_method_80_code 40 = .ok (.lconst 1, 1) := by decide +kernel
theorem d_Model_rule_41 : decode prog_14_method_80_code 41 = .ok (.invokestatic 138, 3) := by decide +kernel
theorem d_Model_rule_44 : decode prog_14_method_80_code 44 = .ok (.ifCond .ne 5, 3) := by decide +kernel
theorem d_Model_rule_47 : decode prog_14_method_80_code 47 = .ok (.iconst (-1), 1) := by decide +kernel
theorem d_Model_rule_48 : decode prog_14_method_80_code 48 = .ok (.ireturn, 1) := by decide +kernel
theorem d_Model_rule_49 : decode prog_14_method_80_code 49 = .ok (.aload_n 0, 1) := by decide +kernel
theorem d_Model_rule_50 : decode prog_14_method_80_code 50 = .ok (.iload_n 1, 1) := by decide +kernel
theorem d_Model_rule_51 : decode prog_14_method_80_code 51 = .ok (.iload_n 2, 1) := by decide +kernel
theorem d_Model_rule_52 : decode prog_14_method_80_code 52 = .ok (.iload_n 3, 1) := by decide +kernel
theorem d_Model_rule_53 : decode prog_14_method_80_code 53 = .ok (.iload 4, 2) := by decide +kernel
theorem d_Model_rule_55 : decode prog_14_method_80_code 55 = .ok (.iconst 1, 1) := by decide +kernel
theorem d_Model_rule_56 : decode prog_14_method_80_code 56 = .ok (.if_icmp .ne 7, 3) := by decide +kernel
theorem d_Model_rule_59 : decode prog_14_method_80_code 59 = .ok (.iconst 1, 1) := by decide +kernel
theorem d_Model_rule_60 : decode prog_14_method_80_code 60 = .ok (.goto 4, 3) := by decide +kernel
theorem d_Model_rule_63 : decode prog_14_method_80_code 63 = .ok (.iconst 0, 1) := by decide +kernel
theorem d_Model_rule_64 : decode prog_14_method_80_code 64 = .ok (.invokevirtual 394, 3) := by decide +kernel
theorem d_Model_isLetter_0 : decode prog_14_method_79_code 0 = .ok (.iload_n 0, 1) := by decide +kernel
theorem d_Model_isLetter_1 : decode prog_14_method_79_code 1 = .ok (.i2l, 1) := by decide +kernel
theorem d_Model_isLetter_2 : decode prog_14_method_79_code 2 = .ok (.lconst 0, 1) := by decide +kernel
theorem d_Model_isLetter_3 : decode prog_14_method_79_code 3 = .ok (.ldc2_w 389, 3) := by decide +kernel
theorem d_Model_isLetter_6 : decode prog_14_method_79_code 6 = .ok (.invokestatic 138, 3) := by decide +kernel
theorem d_Model_isLetter_9 : decode prog_14_method_79_code 9 = .ok (.ireturn, 1) := by decide +kernel
theorem ll_5 : (5 : Int64).toInt = 5 := by decide +kernel
theorem zcl_5 : zJ 5 5 5 := ⟨by decide +kernel, by decide +kernel⟩
theorem ll_9 : (9 : Int64).toInt = 9 := by decide +kernel
theorem zcl_9 : zJ 9 9 9 := ⟨by decide +kernel, by decide +kernel⟩
abbrev m_s2_Model_isLetter : Room := { frames := 1, cells := 0, slots := 0, locals := 25 }
set_option maxHeartbeats 4000000 in
set_option maxRecDepth 100000 in
theorem s2_Model_isLetter (l : Launch) (G : zG) (b0 : Int32)  : zM l G y_Model_isLetter prog_14_method_79_code 1 (Option.some Jvm.ClassFile.FieldType.boolean) m_s2_Model_isLetter [.int b0] [] (fun v w => ∃ (e0 : Int32), v = some (.int e0) ∧ w = [] ∧ (zI e0 0 1)) := by
  refine z_start (by decide +kernel) (Nat.le_of_ble_eq_true rfl) ?_
  intro p e s m below meth c A Z hr hnm hA hP hD hS ls hl
  have Z : zC p s m _ meth c prog_14_method_79_code 1 "TraceMachinesModel" G := Z
  obtain ⟨hx, hb, hml, hown, hts, hK, hN, hlocks⟩ := id Z
  have hl : lv_has ls 1 [(0, .int b0)] := hl
  refine lv_iload_n hx hb d_Model_isLetter_0 rfl (lv_at hl 0 rfl) ?_
  refine lv_i2l (v := b0.toInt64) hx hb d_Model_isLetter_1 rfl ?_
  refine lv_lconst (v := 0) hx hb d_Model_isLetter_2 (by decide) ?_
  refine lv_ldc2 hx hb hown (hts _ q1552) d_Model_isLetter_3 ?_
  refine z_callS (index := 138) (As := [.long b0.toInt64, .long 0, .long 9]) (rest := []) (wr := []) Z (s2_Model_in l G (b0.toInt64) (0) (9)) hl.1 q1281 q1282 q14 q1283 ⟨by decide, by decide, by show _ = some 3; decide +kernel⟩ ⟨Nat.le_of_ble_eq_true rfl, Nat.le_of_ble_eq_true rfl⟩ ⟨Nat.le_of_ble_eq_true rfl, Nat.le_of_ble_eq_true rfl⟩ rfl (Nat.le_of_ble_eq_true rfl) d_Model_isLetter_6 hP hD hS hA [] [] rfl rfl rfl rfl (by decide) (fun v w1 H locs hw_1 hP hD hS => ?_)
  rcases hw_1 with ⟨rfl, rfl, hq_2⟩ | ⟨rfl, rfl, hq_3, hq_4⟩ | ⟨rfl, rfl, hq_5, hq_6⟩
  · have hP : va_P G.1 classes [] H := hP
    have hD := z_tie hP hD rfl
    try simp only [Int32.toInt_toInt64, ll_0] at hq_2
    have hv_7 : zI b0 (-2147483648) (-1) := by have _a := hq_2; have _b := (zI_all b0); have _c := zcl_0; simp only [Int32.toInt_toInt64] at *; exact ⟨by omega, by omega⟩
    refine W.widen (k := 0) (n := 0) (Nat.le_of_ble_eq_true rfl) (Nat.le_of_ble_eq_true rfl) ?_
    exact z_zret hx hb hr hlocks rfl hP hD hS (Nat.le_of_ble_eq_true rfl) (Nat.le_of_ble_eq_true rfl) d_Model_isLetter_9 ⟨0, rfl, rfl, (zI.wk (l' := 0) (h' := 1) zc_0 (by decide))⟩
  · have hP : va_P G.1 classes [] H := hP
    have hD := z_tie hP hD rfl
    try simp only [Int32.toInt_toInt64, ll_0] at hq_3
    have hv_8 : zI b0 0 2147483647 := by have _a := hq_3; have _b := (zI_all b0); have _c := zcl_0; simp only [Int32.toInt_toInt64] at *; exact ⟨by omega, by omega⟩
    try simp only [Int32.toInt_toInt64, ll_9] at hq_4
    have hv_9 : zI b0 10 2147483647 := by have _a := hq_4; have _b := hv_8; have _c := zcl_9; simp only [Int32.toInt_toInt64] at *; exact ⟨by omega, by omega⟩
    refine W.widen (k := 0) (n := 0) (Nat.le_of_ble_eq_true rfl) (Nat.le_of_ble_eq_true rfl) ?_
    exact z_zret hx hb hr hlocks rfl hP hD hS (Nat.le_of_ble_eq_true rfl) (Nat.le_of_ble_eq_true rfl) d_Model_isLetter_9 ⟨0, rfl, rfl, (zI.wk (l' := 0) (h' := 1) zc_0 (by decide))⟩
  · have hP : va_P G.1 classes [] H := hP
    have hD := z_tie hP hD rfl
    try simp only [Int32.toInt_toInt64, ll_0] at hq_5
    have hv_10 : zI b0 0 2147483647 := by have _a := hq_5; have _b := (zI_all b0); have _c := zcl_0; simp only [Int32.toInt_toInt64] at *; exact ⟨by omega, by omega⟩
    try simp only [Int32.toInt_toInt64, ll_9] at hq_6
    have hv_11 : zI b0 0 9 := by have _a := hq_6; have _b := hv_10; have _c := zcl_9; simp only [Int32.toInt_toInt64] at *; exact ⟨by omega, by omega⟩
    refine W.widen (k := 0) (n := 0) (Nat.le_of_ble_eq_true rfl) (Nat.le_of_ble_eq_true rfl) ?_
    exact z_zret hx hb hr hlocks rfl hP hD hS (Nat.le_of_ble_eq_true rfl) (Nat.le_of_ble_eq_true rfl) d_Model_isLetter_9 ⟨1, rfl, rfl, (zI.wk (l' := 0) (h' := 1) zc_1 (by decide))⟩
theorem d_Model_rule_67 : decode prog_14_method_80_code 67 = .ok (.ireturn, 1) := by decide +kernel
abbrev m_s1_Model_rule : Room := { frames := 4, cells := 0, slots := 0, locals := 99 }
set_option maxHeartbeats 4000000 in
set_option maxRecDepth 100000 in
theorem s1_Model_rule (l : Launch) (G : zG) (b0 : Nat) (b1 : Int32) (b2 : Int32) (b3 : Int32) (b4 : Int32) (b5 : Int32) (b6 : Nat) (b7 : Nat) (b8 : Nat) (b9 : Nat) (b10 : Int32) (b11 : Nat) (b12 : Int32) (b13 : Int32) (b14 : Int32) (b15 : Int32) (b16 : Nat) (b17 : Nat) (b18 : Nat) (b19 : Int32) (b20 : Nat) (b21 : Nat) (b22 : Nat) (b23 : Nat) (b24 : Nat) (b25 : Nat) (b26 : Nat) (b27 : Nat) (b28 : Nat) (b29 : Nat) (b30 : Nat) (b31 : Nat) (b32 : Int32) (b33 : Nat) (b34 : Nat) (b35 : Int32) (b36 : Int32) (b37 : Int32) (b38 : Int32) (b39 : Nat) (b40 : Nat) (b41 : Nat) (b42 : Nat) (b43 : Nat) (b44 : Nat) (b45 : Nat) (b46 : Int32) (b47 : Nat) (b48 : Nat) (b49 : Int32) (b50 : Nat) (b51 : Nat) (b52 : Nat) (b53 : Nat) (b54 : Nat) (b55 : Int32) (b56 : Nat) (b57 : Nat) (b58 : Nat) (b59 : Nat → Int32) (hb10 : zI b10 0 8) (hb12 : zI b12 0 240) (hb13 : zI b13 0 240) (hb15 : zI b15 0 1) (hb19 : zI b19 0 12) (hb32 : zI b32 0 1) (hb35 : zI b35 0 1) (hb59 : zW5 b59) : zM l G y_Model_rule prog_14_method_80_code 5 (Option.some Jvm.ClassFile.FieldType.int) m_s1_Model_rule [.ref b0, .int b1, .int b2, .int b3, .int b4] [(b0, .inr (12, [.int b5, .ref b6, .ref b7, .ref b8, .ref b9, .int b10, .ref b11, .int b12, .int b13, .int b14, .int b15, .ref b16, .ref b17, .ref b18, .int b19, .ref b20, .ref b21, .ref b22, .ref b23, .ref b24, .ref b25, .ref b26, .ref b27, .ref b28, .ref b29, .ref b30, .ref b31, .int b32, .ref b33, .ref b34, .int b35, .int b36, .int b37, .int b38, .ref b39, .ref b40, .ref b41, .ref b42, .ref b43, .ref b44, .ref b45, .int b46, .ref b47, .ref b48, .int b49, .ref b50, .ref b51, .ref b52, .ref b53, .ref b54, .int b55, .ref b56, .ref b57, .ref b58])), (b6, .inl (G.2 0, 503, .inl b59))] (fun v w => ∃ (e0 : Int32), v = some (.int e0) ∧ w = [(b0, .inr (12, [.int 0, .ref b6, .ref b7, .ref b8, .ref b9, .int b10, .ref b11, .int b12, .int b13, .int b14, .int b15, .ref b16, .ref b17, .ref b18, .int b19, .ref b20, .ref b21, .ref b22, .ref b23, .ref b24, .ref b25, .ref b26, .ref b27, .ref b28, .ref b29, .ref b30, .ref b31, .int b32, .ref b33, .ref b34, .int b35, .int b36, .int b37, .int b38, .ref b39, .ref b40, .ref b41, .ref b42, .ref b43, .ref b44, .ref b45, .int b46, .ref b47, .ref b48, .int b49, .ref b50, .ref b51, .ref b52, .ref b53, .ref b54, .int b55, .ref b56, .ref b57, .ref b58])), (b6, .inl (G.2 0, 503, .inl b59))]) := by
  refine z_start (by decide +kernel) (Nat.le_of_ble_eq_true rfl) ?_
  intro p e s m below meth c A Z hr hnm hA hP hD hS ls hl
  have Z : zC p s m _ meth c prog_14_method_80_code 5 "TraceMachinesModel" G := Z
  obtain ⟨hx, hb, hml, hown, hts, hK, hN, hlocks⟩ := id Z
  have hl : lv_has ls 5 [(0, .ref b0), (1, .int b1), (2, .int b2), (3, .int b3), (4, .int b4)] := hl
  refine lv_aload_n hx hb d_Model_rule_0 rfl (lv_at hl 0 rfl) ?_
  refine lv_iconst (v := 0) hx hb d_Model_rule_1 (by decide) ?_
  refine va_put (D := G.1) (ci := 12) (v := .int 0) (ty := .int) (C := R_Model) (T := F_Model) (N := 54) hx hb hts i_Model t_Model t_Model_ok n_Model hown hK hP hD hS 0 rfl rfl 0 (by decide) (hts _ q1109) (fun _ h9 => h9) rfl (by decide +kernel) rfl rfl (Nat.le_of_ble_eq_true rfl) d_Model_rule_2 (fun H locs hP hD hS => ?_)
  have hP : va_P G.1 classes [(b0, .inr (12, [.int 0, .ref b6, .ref b7, .ref b8, .ref b9, .int b10, .ref b11, .int b12, .int b13, .int b14, .int b15, .ref b16, .ref b17, .ref b18, .int b19, .ref b20, .ref b21, .ref b22, .ref b23, .ref b24, .ref b25, .ref b26, .ref b27, .ref b28, .ref b29, .ref b30, .ref b31, .int b32, .ref b33, .ref b34, .int b35, .int b36, .int b37, .int b38, .ref b39, .ref b40, .ref b41, .ref b42, .ref b43, .ref b44, .ref b45, .int b46, .ref b47, .ref b48, .int b49, .ref b50, .ref b51, .ref b52, .ref b53, .ref b54, .int b55, .ref b56, .ref b57, .ref b58])), (b6, .inl (G.2 0, 503, .inl b59))] H := hP
  have hD := z_tie hP hD rfl
  refine lv_iload_n hx hb d_Model_rule_5 rfl (lv_at hl 1 rfl) ?_
  refine lv_i2l (v := b1.toInt64) hx hb d_Model_rule_6 rfl ?_
  refine lv_lconst (v := 0) hx hb d_Model_rule_7 (by decide) ?_
  refine lv_ldc2 hx hb hown (hts _ q1432) d_Model_rule_8 ?_
  refine z_callS (index := 138) (As := [.long b1.toInt64, .long 0, .long 5]) (rest := []) (wr := [(b0, .inr (12, [.int 0, .ref b6, .ref b7, .ref b8, .ref b9, .int b10, .ref b11, .int b12, .int b13, .int b14, .int b15, .ref b16, .ref b17, .ref b18, .int b19, .ref b20, .ref b21, .ref b22, .ref b23, .ref b24, .ref b25, .ref b26, .ref b27, .ref b28, .ref b29, .ref b30, .ref b31, .int b32, .ref b33, .ref b34, .int b35, .int b36, .int b37, .int b38, .ref b39, .ref b40, .ref b41, .ref b42, .ref b43, .ref b44, .ref b45, .int b46, .ref b47, .ref b48, .int b49, .ref b50, .ref b51, .ref b52, .ref b53, .ref b54, .int b55, .ref b56, .ref b57, .ref b58])), (b6, .inl (G.2 0, 503, .inl b59))]) Z (s2_Model_in l G (b1.toInt64) (0) (5)) hl.1 q1281 q1282 q14 q1283 ⟨by decide, by decide, by show _ = some 3; decide +kernel⟩ ⟨Nat.le_of_ble_eq_true rfl, Nat.le_of_ble_eq_true rfl⟩ ⟨Nat.le_of_ble_eq_true rfl, Nat.le_of_ble_eq_true rfl⟩ rfl (Nat.le_of_ble_eq_true rfl) d_Model_rule_11 hP hD hS hA [] [0, 1] rfl rfl rfl rfl (by decide) (fun v w1 H locs hw_1 hP hD hS => ?_)
  rcases hw_1 with ⟨rfl, rfl, hq_2⟩ | ⟨rfl, rfl, hq_3, hq_4⟩ | ⟨rfl, rfl, hq_5, hq_6⟩
  · have hP : va_P G.1 classes [(b0, .inr (12, [.int 0, .ref b6, .ref b7, .ref b8, .ref b9, .int b10, .ref b11, .int b12, .int b13, .int b14, .int b15, .ref b16, .ref b17, .ref b18, .int b19, .ref b20, .ref b21, .ref b22, .ref b23, .ref b24, .ref b25, .ref b26, .ref b27, .ref b28, .ref b29, .ref b30, .ref b31, .int b32, .ref b33, .ref b34, .int b35, .int b36, .int b37, .int b38, .ref b39, .ref b40, .ref b41, .ref b42, .ref b43, .ref b44, .ref b45, .int b46, .ref b47, .ref b48, .int b49, .ref b50, .ref b51, .ref b52, .ref b53, .ref b54, .int b55, .ref b56, .ref b57, .ref b58])), (b6, .inl (G.2 0, 503, .inl b59))] H := hP
    have hD := z_tie hP hD rfl
    try simp only [Int32.toInt_toInt64, ll_0] at hq_2
    have hv_7 : zI b1 (-2147483648) (-1) := by have _a := hq_2; have _b := (zI_all b1); have _c := zcl_0; simp only [Int32.toInt_toInt64] at *; exact ⟨by omega, by omega⟩
    refine W.widen (k := 0) (n := 0) (Nat.le_of_ble_eq_true rfl) (Nat.le_of_ble_eq_true rfl) ?_
    refine lv_if_eq (tgt := 47) hx hb d_Model_rule_14 (by decide) (fun _ => ?_) (fun hc => absurd hc (by decide +kernel))
    refine lv_iconst (v := (-1)) hx hb d_Model_rule_47 (by decide) ?_
    exact z_iret hx hb hr hlocks hP hD hS (Nat.le_of_ble_eq_true rfl) (Nat.le_of_ble_eq_true rfl) d_Model_rule_48 ⟨(-1), rfl, rfl⟩
  · have hP : va_P G.1 classes [(b0, .inr (12, [.int 0, .ref b6, .ref b7, .ref b8, .ref b9, .int b10, .ref b11, .int b12, .int b13, .int b14, .int b15, .ref b16, .ref b17, .ref b18, .int b19, .ref b20, .ref b21, .ref b22, .ref b23, .ref b24, .ref b25, .ref b26, .ref b27, .ref b28, .ref b29, .ref b30, .ref b31, .int b32, .ref b33, .ref b34, .int b35, .int b36, .int b37, .int b38, .ref b39, .ref b40, .ref b41, .ref b42, .ref b43, .ref b44, .ref b45, .int b46, .ref b47, .ref b48, .int b49, .ref b50, .ref b51, .ref b52, .ref b53, .ref b54, .int b55, .ref b56, .ref b57, .ref b58])), (b6, .inl (G.2 0, 503, .inl b59))] H := hP
    have hD := z_tie hP hD rfl
    try simp only [Int32.toInt_toInt64, ll_0] at hq_3
    have hv_8 : zI b1 0 2147483647 := by have _a := hq_3; have _b := (zI_all b1); have _c := zcl_0; simp only [Int32.toInt_toInt64] at *; exact ⟨by omega, by omega⟩
    try simp only [Int32.toInt_toInt64, ll_5] at hq_4
    have hv_9 : zI b1 6 2147483647 := by have _a := hq_4; have _b := hv_8; have _c := zcl_5; simp only [Int32.toInt_toInt64] at *; exact ⟨by omega, by omega⟩
    refine W.widen (k := 0) (n := 0) (Nat.le_of_ble_eq_true rfl) (Nat.le_of_ble_eq_true rfl) ?_
    refine lv_if_eq (tgt := 47) hx hb d_Model_rule_14 (by decide) (fun _ => ?_) (fun hc => absurd hc (by decide +kernel))
    refine lv_iconst (v := (-1)) hx hb d_Model_rule_47 (by decide) ?_
    exact z_iret hx hb hr hlocks hP hD hS (Nat.le_of_ble_eq_true rfl) (Nat.le_of_ble_eq_true rfl) d_Model_rule_48 ⟨(-1), rfl, rfl⟩
  · have hP : va_P G.1 classes [(b0, .inr (12, [.int 0, .ref b6, .ref b7, .ref b8, .ref b9, .int b10, .ref b11, .int b12, .int b13, .int b14, .int b15, .ref b16, .ref b17, .ref b18, .int b19, .ref b20, .ref b21, .ref b22, .ref b23, .ref b24, .ref b25, .ref b26, .ref b27, .ref b28, .ref b29, .ref b30, .ref b31, .int b32, .ref b33, .ref b34, .int b35, .int b36, .int b37, .int b38, .ref b39, .ref b40, .ref b41, .ref b42, .ref b43, .ref b44, .ref b45, .int b46, .ref b47, .ref b48, .int b49, .ref b50, .ref b51, .ref b52, .ref b53, .ref b54, .int b55, .ref b56, .ref b57, .ref b58])), (b6, .inl (G.2 0, 503, .inl b59))] H := hP
    have hD := z_tie hP hD rfl
    try simp only [Int32.toInt_toInt64, ll_0] at hq_5
    have hv_10 : zI b1 0 2147483647 := by have _a := hq_5; have _b := (zI_all b1); have _c := zcl_0; simp only [Int32.toInt_toInt64] at *; exact ⟨by omega, by omega⟩
    try simp only [Int32.toInt_toInt64, ll_5] at hq_6
    have hv_11 : zI b1 0 5 := by have _a := hq_6; have _b := hv_10; have _c := zcl_5; simp only [Int32.toInt_toInt64] at *; exact ⟨by omega, by omega⟩
    refine W.widen (k := 0) (n := 0) (Nat.le_of_ble_eq_true rfl) (Nat.le_of_ble_eq_true rfl) ?_
    refine lv_if_eq (tgt := 47) hx hb d_Model_rule_14 (by decide) (fun hc => absurd hc (by decide +kernel)) (fun _ => ?_)
    refine lv_iload_n hx hb d_Model_rule_17 rfl (lv_at hl 2 rfl) ?_
    refine z_callS (index := 391) (As := [.int b2]) (rest := []) (wr := [(b0, .inr (12, [.int 0, .ref b6, .ref b7, .ref b8, .ref b9, .int b10, .ref b11, .int b12, .int b13, .int b14, .int b15, .ref b16, .ref b17, .ref b18, .int b19, .ref b20, .ref b21, .ref b22, .ref b23, .ref b24, .ref b25, .ref b26, .ref b27, .ref b28, .ref b29, .ref b30, .ref b31, .int b32, .ref b33, .ref b34, .int b35, .int b36, .int b37, .int b38, .ref b39, .ref b40, .ref b41, .ref b42, .ref b43, .ref b44, .ref b45, .int b46, .ref b47, .ref b48, .int b49, .ref b50, .ref b51, .ref b52, .ref b53, .ref b54, .int b55, .ref b56, .ref b57, .ref b58])), (b6, .inl (G.2 0, 503, .inl b59))]) Z (s2_Model_isLetter l G (b2)) hl.1 q1549 q1550 q14 q1551 ⟨by decide, by decide, by show _ = some 1; decide +kernel⟩ ⟨Nat.le_of_ble_eq_true rfl, Nat.le_of_ble_eq_true rfl⟩ ⟨Nat.le_of_ble_eq_true rfl, Nat.le_of_ble_eq_true rfl⟩ rfl (Nat.le_of_ble_eq_true rfl) d_Model_rule_18 hP hD hS hA [] [0, 1] rfl rfl rfl rfl (by decide) (fun v w1 H locs hw_12 hP hD hS => ?_)
    obtain ⟨x_13, rfl, rfl, hx_13⟩ := hw_12
    have hP : va_P G.1 classes [(b0, .inr (12, [.int 0, .ref b6, .ref b7, .ref b8, .ref b9, .int b10, .ref b11, .int b12, .int b13, .int b14, .int b15, .ref b16, .ref b17, .ref b18, .int b19, .ref b20, .ref b21, .ref b22, .ref b23, .ref b24, .ref b25, .ref b26, .ref b27, .ref b28, .ref b29, .ref b30, .ref b31, .int b32, .ref b33, .ref b34, .int b35, .int b36, .int b37, .int b38, .ref b39, .ref b40, .ref b41, .ref b42, .ref b43, .ref b44, .ref b45, .int b46, .ref b47, .ref b48, .int b49, .ref b50, .ref b51, .ref b52, .ref b53, .ref b54, .int b55, .ref b56, .ref b57, .ref b58])), (b6, .inl (G.2 0, 503, .inl b59))] H := hP
    have hD := z_tie hP hD rfl
    refine W.widen (k := 0) (n := 0) (Nat.le_of_ble_eq_true rfl) (Nat.le_of_ble_eq_true rfl) ?_
    refine lv_if_eq (tgt := 47) hx hb d_Model_rule_21 (by decide) (fun hc_14 => ?_) (fun hc_14 => ?_)
    · have _nhc_14 := hc_14
      have ni_15 := (fa_eq _ _).mp hc_14
      rw [li_0] at ni_15
      have hv_16 : zI x_13 0 0 := zI.eq_l hx_13 zc_0 hc_14
      refine lv_iconst (v := (-1)) hx hb d_Model_rule_47 (by decide) ?_
      exact z_iret hx hb hr hlocks hP hD hS (Nat.le_of_ble_eq_true rfl) (Nat.le_of_ble_eq_true rfl) d_Model_rule_48 ⟨(-1), rfl, rfl⟩
    · have _nhc_14 := hc_14
      have ni_17 : ¬ (x_13 : Int32).toInt = (0 : Int32).toInt := fun z => hc_14 ((fa_eq _ _).mpr z)
      simp only [li_0] at ni_17
      have hv_18 : zI x_13 1 1 := zI.ne_lo hx_13 zc_0 hc_14 (by decide)
      refine lv_iload_n hx hb d_Model_rule_24 rfl (lv_at hl 3 rfl) ?_
      refine z_callS (index := 391) (As := [.int b3]) (rest := []) (wr := [(b0, .inr (12, [.int 0, .ref b6, .ref b7, .ref b8, .ref b9, .int b10, .ref b11, .int b12, .int b13, .int b14, .int b15, .ref b16, .ref b17, .ref b18, .int b19, .ref b20, .ref b21, .ref b22, .ref b23, .ref b24, .ref b25, .ref b26, .ref b27, .ref b28, .ref b29, .ref b30, .ref b31, .int b32, .ref b33, .ref b34, .int b35, .int b36, .int b37, .int b38, .ref b39, .ref b40, .ref b41, .ref b42, .ref b43, .ref b44, .ref b45, .int b46, .ref b47, .ref b48, .int b49, .ref b50, .ref b51, .ref b52, .ref b53, .ref b54, .int b55, .ref b56, .ref b57, .ref b58])), (b6, .inl (G.2 0, 503, .inl b59))]) Z (s2_Model_isLetter l G (b3)) hl.1 q1549 q1550 q14 q1551 ⟨by decide, by decide, by show _ = some 1; decide +kernel⟩ ⟨Nat.le_of_ble_eq_true rfl, Nat.le_of_ble_eq_true rfl⟩ ⟨Nat.le_of_ble_eq_true rfl, Nat.le_of_ble_eq_true rfl⟩ rfl (Nat.le_of_ble_eq_true rfl) d_Model_rule_25 hP hD hS hA [] [0, 1] rfl rfl rfl rfl (by decide) (fun v w1 H locs hw_19 hP hD hS => ?_)
      obtain ⟨x_20, rfl, rfl, hx_20⟩ := hw_19
      have hP : va_P G.1 classes [(b0, .inr (12, [.int 0, .ref b6, .ref b7, .ref b8, .ref b9, .int b10, .ref b11, .int b12, .int b13, .int b14, .int b15, .ref b16, .ref b17, .ref b18, .int b19, .ref b20, .ref b21, .ref b22, .ref b23, .ref b24, .ref b25, .ref b26, .ref b27, .ref b28, .ref b29, .ref b30, .ref b31, .int b32, .ref b33, .ref b34, .int b35, .int b36, .int b37, .int b38, .ref b39, .ref b40, .ref b41, .ref b42, .ref b43, .ref b44, .ref b45, .int b46, .ref b47, .ref b48, .int b49, .ref b50, .ref b51, .ref b52, .ref b53, .ref b54, .int b55, .ref b56, .ref b57, .ref b58])), (b6, .inl (G.2 0, 503, .inl b59))] H := hP
      have hD := z_tie hP hD rfl
      refine W.widen (k := 0) (n := 0) (Nat.le_of_ble_eq_true rfl) (Nat.le_of_ble_eq_true rfl) ?_
      refine lv_if_eq (tgt := 47) hx hb d_Model_rule_28 (by decide) (fun hc_21 => ?_) (fun hc_21 => ?_)
      · have _nhc_21 := hc_21
        have ni_22 := (fa_eq _ _).mp hc_21
        rw [li_0] at ni_22
        have hv_23 : zI x_20 0 0 := zI.eq_l hx_20 zc_0 hc_21
        refine lv_iconst (v := (-1)) hx hb d_Model_rule_47 (by decide) ?_
        exact z_iret hx hb hr hlocks hP hD hS (Nat.le_of_ble_eq_true rfl) (Nat.le_of_ble_eq_true rfl) d_Model_rule_48 ⟨(-1), rfl, rfl⟩
      · have _nhc_21 := hc_21
        have ni_24 : ¬ (x_20 : Int32).toInt = (0 : Int32).toInt := fun z => hc_21 ((fa_eq _ _).mpr z)
        simp only [li_0] at ni_24
        have hv_25 : zI x_20 1 1 := zI.ne_lo hx_20 zc_0 hc_21 (by decide)
        refine lv_iload_n hx hb d_Model_rule_31 rfl (lv_at hl 2 rfl) ?_
        refine lv_iload_n hx hb d_Model_rule_32 rfl (lv_at hl 3 rfl) ?_
        refine lv_icmp_eq (tgt := 47) hx hb d_Model_rule_33 (by decide) (fun hc_26 => ?_) (fun hc_26 => ?_)
        · have _nhc_26 := hc_26
          have ni_27 := (fa_eq _ _).mp hc_26
          refine lv_iconst (v := (-1)) hx hb d_Model_rule_47 (by decide) ?_
          exact z_iret hx hb hr hlocks hP hD hS (Nat.le_of_ble_eq_true rfl) (Nat.le_of_ble_eq_true rfl) d_Model_rule_48 ⟨(-1), rfl, rfl⟩
        · have _nhc_26 := hc_26
          have ni_28 : ¬ (b2 : Int32).toInt = (b3 : Int32).toInt := fun z => hc_26 ((fa_eq _ _).mpr z)
          refine lv_iload hx hb d_Model_rule_36 (lv_at hl 4 rfl) ?_
          refine lv_i2l (v := b4.toInt64) hx hb d_Model_rule_38 rfl ?_
          refine lv_lconst (v := 0) hx hb d_Model_rule_39 (by decide) ?_
          refine lv_lconst (v := 1) hx hb d_Model_rule_40 (by decide) ?_
          refine z_callS (index := 138) (As := [.long b4.toInt64, .long 0, .long 1]) (rest := []) (wr := [(b0, .inr (12, [.int 0, .ref b6, .ref b7, .ref b8, .ref b9, .int b10, .ref b11, .int b12, .int b13, .int b14, .int b15, .ref b16, .ref b17, .ref b18, .int b19, .ref b20, .ref b21, .ref b22, .ref b23, .ref b24, .ref b25, .ref b26, .ref b27, .ref b28, .ref b29, .ref b30, .ref b31, .int b32, .ref b33, .ref b34, .int b35, .int b36, .int b37, .int b38, .ref b39, .ref b40, .ref b41, .ref b42, .ref b43, .ref b44, .ref b45, .int b46, .ref b47, .ref b48, .int b49, .ref b50, .ref b51, .ref b52, .ref b53, .ref b54, .int b55, .ref b56, .ref b57, .ref b58])), (b6, .inl (G.2 0, 503, .inl b59))]) Z (s2_Model_in l G (b4.toInt64) (0) (1)) hl.1 q1281 q1282 q14 q1283 ⟨by decide, by decide, by show _ = some 3; decide +kernel⟩ ⟨Nat.le_of_ble_eq_true rfl, Nat.le_of_ble_eq_true rfl⟩ ⟨Nat.le_of_ble_eq_true rfl, Nat.le_of_ble_eq_true rfl⟩ rfl (Nat.le_of_ble_eq_true rfl) d_Model_rule_41 hP hD hS hA [] [0, 1] rfl rfl rfl rfl (by decide) (fun v w1 H locs hw_29 hP hD hS => ?_)
          rcases hw_29 with ⟨rfl, rfl, hq_30⟩ | ⟨rfl, rfl, hq_31, hq_32⟩ | ⟨rfl, rfl, hq_33, hq_34⟩
          · have hP : va_P G.1 classes [(b0, .inr (12, [.int 0, .ref b6, .ref b7, .ref b8, .ref b9, .int b10, .ref b11, .int b12, .int b13, .int b14, .int b15, .ref b16, .ref b17, .ref b18, .int b19, .ref b20, .ref b21, .ref b22, .ref b23, .ref b24, .ref b25, .ref b26, .ref b27, .ref b28, .ref b29, .ref b30, .ref b31, .int b32, .ref b33, .ref b34, .int b35, .int b36, .int b37, .int b38, .ref b39, .ref b40, .ref b41, .ref b42, .ref b43, .ref b44, .ref b45, .int b46, .ref b47, .ref b48, .int b49, .ref b50, .ref b51, .ref b52, .ref b53, .ref b54, .int b55, .ref b56, .ref b57, .ref b58])), (b6, .inl (G.2 0, 503, .inl b59))] H := hP
            have hD := z_tie hP hD rfl
            try simp only [Int32.toInt_toInt64, ll_0] at hq_30
            have hv_35 : zI b4 (-2147483648) (-1) := by have _a := hq_30; have _b := (zI_all b4); have _c := zcl_0; simp only [Int32.toInt_toInt64] at *; exact ⟨by omega, by omega⟩
            refine W.widen (k := 0) (n := 0) (Nat.le_of_ble_eq_true rfl) (Nat.le_of_ble_eq_true rfl) ?_
            refine lv_if_ne (tgt := 49) hx hb d_Model_rule_44 (by decide) (fun hc => absurd hc (by decide +kernel)) (fun _ => ?_)
            refine lv_iconst (v := (-1)) hx hb d_Model_rule_47 (by decide) ?_
            exact z_iret hx hb hr hlocks hP hD hS (Nat.le_of_ble_eq_true rfl) (Nat.le_of_ble_eq_true rfl) d_Model_rule_48 ⟨(-1), rfl, rfl⟩
          · have hP : va_P G.1 classes [(b0, .inr (12, [.int 0, .ref b6, .ref b7, .ref b8, .ref b9, .int b10, .ref b11, .int b12, .int b13, .int b14, .int b15, .ref b16, .ref b17, .ref b18, .int b19, .ref b20, .ref b21, .ref b22, .ref b23, .ref b24, .ref b25, .ref b26, .ref b27, .ref b28, .ref b29, .ref b30, .ref b31, .int b32, .ref b33, .ref b34, .int b35, .int b36, .int b37, .int b38, .ref b39, .ref b40, .ref b41, .ref b42, .ref b43, .ref b44, .ref b45, .int b46, .ref b47, .ref b48, .int b49, .ref b50, .ref b51, .ref b52, .ref b53, .ref b54, .int b55, .ref b56, .ref b57, .ref b58])), (b6, .inl (G.2 0, 503, .inl b59))] H := hP
            have hD := z_tie hP hD rfl
            try simp only [Int32.toInt_toInt64, ll_0] at hq_31
            have hv_36 : zI b4 0 2147483647 := by have _a := hq_31; have _b := (zI_all b4); have _c := zcl_0; simp only [Int32.toInt_toInt64] at *; exact ⟨by omega, by omega⟩
            try simp only [Int32.toInt_toInt64, ll_1] at hq_32
            have hv_37 : zI b4 2 2147483647 := by have _a := hq_32; have _b := hv_36; have _c := zcl_1; simp only [Int32.toInt_toInt64] at *; exact ⟨by omega, by omega⟩
            refine W.widen (k := 0) (n := 0) (Nat.le_of_ble_eq_true rfl) (Nat.le_of_ble_eq_true rfl) ?_
            refine lv_if_ne (tgt := 49) hx hb d_Model_rule_44 (by decide) (fun hc => absurd hc (by decide +kernel)) (fun _ => ?_)
            refine lv_iconst (v := (-1)) hx hb d_Model_rule_47 (by decide) ?_
            exact z_iret hx hb hr hlocks hP hD hS (Nat.le_of_ble_eq_true rfl) (Nat.le_of_ble_eq_true rfl) d_Model_rule_48 ⟨(-1), rfl, rfl⟩
          · have hP : va_P G.1 classes [(b0, .inr (12, [.int 0, .ref b6, .ref b7, .ref b8, .ref b9, .int b10, .ref b11, .int b12, .int b13, .int b14, .int b15, .ref b16, .ref b17, .ref b18, .int b19, .ref b20, .ref b21, .ref b22, .ref b23, .ref b24, .ref b25, .ref b26, .ref b27, .ref b28, .ref b29, .ref b30, .ref b31, .int b32, .ref b33, .ref b34, .int b35, .int b36, .int b37, .int b38, .ref b39, .ref b40, .ref b41, .ref b42, .ref b43, .ref b44, .ref b45, .int b46, .ref b47, .ref b48, .int b49, .ref b50, .ref b51, .ref b52, .ref b53, .ref b54, .int b55, .ref b56, .ref b57, .ref b58])), (b6, .inl (G.2 0, 503, .inl b59))] H := hP
            have hD := z_tie hP hD rfl
            try simp only [Int32.toInt_toInt64, ll_0] at hq_33
            have hv_38 : zI b4 0 2147483647 := by have _a := hq_33; have _b := (zI_all b4); have _c := zcl_0; simp only [Int32.toInt_toInt64] at *; exact ⟨by omega, by omega⟩
            try simp only [Int32.toInt_toInt64, ll_1] at hq_34
            have hv_39 : zI b4 0 1 := by have _a := hq_34; have _b := hv_38; have _c := zcl_1; simp only [Int32.toInt_toInt64] at *; exact ⟨by omega, by omega⟩
            refine W.widen (k := 0) (n := 0) (Nat.le_of_ble_eq_true rfl) (Nat.le_of_ble_eq_true rfl) ?_
            refine lv_if_ne (tgt := 49) hx hb d_Model_rule_44 (by decide) (fun _ => ?_) (fun hc => absurd hc (by decide +kernel))
            refine lv_aload_n hx hb d_Model_rule_49 rfl (lv_at hl 0 rfl) ?_
            refine lv_iload_n hx hb d_Model_rule_50 rfl (lv_at hl 1 rfl) ?_
            refine lv_iload_n hx hb d_Model_rule_51 rfl (lv_at hl 2 rfl) ?_
            refine lv_iload_n hx hb d_Model_rule_52 rfl (lv_at hl 3 rfl) ?_
            refine lv_iload hx hb d_Model_rule_53 (lv_at hl 4 rfl) ?_
            refine lv_iconst (v := 1) hx hb d_Model_rule_55 (by decide) ?_
            refine lv_icmp_ne (tgt := 63) hx hb d_Model_rule_56 (by decide) (fun hc_40 => ?_) (fun hc_40 => ?_)
            · have _nhc_40 := hc_40
              have ni_41 : ¬ (b4 : Int32).toInt = (1 : Int32).toInt := fun z => hc_40 ((fa_eq _ _).mpr z)
              simp only [li_1] at ni_41
              have hv_42 : zI b4 0 0 := zI.ne_hi hv_39 zc_1 hc_40 (by decide)
              refine lv_iconst (v := 0) hx hb d_Model_rule_63 (by decide) ?_
              refine z_callV (index := 394) (As := [.int b1, .int b2, .int b3, .int 0]) (rest := []) (wr := []) Z (s1_Model_asked l G (b0) (b1) (b2) (b3) (0) (0) (b6) (b7) (b8) (b9) (b10) (b11) (b12) (b13) (b14) (b15) (b16) (b17) (b18) (b19) (b20) (b21) (b22) (b23) (b24) (b25) (b26) (b27) (b28) (b29) (b30) (b31) (b32) (b33) (b34) (b35) (b36) (b37) (b38) (b39) (b40) (b41) (b42) (b43) (b44) (b45) (b46) (b47) (b48) (b49) (b50) (b51) (b52) (b53) (b54) (b55) (b56) (b57) (b58) (b59) hb10 hb12 hb13 hb15 hb19 hb32 hb35 hb59) hl.1 q1553 q1555 qs87 q14 q1556 ⟨by decide, by decide, by show _ = some 4; decide +kernel⟩ ⟨Nat.le_of_ble_eq_true rfl, Nat.le_of_ble_eq_true rfl⟩ ⟨Nat.le_of_ble_eq_true rfl, Nat.le_of_ble_eq_true rfl⟩ rfl (Nat.le_of_ble_eq_true rfl) d_Model_rule_64 hP hD hS hA 0 12 rfl rfl rfl [0, 1] [] rfl rfl rfl rfl (by decide) (fun v w1 H locs hw_43 hP hD hS => ?_)
              obtain ⟨x_44, rfl, rfl⟩ := hw_43
              have hP : va_P G.1 classes [(b0, .inr (12, [.int 0, .ref b6, .ref b7, .ref b8, .ref b9, .int b10, .ref b11, .int b12, .int b13, .int b14, .int b15, .ref b16, .ref b17, .ref b18, .int b19, .ref b20, .ref b21, .ref b22, .ref b23, .ref b24, .ref b25, .ref b26, .ref b27, .ref b28, .ref b29, .ref b30, .ref b31, .int b32, .ref b33, .ref b34, .int b35, .int b36, .int b37, .int b38, .ref b39, .ref b40, .ref b41, .ref b42, .ref b43, .ref b44, .ref b45, .int b46, .ref b47, .ref b48, .int b49, .ref b50, .ref b51, .ref b52, .ref b53, .ref b54, .int b55, .ref b56, .ref b57, .ref b58])), (b6, .inl (G.2 0, 503, .inl b59))] H := hP
              have hD := z_tie hP hD rfl
              refine W.widen (k := 0) (n := 0) (Nat.le_of_ble_eq_true rfl) (Nat.le_of_ble_eq_true rfl) ?_
              exact z_iret hx hb hr hlocks hP hD hS (Nat.le_of_ble_eq_true rfl) (Nat.le_of_ble_eq_true rfl) d_Model_rule_67 ⟨x_44, rfl, rfl⟩
            · have _nhc_40 := hc_40
              have ni_45 := (fa_eq _ _).mp hc_40
              rw [li_1] at ni_45
              have hv_46 : zI b4 1 1 := zI.eq_l hv_39 zc_1 hc_40
              refine lv_iconst (v := 1) hx hb d_Model_rule_59 (by decide) ?_
              refine lv_goto (tgt := 64) hx hb d_Model_rule_60 (by decide) ?_
              refine z_callV (index := 394) (As := [.int b1, .int b2, .int b3, .int 1]) (rest := []) (wr := []) Z (s1_Model_asked l G (b0) (b1) (b2) (b3) (1) (0) (b6) (b7) (b8) (b9) (b10) (b11) (b12) (b13) (b14) (b15) (b16) (b17) (b18) (b19) (b20) (b21) (b22) (b23) (b24) (b25) (b26) (b27) (b28) (b29) (b30) (b31) (b32) (b33) (b34) (b35) (b36) (b37) (b38) (b39) (b40) (b41) (b42) (b43) (b44) (b45) (b46) (b47) (b48) (b49) (b50) (b51) (b52) (b53) (b54) (b55) (b56) (b57) (b58) (b59) hb10 hb12 hb13 hb15 hb19 hb32 hb35 hb59) hl.1 q1553 q1555 qs87 q14 q1556 ⟨by decide, by decide, by show _ = some 4; decide +kernel⟩ ⟨Nat.le_of_ble_eq_true rfl, Nat.le_of_ble_eq_true rfl⟩ ⟨Nat.le_of_ble_eq_true rfl, Nat.le_of_ble_eq_true rfl⟩ rfl (Nat.le_of_ble_eq_true rfl) d_Model_rule_64 hP hD hS hA 0 12 rfl rfl rfl [0, 1] [] rfl rfl rfl rfl (by decide) (fun v w1 H locs hw_47 hP hD hS => ?_)
              obtain ⟨x_48, rfl, rfl⟩ := hw_47
              have hP : va_P G.1 classes [(b0, .inr (12, [.int 0, .ref b6, .ref b7, .ref b8, .ref b9, .int b10, .ref b11, .int b12, .int b13, .int b14, .int b15, .ref b16, .ref b17, .ref b18, .int b19, .ref b20, .ref b21, .ref b22, .ref b23, .ref b24, .ref b25, .ref b26, .ref b27, .ref b28, .ref b29, .ref b30, .ref b31, .int b32, .ref b33, .ref b34, .int b35, .int b36, .int b37, .int b38, .ref b39, .ref b40, .ref b41, .ref b42, .ref b43, .ref b44, .ref b45, .int b46, .ref b47, .ref b48, .int b49, .ref b50, .ref b51, .ref b52, .ref b53, .ref b54, .int b55, .ref b56, .ref b57, .ref b58])), (b6, .inl (G.2 0, 503, .inl b59))] H := hP
              have hD := z_tie hP hD rfl
              refine W.widen (k := 0) (n := 0) (Nat.le_of_ble_eq_true rfl) (Nat.le_of_ble_eq_true rfl) ?_
              exact z_iret hx hb hr hlocks hP hD hS (Nat.le_of_ble_eq_true rfl) (Nat.le_of_ble_eq_true rfl) d_Model_rule_67 ⟨x_48, rfl, rfl⟩
theorem d_Model_rules_0 : decode prog_14_method_81_code 0 = .ok (.aload_n 0, 1) := by decide +kernel
theorem d_Model_rules_1 : decode prog_14_method_81_code 1 = .ok (.iconst 0, 1) := by decide +kernel
theorem d_Model_rules_2 : decode prog_14_method_81_code 2 = .ok (.putfield 1, 3) := by decide +kernel
theorem d_Model_rules_5 : decode prog_14_method_81_code 5 = .ok (.iload_n 1, 1) := by decide +kernel
theorem d_Model_rules_6 : decode prog_14_method_81_code 6 = .ok (.i2l, 1) := by decide +kernel
theorem d_Model_rules_7 : decode prog_14_method_81_code 7 = .ok (.lconst 0, 1) := by decide +kernel
theorem d_Model_rules_8 : decode prog_14_method_81_code 8 = .ok (.ldc2_w 263, 3) := by decide +kernel
theorem d_Model_rules_11 : decode prog_14_method_81_code 11 = .ok (.invokestatic 138, 3) := by decide +kernel
theorem d_Model_rules_14 : decode prog_14_method_81_code 14 = .ok (.ifCond .eq 20, 3) := by decide +kernel
theorem d_Model_rules_17 : decode prog_14_method_81_code 17 = .ok (.iload_n 2, 1) := by decide +kernel
theorem d_Model_rules_18 : decode prog_14_method_81_code 18 = .ok (.i2l, 1) := by decide +kernel
theorem d_Model_rules_19 : decode prog_14_method_81_code 19 = .ok (.lconst 1, 1) := by decide +kernel
theorem d_Model_rules_20 : decode prog_14_method_81_code 20 = .ok (.ldc2_w 398, 3) := by decide +kernel
theorem d_Model_rules_23 : decode prog_14_method_81_code 23 = .ok (.invokestatic 138, 3) := by decide +kernel
theorem d_Model_rules_26 : decode prog_14_method_81_code 26 = .ok (.ifCond .eq 8, 3) := by decide +kernel
theorem d_Model_rules_29 : decode prog_14_method_81_code 29 = .ok (.iload_n 3, 1) := by decide +kernel
theorem d_Model_rules_30 : decode prog_14_method_81_code 30 = .ok (.iconst (-1), 1) := by decide +kernel
theorem d_Model_rules_31 : decode prog_14_method_81_code 31 = .ok (.if_icmp .ge 5, 3) := by decide +kernel
theorem d_Model_rules_34 : decode prog_14_method_81_code 34 = .ok (.iconst (-1), 1) := by decide +kernel
theorem d_Model_rules_35 : decode prog_14_method_81_code 35 = .ok (.ireturn, 1) := by decide +kernel
theorem d_Model_rules_36 : decode prog_14_method_81_code 36 = .ok (.iconst 0, 1) := by decide +kernel
theorem d_Model_rules_37 : decode prog_14_method_81_code 37 = .ok (.istore 4, 2) := by decide +kernel
theorem d_Model_rules_39 : decode prog_14_method_81_code 39 = .ok (.iconst 0, 1) := by decide +kernel
theorem d_Model_rules_40 : decode prog_14_method_81_code 40 = .ok (.istore 5, 2) := by decide +kernel
theorem d_Model_rules_42 : decode prog_14_method_81_code 42 = .ok (.iload 5, 2) := by decide +kernel
theorem d_Model_rules_44 : decode prog_14_method_81_code 44 = .ok (.bipush 100, 2) := by decide +kernel
theorem d_Model_rules_46 : decode prog_14_method_81_code 46 = .ok (.if_icmp .ge 79, 3) := by decide +kernel
theorem d_Model_rules_49 : decode prog_14_method_81_code 49 = .ok (.iload 5, 2) := by decide +kernel
theorem d_Model_rules_51 : decode prog_14_method_81_code 51 = .ok (.bipush 10, 2) := by decide +kernel
theorem d_Model_rules_53 : decode prog_14_method_81_code 53 = .ok (.idiv, 1) := by decide +kernel
theorem d_Model_rules_54 : decode prog_14_method_81_code 54 = .ok (.istore 6, 2) := by decide +kernel
theorem d_Model_rules_56 : decode prog_14_method_81_code 56 = .ok (.iload 5, 2) := by decide +kernel
theorem d_Model_rules_58 : decode prog_14_method_81_code 58 = .ok (.bipush 10, 2) := by decide +kernel
theorem d_Model_rules_60 : decode prog_14_method_81_code 60 = .ok (.irem, 1) := by decide +kernel
theorem d_Model_rules_61 : decode prog_14_method_81_code 61 = .ok (.istore 7, 2) := by decide +kernel
theorem d_Model_rules_63 : decode prog_14_method_81_code 63 = .ok (.iload 6, 2) := by decide +kernel
theorem d_Model_rules_65 : decode prog_14_method_81_code 65 = .ok (.iload 7, 2) := by decide +kernel
theorem d_Model_rules_67 : decode prog_14_method_81_code 67 = .ok (.if_icmp .ne 7, 3) := by decide +kernel
theorem d_Model_rules_70 : decode prog_14_method_81_code 70 = .ok (.iconst 0, 1) := by decide +kernel
theorem d_Model_rules_71 : decode prog_14_method_81_code 71 = .ok (.goto 13, 3) := by decide +kernel
theorem d_Model_rules_74 : decode prog_14_method_81_code 74 = .ok (.aload_n 0, 1) := by decide +kernel
theorem d_Model_rules_75 : decode prog_14_method_81_code 75 = .ok (.iload_n 1, 1) := by decide +kernel
theorem d_Model_rules_76 : decode prog_14_method_81_code 76 = .ok (.iload 6, 2) := by decide +kernel
theorem d_Model_rules_78 : decode prog_14_method_81_code 78 = .ok (.iload 7, 2) := by decide +kernel
theorem d_Model_rules_80 : decode prog_14_method_81_code 80 = .ok (.iconst 0, 1) := by decide +kernel
theorem d_Model_rules_81 : decode prog_14_method_81_code 81 = .ok (.invokevirtual 394, 3) := by decide +kernel
theorem d_Model_rules_84 : decode prog_14_method_81_code 84 = .ok (.istore 8, 2) := by decide +kernel
theorem d_Model_rules_86 : decode prog_14_method_81_code 86 = .ok (.iload 8, 2) := by decide +kernel
theorem d_Model_rules_88 : decode prog_14_method_81_code 88 = .ok (.iload_n 2, 1) := by decide +kernel
theorem d_Model_rules_89 : decode prog_14_method_81_code 89 = .ok (.if_icmp .lt 30, 3) := by decide +kernel
theorem d_Model_rules_92 : decode prog_14_method_81_code 92 = .ok (.iload 8, 2) := by decide +kernel
theorem d_Model_rules_94 : decode prog_14_method_81_code 94 = .ok (.aload_n 0, 1) := by decide +kernel
theorem d_Model_rules_95 : decode prog_14_method_81_code 95 = .ok (.iload_n 1, 1) := by decide +kernel
theorem d_Model_rules_96 : decode prog_14_method_81_code 96 = .ok (.iload 6, 2) := by decide +kernel
theorem d_Model_rules_98 : decode prog_14_method_81_code 98 = .ok (.iload 7, 2) := by decide +kernel
theorem d_Model_rules_100 : decode prog_14_method_81_code 100 = .ok (.iconst 1, 1) := by decide +kernel
theorem d_Model_rules_101 : decode prog_14_method_81_code 101 = .ok (.invokevirtual 394, 3) := by decide +kernel
theorem d_Model_rules_104 : decode prog_14_method_81_code 104 = .ok (.if_icmp .ne 15, 3) := by decide +kernel
theorem d_Model_rules_107 : decode prog_14_method_81_code 107 = .ok (.iload 4, 2) := by decide +kernel
theorem d_Model_rules_109 : decode prog_14_method_81_code 109 = .ok (.iload_n 3, 1) := by decide +kernel
theorem d_Model_rules_110 : decode prog_14_method_81_code 110 = .ok (.if_icmp .ne 6, 3) := by decide +kernel
theorem d_Model_rules_113 : decode prog_14_method_81_code 113 = .ok (.iload 5, 2) := by decide +kernel
theorem d_Model_rules_115 : decode prog_14_method_81_code 115 = .ok (.ireturn, 1) := by decide +kernel
theorem d_Model_rules_116 : decode prog_14_method_81_code 116 = .ok (.iinc 4 1, 3) := by decide +kernel
theorem d_Model_rules_119 : decode prog_14_method_81_code 119 = .ok (.iinc 5 1, 3) := by decide +kernel
theorem d_Model_rules_122 : decode prog_14_method_81_code 122 = .ok (.goto (-80), 3) := by decide +kernel
theorem d_Model_rules_125 : decode prog_14_method_81_code 125 = .ok (.iload_n 3, 1) := by decide +kernel
theorem d_Model_rules_126 : decode prog_14_method_81_code 126 = .ok (.iconst (-1), 1) := by decide +kernel
theorem d_Model_rules_127 : decode prog_14_method_81_code 127 = .ok (.if_icmp .ne 8, 3) := by decide +kernel
theorem d_Model_rules_130 : decode prog_14_method_81_code 130 = .ok (.iload 4, 2) := by decide +kernel
theorem d_Model_rules_132 : decode prog_14_method_81_code 132 = .ok (.goto 4, 3) := by decide +kernel
theorem d_Model_rules_135 : decode prog_14_method_81_code 135 = .ok (.iconst (-1), 1) := by decide +kernel
theorem d_Model_rules_136 : decode prog_14_method_81_code 136 = .ok (.ireturn, 1) := by decide +kernel
theorem zc_100 : zI 100 100 100 := ⟨by decide +kernel, by decide +kernel⟩
theorem li_100 : (100 : Int32).toInt = 100 := by decide +kernel
abbrev m_s1_Model_rules : Room := { frames := 4, cells := 0, slots := 0, locals := 99 }
set_option maxHeartbeats 4000000 in
set_option maxRecDepth 100000 in
theorem s1_Model_rules (l : Launch) (G : zG) (b0 : Nat) (b1 : Int32) (b2 : Int32) (b3 : Int32) (b4 : Int32) (b5 : Nat) (b6 : Nat) (b7 : Nat) (b8 : Nat) (b9 : Int32) (b10 : Nat) (b11 : Int32) (b12 : Int32) (b13 : Int32) (b14 : Int32) (b15 : Nat) (b16 : Nat) (b17 : Nat) (b18 : Int32) (b19 : Nat) (b20 : Nat) (b21 : Nat) (b22 : Nat) (b23 : Nat) (b24 : Nat) (b25 : Nat) (b26 : Nat) (b27 : Nat) (b28 : Nat) (b29 : Nat) (b30 : Nat) (b31 : Int32) (b32 : Nat) (b33 : Nat) (b34 : Int32) (b35 : Int32) (b36 : Int32) (b37 : Int32) (b38 : Nat) (b39 : Nat) (b40 : Nat) (b41 : Nat) (b42 : Nat) (b43 : Nat) (b44 : Nat) (b45 : Int32) (b46 : Nat) (b47 : Nat) (b48 : Int32) (b49 : Nat) (b50 : Nat) (b51 : Nat) (b52 : Nat) (b53 : Nat) (b54 : Int32) (b55 : Nat) (b56 : Nat) (b57 : Nat) (b58 : Nat → Int32) (hb9 : zI b9 0 8) (hb11 : zI b11 0 240) (hb12 : zI b12 0 240) (hb14 : zI b14 0 1) (hb18 : zI b18 0 12) (hb31 : zI b31 0 1) (hb34 : zI b34 0 1) (hb58 : zW5 b58) : zM l G y_Model_rules prog_14_method_81_code 9 (Option.some Jvm.ClassFile.FieldType.int) m_s1_Model_rules [.ref b0, .int b1, .int b2, .int b3] [(b0, .inr (12, [.int b4, .ref b5, .ref b6, .ref b7, .ref b8, .int b9, .ref b10, .int b11, .int b12, .int b13, .int b14, .ref b15, .ref b16, .ref b17, .int b18, .ref b19, .ref b20, .ref b21, .ref b22, .ref b23, .ref b24, .ref b25, .ref b26, .ref b27, .ref b28, .ref b29, .ref b30, .int b31, .ref b32, .ref b33, .int b34, .int b35, .int b36, .int b37, .ref b38, .ref b39, .ref b40, .ref b41, .ref b42, .ref b43, .ref b44, .int b45, .ref b46, .ref b47, .int b48, .ref b49, .ref b50, .ref b51, .ref b52, .ref b53, .int b54, .ref b55, .ref b56, .ref b57])), (b5, .inl (G.2 0, 503, .inl b58))] (fun v w => ∃ (e0 : Int32), v = some (.int e0) ∧ w = [(b0, .inr (12, [.int 0, .ref b5, .ref b6, .ref b7, .ref b8, .int b9, .ref b10, .int b11, .int b12, .int b13, .int b14, .ref b15, .ref b16, .ref b17, .int b18, .ref b19, .ref b20, .ref b21, .ref b22, .ref b23, .ref b24, .ref b25, .ref b26, .ref b27, .ref b28, .ref b29, .ref b30, .int b31, .ref b32, .ref b33, .int b34, .int b35, .int b36, .int b37, .ref b38, .ref b39, .ref b40, .ref b41, .ref b42, .ref b43, .ref b44, .int b45, .ref b46, .ref b47, .int b48, .ref b49, .ref b50, .ref b51, .ref b52, .ref b53, .int b54, .ref b55, .ref b56, .ref b57])), (b5, .inl (G.2 0, 503, .inl b58))]) := by
  refine z_start (by decide +kernel) (Nat.le_of_ble_eq_true rfl) ?_
  intro p e s m below meth c A Z hr hnm hA hP hD hS ls hl
  have Z : zC p s m _ meth c prog_14_method_81_code 9 "TraceMachinesModel" G := Z
  obtain ⟨hx, hb, hml, hown, hts, hK, hN, hlocks⟩ := id Z
  have hl : lv_has ls 9 [(0, .ref b0), (1, .int b1), (2, .int b2), (3, .int b3)] := hl
  refine lv_aload_n hx hb d_Model_rules_0 rfl (lv_at hl 0 rfl) ?_
  refine lv_iconst (v := 0) hx hb d_Model_rules_1 (by decide) ?_
  refine va_put (D := G.1) (ci := 12) (v := .int 0) (ty := .int) (C := R_Model) (T := F_Model) (N := 54) hx hb hts i_Model t_Model t_Model_ok n_Model hown hK hP hD hS 0 rfl rfl 0 (by decide) (hts _ q1109) (fun _ h9 => h9) rfl (by decide +kernel) rfl rfl (Nat.le_of_ble_eq_true rfl) d_Model_rules_2 (fun H locs hP hD hS => ?_)
  have hP : va_P G.1 classes [(b0, .inr (12, [.int 0, .ref b5, .ref b6, .ref b7, .ref b8, .int b9, .ref b10, .int b11, .int b12, .int b13, .int b14, .ref b15, .ref b16, .ref b17, .int b18, .ref b19, .ref b20, .ref b21, .ref b22, .ref b23, .ref b24, .ref b25, .ref b26, .ref b27, .ref b28, .ref b29, .ref b30, .int b31, .ref b32, .ref b33, .int b34, .int b35, .int b36, .int b37, .ref b38, .ref b39, .ref b40, .ref b41, .ref b42, .ref b43, .ref b44, .int b45, .ref b46, .ref b47, .int b48, .ref b49, .ref b50, .ref b51, .ref b52, .ref b53, .int b54, .ref b55, .ref b56, .ref b57])), (b5, .inl (G.2 0, 503, .inl b58))] H := hP
  have hD := z_tie hP hD rfl
  refine lv_iload_n hx hb d_Model_rules_5 rfl (lv_at hl 1 rfl) ?_
  refine lv_i2l (v := b1.toInt64) hx hb d_Model_rules_6 rfl ?_
  refine lv_lconst (v := 0) hx hb d_Model_rules_7 (by decide) ?_
  refine lv_ldc2 hx hb hown (hts _ q1432) d_Model_rules_8 ?_
  refine z_callS (index := 138) (As := [.long b1.toInt64, .long 0, .long 5]) (rest := []) (wr := [(b0, .inr (12, [.int 0, .ref b5, .ref b6, .ref b7, .ref b8, .int b9, .ref b10, .int b11, .int b12, .int b13, .int b14, .ref b15, .ref b16, .ref b17, .int b18, .ref b19, .ref b20, .ref b21, .ref b22, .ref b23, .ref b24, .ref b25, .ref b26, .ref b27, .ref b28, .ref b29, .ref b30, .int b31, .ref b32, .ref b33, .int b34, .int b35, .int b36, .int b37, .ref b38, .ref b39, .ref b40, .ref b41, .ref b42, .ref b43, .ref b44, .int b45, .ref b46, .ref b47, .int b48, .ref b49, .ref b50, .ref b51, .ref b52, .ref b53, .int b54, .ref b55, .ref b56, .ref b57])), (b5, .inl (G.2 0, 503, .inl b58))]) Z (s2_Model_in l G (b1.toInt64) (0) (5)) hl.1 q1281 q1282 q14 q1283 ⟨by decide, by decide, by show _ = some 3; decide +kernel⟩ ⟨Nat.le_of_ble_eq_true rfl, Nat.le_of_ble_eq_true rfl⟩ ⟨Nat.le_of_ble_eq_true rfl, Nat.le_of_ble_eq_true rfl⟩ rfl (Nat.le_of_ble_eq_true rfl) d_Model_rules_11 hP hD hS hA [] [0, 1] rfl rfl rfl rfl (by decide) (fun v w1 H locs hw_1 hP hD hS => ?_)
  rcases hw_1 with ⟨rfl, rfl, hq_2⟩ | ⟨rfl, rfl, hq_3, hq_4⟩ | ⟨rfl, rfl, hq_5, hq_6⟩
  · have hP : va_P G.1 classes [(b0, .inr (12, [.int 0, .ref b5, .ref b6, .ref b7, .ref b8, .int b9, .ref b10, .int b11, .int b12, .int b13, .int b14, .ref b15, .ref b16, .ref b17, .int b18, .ref b19, .ref b20, .ref b21, .ref b22, .ref b23, .ref b24, .ref b25, .ref b26, .ref b27, .ref b28, .ref b29, .ref b30, .int b31, .ref b32, .ref b33, .int b34, .int b35, .int b36, .int b37, .ref b38, .ref b39, .ref b40, .ref b41, .ref b42, .ref b43, .ref b44, .int b45, .ref b46, .ref b47, .int b48, .ref b49, .ref b50, .ref b51, .ref b52, .ref b53, .int b54, .ref b55, .ref b56, .ref b57])), (b5, .inl (G.2 0, 503, .inl b58))] H := hP
    have hD := z_tie hP hD rfl
    try simp only [Int32.toInt_toInt64, ll_0] at hq_2
    have hv_7 : zI b1 (-2147483648) (-1) := by have _a := hq_2; have _b := (zI_all b1); have _c := zcl_0; simp only [Int32.toInt_toInt64] at *; exact ⟨by omega, by omega⟩
    refine W.widen (k := 0) (n := 0) (Nat.le_of_ble_eq_true rfl) (Nat.le_of_ble_eq_true rfl) ?_
    refine lv_if_eq (tgt := 34) hx hb d_Model_rules_14 (by decide) (fun _ => ?_) (fun hc => absurd hc (by decide +kernel))
    refine lv_iconst (v := (-1)) hx hb d_Model_rules_34 (by decide) ?_
    exact z_iret hx hb hr hlocks hP hD hS (Nat.le_of_ble_eq_true rfl) (Nat.le_of_ble_eq_true rfl) d_Model_rules_35 ⟨(-1), rfl, rfl⟩
  · have hP : va_P G.1 classes [(b0, .inr (12, [.int 0, .ref b5, .ref b6, .ref b7, .ref b8, .int b9, .ref b10, .int b11, .int b12, .int b13, .int b14, .ref b15, .ref b16, .ref b17, .int b18, .ref b19, .ref b20, .ref b21, .ref b22, .ref b23, .ref b24, .ref b25, .ref b26, .ref b27, .ref b28, .ref b29, .ref b30, .int b31, .ref b32, .ref b33, .int b34, .int b35, .int b36, .int b37, .ref b38, .ref b39, .ref b40, .ref b41, .ref b42, .ref b43, .ref b44, .int b45, .ref b46, .ref b47, .int b48, .ref b49, .ref b50, .ref b51, .ref b52, .ref b53, .int b54, .ref b55, .ref b56, .ref b57])), (b5, .inl (G.2 0, 503, .inl b58))] H := hP
    have hD := z_tie hP hD rfl
    try simp only [Int32.toInt_toInt64, ll_0] at hq_3
    have hv_8 : zI b1 0 2147483647 := by have _a := hq_3; have _b := (zI_all b1); have _c := zcl_0; simp only [Int32.toInt_toInt64] at *; exact ⟨by omega, by omega⟩
    try simp only [Int32.toInt_toInt64, ll_5] at hq_4
    have hv_9 : zI b1 6 2147483647 := by have _a := hq_4; have _b := hv_8; have _c := zcl_5; simp only [Int32.toInt_toInt64] at *; exact ⟨by omega, by omega⟩
    refine W.widen (k := 0) (n := 0) (Nat.le_of_ble_eq_true rfl) (Nat.le_of_ble_eq_true rfl) ?_
    refine lv_if_eq (tgt := 34) hx hb d_Model_rules_14 (by decide) (fun _ => ?_) (fun hc => absurd hc (by decide +kernel))
    refine lv_iconst (v := (-1)) hx hb d_Model_rules_34 (by decide) ?_
    exact z_iret hx hb hr hlocks hP hD hS (Nat.le_of_ble_eq_true rfl) (Nat.le_of_ble_eq_true rfl) d_Model_rules_35 ⟨(-1), rfl, rfl⟩
  · have hP : va_P G.1 classes [(b0, .inr (12, [.int 0, .ref b5, .ref b6, .ref b7, .ref b8, .int b9, .ref b10, .int b11, .int b12, .int b13, .int b14, .ref b15, .ref b16, .ref b17, .int b18, .ref b19, .ref b20, .ref b21, .ref b22, .ref b23, .ref b24, .ref b25, .ref b26, .ref b27, .ref b28, .ref b29, .ref b30, .int b31, .ref b32, .ref b33, .int b34, .int b35, .int b36, .int b37, .ref b38, .ref b39, .ref b40, .ref b41, .ref b42, .ref b43, .ref b44, .int b45, .ref b46, .ref b47, .int b48, .ref b49, .ref b50, .ref b51, .ref b52, .ref b53, .int b54, .ref b55, .ref b56, .ref b57])), (b5, .inl (G.2 0, 503, .inl b58))] H := hP
    have hD := z_tie hP hD rfl
    try simp only [Int32.toInt_toInt64, ll_0] at hq_5
    have hv_10 : zI b1 0 2147483647 := by have _a := hq_5; have _b := (zI_all b1); have _c := zcl_0; simp only [Int32.toInt_toInt64] at *; exact ⟨by omega, by omega⟩
    try simp only [Int32.toInt_toInt64, ll_5] at hq_6
    have hv_11 : zI b1 0 5 := by have _a := hq_6; have _b := hv_10; have _c := zcl_5; simp only [Int32.toInt_toInt64] at *; exact ⟨by omega, by omega⟩
    refine W.widen (k := 0) (n := 0) (Nat.le_of_ble_eq_true rfl) (Nat.le_of_ble_eq_true rfl) ?_
    refine lv_if_eq (tgt := 34) hx hb d_Model_rules_14 (by decide) (fun hc => absurd hc (by decide +kernel)) (fun _ => ?_)
    refine lv_iload_n hx hb d_Model_rules_17 rfl (lv_at hl 2 rfl) ?_
    refine lv_i2l (v := b2.toInt64) hx hb d_Model_rules_18 rfl ?_
    refine lv_lconst (v := 1) hx hb d_Model_rules_19 (by decide) ?_
    refine lv_ldc2 hx hb hown (hts _ q1593) d_Model_rules_20 ?_
    refine z_callS (index := 138) (As := [.long b2.toInt64, .long 1, .long 20]) (rest := []) (wr := [(b0, .inr (12, [.int 0, .ref b5, .ref b6, .ref b7, .ref b8, .int b9, .ref b10, .int b11, .int b12, .int b13, .int b14, .ref b15, .ref b16, .ref b17, .int b18, .ref b19, .ref b20, .ref b21, .ref b22, .ref b23, .ref b24, .ref b25, .ref b26, .ref b27, .ref b28, .ref b29, .ref b30, .int b31, .ref b32, .ref b33, .int b34, .int b35, .int b36, .int b37, .ref b38, .ref b39, .ref b40, .ref b41, .ref b42, .ref b43, .ref b44, .int b45, .ref b46, .ref b47, .int b48, .ref b49, .ref b50, .ref b51, .ref b52, .ref b53, .int b54, .ref b55, .ref b56, .ref b57])), (b5, .inl (G.2 0, 503, .inl b58))]) Z (s2_Model_in l G (b2.toInt64) (1) (20)) hl.1 q1281 q1282 q14 q1283 ⟨by decide, by decide, by show _ = some 3; decide +kernel⟩ ⟨Nat.le_of_ble_eq_true rfl, Nat.le_of_ble_eq_true rfl⟩ ⟨Nat.le_of_ble_eq_true rfl, Nat.le_of_ble_eq_true rfl⟩ rfl (Nat.le_of_ble_eq_true rfl) d_Model_rules_23 hP hD hS hA [] [0, 1] rfl rfl rfl rfl (by decide) (fun v w1 H locs hw_12 hP hD hS => ?_)
    rcases hw_12 with ⟨rfl, rfl, hq_13⟩ | ⟨rfl, rfl, hq_14, hq_15⟩ | ⟨rfl, rfl, hq_16, hq_17⟩
    · have hP : va_P G.1 classes [(b0, .inr (12, [.int 0, .ref b5, .ref b6, .ref b7, .ref b8, .int b9, .ref b10, .int b11, .int b12, .int b13, .int b14, .ref b15, .ref b16, .ref b17, .int b18, .ref b19, .ref b20, .ref b21, .ref b22, .ref b23, .ref b24, .ref b25, .ref b26, .ref b27, .ref b28, .ref b29, .ref b30, .int b31, .ref b32, .ref b33, .int b34, .int b35, .int b36, .int b37, .ref b38, .ref b39, .ref b40, .ref b41, .ref b42, .ref b43, .ref b44, .int b45, .ref b46, .ref b47, .int b48, .ref b49, .ref b50, .ref b51, .ref b52, .ref b53, .int b54, .ref b55, .ref b56, .ref b57])), (b5, .inl (G.2 0, 503, .inl b58))] H := hP
      have hD := z_tie hP hD rfl
      try simp only [Int32.toInt_toInt64, ll_1] at hq_13
      have hv_18 : zI b2 (-2147483648) 0 := by have _a := hq_13; have _b := (zI_all b2); have _c := zcl_1; simp only [Int32.toInt_toInt64] at *; exact ⟨by omega, by omega⟩
      refine W.widen (k := 0) (n := 0) (Nat.le_of_ble_eq_true rfl) (Nat.le_of_ble_eq_true rfl) ?_
      refine lv_if_eq (tgt := 34) hx hb d_Model_rules_26 (by decide) (fun _ => ?_) (fun hc => absurd hc (by decide +kernel))
      refine lv_iconst (v := (-1)) hx hb d_Model_rules_34 (by decide) ?_
      exact z_iret hx hb hr hlocks hP hD hS (Nat.le_of_ble_eq_true rfl) (Nat.le_of_ble_eq_true rfl) d_Model_rules_35 ⟨(-1), rfl, rfl⟩
    · have hP : va_P G.1 classes [(b0, .inr (12, [.int 0, .ref b5, .ref b6, .ref b7, .ref b8, .int b9, .ref b10, .int b11, .int b12, .int b13, .int b14, .ref b15, .ref b16, .ref b17, .int b18, .ref b19, .ref b20, .ref b21, .ref b22, .ref b23, .ref b24, .ref b25, .ref b26, .ref b27, .ref b28, .ref b29, .ref b30, .int b31, .ref b32, .ref b33, .int b34, .int b35, .int b36, .int b37, .ref b38, .ref b39, .ref b40, .ref b41, .ref b42, .ref b43, .ref b44, .int b45, .ref b46, .ref b47, .int b48, .ref b49, .ref b50, .ref b51, .ref b52, .ref b53, .int b54, .ref b55, .ref b56, .ref b57])), (b5, .inl (G.2 0, 503, .inl b58))] H := hP
      have hD := z_tie hP hD rfl
      try simp only [Int32.toInt_toInt64, ll_1] at hq_14
      have hv_19 : zI b2 1 2147483647 := by have _a := hq_14; have _b := (zI_all b2); have _c := zcl_1; simp only [Int32.toInt_toInt64] at *; exact ⟨by omega, by omega⟩
      try simp only [Int32.toInt_toInt64, ll_20] at hq_15
      have hv_20 : zI b2 21 2147483647 := by have _a := hq_15; have _b := hv_19; have _c := zcl_20; simp only [Int32.toInt_toInt64] at *; exact ⟨by omega, by omega⟩
      refine W.widen (k := 0) (n := 0) (Nat.le_of_ble_eq_true rfl) (Nat.le_of_ble_eq_true rfl) ?_
      refine lv_if_eq (tgt := 34) hx hb d_Model_rules_26 (by decide) (fun _ => ?_) (fun hc => absurd hc (by decide +kernel))
      refine lv_iconst (v := (-1)) hx hb d_Model_rules_34 (by decide) ?_
      exact z_iret hx hb hr hlocks hP hD hS (Nat.le_of_ble_eq_true rfl) (Nat.le_of_ble_eq_true rfl) d_Model_rules_35 ⟨(-1), rfl, rfl⟩
    · have hP : va_P G.1 classes [(b0, .inr (12, [.int 0, .ref b5, .ref b6, .ref b7, .ref b8, .int b9, .ref b10, .int b11, .int b12, .int b13, .int b14, .ref b15, .ref b16, .ref b17, .int b18, .ref b19, .ref b20, .ref b21, .ref b22, .ref b23, .ref b24, .ref b25, .ref b26, .ref b27, .ref b28, .ref b29, .ref b30, .int b31, .ref b32, .ref b33, .int b34, .int b35, .int b36, .int b37, .ref b38, .ref b39, .ref b40, .ref b41, .ref b42, .ref b43, .ref b44, .int b45, .ref b46, .ref b47, .int b48, .ref b49, .ref b50, .ref b51, .ref b52, .ref b53, .int b54, .ref b55, .ref b56, .ref b57])), (b5, .inl (G.2 0, 503, .inl b58))] H := hP
      have hD := z_tie hP hD rfl
      try simp only [Int32.toInt_toInt64, ll_1] at hq_16
      have hv_21 : zI b2 1 2147483647 := by have _a := hq_16; have _b := (zI_all b2); have _c := zcl_1; simp only [Int32.toInt_toInt64] at *; exact ⟨by omega, by omega⟩
      try simp only [Int32.toInt_toInt64, ll_20] at hq_17
      have hv_22 : zI b2 1 20 := by have _a := hq_17; have _b := hv_21; have _c := zcl_20; simp only [Int32.toInt_toInt64] at *; exact ⟨by omega, by omega⟩
      refine W.widen (k := 0) (n := 0) (Nat.le_of_ble_eq_true rfl) (Nat.le_of_ble_eq_true rfl) ?_
      refine lv_if_eq (tgt := 34) hx hb d_Model_rules_26 (by decide) (fun hc => absurd hc (by decide +kernel)) (fun _ => ?_)
      refine lv_iload_n hx hb d_Model_rules_29 rfl (lv_at hl 3 rfl) ?_
      refine lv_iconst (v := (-1)) hx hb d_Model_rules_30 (by decide) ?_
      refine lv_icmp_ge (tgt := 36) hx hb d_Model_rules_31 (by decide) (fun hc_23 => ?_) (fun hc_23 => ?_)
      · have _nhc_23 := hc_23
        have ni_24 := (fa_le _ _).mp hc_23
        rw [li_m1] at ni_24
        have hv_25 : zI b3 (-1) 2147483647 := zI.le_r zc_m1 (zI_all b3) hc_23 (by decide)
        refine lv_iconst (v := 0) hx hb d_Model_rules_36 (by decide) ?_
        refine lv_istore (lv' := [(4, .int 0), (0, .ref b0), (1, .int b1), (2, .int b2), (3, .int b3)]) hx hb d_Model_rules_37 hl (by decide) rfl (fun ls hl => ?_)
        refine lv_iconst (v := 0) hx hb d_Model_rules_39 (by decide) ?_
        refine lv_istore (lv' := [(5, .int 0), (4, .int 0), (0, .ref b0), (1, .int b1), (2, .int b2), (3, .int b3)]) hx hb d_Model_rules_40 hl (by decide) rfl (fun ls hl => ?_)
        suffices key : ∀ (k_603 : Nat) (y_604 : Int32) (y_605 : Int32) (H : Heap) (locs : List Loc) (ls : Array Slot), (zI y_604 0 100) → (100 : Int) - y_604.toInt < (k_603 : Int) → va_P G.1 classes [(b0, .inr (12, [.int 0, .ref b5, .ref b6, .ref b7, .ref b8, .int b9, .ref b10, .int b11, .int b12, .int b13, .int b14, .ref b15, .ref b16, .ref b17, .int b18, .ref b19, .ref b20, .ref b21, .ref b22, .ref b23, .ref b24, .ref b25, .ref b26, .ref b27, .ref b28, .ref b29, .ref b30, .int b31, .ref b32, .ref b33, .int b34, .int b35, .int b36, .int b37, .ref b38, .ref b39, .ref b40, .ref b41, .ref b42, .ref b43, .ref b44, .int b45, .ref b46, .ref b47, .int b48, .ref b49, .ref b50, .ref b51, .ref b52, .ref b53, .int b54, .ref b55, .ref b56, .ref b57])), (b5, .inl (G.2 0, 503, .inl b58))] H → va_D A [(b0, .inr (12, [.int 0, .ref b5, .ref b6, .ref b7, .ref b8, .int b9, .ref b10, .int b11, .int b12, .int b13, .int b14, .ref b15, .ref b16, .ref b17, .int b18, .ref b19, .ref b20, .ref b21, .ref b22, .ref b23, .ref b24, .ref b25, .ref b26, .ref b27, .ref b28, .ref b29, .ref b30, .int b31, .ref b32, .ref b33, .int b34, .int b35, .int b36, .int b37, .ref b38, .ref b39, .ref b40, .ref b41, .ref b42, .ref b43, .ref b44, .int b45, .ref b46, .ref b47, .int b48, .ref b49, .ref b50, .ref b51, .ref b52, .ref b53, .int b54, .ref b55, .ref b56, .ref b57])), (b5, .inl (G.2 0, 503, .inl b58))] → va_S A s.heap H locs → lv_has ls 9 [(5, .int y_604), (4, .int y_605), (0, .ref b0), (1, .int b1), (2, .int b2), (3, .int b3)] → W p l e m_s1_Model_rules s m ([.ref b0, .int b1, .int b2, .int b3] : List Value).toArray below meth c H locs 0 0 (MQ below (zQ G (fun v w => ∃ (e0 : Int32), v = some (.int e0) ∧ w = [(b0, .inr (12, [.int 0, .ref b5, .ref b6, .ref b7, .ref b8, .int b9, .ref b10, .int b11, .int b12, .int b13, .int b14, .ref b15, .ref b16, .ref b17, .int b18, .ref b19, .ref b20, .ref b21, .ref b22, .ref b23, .ref b24, .ref b25, .ref b26, .ref b27, .ref b28, .ref b29, .ref b30, .int b31, .ref b32, .ref b33, .int b34, .int b35, .int b36, .int b37, .ref b38, .ref b39, .ref b40, .ref b41, .ref b42, .ref b43, .ref b44, .int b45, .ref b46, .ref b47, .int b48, .ref b49, .ref b50, .ref b51, .ref b52, .ref b53, .int b54, .ref b55, .ref b56, .ref b57])), (b5, .inl (G.2 0, 503, .inl b58))]) A) ([.ref b0, .int b1, .int b2, .int b3] : List Value).toArray s m_s1_Model_rules.cells m_s1_Model_rules.slots A) (F0 m 42 ls []) by
          exact key 101 (0) (0) _ _ _ (zI.wk (l' := 0) (h' := 100) zc_0 (by decide)) (zm_upi (zI.wk (l' := 0) (h' := 100) zc_0 (by decide)) (by decide)) hP hD hS (lv_sub hl [0, 1, 2, 3, 4, 5] rfl)
        intro k_603
        induction k_603 with
        | zero =>
          intro y_604 y_605 H locs ls hy_604 hmk_603 hP hD hS hl
          exact (zm_up0 hy_604 hmk_603).elim
        | succ k_603 ihk_603 =>
          intro y_604 y_605 H locs ls hy_604 hmk_603 hP hD hS hl
          refine lv_iload hx hb d_Model_rules_42 (lv_at hl 0 rfl) ?_
          refine lv_bipush (v := 100) hx hb d_Model_rules_44 (by decide) ?_
          refine lv_icmp_ge (tgt := 125) hx hb d_Model_rules_46 (by decide) (fun hc_606 => ?_) (fun hc_606 => ?_)
          · have _nhc_606 := hc_606
            have ni_607 := (fa_le _ _).mp hc_606
            rw [li_100] at ni_607
            have hv_608 : zI y_604 100 100 := zI.le_r zc_100 hy_604 hc_606 (by decide)
            refine lv_iload_n hx hb d_Model_rules_125 rfl (lv_at hl 5 rfl) ?_
            refine lv_iconst (v := (-1)) hx hb d_Model_rules_126 (by decide) ?_
            refine lv_icmp_ne (tgt := 135) hx hb d_Model_rules_127 (by decide) (fun hc_609 => ?_) (fun hc_609 => ?_)
            · have _nhc_609 := hc_609
              have ni_610 : ¬ (b3 : Int32).toInt = ((-1) : Int32).toInt := fun z => hc_609 ((fa_eq _ _).mpr z)
              simp only [li_m1] at ni_610
              have hv_611 : zI b3 0 2147483647 := zI.ne_lo hv_25 zc_m1 hc_609 (by decide)
              refine lv_iconst (v := (-1)) hx hb d_Model_rules_135 (by decide) ?_
              exact z_iret hx hb hr hlocks hP hD hS (Nat.le_of_ble_eq_true rfl) (Nat.le_of_ble_eq_true rfl) d_Model_rules_136 ⟨(-1), rfl, rfl⟩
            · have _nhc_609 := hc_609
              have ni_612 := (fa_eq _ _).mp hc_609
              rw [li_m1] at ni_612
              have hv_613 : zI b3 (-1) (-1) := zI.eq_l hv_25 zc_m1 hc_609
              refine lv_iload hx hb d_Model_rules_130 (lv_at hl 1 rfl) ?_
              refine lv_goto (tgt := 136) hx hb d_Model_rules_132 (by decide) ?_
              exact z_iret hx hb hr hlocks hP hD hS (Nat.le_of_ble_eq_true rfl) (Nat.le_of_ble_eq_true rfl) d_Model_rules_136 ⟨y_605, rfl, rfl⟩
          · have _nhc_606 := hc_606
            have ni_614 := (fa_lt _ _).mp (zi_nle hc_606)
            rw [li_100] at ni_614
            have hv_615 : zI y_604 0 99 := zI.lt_l hy_604 zc_100 (zi_nle hc_606) (by decide)
            refine lv_iload hx hb d_Model_rules_49 (lv_at hl 0 rfl) ?_
            refine lv_bipush (v := 10) hx hb d_Model_rules_51 (by decide) ?_
            refine lv_idiv hx hb d_Model_rules_53 (by decide +kernel) ?_
            refine lv_topi (fun v_616 ev_616 => ?_)
            obtain ⟨qv_616, hv_616⟩ := zI_div (l := 0) (h := 9) (d := 10) hv_615 rfl ev_616 (by decide)
            refine lv_istore (lv' := [(6, .int v_616), (5, .int y_604), (4, .int y_605), (0, .ref b0), (1, .int b1), (2, .int b2), (3, .int b3)]) hx hb d_Model_rules_54 hl (by decide) rfl (fun ls hl => ?_)
            refine lv_iload hx hb d_Model_rules_56 (lv_at hl 1 rfl) ?_
            refine lv_bipush (v := 10) hx hb d_Model_rules_58 (by decide) ?_
            refine lv_irem hx hb d_Model_rules_60 (by decide +kernel) ?_
            refine lv_topi (fun v_617 ev_617 => ?_)
            obtain ⟨qv_617, hv_617⟩ := zI_rem (h := 9) (d := 10) hv_615 rfl ev_617 (by decide)
            refine lv_istore (lv' := [(7, .int v_617), (6, .int v_616), (5, .int y_604), (4, .int y_605), (0, .ref b0), (1, .int b1), (2, .int b2), (3, .int b3)]) hx hb d_Model_rules_61 hl (by decide) rfl (fun ls hl => ?_)
            refine lv_iload hx hb d_Model_rules_63 (lv_at hl 1 rfl) ?_
            refine lv_iload hx hb d_Model_rules_65 (lv_at hl 0 rfl) ?_
            refine lv_icmp_ne (tgt := 74) hx hb d_Model_rules_67 (by decide) (fun hc_618 => ?_) (fun hc_618 => ?_)
            · have _nhc_618 := hc_618
              have ni_619 : ¬ (v_616 : Int32).toInt = (v_617 : Int32).toInt := fun z => hc_618 ((fa_eq _ _).mpr z)
              refine lv_aload_n hx hb d_Model_rules_74 rfl (lv_at hl 4 rfl) ?_
              refine lv_iload_n hx hb d_Model_rules_75 rfl (lv_at hl 5 rfl) ?_
              refine lv_iload hx hb d_Model_rules_76 (lv_at hl 1 rfl) ?_
              refine lv_iload hx hb d_Model_rules_78 (lv_at hl 0 rfl) ?_
              refine lv_iconst (v := 0) hx hb d_Model_rules_80 (by decide) ?_
              refine z_callV (index := 394) (As := [.int b1, .int v_616, .int v_617, .int 0]) (rest := []) (wr := []) Z (s1_Model_asked l G (b0) (b1) (v_616) (v_617) (0) (0) (b5) (b6) (b7) (b8) (b9) (b10) (b11) (b12) (b13) (b14) (b15) (b16) (b17) (b18) (b19) (b20) (b21) (b22) (b23) (b24) (b25) (b26) (b27) (b28) (b29) (b30) (b31) (b32) (b33) (b34) (b35) (b36) (b37) (b38) (b39) (b40) (b41) (b42) (b43) (b44) (b45) (b46) (b47) (b48) (b49) (b50) (b51) (b52) (b53) (b54) (b55) (b56) (b57) (b58) hb9 hb11 hb12 hb14 hb18 hb31 hb34 hb58) hl.1 q1553 q1555 qs87 q14 q1556 ⟨by decide, by decide, by show _ = some 4; decide +kernel⟩ ⟨Nat.le_of_ble_eq_true rfl, Nat.le_of_ble_eq_true rfl⟩ ⟨Nat.le_of_ble_eq_true rfl, Nat.le_of_ble_eq_true rfl⟩ rfl (Nat.le_of_ble_eq_true rfl) d_Model_rules_81 hP hD hS hA 0 12 rfl rfl rfl [0, 1] [] rfl rfl rfl rfl (by decide) (fun v w1 H locs hw_620 hP hD hS => ?_)
              obtain ⟨x_621, rfl, rfl⟩ := hw_620
              have hP : va_P G.1 classes [(b0, .inr (12, [.int 0, .ref b5, .ref b6, .ref b7, .ref b8, .int b9, .ref b10, .int b11, .int b12, .int b13, .int b14, .ref b15, .ref b16, .ref b17, .int b18, .ref b19, .ref b20, .ref b21, .ref b22, .ref b23, .ref b24, .ref b25, .ref b26, .ref b27, .ref b28, .ref b29, .ref b30, .int b31, .ref b32, .ref b33, .int b34, .int b35, .int b36, .int b37, .ref b38, .ref b39, .ref b40, .ref b41, .ref b42, .ref b43, .ref b44, .int b45, .ref b46, .ref b47, .int b48, .ref b49, .ref b50, .ref b51, .ref b52, .ref b53, .int b54, .ref b55, .ref b56, .ref b57])), (b5, .inl (G.2 0, 503, .inl b58))] H := hP
              have hD := z_tie hP hD rfl
              refine W.widen (k := 0) (n := 0) (Nat.le_of_ble_eq_true rfl) (Nat.le_of_ble_eq_true rfl) ?_
              refine lv_istore (lv' := [(8, .int x_621), (7, .int v_617), (6, .int v_616), (5, .int y_604), (4, .int y_605), (0, .ref b0), (1, .int b1), (2, .int b2), (3, .int b3)]) hx hb d_Model_rules_84 hl (by decide) rfl (fun ls hl => ?_)
              refine lv_iload hx hb d_Model_rules_86 (lv_at hl 0 rfl) ?_
              refine lv_iload_n hx hb d_Model_rules_88 rfl (lv_at hl 7 rfl) ?_
              refine lv_icmp_lt (tgt := 119) hx hb d_Model_rules_89 (by decide) (fun hc_622 => ?_) (fun hc_622 => ?_)
              · have _nhc_622 := hc_622
                have ni_623 := (fa_lt _ _).mp hc_622
                have hv_624 : zI x_621 (-2147483648) 19 := zI.lt_l (zI_all x_621) hv_22 hc_622 (by decide)
                obtain ⟨v_625, ev_625⟩ : ∃ z : Int32, z = y_604 + 1 := ⟨_, rfl⟩
                obtain ⟨qv_625, hv_625⟩ := zI_add (l := 1) (h := 100) hv_615 zc_1 ev_625 (by decide)
                rw [li_1] at qv_625
                refine lv_iinc (v := v_625) (lv' := [(5, .int v_625), (8, .int x_621), (7, .int v_617), (6, .int v_616), (4, .int y_605), (0, .ref b0), (1, .int b1), (2, .int b2), (3, .int b3)]) hx hb d_Model_rules_119 hl (k := 3) rfl (by rw [ev_625]; rfl) (by decide) rfl (fun ls hl => ?_)
                refine lv_goto (tgt := 42) hx hb d_Model_rules_122 (by decide) ?_
                exact ihk_603 (v_625) (y_605) _ _ _ (zI.wk (l' := 0) (h' := 100) hv_625 (by decide)) (zm_up qv_625 hmk_603 (by decide)) hP hD hS (lv_sub hl [0, 4, 5, 6, 7, 8] rfl)
              · have _nhc_622 := hc_622
                have ni_626 := (fa_le _ _).mp (zi_nlt hc_622)
                have hv_627 : zI x_621 1 2147483647 := zI.le_r hv_22 (zI_all x_621) (zi_nlt hc_622) (by decide)
                refine lv_iload hx hb d_Model_rules_92 (lv_at hl 0 rfl) ?_
                refine lv_aload_n hx hb d_Model_rules_94 rfl (lv_at hl 5 rfl) ?_
                refine lv_iload_n hx hb d_Model_rules_95 rfl (lv_at hl 6 rfl) ?_
                refine lv_iload hx hb d_Model_rules_96 (lv_at hl 2 rfl) ?_
                refine lv_iload hx hb d_Model_rules_98 (lv_at hl 1 rfl) ?_
                refine lv_iconst (v := 1) hx hb d_Model_rules_100 (by decide) ?_
                refine z_callV (index := 394) (As := [.int b1, .int v_616, .int v_617, .int 1]) (rest := [.int x_621]) (wr := []) Z (s1_Model_asked l G (b0) (b1) (v_616) (v_617) (1) (0) (b5) (b6) (b7) (b8) (b9) (b10) (b11) (b12) (b13) (b14) (b15) (b16) (b17) (b18) (b19) (b20) (b21) (b22) (b23) (b24) (b25) (b26) (b27) (b28) (b29) (b30) (b31) (b32) (b33) (b34) (b35) (b36) (b37) (b38) (b39) (b40) (b41) (b42) (b43) (b44) (b45) (b46) (b47) (b48) (b49) (b50) (b51) (b52) (b53) (b54) (b55) (b56) (b57) (b58) hb9 hb11 hb12 hb14 hb18 hb31 hb34 hb58) hl.1 q1553 q1555 qs87 q14 q1556 ⟨by decide, by decide, by show _ = some 4; decide +kernel⟩ ⟨Nat.le_of_ble_eq_true rfl, Nat.le_of_ble_eq_true rfl⟩ ⟨Nat.le_of_ble_eq_true rfl, Nat.le_of_ble_eq_true rfl⟩ rfl (Nat.le_of_ble_eq_true rfl) d_Model_rules_101 hP hD hS hA 0 12 rfl rfl rfl [0, 1] [] rfl rfl rfl rfl (by decide) (fun v w1 H locs hw_628 hP hD hS => ?_)
                obtain ⟨x_629, rfl, rfl⟩ := hw_628
                have hP : va_P G.1 classes [(b0, .inr (12, [.int 0, .ref b5, .ref b6, .ref b7, .ref b8, .int b9, .ref b10, .int b11, .int b12, .int b13, .int b14, .ref b15, .ref b16, .ref b17, .int b18, .ref b19, .ref b20, .ref b21, .ref b22, .ref b23, .ref b24, .ref b25, .ref b26, .ref b27, .ref b28, .ref b29, .ref b30, .int b31, .ref b32, .ref b33, .int b34, .int b35, .int b36, .int b37, .ref b38, .ref b39, .ref b40, .ref b41, .ref b42, .ref b43, .ref b44, .int b45, .ref b46, .ref b47, .int b48, .ref b49, .ref b50, .ref b51, .ref b52, .ref b53, .int b54, .ref b55, .ref b56, .ref b57])), (b5, .inl (G.2 0, 503, .inl b58))] H := hP
                have hD := z_tie hP hD rfl
                refine W.widen (k := 0) (n := 0) (Nat.le_of_ble_eq_true rfl) (Nat.le_of_ble_eq_true rfl) ?_
                refine lv_icmp_ne (tgt := 119) hx hb d_Model_rules_104 (by decide) (fun hc_630 => ?_) (fun hc_630 => ?_)
                · have _nhc_630 := hc_630
                  have ni_631 : ¬ (x_621 : Int32).toInt = (x_629 : Int32).toInt := fun z => hc_630 ((fa_eq _ _).mpr z)
                  obtain ⟨v_632, ev_632⟩ : ∃ z : Int32, z = y_604 + 1 := ⟨_, rfl⟩
                  obtain ⟨qv_632, hv_632⟩ := zI_add (l := 1) (h := 100) hv_615 zc_1 ev_632 (by decide)
                  rw [li_1] at qv_632
                  refine lv_iinc (v := v_632) (lv' := [(5, .int v_632), (8, .int x_621), (7, .int v_617), (6, .int v_616), (4, .int y_605), (0, .ref b0), (1, .int b1), (2, .int b2), (3, .int b3)]) hx hb d_Model_rules_119 hl (k := 3) rfl (by rw [ev_632]; rfl) (by decide) rfl (fun ls hl => ?_)
                  refine lv_goto (tgt := 42) hx hb d_Model_rules_122 (by decide) ?_
                  exact ihk_603 (v_632) (y_605) _ _ _ (zI.wk (l' := 0) (h' := 100) hv_632 (by decide)) (zm_up qv_632 hmk_603 (by decide)) hP hD hS (lv_sub hl [0, 4, 5, 6, 7, 8] rfl)
                · have _nhc_630 := hc_630
                  have ni_633 := (fa_eq _ _).mp hc_630
                  have hv_634 : zI x_629 1 2147483647 := zI.eq_l (zI_all x_629) hv_627 hc_630.symm
                  refine lv_iload hx hb d_Model_rules_107 (lv_at hl 4 rfl) ?_
                  refine lv_iload_n hx hb d_Model_rules_109 rfl (lv_at hl 8 rfl) ?_
                  refine lv_icmp_ne (tgt := 116) hx hb d_Model_rules_110 (by decide) (fun hc_635 => ?_) (fun hc_635 => ?_)
                  · have _nhc_635 := hc_635
                    have ni_636 : ¬ (y_605 : Int32).toInt = (b3 : Int32).toInt := fun z => hc_635 ((fa_eq _ _).mpr z)
                    obtain ⟨v_637, ev_637⟩ : ∃ z : Int32, z = y_605 + 1 := ⟨_, rfl⟩
                    refine lv_iinc (v := v_637) (lv' := [(4, .int v_637), (8, .int x_621), (7, .int v_617), (6, .int v_616), (5, .int y_604), (0, .ref b0), (1, .int b1), (2, .int b2), (3, .int b3)]) hx hb d_Model_rules_116 hl (k := 4) rfl (by rw [ev_637]; rfl) (by decide) rfl (fun ls hl => ?_)
                    obtain ⟨v_638, ev_638⟩ : ∃ z : Int32, z = y_604 + 1 := ⟨_, rfl⟩
                    obtain ⟨qv_638, hv_638⟩ := zI_add (l := 1) (h := 100) hv_615 zc_1 ev_638 (by decide)
                    rw [li_1] at qv_638
                    refine lv_iinc (v := v_638) (lv' := [(5, .int v_638), (4, .int v_637), (8, .int x_621), (7, .int v_617), (6, .int v_616), (0, .ref b0), (1, .int b1), (2, .int b2), (3, .int b3)]) hx hb d_Model_rules_119 hl (k := 4) rfl (by rw [ev_638]; rfl) (by decide) rfl (fun ls hl => ?_)
                    refine lv_goto (tgt := 42) hx hb d_Model_rules_122 (by decide) ?_
                    exact ihk_603 (v_638) (v_637) _ _ _ (zI.wk (l' := 0) (h' := 100) hv_638 (by decide)) (zm_up qv_638 hmk_603 (by decide)) hP hD hS (lv_sub hl [0, 1, 5, 6, 7, 8] rfl)
                  · have _nhc_635 := hc_635
                    have ni_639 := (fa_eq _ _).mp hc_635
                    have hv_640 : zI y_605 (-1) 2147483647 := zI.eq_l (zI_all y_605) hv_25 hc_635
                    refine lv_iload hx hb d_Model_rules_113 (lv_at hl 3 rfl) ?_
                    exact z_iret hx hb hr hlocks hP hD hS (Nat.le_of_ble_eq_true rfl) (Nat.le_of_ble_eq_true rfl) d_Model_rules_115 ⟨y_604, rfl, rfl⟩
            · have _nhc_618 := hc_618
              have ni_641 := (fa_eq _ _).mp hc_618
              refine lv_iconst (v := 0) hx hb d_Model_rules_70 (by decide) ?_
              refine lv_goto (tgt := 84) hx hb d_Model_rules_71 (by decide) ?_
              refine lv_istore (lv' := [(8, .int 0), (7, .int v_617), (6, .int v_616), (5, .int y_604), (4, .int y_605), (0, .ref b0), (1, .int b1), (2, .int b2), (3, .int b3)]) hx hb d_Model_rules_84 hl (by decide) rfl (fun ls hl => ?_)
              refine lv_iload hx hb d_Model_rules_86 (lv_at hl 0 rfl) ?_
              refine lv_iload_n hx hb d_Model_rules_88 rfl (lv_at hl 7 rfl) ?_
              refine lv_icmp_lt (tgt := 119) hx hb d_Model_rules_89 (by decide) (fun _ => ?_) (fun hc => zI.no_le hv_22 zc_0 (zi_nlt hc) (by decide))
              obtain ⟨v_642, ev_642⟩ : ∃ z : Int32, z = y_604 + 1 := ⟨_, rfl⟩
              obtain ⟨qv_642, hv_642⟩ := zI_add (l := 1) (h := 100) hv_615 zc_1 ev_642 (by decide)
              rw [li_1] at qv_642
              refine lv_iinc (v := v_642) (lv' := [(5, .int v_642), (8, .int 0), (7, .int v_617), (6, .int v_616), (4, .int y_605), (0, .ref b0), (1, .int b1), (2, .int b2), (3, .int b3)]) hx hb d_Model_rules_119 hl (k := 3) rfl (by rw [ev_642]; rfl) (by decide) rfl (fun ls hl => ?_)
              refine lv_goto (tgt := 42) hx hb d_Model_rules_122 (by decide) ?_
              exact ihk_603 (v_642) (y_605) _ _ _ (zI.wk (l' := 0) (h' := 100) hv_642 (by decide)) (zm_up qv_642 hmk_603 (by decide)) hP hD hS (lv_sub hl [0, 4, 5, 6, 7, 8] rfl)
      · have _nhc_23 := hc_23
        have ni_643 := (fa_lt _ _).mp (zi_nle hc_23)
        rw [li_m1] at ni_643
        have hv_644 : zI b3 (-2147483648) (-2) := zI.lt_l (zI_all b3) zc_m1 (zi_nle hc_23) (by decide)
        refine lv_iconst (v := (-1)) hx hb d_Model_rules_34 (by decide) ?_
        exact z_iret hx hb hr hlocks hP hD hS (Nat.le_of_ble_eq_true rfl) (Nat.le_of_ble_eq_true rfl) d_Model_rules_35 ⟨(-1), rfl, rfl⟩
theorem d_Model_finals_0 : decode prog_14_method_95_code 0 = .ok (.iconst 0, 1) := by decide +kernel
theorem d_Model_finals_1 : decode prog_14_method_95_code 1 = .ok (.istore_n 1, 1) := by decide +kernel
theorem d_Model_finals_2 : decode prog_14_method_95_code 2 = .ok (.iconst 0, 1) := by decide +kernel
theorem d_Model_finals_3 : decode prog_14_method_95_code 3 = .ok (.istore_n 2, 1) := by decide +kernel
theorem d_Model_finals_4 : decode prog_14_method_95_code 4 = .ok (.iload_n 2, 1) := by decide +kernel
theorem d_Model_finals_5 : decode prog_14_method_95_code 5 = .ok (.aload_n 0, 1) := by decide +kernel
theorem d_Model_finals_6 : decode prog_14_method_95_code 6 = .ok (.getfield 58, 3) := by decide +kernel
theorem d_Model_finals_9 : decode prog_14_method_95_code 9 = .ok (.iconst 0, 1) := by decide +kernel
theorem d_Model_finals_10 : decode prog_14_method_95_code 10 = .ok (.iaload, 1) := by decide +kernel
theorem d_Model_finals_11 : decode prog_14_method_95_code 11 = .ok (.if_icmp .ge 26, 3) := by decide +kernel
theorem d_Model_finals_14 : decode prog_14_method_95_code 14 = .ok (.iload_n 1, 1) := by decide +kernel
theorem d_Model_finals_15 : decode prog_14_method_95_code 15 = .ok (.aload_n 0, 1) := by decide +kernel
theorem d_Model_finals_16 : decode prog_14_method_95_code 16 = .ok (.iconst 0, 1) := by decide +kernel
theorem d_Model_finals_17 : decode prog_14_method_95_code 17 = .ok (.iload_n 2, 1) := by decide +kernel
theorem d_Model_finals_18 : decode prog_14_method_95_code 18 = .ok (.invokevirtual 256, 3) := by decide +kernel
theorem d_Model_finals_21 : decode prog_14_method_95_code 21 = .ok (.ifCond .eq 7, 3) := by decide +kernel
theorem d_Model_finals_24 : decode prog_14_method_95_code 24 = .ok (.iconst 1, 1) := by decide +kernel
theorem d_Model_finals_25 : decode prog_14_method_95_code 25 = .ok (.goto 4, 3) := by decide +kernel
theorem d_Model_finals_28 : decode prog_14_method_95_code 28 = .ok (.iconst 0, 1) := by decide +kernel
theorem d_Model_finals_29 : decode prog_14_method_95_code 29 = .ok (.iadd, 1) := by decide +kernel
theorem d_Model_finals_30 : decode prog_14_method_95_code 30 = .ok (.istore_n 1, 1) := by decide +kernel
theorem d_Model_finals_31 : decode prog_14_method_95_code 31 = .ok (.iinc 2 1, 3) := by decide +kernel
theorem d_Model_finals_34 : decode prog_14_method_95_code 34 = .ok (.goto (-30), 3) := by decide +kernel
theorem d_Model_finals_37 : decode prog_14_method_95_code 37 = .ok (.iload_n 1, 1) := by decide +kernel
theorem d_Model_finals_38 : decode prog_14_method_95_code 38 = .ok (.ireturn, 1) := by decide +kernel
theorem d_Model_isFinal_0 : decode prog_14_method_37_code 0 = .ok (.aload_n 0, 1) := by decide +kernel
theorem d_Model_isFinal_1 : decode prog_14_method_37_code 1 = .ok (.getfield 67, 3) := by decide +kernel
theorem d_Model_isFinal_4 : decode prog_14_method_37_code 4 = .ok (.sipush 241, 3) := by decide +kernel
theorem d_Model_isFinal_7 : decode prog_14_method_37_code 7 = .ok (.iload_n 1, 1) := by decide +kernel
theorem d_Model_isFinal_8 : decode prog_14_method_37_code 8 = .ok (.imul, 1) := by decide +kernel
theorem d_Model_isFinal_9 : decode prog_14_method_37_code 9 = .ok (.iload_n 2, 1) := by decide +kernel
theorem d_Model_isFinal_10 : decode prog_14_method_37_code 10 = .ok (.iadd, 1) := by decide +kernel
theorem d_Model_isFinal_11 : decode prog_14_method_37_code 11 = .ok (.iaload, 1) := by decide +kernel
theorem d_Model_isFinal_12 : decode prog_14_method_37_code 12 = .ok (.ifCond .le 7, 3) := by decide +kernel
theorem d_Model_isFinal_15 : decode prog_14_method_37_code 15 = .ok (.iconst 1, 1) := by decide +kernel
theorem d_Model_isFinal_16 : decode prog_14_method_37_code 16 = .ok (.goto 4, 3) := by decide +kernel
theorem d_Model_isFinal_19 : decode prog_14_method_37_code 19 = .ok (.iconst 0, 1) := by decide +kernel
theorem d_Model_isFinal_20 : decode prog_14_method_37_code 20 = .ok (.ireturn, 1) := by decide +kernel
abbrev m_s9_Model_isFinal : Room := { frames := 0, cells := 0, slots := 0, locals := 0 }
set_option maxHeartbeats 4000000 in
set_option maxRecDepth 100000 in
theorem s9_Model_isFinal (l : Launch) (G : zG) (b0 : Nat) (b1 : Int32) (b2 : Int32) (b3 : Int32) (b4 : Nat) (b5 : Nat) (b6 : Nat) (b7 : Nat) (b8 : Int32) (b9 : Nat) (b10 : Int32) (b11 : Int32) (b12 : Int32) (b13 : Int32) (b14 : Nat) (b15 : Nat) (b16 : Nat) (b17 : Int32) (b18 : Nat) (b19 : Nat) (b20 : Nat) (b21 : Nat) (b22 : Nat) (b23 : Nat) (b24 : Nat) (b25 : Nat) (b26 : Nat) (b27 : Nat) (b28 : Nat) (b29 : Nat) (b30 : Int32) (b31 : Nat) (b32 : Nat) (b33 : Int32) (b34 : Int32) (b35 : Int32) (b36 : Int32) (b37 : Nat) (b38 : Nat) (b39 : Nat) (b40 : Nat) (b41 : Nat) (b42 : Nat) (b43 : Nat) (b44 : Int32) (b45 : Nat) (b46 : Nat) (b47 : Int32) (b48 : Nat) (b49 : Nat) (b50 : Nat) (b51 : Nat) (b52 : Nat) (b53 : Int32) (b54 : Nat) (b55 : Nat) (b56 : Nat) (b57 : Nat → Int32) (hb1 : zI b1 0 0) (hb2 : zI b2 0 240) (hb8 : zI b8 0 8) (hb10 : zI b10 0 240) (hb11 : zI b11 0 240) (hb13 : zI b13 0 1) (hb17 : zI b17 0 12) (hb30 : zI b30 0 1) (hb33 : zI b33 0 1) : zM l G y_Model_isFinal prog_14_method_37_code 3 (Option.some Jvm.ClassFile.FieldType.boolean) m_s9_Model_isFinal [.ref b0, .int b1, .int b2] [(b0, .inr (12, [.int b3, .ref b4, .ref b5, .ref b6, .ref b7, .int b8, .ref b9, .int b10, .int b11, .int b12, .int b13, .ref b14, .ref b15, .ref b16, .int b17, .ref b18, .ref b19, .ref b20, .ref b21, .ref b22, .ref b23, .ref b24, .ref b25, .ref b26, .ref b27, .ref b28, .ref b29, .int b30, .ref b31, .ref b32, .int b33, .int b34, .int b35, .int b36, .ref b37, .ref b38, .ref b39, .ref b40, .ref b41, .ref b42, .ref b43, .int b44, .ref b45, .ref b46, .int b47, .ref b48, .ref b49, .ref b50, .ref b51, .ref b52, .int b53, .ref b54, .ref b55, .ref b56])), (b27, .inl (G.2 0, 482, .inl b57))] (fun v w => ∃ (e0 : Int32), v = some (.int e0) ∧ w = [(b0, .inr (12, [.int b3, .ref b4, .ref b5, .ref b6, .ref b7, .int b8, .ref b9, .int b10, .int b11, .int b12, .int b13, .ref b14, .ref b15, .ref b16, .int b17, .ref b18, .ref b19, .ref b20, .ref b21, .ref b22, .ref b23, .ref b24, .ref b25, .ref b26, .ref b27, .ref b28, .ref b29, .int b30, .ref b31, .ref b32, .int b33, .int b34, .int b35, .int b36, .ref b37, .ref b38, .ref b39, .ref b40, .ref b41, .ref b42, .ref b43, .int b44, .ref b45, .ref b46, .int b47, .ref b48, .ref b49, .ref b50, .ref b51, .ref b52, .int b53, .ref b54, .ref b55, .ref b56])), (b27, .inl (G.2 0, 482, .inl b57))] ∧ (zI e0 0 1)) := by
  refine z_start (by decide +kernel) (Nat.le_of_ble_eq_true rfl) ?_
  intro p e s m below meth c A Z hr hnm hA hP hD hS ls hl
  have Z : zC p s m _ meth c prog_14_method_37_code 3 "TraceMachinesModel" G := Z
  obtain ⟨hx, hb, hml, hown, hts, hK, hN, hlocks⟩ := id Z
  have hl : lv_has ls 3 [(0, .ref b0), (1, .int b1), (2, .int b2)] := hl
  refine lv_aload_n hx hb d_Model_isFinal_0 rfl (lv_at hl 0 rfl) ?_
  refine va_get (D := G.1) (ci := 12) (v := .ref b27) (C := R_Model) (T := F_Model) (N := 54) hx hb hts i_Model hown hK hP 0 rfl rfl 24 (by decide) (hts _ q1133) (fun _ h9 => h9) rfl d_Model_isFinal_1 ?_
  refine lv_sipush (v := 241) hx hb d_Model_isFinal_4 (by decide) ?_
  refine lv_iload_n hx hb d_Model_isFinal_7 rfl (lv_at hl 1 rfl) ?_
  refine lv_imul hx hb d_Model_isFinal_8 ?_
  refine lv_topi (fun v_1 ev_1 => ?_)
  obtain ⟨qv_1, hv_1⟩ := zI_mul (l := 0) (h := 0) zc_241 hb1 ev_1 (by decide)
  rw [li_241] at qv_1
  refine lv_iload_n hx hb d_Model_isFinal_9 rfl (lv_at hl 2 rfl) ?_
  refine lv_iadd hx hb d_Model_isFinal_10 ?_
  refine lv_topi (fun v_2 ev_2 => ?_)
  obtain ⟨qv_2, hv_2⟩ := zI_add (l := 0) (h := 240) hv_1 hb2 ev_2 (by decide)
  refine va_iald hx hb hK hP 1 0 rfl rfl (zI.inn hv_2 (by decide)) d_Model_isFinal_11 ?_
  refine lv_topi (fun v_3 ev_3 => ?_)
  refine lv_if_le (tgt := 19) hx hb d_Model_isFinal_12 (by decide) (fun hc_4 => ?_) (fun hc_4 => ?_)
  · have _nhc_4 := hc_4
    have ni_5 := (fa_le _ _).mp hc_4
    rw [li_0] at ni_5
    have hv_6 : zI v_3 (-2147483648) 0 := zI.le_l (zI_all v_3) zc_0 hc_4 (by decide)
    refine lv_iconst (v := 0) hx hb d_Model_isFinal_19 (by decide) ?_
    exact z_zret hx hb hr hlocks rfl hP hD hS (Nat.le_of_ble_eq_true rfl) (Nat.le_of_ble_eq_true rfl) d_Model_isFinal_20 ⟨0, rfl, rfl, (zI.wk (l' := 0) (h' := 1) zc_0 (by decide))⟩
  · have _nhc_4 := hc_4
    have ni_7 := (fa_lt _ _).mp (zi_nle hc_4)
    rw [li_0] at ni_7
    have hv_8 : zI v_3 1 2147483647 := zI.lt_r zc_0 (zI_all v_3) (zi_nle hc_4) (by decide)
    refine lv_iconst (v := 1) hx hb d_Model_isFinal_15 (by decide) ?_
    refine lv_goto (tgt := 20) hx hb d_Model_isFinal_16 (by decide) ?_
    exact z_zret hx hb hr hlocks rfl hP hD hS (Nat.le_of_ble_eq_true rfl) (Nat.le_of_ble_eq_true rfl) d_Model_isFinal_20 ⟨1, rfl, rfl, (zI.wk (l' := 0) (h' := 1) zc_1 (by decide))⟩
abbrev m_s1_Model_finals : Room := { frames := 1, cells := 0, slots := 0, locals := 22 }
set_option maxHeartbeats 4000000 in
set_option maxRecDepth 100000 in
theorem s1_Model_finals (l : Launch) (G : zG) (b0 : Nat) (b1 : Int32) (b2 : Nat) (b3 : Nat) (b4 : Nat) (b5 : Nat) (b6 : Int32) (b7 : Nat) (b8 : Int32) (b9 : Int32) (b10 : Int32) (b11 : Int32) (b12 : Nat) (b13 : Nat) (b14 : Nat) (b15 : Int32) (b16 : Nat) (b17 : Nat) (b18 : Nat) (b19 : Nat) (b20 : Nat) (b21 : Nat) (b22 : Nat) (b23 : Nat) (b24 : Nat) (b25 : Nat) (b26 : Nat) (b27 : Nat) (b28 : Int32) (b29 : Nat) (b30 : Nat) (b31 : Int32) (b32 : Int32) (b33 : Int32) (b34 : Int32) (b35 : Nat) (b36 : Nat) (b37 : Nat) (b38 : Nat) (b39 : Nat) (b40 : Nat) (b41 : Nat) (b42 : Int32) (b43 : Nat) (b44 : Nat) (b45 : Int32) (b46 : Nat) (b47 : Nat) (b48 : Nat) (b49 : Nat) (b50 : Nat) (b51 : Int32) (b52 : Nat) (b53 : Nat) (b54 : Nat) (b55 : Nat → Int32) (b56 : Nat → Int32) (hb6 : zI b6 0 8) (hb8 : zI b8 0 240) (hb9 : zI b9 0 240) (hb11 : zI b11 0 1) (hb15 : zI b15 0 12) (hb28 : zI b28 0 1) (hb31 : zI b31 0 1) (hb55 : zR b55 0 241) : zM l G y_Model_finals prog_14_method_95_code 3 (Option.some Jvm.ClassFile.FieldType.int) m_s1_Model_finals [.ref b0] [(b0, .inr (12, [.int b1, .ref b2, .ref b3, .ref b4, .ref b5, .int b6, .ref b7, .int b8, .int b9, .int b10, .int b11, .ref b12, .ref b13, .ref b14, .int b15, .ref b16, .ref b17, .ref b18, .ref b19, .ref b20, .ref b21, .ref b22, .ref b23, .ref b24, .ref b25, .ref b26, .ref b27, .int b28, .ref b29, .ref b30, .int b31, .int b32, .int b33, .int b34, .ref b35, .ref b36, .ref b37, .ref b38, .ref b39, .ref b40, .ref b41, .int b42, .ref b43, .ref b44, .int b45, .ref b46, .ref b47, .ref b48, .ref b49, .ref b50, .int b51, .ref b52, .ref b53, .ref b54])), (b22, .inl (G.2 0, 2, .inl b55)), (b25, .inl (G.2 0, 482, .inl b56))] (fun v w => ∃ (e0 : Int32), v = some (.int e0) ∧ w = [(b0, .inr (12, [.int b1, .ref b2, .ref b3, .ref b4, .ref b5, .int b6, .ref b7, .int b8, .int b9, .int b10, .int b11, .ref b12, .ref b13, .ref b14, .int b15, .ref b16, .ref b17, .ref b18, .ref b19, .ref b20, .ref b21, .ref b22, .ref b23, .ref b24, .ref b25, .ref b26, .ref b27, .int b28, .ref b29, .ref b30, .int b31, .int b32, .int b33, .int b34, .ref b35, .ref b36, .ref b37, .ref b38, .ref b39, .ref b40, .ref b41, .int b42, .ref b43, .ref b44, .int b45, .ref b46, .ref b47, .ref b48, .ref b49, .ref b50, .int b51, .ref b52, .ref b53, .ref b54])), (b22, .inl (G.2 0, 2, .inl b55)), (b25, .inl (G.2 0, 482, .inl b56))]) := by
  refine z_start (by decide +kernel) (Nat.le_of_ble_eq_true rfl) ?_
  intro p e s m below meth c A Z hr hnm hA hP hD hS ls hl
  have Z : zC p s m _ meth c prog_14_method_95_code 3 "TraceMachinesModel" G := Z
  obtain ⟨hx, hb, hml, hown, hts, hK, hN, hlocks⟩ := id Z
  have hl : lv_has ls 3 [(0, .ref b0)] := hl
  refine lv_iconst (v := 0) hx hb d_Model_finals_0 (by decide) ?_
  refine lv_istore_n (lv' := [(1, .int 0), (0, .ref b0)]) hx hb d_Model_finals_1 rfl hl (by decide) rfl (fun ls hl => ?_)
  refine lv_iconst (v := 0) hx hb d_Model_finals_2 (by decide) ?_
  refine lv_istore_n (lv' := [(2, .int 0), (1, .int 0), (0, .ref b0)]) hx hb d_Model_finals_3 rfl hl (by decide) rfl (fun ls hl => ?_)
  suffices key : ∀ (k_318 : Nat) (y_319 : Int32) (y_320 : Int32) (H : Heap) (locs : List Loc) (ls : Array Slot), (zI y_319 0 241) → (241 : Int) - y_319.toInt < (k_318 : Int) → va_P G.1 classes [(b0, .inr (12, [.int b1, .ref b2, .ref b3, .ref b4, .ref b5, .int b6, .ref b7, .int b8, .int b9, .int b10, .int b11, .ref b12, .ref b13, .ref b14, .int b15, .ref b16, .ref b17, .ref b18, .ref b19, .ref b20, .ref b21, .ref b22, .ref b23, .ref b24, .ref b25, .ref b26, .ref b27, .int b28, .ref b29, .ref b30, .int b31, .int b32, .int b33, .int b34, .ref b35, .ref b36, .ref b37, .ref b38, .ref b39, .ref b40, .ref b41, .int b42, .ref b43, .ref b44, .int b45, .ref b46, .ref b47, .ref b48, .ref b49, .ref b50, .int b51, .ref b52, .ref b53, .ref b54])), (b22, .inl (G.2 0, 2, .inl b55)), (b25, .inl (G.2 0, 482, .inl b56))] H → va_D A [(b0, .inr (12, [.int b1, .ref b2, .ref b3, .ref b4, .ref b5, .int b6, .ref b7, .int b8, .int b9, .int b10, .int b11, .ref b12, .ref b13, .ref b14, .int b15, .ref b16, .ref b17, .ref b18, .ref b19, .ref b20, .ref b21, .ref b22, .ref b23, .ref b24, .ref b25, .ref b26, .ref b27, .int b28, .ref b29, .ref b30, .int b31, .int b32, .int b33, .int b34, .ref b35, .ref b36, .ref b37, .ref b38, .ref b39, .ref b40, .ref b41, .int b42, .ref b43, .ref b44, .int b45, .ref b46, .ref b47, .ref b48, .ref b49, .ref b50, .int b51, .ref b52, .ref b53, .ref b54])), (b22, .inl (G.2 0, 2, .inl b55)), (b25, .inl (G.2 0, 482, .inl b56))] → va_S A s.heap H locs → lv_has ls 3 [(2, .int y_319), (1, .int y_320), (0, .ref b0)] → W p l e m_s1_Model_finals s m ([.ref b0] : List Value).toArray below meth c H locs 0 0 (MQ below (zQ G (fun v w => ∃ (e0 : Int32), v = some (.int e0) ∧ w = [(b0, .inr (12, [.int b1, .ref b2, .ref b3, .ref b4, .ref b5, .int b6, .ref b7, .int b8, .int b9, .int b10, .int b11, .ref b12, .ref b13, .ref b14, .int b15, .ref b16, .ref b17, .ref b18, .ref b19, .ref b20, .ref b21, .ref b22, .ref b23, .ref b24, .ref b25, .ref b26, .ref b27, .int b28, .ref b29, .ref b30, .int b31, .int b32, .int b33, .int b34, .ref b35, .ref b36, .ref b37, .ref b38, .ref b39, .ref b40, .ref b41, .int b42, .ref b43, .ref b44, .int b45, .ref b46, .ref b47, .ref b48, .ref b49, .ref b50, .int b51, .ref b52, .ref b53, .ref b54])), (b22, .inl (G.2 0, 2, .inl b55)), (b25, .inl (G.2 0, 482, .inl b56))]) A) ([.ref b0] : List Value).toArray s m_s1_Model_finals.cells m_s1_Model_finals.slots A) (F0 m 4 ls []) by
    exact key 242 (0) (0) _ _ _ (zI.wk (l' := 0) (h' := 241) zc_0 (by decide)) (zm_upi (zI.wk (l' := 0) (h' := 241) zc_0 (by decide)) (by decide)) hP hD hS (lv_sub hl [0, 1, 2] rfl)
  intro k_318
  induction k_318 with
  | zero =>
    intro y_319 y_320 H locs ls hy_319 hmk_318 hP hD hS hl
    exact (zm_up0 hy_319 hmk_318).elim
  | succ k_318 ihk_318 =>
    intro y_319 y_320 H locs ls hy_319 hmk_318 hP hD hS hl
    refine lv_iload_n hx hb d_Model_finals_4 rfl (lv_at hl 0 rfl) ?_
    refine lv_aload_n hx hb d_Model_finals_5 rfl (lv_at hl 2 rfl) ?_
    refine va_get (D := G.1) (ci := 12) (v := .ref b22) (C := R_Model) (T := F_Model) (N := 54) hx hb hts i_Model hown hK hP 0 rfl rfl 21 (by decide) (hts _ q1130) (fun _ h9 => h9) rfl d_Model_finals_6 ?_
    refine lv_iconst (v := 0) hx hb d_Model_finals_9 (by decide) ?_
    refine va_iald hx hb hK hP 1 0 rfl rfl (i := 0) (z_in rfl) d_Model_finals_10 ?_
    refine lv_topi (fun v_321 ev_321 => ?_)
    have hv_321 : zI v_321 0 241 := (hb55 _).eq ev_321
    refine lv_icmp_ge (tgt := 37) hx hb d_Model_finals_11 (by decide) (fun hc_322 => ?_) (fun hc_322 => ?_)
    · have _nhc_322 := hc_322
      have ni_323 := (fa_le _ _).mp hc_322
      refine lv_iload_n hx hb d_Model_finals_37 rfl (lv_at hl 1 rfl) ?_
      exact z_iret hx hb hr hlocks hP hD hS (Nat.le_of_ble_eq_true rfl) (Nat.le_of_ble_eq_true rfl) d_Model_finals_38 ⟨y_320, rfl, rfl⟩
    · have _nhc_322 := hc_322
      have ni_324 := (fa_lt _ _).mp (zi_nle hc_322)
      have hv_325 : zI y_319 0 240 := zI.lt_l hy_319 hv_321 (zi_nle hc_322) (by decide)
      have hv_326 : zI v_321 1 241 := zI.lt_r hy_319 hv_321 (zi_nle hc_322) (by decide)
      refine lv_iload_n hx hb d_Model_finals_14 rfl (lv_at hl 1 rfl) ?_
      refine lv_aload_n hx hb d_Model_finals_15 rfl (lv_at hl 2 rfl) ?_
      refine lv_iconst (v := 0) hx hb d_Model_finals_16 (by decide) ?_
      refine lv_iload_n hx hb d_Model_finals_17 rfl (lv_at hl 0 rfl) ?_
      refine z_callV (index := 256) (As := [.int 0, .int y_319]) (rest := [.int y_320]) (wr := [(b22, .inl (G.2 0, 2, .inl b55))]) Z (s9_Model_isFinal l G (b0) (0) (y_319) (b1) (b2) (b3) (b4) (b5) (b6) (b7) (b8) (b9) (b10) (b11) (b12) (b13) (b14) (b15) (b16) (b17) (b18) (b19) (b20) (b21) (b22) (b23) (b24) (b25) (b26) (b27) (b28) (b29) (b30) (b31) (b32) (b33) (b34) (b35) (b36) (b37) (b38) (b39) (b40) (b41) (b42) (b43) (b44) (b45) (b46) (b47) (b48) (b49) (b50) (b51) (b52) (b53) (b54) (b56) zc_0 hv_325 hb6 hb8 hb9 hb11 hb15 hb28 hb31) hl.1 q1420 q1422 qs70 q14 q1423 ⟨by decide, by decide, by show _ = some 2; decide +kernel⟩ ⟨Nat.le_of_ble_eq_true rfl, Nat.le_of_ble_eq_true rfl⟩ ⟨Nat.le_of_ble_eq_true rfl, Nat.le_of_ble_eq_true rfl⟩ rfl (Nat.le_of_ble_eq_true rfl) d_Model_finals_18 hP hD hS hA 0 12 rfl rfl rfl [0, 2] [1] rfl rfl rfl rfl (by decide) (fun v w1 H locs hw_327 hP hD hS => ?_)
      obtain ⟨x_328, rfl, rfl, hx_328⟩ := hw_327
      have hP : va_P G.1 classes [(b22, .inl (G.2 0, 2, .inl b55)), (b0, .inr (12, [.int b1, .ref b2, .ref b3, .ref b4, .ref b5, .int b6, .ref b7, .int b8, .int b9, .int b10, .int b11, .ref b12, .ref b13, .ref b14, .int b15, .ref b16, .ref b17, .ref b18, .ref b19, .ref b20, .ref b21, .ref b22, .ref b23, .ref b24, .ref b25, .ref b26, .ref b27, .int b28, .ref b29, .ref b30, .int b31, .int b32, .int b33, .int b34, .ref b35, .ref b36, .ref b37, .ref b38, .ref b39, .ref b40, .ref b41, .int b42, .ref b43, .ref b44, .int b45, .ref b46, .ref b47, .ref b48, .ref b49, .ref b50, .int b51, .ref b52, .ref b53, .ref b54])), (b25, .inl (G.2 0, 482, .inl b56))] H := hP
      have hD := z_tie hP hD rfl
      refine W.widen (k := 0) (n := 0) (Nat.le_of_ble_eq_true rfl) (Nat.le_of_ble_eq_true rfl) ?_
      refine lv_if_eq (tgt := 28) hx hb d_Model_finals_21 (by decide) (fun hc_329 => ?_) (fun hc_329 => ?_)
      · have _nhc_329 := hc_329
        have ni_330 := (fa_eq _ _).mp hc_329
        rw [li_0] at ni_330
        have hv_331 : zI x_328 0 0 := zI.eq_l hx_328 zc_0 hc_329
        refine lv_iconst (v := 0) hx hb d_Model_finals_28 (by decide) ?_
        refine lv_iadd hx hb d_Model_finals_29 ?_
        refine lv_topi (fun v_332 ev_332 => ?_)
        obtain ⟨qv_332, hv_332⟩ := zI_add (l := -2147483648) (h := 2147483647) (zI_all y_320) zc_0 ev_332 (by decide)
        rw [li_0] at qv_332
        refine lv_istore_n (lv' := [(1, .int v_332), (2, .int y_319), (0, .ref b0)]) hx hb d_Model_finals_30 rfl hl (by decide) rfl (fun ls hl => ?_)
        obtain ⟨v_333, ev_333⟩ : ∃ z : Int32, z = y_319 + 1 := ⟨_, rfl⟩
        obtain ⟨qv_333, hv_333⟩ := zI_add (l := 1) (h := 241) hv_325 zc_1 ev_333 (by decide)
        rw [li_1] at qv_333
        refine lv_iinc (v := v_333) (lv' := [(2, .int v_333), (1, .int v_332), (0, .ref b0)]) hx hb d_Model_finals_31 hl (k := 1) rfl (by rw [ev_333]; rfl) (by decide) rfl (fun ls hl => ?_)
        refine lv_goto (tgt := 4) hx hb d_Model_finals_34 (by decide) ?_
        exact ihk_318 (v_333) (v_332) _ _ _ (zI.wk (l' := 0) (h' := 241) hv_333 (by decide)) (zm_up qv_333 hmk_318 (by decide)) (hP.sub [1, 0, 2] rfl) (hD.sub [1, 0, 2] (by decide) rfl) hS (lv_sub hl [0, 1, 2] rfl)
      · have _nhc_329 := hc_329
        have ni_334 : ¬ (x_328 : Int32).toInt = (0 : Int32).toInt := fun z => hc_329 ((fa_eq _ _).mpr z)
        simp only [li_0] at ni_334
        have hv_335 : zI x_328 1 1 := zI.ne_lo hx_328 zc_0 hc_329 (by decide)
        refine lv_iconst (v := 1) hx hb d_Model_finals_24 (by decide) ?_
        refine lv_goto (tgt := 29) hx hb d_Model_finals_25 (by decide) ?_
        refine lv_iadd hx hb d_Model_finals_29 ?_
        refine lv_topi (fun v_336 ev_336 => ?_)
        refine lv_istore_n (lv' := [(1, .int v_336), (2, .int y_319), (0, .ref b0)]) hx hb d_Model_finals_30 rfl hl (by decide) rfl (fun ls hl => ?_)
        obtain ⟨v_337, ev_337⟩ : ∃ z : Int32, z = y_319 + 1 := ⟨_, rfl⟩
        obtain ⟨qv_337, hv_337⟩ := zI_add (l := 1) (h := 241) hv_325 zc_1 ev_337 (by decide)
        rw [li_1] at qv_337
        refine lv_iinc (v := v_337) (lv' := [(2, .int v_337), (1, .int v_336), (0, .ref b0)]) hx hb d_Model_finals_31 hl (k := 1) rfl (by rw [ev_337]; rfl) (by decide) rfl (fun ls hl => ?_)
        refine lv_goto (tgt := 4) hx hb d_Model_finals_34 (by decide) ?_
        exact ihk_318 (v_337) (v_336) _ _ _ (zI.wk (l' := 0) (h' := 241) hv_337 (by decide)) (zm_up qv_337 hmk_318 (by decide)) (hP.sub [1, 0, 2] rfl) (hD.sub [1, 0, 2] (by decide) rfl) hS (lv_sub hl [0, 1, 2] rfl)
theorem d_X_ran_0 : decode prog_1_method_14_code 0 = .ok (.iload_n 1, 1) := by decide +kernel
theorem d_X_ran_1 : decode prog_1_method_14_code 1 = .ok (.ifCond .lt 21, 3) := by decide +kernel
theorem d_X_ran_4 : decode prog_1_method_14_code 4 = .ok (.iload_n 1, 1) := by decide +kernel
theorem d_X_ran_5 : decode prog_1_method_14_code 5 = .ok (.aload_n 0, 1) := by decide +kernel
theorem d_X_ran_6 : decode prog_1_method_14_code 6 = .ok (.getfield 70, 3) := by decide +kernel
theorem d_X_ran_9 : decode prog_1_method_14_code 9 = .ok (.arraylength, 1) := by decide +kernel
theorem d_X_ran_10 : decode prog_1_method_14_code 10 = .ok (.if_icmp .ge 12, 3) := by decide +kernel
theorem d_X_ran_13 : decode prog_1_method_14_code 13 = .ok (.aload_n 0, 1) := by decide +kernel
theorem d_X_ran_14 : decode prog_1_method_14_code 14 = .ok (.getfield 70, 3) := by decide +kernel
theorem d_X_ran_17 : decode prog_1_method_14_code 17 = .ok (.iload_n 1, 1) := by decide +kernel
theorem d_X_ran_18 : decode prog_1_method_14_code 18 = .ok (.iaload, 1) := by decide +kernel
theorem d_X_ran_19 : decode prog_1_method_14_code 19 = .ok (.goto 4, 3) := by decide +kernel
theorem d_X_ran_22 : decode prog_1_method_14_code 22 = .ok (.iconst (-1), 1) := by decide +kernel
theorem d_X_ran_23 : decode prog_1_method_14_code 23 = .ok (.ireturn, 1) := by decide +kernel
abbrev m_s1_X_ran : Room := { frames := 0, cells := 0, slots := 0, locals := 0 }
set_option maxHeartbeats 4000000 in
set_option maxRecDepth 100000 in
theorem s1_X_ran (l : Launch) (G : zG) (b0 : Nat) (b1 : Int32) (b2 : Nat) (b3 : Nat) (b4 : Nat) (b5 : Nat) (b6 : Int32) (b7 : Int32) (b8 : Nat) (b9 : Nat) (b10 : Nat) (b11 : Nat) (b12 : Nat) (b13 : Nat) (b14 : Nat) (b15 : Nat) (b16 : Nat) (b17 : Nat) (b18 : Nat) (b19 : Nat) (b20 : Nat) (b21 : Nat) (b22 : Nat → Int32) (hb6 : zI b6 0 7) (hb7 : zI b7 0 8) : zM l G y_X_ran prog_1_method_14_code 2 (Option.some Jvm.ClassFile.FieldType.int) m_s1_X_ran [.ref b0, .int b1] [(b0, .inr (0, [.ref b2, .ref b3, .ref b4, .ref b5, .int b6, .int b7, .ref b8, .ref b9, .ref b10, .ref b11, .ref b12, .ref b13, .ref b14, .ref b15, .ref b16, .ref b17, .ref b18, .ref b19, .ref b20, .ref b21])), (b15, .inl (G.2 0, 3, .inl b22))] (fun v w => ∃ (e0 : Int32), v = some (.int e0) ∧ w = [(b0, .inr (0, [.ref b2, .ref b3, .ref b4, .ref b5, .int b6, .int b7, .ref b8, .ref b9, .ref b10, .ref b11, .ref b12, .ref b13, .ref b14, .ref b15, .ref b16, .ref b17, .ref b18, .ref b19, .ref b20, .ref b21])), (b15, .inl (G.2 0, 3, .inl b22))]) := by
  refine z_start (by decide +kernel) (Nat.le_of_ble_eq_true rfl) ?_
  intro p e s m below meth c A Z hr hnm hA hP hD hS ls hl
  have Z : zC p s m _ meth c prog_1_method_14_code 2 "TraceMachines" G := Z
  obtain ⟨hx, hb, hml, hown, hts, hK, hN, hlocks⟩ := id Z
  have hl : lv_has ls 2 [(0, .ref b0), (1, .int b1)] := hl
  refine lv_iload_n hx hb d_X_ran_0 rfl (lv_at hl 1 rfl) ?_
  refine lv_if_lt (tgt := 22) hx hb d_X_ran_1 (by decide) (fun hc_1 => ?_) (fun hc_1 => ?_)
  · have _nhc_1 := hc_1
    have ni_2 := (fa_lt _ _).mp hc_1
    rw [li_0] at ni_2
    have hv_3 : zI b1 (-2147483648) (-1) := zI.lt_l (zI_all b1) zc_0 hc_1 (by decide)
    refine lv_iconst (v := (-1)) hx hb d_X_ran_22 (by decide) ?_
    exact z_iret hx hb hr hlocks hP hD hS (Nat.le_of_ble_eq_true rfl) (Nat.le_of_ble_eq_true rfl) d_X_ran_23 ⟨(-1), rfl, rfl⟩
  · have _nhc_1 := hc_1
    have ni_4 := (fa_le _ _).mp (zi_nlt hc_1)
    rw [li_0] at ni_4
    have hv_5 : zI b1 0 2147483647 := zI.le_r zc_0 (zI_all b1) (zi_nlt hc_1) (by decide)
    refine lv_iload_n hx hb d_X_ran_4 rfl (lv_at hl 1 rfl) ?_
    refine lv_aload_n hx hb d_X_ran_5 rfl (lv_at hl 0 rfl) ?_
    refine va_get (D := G.1) (ci := 0) (v := .ref b15) (C := R_X) (T := F_X) (N := 20) hx hb hts i_X hown hK hP 0 rfl rfl 13 (by decide) (hts _ q430) (fun _ h9 => h9) rfl d_X_ran_6 ?_
    refine va_alen hx hb hK hP 1 0 rfl rfl (v := 3) (show Int32.ofNat 3 = 3 from by decide +kernel) d_X_ran_9 ?_
    refine lv_icmp_ge (tgt := 22) hx hb d_X_ran_10 (by decide) (fun hc_6 => ?_) (fun hc_6 => ?_)
    · have _nhc_6 := hc_6
      have ni_7 := (fa_le _ _).mp hc_6
      rw [li_3] at ni_7
      have hv_8 : zI b1 3 2147483647 := zI.le_r zc_3 hv_5 hc_6 (by decide)
      refine lv_iconst (v := (-1)) hx hb d_X_ran_22 (by decide) ?_
      exact z_iret hx hb hr hlocks hP hD hS (Nat.le_of_ble_eq_true rfl) (Nat.le_of_ble_eq_true rfl) d_X_ran_23 ⟨(-1), rfl, rfl⟩
    · have _nhc_6 := hc_6
      have ni_9 := (fa_lt _ _).mp (zi_nle hc_6)
      rw [li_3] at ni_9
      have hv_10 : zI b1 0 2 := zI.lt_l hv_5 zc_3 (zi_nle hc_6) (by decide)
      refine lv_aload_n hx hb d_X_ran_13 rfl (lv_at hl 0 rfl) ?_
      refine va_get (D := G.1) (ci := 0) (v := .ref b15) (C := R_X) (T := F_X) (N := 20) hx hb hts i_X hown hK hP 0 rfl rfl 13 (by decide) (hts _ q430) (fun _ h9 => h9) rfl d_X_ran_14 ?_
      refine lv_iload_n hx hb d_X_ran_17 rfl (lv_at hl 1 rfl) ?_
      refine va_iald hx hb hK hP 1 0 rfl rfl (zI.inn hv_10 (by decide)) d_X_ran_18 ?_
      refine lv_topi (fun v_11 ev_11 => ?_)
      refine lv_goto (tgt := 23) hx hb d_X_ran_19 (by decide) ?_
      exact z_iret hx hb hr hlocks hP hD hS (Nat.le_of_ble_eq_true rfl) (Nat.le_of_ble_eq_true rfl) d_X_ran_23 ⟨v_11, rfl, rfl⟩
theorem d_X_sign_0 : decode prog_1_method_2_code 0 = .ok (.aload_n 0, 1) := by decide +kernel
theorem d_X_sign_1 : decode prog_1_method_2_code 1 = .ok (.getfield 12, 3) := by decide +kernel
theorem d_X_sign_4 : decode prog_1_method_2_code 4 = .ok (.iload_n 1, 1) := by decide +kernel
theorem d_X_sign_5 : decode prog_1_method_2_code 5 = .ok (.invokevirtual 118, 3) := by decide +kernel
theorem d_X_sign_8 : decode prog_1_method_2_code 8 = .ok (.ifCond .eq 13, 3) := by decide +kernel
theorem d_X_sign_11 : decode prog_1_method_2_code 11 = .ok (.aload_n 0, 1) := by decide +kernel
theorem d_X_sign_12 : decode prog_1_method_2_code 12 = .ok (.getfield 12, 3) := by decide +kernel
theorem d_X_sign_15 : decode prog_1_method_2_code 15 = .ok (.getfield 122, 3) := by decide +kernel
theorem d_X_sign_18 : decode prog_1_method_2_code 18 = .ok (.goto 4, 3) := by decide +kernel
theorem d_X_sign_21 : decode prog_1_method_2_code 21 = .ok (.iconst (-1), 1) := by decide +kernel
theorem d_X_sign_22 : decode prog_1_method_2_code 22 = .ok (.ireturn, 1) := by decide +kernel
abbrev m_s1_X_sign : Room := { frames := 1, cells := 0, slots := 0, locals := 22 }
set_option maxHeartbeats 4000000 in
set_option maxRecDepth 100000 in
theorem s1_X_sign (l : Launch) (G : zG) (b0 : Nat) (b1 : Int32) (b2 : Nat) (b3 : Nat) (b4 : Nat) (b5 : Nat) (b6 : Int32) (b7 : Int32) (b8 : Nat) (b9 : Nat) (b10 : Nat) (b11 : Nat) (b12 : Nat) (b13 : Nat) (b14 : Nat) (b15 : Nat) (b16 : Nat) (b17 : Nat) (b18 : Nat) (b19 : Nat) (b20 : Nat) (b21 : Nat) (b22 : Int32) (b23 : Nat) (b24 : Nat → Int32) (hb6 : zI b6 0 7) (hb7 : zI b7 0 8) (hb22 : zI b22 0 240) : zM l G y_X_sign prog_1_method_2_code 2 (Option.some Jvm.ClassFile.FieldType.int) m_s1_X_sign [.ref b0, .int b1] [(b0, .inr (0, [.ref b2, .ref b3, .ref b4, .ref b5, .int b6, .int b7, .ref b8, .ref b9, .ref b10, .ref b11, .ref b12, .ref b13, .ref b14, .ref b15, .ref b16, .ref b17, .ref b18, .ref b19, .ref b20, .ref b21])), (b2, .inr (1, [.int b22, .ref b23])), (b23, .inl (G.2 2, 240, .inl b24))] (fun v w => ∃ (e0 : Int32), ∃ (e1 : Int32), ∃ (e2 : Nat → Int32), v = some (.int e0) ∧ w = [(b0, .inr (0, [.ref b2, .ref b3, .ref b4, .ref b5, .int b6, .int b7, .ref b8, .ref b9, .ref b10, .ref b11, .ref b12, .ref b13, .ref b14, .ref b15, .ref b16, .ref b17, .ref b18, .ref b19, .ref b20, .ref b21])), (b2, .inr (1, [.int e1, .ref b23])), (b23, .inl (G.2 2, 240, .inl e2))] ∧ (zI e0 (-1) 240) ∧ (zI e1 0 240)) := by
  refine z_start (by decide +kernel) (Nat.le_of_ble_eq_true rfl) ?_
  intro p e s m below meth c A Z hr hnm hA hP hD hS ls hl
  have Z : zC p s m _ meth c prog_1_method_2_code 2 "TraceMachines" G := Z
  obtain ⟨hx, hb, hml, hown, hts, hK, hN, hlocks⟩ := id Z
  have hl : lv_has ls 2 [(0, .ref b0), (1, .int b1)] := hl
  refine lv_aload_n hx hb d_X_sign_0 rfl (lv_at hl 0 rfl) ?_
  refine va_get (D := G.1) (ci := 0) (v := .ref b2) (C := R_X) (T := F_X) (N := 20) hx hb hts i_X hown hK hP 0 rfl rfl 0 (by decide) (hts _ q417) (fun _ h9 => h9) rfl d_X_sign_1 ?_
  refine lv_iload_n hx hb d_X_sign_4 rfl (lv_at hl 1 rfl) ?_
  refine z_callV (index := 118) (As := [.int b1]) (rest := []) (wr := [(b0, .inr (0, [.ref b2, .ref b3, .ref b4, .ref b5, .int b6, .int b7, .ref b8, .ref b9, .ref b10, .ref b11, .ref b12, .ref b13, .ref b14, .ref b15, .ref b16, .ref b17, .ref b18, .ref b19, .ref b20, .ref b21]))]) Z (s1_Text_put l G (b2) (b1) (b22) (b23) (b24) hb22) hl.1 q482 q483 q484 q2 q485 ⟨by decide, by decide, by show _ = some 1; decide +kernel⟩ ⟨Nat.le_of_ble_eq_true rfl, Nat.le_of_ble_eq_true rfl⟩ ⟨Nat.le_of_ble_eq_true rfl, Nat.le_of_ble_eq_true rfl⟩ rfl (Nat.le_of_ble_eq_true rfl) d_X_sign_5 hP hD hS hA 1 1 rfl rfl rfl [1, 2] [0] rfl rfl rfl rfl (by decide) (fun v w1 H locs hw_1 hP hD hS => ?_)
  obtain ⟨x_2, x_3, f_4, rfl, rfl, hx_2, hx_3⟩ := hw_1
  have hP : va_P G.1 classes [(b0, .inr (0, [.ref b2, .ref b3, .ref b4, .ref b5, .int b6, .int b7, .ref b8, .ref b9, .ref b10, .ref b11, .ref b12, .ref b13, .ref b14, .ref b15, .ref b16, .ref b17, .ref b18, .ref b19, .ref b20, .ref b21])), (b2, .inr (1, [.int x_3, .ref b23])), (b23, .inl (G.2 2, 240, .inl f_4))] H := hP
  have hD := z_tie hP hD rfl
  refine W.widen (k := 0) (n := 0) (Nat.le_of_ble_eq_true rfl) (Nat.le_of_ble_eq_true rfl) ?_
  refine lv_if_eq (tgt := 21) hx hb d_X_sign_8 (by decide) (fun hc_5 => ?_) (fun hc_5 => ?_)
  · have _nhc_5 := hc_5
    have ni_6 := (fa_eq _ _).mp hc_5
    rw [li_0] at ni_6
    have hv_7 : zI x_2 0 0 := zI.eq_l hx_2 zc_0 hc_5
    refine lv_iconst (v := (-1)) hx hb d_X_sign_21 (by decide) ?_
    exact z_iret hx hb hr hlocks hP hD hS (Nat.le_of_ble_eq_true rfl) (Nat.le_of_ble_eq_true rfl) d_X_sign_22 ⟨(-1), x_3, f_4, rfl, rfl, (zI.wk (l' := (-1)) (h' := 240) zc_m1 (by decide)), hx_3⟩
  · have _nhc_5 := hc_5
    have ni_8 : ¬ (x_2 : Int32).toInt = (0 : Int32).toInt := fun z => hc_5 ((fa_eq _ _).mpr z)
    simp only [li_0] at ni_8
    have hv_9 : zI x_2 1 1 := zI.ne_lo hx_2 zc_0 hc_5 (by decide)
    refine lv_aload_n hx hb d_X_sign_11 rfl (lv_at hl 0 rfl) ?_
    refine va_get (D := G.1) (ci := 0) (v := .ref b2) (C := R_X) (T := F_X) (N := 20) hx hb hts i_X hown hK hP 0 rfl rfl 0 (by decide) (hts _ q417) (fun _ h9 => h9) rfl d_X_sign_12 ?_
    refine va_get (D := G.1) (ci := 1) (v := .int x_3) (C := R_Text) (T := F_Text) (N := 2) hx hb hts i_Text hown hK hP 1 rfl rfl 0 (by decide) (hts _ q38) (fun _ h9 => h9) rfl d_X_sign_15 ?_
    refine lv_goto (tgt := 22) hx hb d_X_sign_18 (by decide) ?_
    exact z_iret hx hb hr hlocks hP hD hS (Nat.le_of_ble_eq_true rfl) (Nat.le_of_ble_eq_true rfl) d_X_sign_22 ⟨x_3, x_3, f_4, rfl, rfl, (zI.wk (l' := (-1)) (h' := 240) hx_3 (by decide)), hx_3⟩
theorem d_X_end_0 : decode prog_1_method_3_code 0 = .ok (.aload_n 0, 1) := by decide +kernel
theorem d_X_end_1 : decode prog_1_method_3_code 1 = .ok (.getfield 12, 3) := by decide +kernel
theorem d_X_end_4 : decode prog_1_method_3_code 4 = .ok (.iload_n 1, 1) := by decide +kernel
theorem d_X_end_5 : decode prog_1_method_3_code 5 = .ok (.invokevirtual 126, 3) := by decide +kernel
theorem d_X_end_8 : decode prog_1_method_3_code 8 = .ok (.ireturn, 1) := by decide +kernel
abbrev m_s1_X_end : Room := { frames := 1, cells := 0, slots := 0, locals := 21 }
set_option maxHeartbeats 4000000 in
set_option maxRecDepth 100000 in
theorem s1_X_end (l : Launch) (G : zG) (b0 : Nat) (b1 : Int32) (b2 : Nat) (b3 : Nat) (b4 : Nat) (b5 : Nat) (b6 : Int32) (b7 : Int32) (b8 : Nat) (b9 : Nat) (b10 : Nat) (b11 : Nat) (b12 : Nat) (b13 : Nat) (b14 : Nat) (b15 : Nat) (b16 : Nat) (b17 : Nat) (b18 : Nat) (b19 : Nat) (b20 : Nat) (b21 : Nat) (b22 : Int32) (b23 : Nat) (hb6 : zI b6 0 7) (hb7 : zI b7 0 8) (hb22 : zI b22 0 240) : zM l G y_X_end prog_1_method_3_code 2 (Option.some Jvm.ClassFile.FieldType.boolean) m_s1_X_end [.ref b0, .int b1] [(b0, .inr (0, [.ref b2, .ref b3, .ref b4, .ref b5, .int b6, .int b7, .ref b8, .ref b9, .ref b10, .ref b11, .ref b12, .ref b13, .ref b14, .ref b15, .ref b16, .ref b17, .ref b18, .ref b19, .ref b20, .ref b21])), (b2, .inr (1, [.int b22, .ref b23]))] (fun v w => ∃ (e0 : Int32), ∃ (e1 : Int32), v = some (.int e0) ∧ w = [(b0, .inr (0, [.ref b2, .ref b3, .ref b4, .ref b5, .int b6, .int b7, .ref b8, .ref b9, .ref b10, .ref b11, .ref b12, .ref b13, .ref b14, .ref b15, .ref b16, .ref b17, .ref b18, .ref b19, .ref b20, .ref b21])), (b2, .inr (1, [.int e1, .ref b23]))] ∧ (zI e0 0 1) ∧ (zI e1 0 240)) := by
  refine z_start (by decide +kernel) (Nat.le_of_ble_eq_true rfl) ?_
  intro p e s m below meth c A Z hr hnm hA hP hD hS ls hl
  have Z : zC p s m _ meth c prog_1_method_3_code 2 "TraceMachines" G := Z
  obtain ⟨hx, hb, hml, hown, hts, hK, hN, hlocks⟩ := id Z
  have hl : lv_has ls 2 [(0, .ref b0), (1, .int b1)] := hl
  refine lv_aload_n hx hb d_X_end_0 rfl (lv_at hl 0 rfl) ?_
  refine va_get (D := G.1) (ci := 0) (v := .ref b2) (C := R_X) (T := F_X) (N := 20) hx hb hts i_X hown hK hP 0 rfl rfl 0 (by decide) (hts _ q417) (fun _ h9 => h9) rfl d_X_end_1 ?_
  refine lv_iload_n hx hb d_X_end_4 rfl (lv_at hl 1 rfl) ?_
  refine z_callV (index := 126) (As := [.int b1]) (rest := []) (wr := [(b0, .inr (0, [.ref b2, .ref b3, .ref b4, .ref b5, .int b6, .int b7, .ref b8, .ref b9, .ref b10, .ref b11, .ref b12, .ref b13, .ref b14, .ref b15, .ref b16, .ref b17, .ref b18, .ref b19, .ref b20, .ref b21]))]) Z (s1_Text_cut l G (b2) (b1) (b22) (b23) hb22) hl.1 q490 q491 q492 q2 q493 ⟨by decide, by decide, by show _ = some 1; decide +kernel⟩ ⟨Nat.le_of_ble_eq_true rfl, Nat.le_of_ble_eq_true rfl⟩ ⟨Nat.le_of_ble_eq_true rfl, Nat.le_of_ble_eq_true rfl⟩ rfl (Nat.le_of_ble_eq_true rfl) d_X_end_5 hP hD hS hA 1 1 rfl rfl rfl [1] [0] rfl rfl rfl rfl (by decide) (fun v w1 H locs hw_1 hP hD hS => ?_)
  obtain ⟨x_2, x_3, rfl, rfl, hx_2, hx_3⟩ := hw_1
  have hP : va_P G.1 classes [(b0, .inr (0, [.ref b2, .ref b3, .ref b4, .ref b5, .int b6, .int b7, .ref b8, .ref b9, .ref b10, .ref b11, .ref b12, .ref b13, .ref b14, .ref b15, .ref b16, .ref b17, .ref b18, .ref b19, .ref b20, .ref b21])), (b2, .inr (1, [.int x_3, .ref b23]))] H := hP
  have hD := z_tie hP hD rfl
  refine W.widen (k := 0) (n := 0) (Nat.le_of_ble_eq_true rfl) (Nat.le_of_ble_eq_true rfl) ?_
  exact z_zret hx hb hr hlocks (zi_nb hx_2) hP hD hS (Nat.le_of_ble_eq_true rfl) (Nat.le_of_ble_eq_true rfl) d_X_end_8 ⟨x_2, x_3, rfl, rfl, hx_2, hx_3⟩
theorem d_X_rule_0 : decode prog_1_method_20_code 0 = .ok (.iload_n 1, 1) := by decide +kernel
theorem d_X_rule_1 : decode prog_1_method_20_code 1 = .ok (.invokestatic 305, 3) := by decide +kernel
theorem d_X_rule_4 : decode prog_1_method_20_code 4 = .ok (.ifCond .eq 22, 3) := by decide +kernel
theorem d_X_rule_7 : decode prog_1_method_20_code 7 = .ok (.iload_n 2, 1) := by decide +kernel
theorem d_X_rule_8 : decode prog_1_method_20_code 8 = .ok (.invokestatic 308, 3) := by decide +kernel
theorem d_X_rule_11 : decode prog_1_method_20_code 11 = .ok (.ifCond .eq 15, 3) := by decide +kernel
theorem d_X_rule_14 : decode prog_1_method_20_code 14 = .ok (.iload_n 3, 1) := by decide +kernel
theorem d_X_rule_15 : decode prog_1_method_20_code 15 = .ok (.invokestatic 308, 3) := by decide +kernel
theorem d_X_rule_18 : decode prog_1_method_20_code 18 = .ok (.ifCond .eq 8, 3) := by decide +kernel
theorem d_X_rule_21 : decode prog_1_method_20_code 21 = .ok (.iload_n 2, 1) := by decide +kernel
theorem d_X_rule_22 : decode prog_1_method_20_code 22 = .ok (.iload_n 3, 1) := by decide +kernel
theorem d_X_rule_23 : decode prog_1_method_20_code 23 = .ok (.if_icmp .ne 5, 3) := by decide +kernel
theorem d_X_rule_26 : decode prog_1_method_20_code 26 = .ok (.iconst (-1), 1) := by decide +kernel
theorem d_X_rule_28 : decode prog_1_method_20_code 28 = .ok (.iload 4, 2) := by decide +kernel
theorem d_X_rule_30 : decode prog_1_method_20_code 30 = .ok (.ifCond .eq 11, 3) := by decide +kernel
theorem d_X_rule_33 : decode prog_1_method_20_code 33 = .ok (.iload 4, 2) := by decide +kernel
theorem d_X_rule_35 : decode prog_1_method_20_code 35 = .ok (.iconst 1, 1) := by decide +kernel
theorem d_X_rule_36 : decode prog_1_method_20_code 36 = .ok (.if_icmp .eq 5, 3) := by decide +kernel
theorem d_X_rule_39 : decode prog_1_method_20_code 39 = .ok (.iconst (-1), 1) := by decide +kernel
theorem d_X_rule_41 : decode prog_1_method_20_code 41 = .ok (.aload_n 0, 1) := by decide +kernel
theorem d_X_rule_42 : decode prog_1_method_20_code 42 = .ok (.getfield 98, 3) := by decide +kernel
theorem d_X_rule_45 : decode prog_1_method_20_code 45 = .ok (.aload_n 0, 1) := by decide +kernel
theorem d_X_rule_46 : decode prog_1_method_20_code 46 = .ok (.getfield 19, 3) := by decide +kernel
theorem d_X_rule_49 : decode prog_1_method_20_code 49 = .ok (.iload_n 1, 1) := by decide +kernel
theorem d_X_rule_50 : decode prog_1_method_20_code 50 = .ok (.iload_n 2, 1) := by decide +kernel
theorem d_X_rule_51 : decode prog_1_method_20_code 51 = .ok (.iload_n 3, 1) := by decide +kernel
theorem d_X_rule_52 : decode prog_1_method_20_code 52 = .ok (.invokevirtual 311, 3) := by decide +kernel
theorem d_X_rule_55 : decode prog_1_method_20_code 55 = .ok (.iload 4, 2) := by decide +kernel
theorem d_X_rule_57 : decode prog_1_method_20_code 57 = .ok (.ifCond .ne 13, 3) := by decide +kernel
theorem d_X_rule_60 : decode prog_1_method_20_code 60 = .ok (.aload_n 0, 1) := by decide +kernel
theorem d_X_rule_61 : decode prog_1_method_20_code 61 = .ok (.getfield 98, 3) := by decide +kernel
theorem d_X_rule_64 : decode prog_1_method_20_code 64 = .ok (.getfield 315, 3) := by decide +kernel
theorem d_X_rule_67 : decode prog_1_method_20_code 67 = .ok (.goto 10, 3) := by decide +kernel
theorem d_X_rule_70 : decode prog_1_method_20_code 70 = .ok (.aload_n 0, 1) := by decide +kernel
theorem d_X_rule_71 : decode prog_1_method_20_code 71 = .ok (.getfield 98, 3) := by decide +kernel
theorem d_X_rule_74 : decode prog_1_method_20_code 74 = .ok (.getfield 318, 3) := by decide +kernel
theorem d_X_isKind_0 : decode prog_1_method_31_code 0 = .ok (.iload_n 0, 1) := by decide +kernel
theorem d_X_isKind_1 : decode prog_1_method_31_code 1 = .ok (.ifCond .lt 13, 3) := by decide +kernel
theorem d_X_isKind_4 : decode prog_1_method_31_code 4 = .ok (.iload_n 0, 1) := by decide +kernel
theorem d_X_isKind_5 : decode prog_1_method_31_code 5 = .ok (.bipush 6, 2) := by decide +kernel
theorem d_X_isKind_7 : decode prog_1_method_31_code 7 = .ok (.if_icmp .ge 7, 3) := by decide +kernel
theorem d_X_isKind_10 : decode prog_1_method_31_code 10 = .ok (.iconst 1, 1) := by decide +kernel
theorem d_X_isKind_11 : decode prog_1_method_31_code 11 = .ok (.goto 4, 3) := by decide +kernel
theorem d_X_isKind_14 : decode prog_1_method_31_code 14 = .ok (.iconst 0, 1) := by decide +kernel
theorem d_X_isKind_15 : decode prog_1_method_31_code 15 = .ok (.ireturn, 1) := by decide +kernel
abbrev m_s2_X_isKind : Room := { frames := 0, cells := 0, slots := 0, locals := 0 }
set_option maxHeartbeats 4000000 in
set_option maxRecDepth 100000 in
theorem s2_X_isKind (l : Launch) (G : zG) (b0 : Int32)  : zM l G y_X_isKind prog_1_method_31_code 1 (Option.some Jvm.ClassFile.FieldType.boolean) m_s2_X_isKind [.int b0] [] (fun v w => (v = some (.int 0) ∧ w = [] ∧ b0.toInt < 0) ∨ (v = some (.int 0) ∧ w = [] ∧ 0 ≤ b0.toInt ∧ 6 ≤ b0.toInt) ∨ (v = some (.int 1) ∧ w = [] ∧ 0 ≤ b0.toInt ∧ b0.toInt < 6)) := by
  refine z_start (by decide +kernel) (Nat.le_of_ble_eq_true rfl) ?_
  intro p e s m below meth c A Z hr hnm hA hP hD hS ls hl
  have Z : zC p s m _ meth c prog_1_method_31_code 1 "TraceMachines" G := Z
  obtain ⟨hx, hb, hml, hown, hts, hK, hN, hlocks⟩ := id Z
  have hl : lv_has ls 1 [(0, .int b0)] := hl
  refine lv_iload_n hx hb d_X_isKind_0 rfl (lv_at hl 0 rfl) ?_
  refine lv_if_lt (tgt := 14) hx hb d_X_isKind_1 (by decide) (fun hc_1 => ?_) (fun hc_1 => ?_)
  · have _nhc_1 := hc_1
    have ni_2 := (fa_lt _ _).mp hc_1
    rw [li_0] at ni_2
    have hv_3 : zI b0 (-2147483648) (-1) := zI.lt_l (zI_all b0) zc_0 hc_1 (by decide)
    refine lv_iconst (v := 0) hx hb d_X_isKind_14 (by decide) ?_
    exact z_zret hx hb hr hlocks rfl hP hD hS (Nat.le_of_ble_eq_true rfl) (Nat.le_of_ble_eq_true rfl) d_X_isKind_15 (Or.inl ⟨rfl, rfl, by omega⟩)
  · have _nhc_1 := hc_1
    have ni_4 := (fa_le _ _).mp (zi_nlt hc_1)
    rw [li_0] at ni_4
    have hv_5 : zI b0 0 2147483647 := zI.le_r zc_0 (zI_all b0) (zi_nlt hc_1) (by decide)
    refine lv_iload_n hx hb d_X_isKind_4 rfl (lv_at hl 0 rfl) ?_
    refine lv_bipush (v := 6) hx hb d_X_isKind_5 (by decide) ?_
    refine lv_icmp_ge (tgt := 14) hx hb d_X_isKind_7 (by decide) (fun hc_6 => ?_) (fun hc_6 => ?_)
    · have _nhc_6 := hc_6
      have ni_7 := (fa_le _ _).mp hc_6
      rw [li_6] at ni_7
      have hv_8 : zI b0 6 2147483647 := zI.le_r zc_6 hv_5 hc_6 (by decide)
      refine lv_iconst (v := 0) hx hb d_X_isKind_14 (by decide) ?_
      exact z_zret hx hb hr hlocks rfl hP hD hS (Nat.le_of_ble_eq_true rfl) (Nat.le_of_ble_eq_true rfl) d_X_isKind_15 (Or.inr (Or.inl ⟨rfl, rfl, by omega, by omega⟩))
    · have _nhc_6 := hc_6
      have ni_9 := (fa_lt _ _).mp (zi_nle hc_6)
      rw [li_6] at ni_9
      have hv_10 : zI b0 0 5 := zI.lt_l hv_5 zc_6 (zi_nle hc_6) (by decide)
      refine lv_iconst (v := 1) hx hb d_X_isKind_10 (by decide) ?_
      refine lv_goto (tgt := 15) hx hb d_X_isKind_11 (by decide) ?_
      exact z_zret hx hb hr hlocks rfl hP hD hS (Nat.le_of_ble_eq_true rfl) (Nat.le_of_ble_eq_true rfl) d_X_isKind_15 (Or.inr (Or.inr (⟨rfl, rfl, by omega, by omega⟩)))
theorem d_X_rule_27 : decode prog_1_method_20_code 27 = .ok (.ireturn, 1) := by decide +kernel
theorem d_X_rule_40 : decode prog_1_method_20_code 40 = .ok (.ireturn, 1) := by decide +kernel
theorem d_X_rule_77 : decode prog_1_method_20_code 77 = .ok (.ireturn, 1) := by decide +kernel
abbrev m_s1_X_rule : Room := { frames := 3, cells := 0, slots := 0, locals := 74 }
set_option maxHeartbeats 4000000 in
set_option maxRecDepth 100000 in
theorem s1_X_rule (l : Launch) (G : zG) (b0 : Nat) (b1 : Int32) (b2 : Int32) (b3 : Int32) (b4 : Int32) (b5 : Nat) (b6 : Nat) (b7 : Nat) (b8 : Nat) (b9 : Int32) (b10 : Int32) (b11 : Nat) (b12 : Nat) (b13 : Nat) (b14 : Nat) (b15 : Nat) (b16 : Nat) (b17 : Nat) (b18 : Nat) (b19 : Nat) (b20 : Nat) (b21 : Nat) (b22 : Nat) (b23 : Nat) (b24 : Nat) (b25 : Int32) (b26 : Int32) (b27 : Int32) (b28 : Nat) (b29 : Nat) (b30 : Nat) (b31 : Nat → Int32) (b32 : Nat → Int32) (b33 : Int32) (b34 : Int32) (b35 : Int32) (b36 : Int32) (b37 : Int32) (b38 : Int32) (b39 : Int32) (b40 : Int32) (b41 : Int32) (b42 : Int32) (hb9 : zI b9 0 7) (hb10 : zI b10 0 8) (hb25 : zI b25 0 20) (hb26 : zI b26 0 3) (hb27 : zI b27 0 20) (hb41 : zI b41 0 1) (hb42 : zI b42 0 1) (hb31 : zR b31 0 12) (hb32 : zR b32 0 9) : zM l G y_X_rule prog_1_method_20_code 5 (Option.some Jvm.ClassFile.FieldType.int) m_s1_X_rule [.ref b0, .int b1, .int b2, .int b3, .int b4] [(b0, .inr (0, [.ref b5, .ref b6, .ref b7, .ref b8, .int b9, .int b10, .ref b11, .ref b12, .ref b13, .ref b14, .ref b15, .ref b16, .ref b17, .ref b18, .ref b19, .ref b20, .ref b21, .ref b22, .ref b23, .ref b24])), (b6, .inr (2, [.int b25, .int b26, .int b27, .ref b28, .ref b29, .ref b30])), (b28, .inl (G.2 0, 20, .inl b31)), (b29, .inl (G.2 0, 240, .inl b32)), (b22, .inr (10, [.int b33, .int b34, .int b35, .int b36, .int b37, .int b38, .int b39, .int b40, .int b41, .int b42]))] (fun v w => ∃ (e0 : Int32), ∃ (e1 : Int32), ∃ (e2 : Int32), ∃ (e3 : Int32), ∃ (e4 : Int32), ∃ (e5 : Int32), ∃ (e6 : Int32), ∃ (e7 : Int32), ∃ (e8 : Int32), ∃ (e9 : Int32), ∃ (e10 : Int32), v = some (.int e0) ∧ w = [(b0, .inr (0, [.ref b5, .ref b6, .ref b7, .ref b8, .int b9, .int b10, .ref b11, .ref b12, .ref b13, .ref b14, .ref b15, .ref b16, .ref b17, .ref b18, .ref b19, .ref b20, .ref b21, .ref b22, .ref b23, .ref b24])), (b6, .inr (2, [.int b25, .int b26, .int b27, .ref b28, .ref b29, .ref b30])), (b28, .inl (G.2 0, 20, .inl b31)), (b29, .inl (G.2 0, 240, .inl b32)), (b22, .inr (10, [.int e1, .int e2, .int e3, .int e4, .int e5, .int e6, .int e7, .int e8, .int e9, .int e10]))] ∧ (zI e9 0 1) ∧ (zI e10 0 1)) := by
  refine z_start (by decide +kernel) (Nat.le_of_ble_eq_true rfl) ?_
  intro p e s m below meth c A Z hr hnm hA hP hD hS ls hl
  have Z : zC p s m _ meth c prog_1_method_20_code 5 "TraceMachines" G := Z
  obtain ⟨hx, hb, hml, hown, hts, hK, hN, hlocks⟩ := id Z
  have hl : lv_has ls 5 [(0, .ref b0), (1, .int b1), (2, .int b2), (3, .int b3), (4, .int b4)] := hl
  refine lv_iload_n hx hb d_X_rule_0 rfl (lv_at hl 1 rfl) ?_
  refine z_callS (index := 305) (As := [.int b1]) (rest := []) (wr := [(b0, .inr (0, [.ref b5, .ref b6, .ref b7, .ref b8, .int b9, .int b10, .ref b11, .ref b12, .ref b13, .ref b14, .ref b15, .ref b16, .ref b17, .ref b18, .ref b19, .ref b20, .ref b21, .ref b22, .ref b23, .ref b24])), (b6, .inr (2, [.int b25, .int b26, .int b27, .ref b28, .ref b29, .ref b30])), (b28, .inl (G.2 0, 20, .inl b31)), (b29, .inl (G.2 0, 240, .inl b32)), (b22, .inr (10, [.int b33, .int b34, .int b35, .int b36, .int b37, .int b38, .int b39, .int b40, .int b41, .int b42]))]) Z (s2_X_isKind l G (b1)) hl.1 q915 q916 q1 q917 ⟨by decide, by decide, by show _ = some 1; decide +kernel⟩ ⟨Nat.le_of_ble_eq_true rfl, Nat.le_of_ble_eq_true rfl⟩ ⟨Nat.le_of_ble_eq_true rfl, Nat.le_of_ble_eq_true rfl⟩ rfl (Nat.le_of_ble_eq_true rfl) d_X_rule_1 hP hD hS hA [] [0, 1, 2, 3, 4] rfl rfl rfl rfl (by decide) (fun v w1 H locs hw_1 hP hD hS => ?_)
  rcases hw_1 with ⟨rfl, rfl, hq_2⟩ | ⟨rfl, rfl, hq_3, hq_4⟩ | ⟨rfl, rfl, hq_5, hq_6⟩
  · have hP : va_P G.1 classes [(b0, .inr (0, [.ref b5, .ref b6, .ref b7, .ref b8, .int b9, .int b10, .ref b11, .ref b12, .ref b13, .ref b14, .ref b15, .ref b16, .ref b17, .ref b18, .ref b19, .ref b20, .ref b21, .ref b22, .ref b23, .ref b24])), (b6, .inr (2, [.int b25, .int b26, .int b27, .ref b28, .ref b29, .ref b30])), (b28, .inl (G.2 0, 20, .inl b31)), (b29, .inl (G.2 0, 240, .inl b32)), (b22, .inr (10, [.int b33, .int b34, .int b35, .int b36, .int b37, .int b38, .int b39, .int b40, .int b41, .int b42]))] H := hP
    have hD := z_tie hP hD rfl
    have hv_7 : zI b1 (-2147483648) (-1) := by have _a := hq_2; have _b := (zI_all b1); have _c := zc_0; exact ⟨by omega, by omega⟩
    refine W.widen (k := 0) (n := 0) (Nat.le_of_ble_eq_true rfl) (Nat.le_of_ble_eq_true rfl) ?_
    refine lv_if_eq (tgt := 26) hx hb d_X_rule_4 (by decide) (fun _ => ?_) (fun hc => absurd hc (by decide +kernel))
    refine lv_iconst (v := (-1)) hx hb d_X_rule_26 (by decide) ?_
    exact z_iret hx hb hr hlocks hP hD hS (Nat.le_of_ble_eq_true rfl) (Nat.le_of_ble_eq_true rfl) d_X_rule_27 ⟨(-1), b33, b34, b35, b36, b37, b38, b39, b40, b41, b42, rfl, rfl, hb41, hb42⟩
  · have hP : va_P G.1 classes [(b0, .inr (0, [.ref b5, .ref b6, .ref b7, .ref b8, .int b9, .int b10, .ref b11, .ref b12, .ref b13, .ref b14, .ref b15, .ref b16, .ref b17, .ref b18, .ref b19, .ref b20, .ref b21, .ref b22, .ref b23, .ref b24])), (b6, .inr (2, [.int b25, .int b26, .int b27, .ref b28, .ref b29, .ref b30])), (b28, .inl (G.2 0, 20, .inl b31)), (b29, .inl (G.2 0, 240, .inl b32)), (b22, .inr (10, [.int b33, .int b34, .int b35, .int b36, .int b37, .int b38, .int b39, .int b40, .int b41, .int b42]))] H := hP
    have hD := z_tie hP hD rfl
    have hv_8 : zI b1 0 2147483647 := by have _a := hq_3; have _b := (zI_all b1); have _c := zc_0; exact ⟨by omega, by omega⟩
    have hv_9 : zI b1 6 2147483647 := by have _a := hq_4; have _b := hv_8; have _c := zc_6; exact ⟨by omega, by omega⟩
    refine W.widen (k := 0) (n := 0) (Nat.le_of_ble_eq_true rfl) (Nat.le_of_ble_eq_true rfl) ?_
    refine lv_if_eq (tgt := 26) hx hb d_X_rule_4 (by decide) (fun _ => ?_) (fun hc => absurd hc (by decide +kernel))
    refine lv_iconst (v := (-1)) hx hb d_X_rule_26 (by decide) ?_
    exact z_iret hx hb hr hlocks hP hD hS (Nat.le_of_ble_eq_true rfl) (Nat.le_of_ble_eq_true rfl) d_X_rule_27 ⟨(-1), b33, b34, b35, b36, b37, b38, b39, b40, b41, b42, rfl, rfl, hb41, hb42⟩
  · have hP : va_P G.1 classes [(b0, .inr (0, [.ref b5, .ref b6, .ref b7, .ref b8, .int b9, .int b10, .ref b11, .ref b12, .ref b13, .ref b14, .ref b15, .ref b16, .ref b17, .ref b18, .ref b19, .ref b20, .ref b21, .ref b22, .ref b23, .ref b24])), (b6, .inr (2, [.int b25, .int b26, .int b27, .ref b28, .ref b29, .ref b30])), (b28, .inl (G.2 0, 20, .inl b31)), (b29, .inl (G.2 0, 240, .inl b32)), (b22, .inr (10, [.int b33, .int b34, .int b35, .int b36, .int b37, .int b38, .int b39, .int b40, .int b41, .int b42]))] H := hP
    have hD := z_tie hP hD rfl
    have hv_10 : zI b1 0 2147483647 := by have _a := hq_5; have _b := (zI_all b1); have _c := zc_0; exact ⟨by omega, by omega⟩
    have hv_11 : zI b1 0 5 := by have _a := hq_6; have _b := hv_10; have _c := zc_6; exact ⟨by omega, by omega⟩
    refine W.widen (k := 0) (n := 0) (Nat.le_of_ble_eq_true rfl) (Nat.le_of_ble_eq_true rfl) ?_
    refine lv_if_eq (tgt := 26) hx hb d_X_rule_4 (by decide) (fun hc => absurd hc (by decide +kernel)) (fun _ => ?_)
    refine lv_iload_n hx hb d_X_rule_7 rfl (lv_at hl 2 rfl) ?_
    refine z_callS (index := 308) (As := [.int b2]) (rest := []) (wr := [(b0, .inr (0, [.ref b5, .ref b6, .ref b7, .ref b8, .int b9, .int b10, .ref b11, .ref b12, .ref b13, .ref b14, .ref b15, .ref b16, .ref b17, .ref b18, .ref b19, .ref b20, .ref b21, .ref b22, .ref b23, .ref b24])), (b6, .inr (2, [.int b25, .int b26, .int b27, .ref b28, .ref b29, .ref b30])), (b28, .inl (G.2 0, 20, .inl b31)), (b29, .inl (G.2 0, 240, .inl b32)), (b22, .inr (10, [.int b33, .int b34, .int b35, .int b36, .int b37, .int b38, .int b39, .int b40, .int b41, .int b42]))]) Z (s2_X_isLetter l G (b2)) hl.1 q918 q518 q1 q519 ⟨by decide, by decide, by show _ = some 1; decide +kernel⟩ ⟨Nat.le_of_ble_eq_true rfl, Nat.le_of_ble_eq_true rfl⟩ ⟨Nat.le_of_ble_eq_true rfl, Nat.le_of_ble_eq_true rfl⟩ rfl (Nat.le_of_ble_eq_true rfl) d_X_rule_8 hP hD hS hA [] [0, 1, 2, 3, 4] rfl rfl rfl rfl (by decide) (fun v w1 H locs hw_12 hP hD hS => ?_)
    rcases hw_12 with ⟨rfl, rfl, hq_13⟩ | ⟨rfl, rfl, hq_14, hq_15⟩ | ⟨rfl, rfl, hq_16, hq_17⟩
    · have hP : va_P G.1 classes [(b0, .inr (0, [.ref b5, .ref b6, .ref b7, .ref b8, .int b9, .int b10, .ref b11, .ref b12, .ref b13, .ref b14, .ref b15, .ref b16, .ref b17, .ref b18, .ref b19, .ref b20, .ref b21, .ref b22, .ref b23, .ref b24])), (b6, .inr (2, [.int b25, .int b26, .int b27, .ref b28, .ref b29, .ref b30])), (b28, .inl (G.2 0, 20, .inl b31)), (b29, .inl (G.2 0, 240, .inl b32)), (b22, .inr (10, [.int b33, .int b34, .int b35, .int b36, .int b37, .int b38, .int b39, .int b40, .int b41, .int b42]))] H := hP
      have hD := z_tie hP hD rfl
      have hv_18 : zI b2 (-2147483648) (-1) := by have _a := hq_13; have _b := (zI_all b2); have _c := zc_0; exact ⟨by omega, by omega⟩
      refine W.widen (k := 0) (n := 0) (Nat.le_of_ble_eq_true rfl) (Nat.le_of_ble_eq_true rfl) ?_
      refine lv_if_eq (tgt := 26) hx hb d_X_rule_11 (by decide) (fun _ => ?_) (fun hc => absurd hc (by decide +kernel))
      refine lv_iconst (v := (-1)) hx hb d_X_rule_26 (by decide) ?_
      exact z_iret hx hb hr hlocks hP hD hS (Nat.le_of_ble_eq_true rfl) (Nat.le_of_ble_eq_true rfl) d_X_rule_27 ⟨(-1), b33, b34, b35, b36, b37, b38, b39, b40, b41, b42, rfl, rfl, hb41, hb42⟩
    · have hP : va_P G.1 classes [(b0, .inr (0, [.ref b5, .ref b6, .ref b7, .ref b8, .int b9, .int b10, .ref b11, .ref b12, .ref b13, .ref b14, .ref b15, .ref b16, .ref b17, .ref b18, .ref b19, .ref b20, .ref b21, .ref b22, .ref b23, .ref b24])), (b6, .inr (2, [.int b25, .int b26, .int b27, .ref b28, .ref b29, .ref b30])), (b28, .inl (G.2 0, 20, .inl b31)), (b29, .inl (G.2 0, 240, .inl b32)), (b22, .inr (10, [.int b33, .int b34, .int b35, .int b36, .int b37, .int b38, .int b39, .int b40, .int b41, .int b42]))] H := hP
      have hD := z_tie hP hD rfl
      have hv_19 : zI b2 0 2147483647 := by have _a := hq_14; have _b := (zI_all b2); have _c := zc_0; exact ⟨by omega, by omega⟩
      have hv_20 : zI b2 10 2147483647 := by have _a := hq_15; have _b := hv_19; have _c := zc_10; exact ⟨by omega, by omega⟩
      refine W.widen (k := 0) (n := 0) (Nat.le_of_ble_eq_true rfl) (Nat.le_of_ble_eq_true rfl) ?_
      refine lv_if_eq (tgt := 26) hx hb d_X_rule_11 (by decide) (fun _ => ?_) (fun hc => absurd hc (by decide +kernel))
      refine lv_iconst (v := (-1)) hx hb d_X_rule_26 (by decide) ?_
      exact z_iret hx hb hr hlocks hP hD hS (Nat.le_of_ble_eq_true rfl) (Nat.le_of_ble_eq_true rfl) d_X_rule_27 ⟨(-1), b33, b34, b35, b36, b37, b38, b39, b40, b41, b42, rfl, rfl, hb41, hb42⟩
    · have hP : va_P G.1 classes [(b0, .inr (0, [.ref b5, .ref b6, .ref b7, .ref b8, .int b9, .int b10, .ref b11, .ref b12, .ref b13, .ref b14, .ref b15, .ref b16, .ref b17, .ref b18, .ref b19, .ref b20, .ref b21, .ref b22, .ref b23, .ref b24])), (b6, .inr (2, [.int b25, .int b26, .int b27, .ref b28, .ref b29, .ref b30])), (b28, .inl (G.2 0, 20, .inl b31)), (b29, .inl (G.2 0, 240, .inl b32)), (b22, .inr (10, [.int b33, .int b34, .int b35, .int b36, .int b37, .int b38, .int b39, .int b40, .int b41, .int b42]))] H := hP
      have hD := z_tie hP hD rfl
      have hv_21 : zI b2 0 2147483647 := by have _a := hq_16; have _b := (zI_all b2); have _c := zc_0; exact ⟨by omega, by omega⟩
      have hv_22 : zI b2 0 9 := by have _a := hq_17; have _b := hv_21; have _c := zc_10; exact ⟨by omega, by omega⟩
      refine W.widen (k := 0) (n := 0) (Nat.le_of_ble_eq_true rfl) (Nat.le_of_ble_eq_true rfl) ?_
      refine lv_if_eq (tgt := 26) hx hb d_X_rule_11 (by decide) (fun hc => absurd hc (by decide +kernel)) (fun _ => ?_)
      refine lv_iload_n hx hb d_X_rule_14 rfl (lv_at hl 3 rfl) ?_
      refine z_callS (index := 308) (As := [.int b3]) (rest := []) (wr := [(b0, .inr (0, [.ref b5, .ref b6, .ref b7, .ref b8, .int b9, .int b10, .ref b11, .ref b12, .ref b13, .ref b14, .ref b15, .ref b16, .ref b17, .ref b18, .ref b19, .ref b20, .ref b21, .ref b22, .ref b23, .ref b24])), (b6, .inr (2, [.int b25, .int b26, .int b27, .ref b28, .ref b29, .ref b30])), (b28, .inl (G.2 0, 20, .inl b31)), (b29, .inl (G.2 0, 240, .inl b32)), (b22, .inr (10, [.int b33, .int b34, .int b35, .int b36, .int b37, .int b38, .int b39, .int b40, .int b41, .int b42]))]) Z (s2_X_isLetter l G (b3)) hl.1 q918 q518 q1 q519 ⟨by decide, by decide, by show _ = some 1; decide +kernel⟩ ⟨Nat.le_of_ble_eq_true rfl, Nat.le_of_ble_eq_true rfl⟩ ⟨Nat.le_of_ble_eq_true rfl, Nat.le_of_ble_eq_true rfl⟩ rfl (Nat.le_of_ble_eq_true rfl) d_X_rule_15 hP hD hS hA [] [0, 1, 2, 3, 4] rfl rfl rfl rfl (by decide) (fun v w1 H locs hw_23 hP hD hS => ?_)
      rcases hw_23 with ⟨rfl, rfl, hq_24⟩ | ⟨rfl, rfl, hq_25, hq_26⟩ | ⟨rfl, rfl, hq_27, hq_28⟩
      · have hP : va_P G.1 classes [(b0, .inr (0, [.ref b5, .ref b6, .ref b7, .ref b8, .int b9, .int b10, .ref b11, .ref b12, .ref b13, .ref b14, .ref b15, .ref b16, .ref b17, .ref b18, .ref b19, .ref b20, .ref b21, .ref b22, .ref b23, .ref b24])), (b6, .inr (2, [.int b25, .int b26, .int b27, .ref b28, .ref b29, .ref b30])), (b28, .inl (G.2 0, 20, .inl b31)), (b29, .inl (G.2 0, 240, .inl b32)), (b22, .inr (10, [.int b33, .int b34, .int b35, .int b36, .int b37, .int b38, .int b39, .int b40, .int b41, .int b42]))] H := hP
        have hD := z_tie hP hD rfl
        have hv_29 : zI b3 (-2147483648) (-1) := by have _a := hq_24; have _b := (zI_all b3); have _c := zc_0; exact ⟨by omega, by omega⟩
        refine W.widen (k := 0) (n := 0) (Nat.le_of_ble_eq_true rfl) (Nat.le_of_ble_eq_true rfl) ?_
        refine lv_if_eq (tgt := 26) hx hb d_X_rule_18 (by decide) (fun _ => ?_) (fun hc => absurd hc (by decide +kernel))
        refine lv_iconst (v := (-1)) hx hb d_X_rule_26 (by decide) ?_
        exact z_iret hx hb hr hlocks hP hD hS (Nat.le_of_ble_eq_true rfl) (Nat.le_of_ble_eq_true rfl) d_X_rule_27 ⟨(-1), b33, b34, b35, b36, b37, b38, b39, b40, b41, b42, rfl, rfl, hb41, hb42⟩
      · have hP : va_P G.1 classes [(b0, .inr (0, [.ref b5, .ref b6, .ref b7, .ref b8, .int b9, .int b10, .ref b11, .ref b12, .ref b13, .ref b14, .ref b15, .ref b16, .ref b17, .ref b18, .ref b19, .ref b20, .ref b21, .ref b22, .ref b23, .ref b24])), (b6, .inr (2, [.int b25, .int b26, .int b27, .ref b28, .ref b29, .ref b30])), (b28, .inl (G.2 0, 20, .inl b31)), (b29, .inl (G.2 0, 240, .inl b32)), (b22, .inr (10, [.int b33, .int b34, .int b35, .int b36, .int b37, .int b38, .int b39, .int b40, .int b41, .int b42]))] H := hP
        have hD := z_tie hP hD rfl
        have hv_30 : zI b3 0 2147483647 := by have _a := hq_25; have _b := (zI_all b3); have _c := zc_0; exact ⟨by omega, by omega⟩
        have hv_31 : zI b3 10 2147483647 := by have _a := hq_26; have _b := hv_30; have _c := zc_10; exact ⟨by omega, by omega⟩
        refine W.widen (k := 0) (n := 0) (Nat.le_of_ble_eq_true rfl) (Nat.le_of_ble_eq_true rfl) ?_
        refine lv_if_eq (tgt := 26) hx hb d_X_rule_18 (by decide) (fun _ => ?_) (fun hc => absurd hc (by decide +kernel))
        refine lv_iconst (v := (-1)) hx hb d_X_rule_26 (by decide) ?_
        exact z_iret hx hb hr hlocks hP hD hS (Nat.le_of_ble_eq_true rfl) (Nat.le_of_ble_eq_true rfl) d_X_rule_27 ⟨(-1), b33, b34, b35, b36, b37, b38, b39, b40, b41, b42, rfl, rfl, hb41, hb42⟩
      · have hP : va_P G.1 classes [(b0, .inr (0, [.ref b5, .ref b6, .ref b7, .ref b8, .int b9, .int b10, .ref b11, .ref b12, .ref b13, .ref b14, .ref b15, .ref b16, .ref b17, .ref b18, .ref b19, .ref b20, .ref b21, .ref b22, .ref b23, .ref b24])), (b6, .inr (2, [.int b25, .int b26, .int b27, .ref b28, .ref b29, .ref b30])), (b28, .inl (G.2 0, 20, .inl b31)), (b29, .inl (G.2 0, 240, .inl b32)), (b22, .inr (10, [.int b33, .int b34, .int b35, .int b36, .int b37, .int b38, .int b39, .int b40, .int b41, .int b42]))] H := hP
        have hD := z_tie hP hD rfl
        have hv_32 : zI b3 0 2147483647 := by have _a := hq_27; have _b := (zI_all b3); have _c := zc_0; exact ⟨by omega, by omega⟩
        have hv_33 : zI b3 0 9 := by have _a := hq_28; have _b := hv_32; have _c := zc_10; exact ⟨by omega, by omega⟩
        refine W.widen (k := 0) (n := 0) (Nat.le_of_ble_eq_true rfl) (Nat.le_of_ble_eq_true rfl) ?_
        refine lv_if_eq (tgt := 26) hx hb d_X_rule_18 (by decide) (fun hc => absurd hc (by decide +kernel)) (fun _ => ?_)
        refine lv_iload_n hx hb d_X_rule_21 rfl (lv_at hl 2 rfl) ?_
        refine lv_iload_n hx hb d_X_rule_22 rfl (lv_at hl 3 rfl) ?_
        refine lv_icmp_ne (tgt := 28) hx hb d_X_rule_23 (by decide) (fun hc_34 => ?_) (fun hc_34 => ?_)
        · have _nhc_34 := hc_34
          have ni_35 : ¬ (b2 : Int32).toInt = (b3 : Int32).toInt := fun z => hc_34 ((fa_eq _ _).mpr z)
          refine lv_iload hx hb d_X_rule_28 (lv_at hl 4 rfl) ?_
          refine lv_if_eq (tgt := 41) hx hb d_X_rule_30 (by decide) (fun hc_36 => ?_) (fun hc_36 => ?_)
          · have _nhc_36 := hc_36
            have ni_37 := (fa_eq _ _).mp hc_36
            rw [li_0] at ni_37
            have hv_38 : zI b4 0 0 := zI.eq_l (zI_all b4) zc_0 hc_36
            refine lv_aload_n hx hb d_X_rule_41 rfl (lv_at hl 0 rfl) ?_
            refine va_get (D := G.1) (ci := 0) (v := .ref b22) (C := R_X) (T := F_X) (N := 20) hx hb hts i_X hown hK hP 0 rfl rfl 17 (by decide) (hts _ q434) (fun _ h9 => h9) rfl d_X_rule_42 ?_
            refine lv_aload_n hx hb d_X_rule_45 rfl (lv_at hl 0 rfl) ?_
            refine va_get (D := G.1) (ci := 0) (v := .ref b6) (C := R_X) (T := F_X) (N := 20) hx hb hts i_X hown hK hP 0 rfl rfl 1 (by decide) (hts _ q418) (fun _ h9 => h9) rfl d_X_rule_46 ?_
            refine lv_iload_n hx hb d_X_rule_49 rfl (lv_at hl 1 rfl) ?_
            refine lv_iload_n hx hb d_X_rule_50 rfl (lv_at hl 2 rfl) ?_
            refine lv_iload_n hx hb d_X_rule_51 rfl (lv_at hl 3 rfl) ?_
            refine z_callV (index := 311) (As := [.ref b6, .int b1, .int b2, .int b3]) (rest := []) (wr := [(b0, .inr (0, [.ref b5, .ref b6, .ref b7, .ref b8, .int b9, .int b10, .ref b11, .ref b12, .ref b13, .ref b14, .ref b15, .ref b16, .ref b17, .ref b18, .ref b19, .ref b20, .ref b21, .ref b22, .ref b23, .ref b24]))]) Z (s1_Pair_tally l G (b22) (b6) (b1) (b2) (b3) (b33) (b34) (b35) (b36) (b37) (b38) (b39) (b40) (b41) (b42) (b25) (b26) (b27) (b28) (b29) (b30) (b31) (b32) hb41 hb42 hb25 hb26 hb27 hb31 hb32) hl.1 q919 q920 q921 q11 q922 ⟨by decide, by decide, by show _ = some 4; decide +kernel⟩ ⟨Nat.le_of_ble_eq_true rfl, Nat.le_of_ble_eq_true rfl⟩ ⟨Nat.le_of_ble_eq_true rfl, Nat.le_of_ble_eq_true rfl⟩ rfl (Nat.le_of_ble_eq_true rfl) d_X_rule_52 hP hD hS hA 4 10 rfl rfl rfl [4, 1, 2, 3] [0] rfl rfl rfl rfl (by decide) (fun v w1 H locs hw_39 hP hD hS => ?_)
            refine Exists.elim hw_39 (fun x_40 hz_50 => Exists.elim hz_50 (fun x_41 hz_51 => Exists.elim hz_51 (fun x_42 hz_52 => Exists.elim hz_52 (fun x_43 hz_53 => Exists.elim hz_53 (fun x_44 hz_54 => Exists.elim hz_54 (fun x_45 hz_55 => Exists.elim hz_55 (fun x_46 hz_56 => Exists.elim hz_56 (fun x_47 hz_57 => Exists.elim hz_57 (fun x_48 hz_58 => Exists.elim hz_58 (fun x_49 hz_59 => ?_))))))))))
            obtain ⟨rfl, rfl, hx_48, hx_49⟩ := hz_59
            have hP : va_P G.1 classes [(b0, .inr (0, [.ref b5, .ref b6, .ref b7, .ref b8, .int b9, .int b10, .ref b11, .ref b12, .ref b13, .ref b14, .ref b15, .ref b16, .ref b17, .ref b18, .ref b19, .ref b20, .ref b21, .ref b22, .ref b23, .ref b24])), (b22, .inr (10, [.int x_40, .int x_41, .int x_42, .int x_43, .int x_44, .int x_45, .int x_46, .int x_47, .int x_48, .int x_49])), (b6, .inr (2, [.int b25, .int b26, .int b27, .ref b28, .ref b29, .ref b30])), (b28, .inl (G.2 0, 20, .inl b31)), (b29, .inl (G.2 0, 240, .inl b32))] H := hP
            have hD := z_tie hP hD rfl
            refine W.widen (k := 0) (n := 0) (Nat.le_of_ble_eq_true rfl) (Nat.le_of_ble_eq_true rfl) ?_
            refine lv_iload hx hb d_X_rule_55 (lv_at hl 4 rfl) ?_
            refine lv_if_ne (tgt := 70) hx hb d_X_rule_57 (by decide) (fun hc => zI.no_ne hv_38 zc_0 hc) (fun _ => ?_)
            refine lv_aload_n hx hb d_X_rule_60 rfl (lv_at hl 0 rfl) ?_
            refine va_get (D := G.1) (ci := 0) (v := .ref b22) (C := R_X) (T := F_X) (N := 20) hx hb hts i_X hown hK hP 0 rfl rfl 17 (by decide) (hts _ q434) (fun _ h9 => h9) rfl d_X_rule_61 ?_
            refine va_get (D := G.1) (ci := 10) (v := .int x_40) (C := R_Pair) (T := F_Pair) (N := 10) hx hb hts i_Pair hown hK hP 1 rfl rfl 0 (by decide) (hts _ q364) (fun _ h9 => h9) rfl d_X_rule_64 ?_
            refine lv_goto (tgt := 77) hx hb d_X_rule_67 (by decide) ?_
            exact z_iret hx hb hr hlocks (hP.sub [0, 2, 3, 4, 1] rfl) (hD.sub [0, 2, 3, 4, 1] (by decide) rfl) hS (Nat.le_of_ble_eq_true rfl) (Nat.le_of_ble_eq_true rfl) d_X_rule_77 ⟨x_40, x_40, x_41, x_42, x_43, x_44, x_45, x_46, x_47, x_48, x_49, rfl, rfl, hx_48, hx_49⟩
          · have _nhc_36 := hc_36
            have ni_60 : ¬ (b4 : Int32).toInt = (0 : Int32).toInt := fun z => hc_36 ((fa_eq _ _).mpr z)
            simp only [li_0] at ni_60
            refine lv_iload hx hb d_X_rule_33 (lv_at hl 4 rfl) ?_
            refine lv_iconst (v := 1) hx hb d_X_rule_35 (by decide) ?_
            refine lv_icmp_eq (tgt := 41) hx hb d_X_rule_36 (by decide) (fun hc_61 => ?_) (fun hc_61 => ?_)
            · have _nhc_61 := hc_61
              have ni_62 := (fa_eq _ _).mp hc_61
              rw [li_1] at ni_62
              have hv_63 : zI b4 1 1 := zI.eq_l (zI_all b4) zc_1 hc_61
              refine lv_aload_n hx hb d_X_rule_41 rfl (lv_at hl 0 rfl) ?_
              refine va_get (D := G.1) (ci := 0) (v := .ref b22) (C := R_X) (T := F_X) (N := 20) hx hb hts i_X hown hK hP 0 rfl rfl 17 (by decide) (hts _ q434) (fun _ h9 => h9) rfl d_X_rule_42 ?_
              refine lv_aload_n hx hb d_X_rule_45 rfl (lv_at hl 0 rfl) ?_
              refine va_get (D := G.1) (ci := 0) (v := .ref b6) (C := R_X) (T := F_X) (N := 20) hx hb hts i_X hown hK hP 0 rfl rfl 1 (by decide) (hts _ q418) (fun _ h9 => h9) rfl d_X_rule_46 ?_
              refine lv_iload_n hx hb d_X_rule_49 rfl (lv_at hl 1 rfl) ?_
              refine lv_iload_n hx hb d_X_rule_50 rfl (lv_at hl 2 rfl) ?_
              refine lv_iload_n hx hb d_X_rule_51 rfl (lv_at hl 3 rfl) ?_
              refine z_callV (index := 311) (As := [.ref b6, .int b1, .int b2, .int b3]) (rest := []) (wr := [(b0, .inr (0, [.ref b5, .ref b6, .ref b7, .ref b8, .int b9, .int b10, .ref b11, .ref b12, .ref b13, .ref b14, .ref b15, .ref b16, .ref b17, .ref b18, .ref b19, .ref b20, .ref b21, .ref b22, .ref b23, .ref b24]))]) Z (s1_Pair_tally l G (b22) (b6) (b1) (b2) (b3) (b33) (b34) (b35) (b36) (b37) (b38) (b39) (b40) (b41) (b42) (b25) (b26) (b27) (b28) (b29) (b30) (b31) (b32) hb41 hb42 hb25 hb26 hb27 hb31 hb32) hl.1 q919 q920 q921 q11 q922 ⟨by decide, by decide, by show _ = some 4; decide +kernel⟩ ⟨Nat.le_of_ble_eq_true rfl, Nat.le_of_ble_eq_true rfl⟩ ⟨Nat.le_of_ble_eq_true rfl, Nat.le_of_ble_eq_true rfl⟩ rfl (Nat.le_of_ble_eq_true rfl) d_X_rule_52 hP hD hS hA 4 10 rfl rfl rfl [4, 1, 2, 3] [0] rfl rfl rfl rfl (by decide) (fun v w1 H locs hw_64 hP hD hS => ?_)
              refine Exists.elim hw_64 (fun x_65 hz_75 => Exists.elim hz_75 (fun x_66 hz_76 => Exists.elim hz_76 (fun x_67 hz_77 => Exists.elim hz_77 (fun x_68 hz_78 => Exists.elim hz_78 (fun x_69 hz_79 => Exists.elim hz_79 (fun x_70 hz_80 => Exists.elim hz_80 (fun x_71 hz_81 => Exists.elim hz_81 (fun x_72 hz_82 => Exists.elim hz_82 (fun x_73 hz_83 => Exists.elim hz_83 (fun x_74 hz_84 => ?_))))))))))
              obtain ⟨rfl, rfl, hx_73, hx_74⟩ := hz_84
              have hP : va_P G.1 classes [(b0, .inr (0, [.ref b5, .ref b6, .ref b7, .ref b8, .int b9, .int b10, .ref b11, .ref b12, .ref b13, .ref b14, .ref b15, .ref b16, .ref b17, .ref b18, .ref b19, .ref b20, .ref b21, .ref b22, .ref b23, .ref b24])), (b22, .inr (10, [.int x_65, .int x_66, .int x_67, .int x_68, .int x_69, .int x_70, .int x_71, .int x_72, .int x_73, .int x_74])), (b6, .inr (2, [.int b25, .int b26, .int b27, .ref b28, .ref b29, .ref b30])), (b28, .inl (G.2 0, 20, .inl b31)), (b29, .inl (G.2 0, 240, .inl b32))] H := hP
              have hD := z_tie hP hD rfl
              refine W.widen (k := 0) (n := 0) (Nat.le_of_ble_eq_true rfl) (Nat.le_of_ble_eq_true rfl) ?_
              refine lv_iload hx hb d_X_rule_55 (lv_at hl 4 rfl) ?_
              refine lv_if_ne (tgt := 70) hx hb d_X_rule_57 (by decide) (fun _ => ?_) (fun hc => zI.no_eq hv_63 zc_0 hc (by decide))
              refine lv_aload_n hx hb d_X_rule_70 rfl (lv_at hl 0 rfl) ?_
              refine va_get (D := G.1) (ci := 0) (v := .ref b22) (C := R_X) (T := F_X) (N := 20) hx hb hts i_X hown hK hP 0 rfl rfl 17 (by decide) (hts _ q434) (fun _ h9 => h9) rfl d_X_rule_71 ?_
              refine va_get (D := G.1) (ci := 10) (v := .int x_66) (C := R_Pair) (T := F_Pair) (N := 10) hx hb hts i_Pair hown hK hP 1 rfl rfl 1 (by decide) (hts _ q366) (fun _ h9 => h9) rfl d_X_rule_74 ?_
              exact z_iret hx hb hr hlocks (hP.sub [0, 2, 3, 4, 1] rfl) (hD.sub [0, 2, 3, 4, 1] (by decide) rfl) hS (Nat.le_of_ble_eq_true rfl) (Nat.le_of_ble_eq_true rfl) d_X_rule_77 ⟨x_66, x_65, x_66, x_67, x_68, x_69, x_70, x_71, x_72, x_73, x_74, rfl, rfl, hx_73, hx_74⟩
            · have _nhc_61 := hc_61
              have ni_85 : ¬ (b4 : Int32).toInt = (1 : Int32).toInt := fun z => hc_61 ((fa_eq _ _).mpr z)
              simp only [li_1] at ni_85
              refine lv_iconst (v := (-1)) hx hb d_X_rule_39 (by decide) ?_
              exact z_iret hx hb hr hlocks hP hD hS (Nat.le_of_ble_eq_true rfl) (Nat.le_of_ble_eq_true rfl) d_X_rule_40 ⟨(-1), b33, b34, b35, b36, b37, b38, b39, b40, b41, b42, rfl, rfl, hb41, hb42⟩
        · have _nhc_34 := hc_34
          have ni_86 := (fa_eq _ _).mp hc_34
          refine lv_iconst (v := (-1)) hx hb d_X_rule_26 (by decide) ?_
          exact z_iret hx hb hr hlocks hP hD hS (Nat.le_of_ble_eq_true rfl) (Nat.le_of_ble_eq_true rfl) d_X_rule_27 ⟨(-1), b33, b34, b35, b36, b37, b38, b39, b40, b41, b42, rfl, rfl, hb41, hb42⟩
theorem d_X_rules_0 : decode prog_1_method_21_code 0 = .ok (.iload_n 1, 1) := by decide +kernel
theorem d_X_rules_1 : decode prog_1_method_21_code 1 = .ok (.invokestatic 305, 3) := by decide +kernel
theorem d_X_rules_4 : decode prog_1_method_21_code 4 = .ok (.ifCond .eq 19, 3) := by decide +kernel
theorem d_X_rules_7 : decode prog_1_method_21_code 7 = .ok (.iload_n 2, 1) := by decide +kernel
theorem d_X_rules_8 : decode prog_1_method_21_code 8 = .ok (.iconst 1, 1) := by decide +kernel
theorem d_X_rules_9 : decode prog_1_method_21_code 9 = .ok (.if_icmp .lt 14, 3) := by decide +kernel
theorem d_X_rules_12 : decode prog_1_method_21_code 12 = .ok (.iload_n 2, 1) := by decide +kernel
theorem d_X_rules_13 : decode prog_1_method_21_code 13 = .ok (.bipush 20, 2) := by decide +kernel
theorem d_X_rules_15 : decode prog_1_method_21_code 15 = .ok (.if_icmp .gt 8, 3) := by decide +kernel
theorem d_X_rules_18 : decode prog_1_method_21_code 18 = .ok (.iload_n 3, 1) := by decide +kernel
theorem d_X_rules_19 : decode prog_1_method_21_code 19 = .ok (.iconst (-1), 1) := by decide +kernel
theorem d_X_rules_20 : decode prog_1_method_21_code 20 = .ok (.if_icmp .ge 5, 3) := by decide +kernel
theorem d_X_rules_23 : decode prog_1_method_21_code 23 = .ok (.iconst (-1), 1) := by decide +kernel
theorem d_X_rules_24 : decode prog_1_method_21_code 24 = .ok (.ireturn, 1) := by decide +kernel
theorem d_X_rules_25 : decode prog_1_method_21_code 25 = .ok (.iconst 0, 1) := by decide +kernel
theorem d_X_rules_26 : decode prog_1_method_21_code 26 = .ok (.istore 4, 2) := by decide +kernel
theorem d_X_rules_28 : decode prog_1_method_21_code 28 = .ok (.iconst 0, 1) := by decide +kernel
theorem d_X_rules_29 : decode prog_1_method_21_code 29 = .ok (.istore 5, 2) := by decide +kernel
theorem d_X_rules_31 : decode prog_1_method_21_code 31 = .ok (.iload 5, 2) := by decide +kernel
theorem d_X_rules_33 : decode prog_1_method_21_code 33 = .ok (.bipush 100, 2) := by decide +kernel
theorem d_X_rules_35 : decode prog_1_method_21_code 35 = .ok (.if_icmp .ge 62, 3) := by decide +kernel
theorem d_X_rules_38 : decode prog_1_method_21_code 38 = .ok (.iload 5, 2) := by decide +kernel
theorem d_X_rules_40 : decode prog_1_method_21_code 40 = .ok (.bipush 10, 2) := by decide +kernel
theorem d_X_rules_42 : decode prog_1_method_21_code 42 = .ok (.idiv, 1) := by decide +kernel
theorem d_X_rules_43 : decode prog_1_method_21_code 43 = .ok (.istore 6, 2) := by decide +kernel
theorem d_X_rules_45 : decode prog_1_method_21_code 45 = .ok (.iload 5, 2) := by decide +kernel
theorem d_X_rules_47 : decode prog_1_method_21_code 47 = .ok (.bipush 10, 2) := by decide +kernel
theorem d_X_rules_49 : decode prog_1_method_21_code 49 = .ok (.irem, 1) := by decide +kernel
theorem d_X_rules_50 : decode prog_1_method_21_code 50 = .ok (.istore 7, 2) := by decide +kernel
theorem d_X_rules_52 : decode prog_1_method_21_code 52 = .ok (.iload 6, 2) := by decide +kernel
theorem d_X_rules_54 : decode prog_1_method_21_code 54 = .ok (.iload 7, 2) := by decide +kernel
theorem d_X_rules_56 : decode prog_1_method_21_code 56 = .ok (.if_icmp .eq 35, 3) := by decide +kernel
theorem d_X_rules_59 : decode prog_1_method_21_code 59 = .ok (.aload_n 0, 1) := by decide +kernel
theorem d_X_rules_60 : decode prog_1_method_21_code 60 = .ok (.getfield 98, 3) := by decide +kernel
theorem d_X_rules_63 : decode prog_1_method_21_code 63 = .ok (.aload_n 0, 1) := by decide +kernel
theorem d_X_rules_64 : decode prog_1_method_21_code 64 = .ok (.getfield 19, 3) := by decide +kernel
theorem d_X_rules_67 : decode prog_1_method_21_code 67 = .ok (.iload_n 1, 1) := by decide +kernel
theorem d_X_rules_68 : decode prog_1_method_21_code 68 = .ok (.iload 6, 2) := by decide +kernel
theorem d_X_rules_70 : decode prog_1_method_21_code 70 = .ok (.iload 7, 2) := by decide +kernel
theorem d_X_rules_72 : decode prog_1_method_21_code 72 = .ok (.iload_n 2, 1) := by decide +kernel
theorem d_X_rules_73 : decode prog_1_method_21_code 73 = .ok (.invokevirtual 321, 3) := by decide +kernel
theorem d_X_rules_76 : decode prog_1_method_21_code 76 = .ok (.ifCond .eq 15, 3) := by decide +kernel
theorem d_X_rules_79 : decode prog_1_method_21_code 79 = .ok (.iload 4, 2) := by decide +kernel
theorem d_X_rules_81 : decode prog_1_method_21_code 81 = .ok (.iload_n 3, 1) := by decide +kernel
theorem d_X_rules_82 : decode prog_1_method_21_code 82 = .ok (.if_icmp .ne 6, 3) := by decide +kernel
theorem d_X_rules_85 : decode prog_1_method_21_code 85 = .ok (.iload 5, 2) := by decide +kernel
theorem d_X_rules_87 : decode prog_1_method_21_code 87 = .ok (.ireturn, 1) := by decide +kernel
theorem d_X_rules_88 : decode prog_1_method_21_code 88 = .ok (.iinc 4 1, 3) := by decide +kernel
theorem d_X_rules_91 : decode prog_1_method_21_code 91 = .ok (.iinc 5 1, 3) := by decide +kernel
theorem d_X_rules_94 : decode prog_1_method_21_code 94 = .ok (.goto (-63), 3) := by decide +kernel
theorem d_X_rules_97 : decode prog_1_method_21_code 97 = .ok (.iload_n 3, 1) := by decide +kernel
theorem d_X_rules_98 : decode prog_1_method_21_code 98 = .ok (.iconst (-1), 1) := by decide +kernel
theorem d_X_rules_99 : decode prog_1_method_21_code 99 = .ok (.if_icmp .ne 8, 3) := by decide +kernel
theorem d_X_rules_102 : decode prog_1_method_21_code 102 = .ok (.iload 4, 2) := by decide +kernel
theorem d_X_rules_104 : decode prog_1_method_21_code 104 = .ok (.goto 4, 3) := by decide +kernel
theorem d_X_rules_107 : decode prog_1_method_21_code 107 = .ok (.iconst (-1), 1) := by decide +kernel
theorem d_X_rules_108 : decode prog_1_method_21_code 108 = .ok (.ireturn, 1) := by decide +kernel
abbrev m_s1_X_rules : Room := { frames := 4, cells := 0, slots := 0, locals := 99 }
set_option maxHeartbeats 4000000 in
set_option maxRecDepth 100000 in
theorem s1_X_rules (l : Launch) (G : zG) (b0 : Nat) (b1 : Int32) (b2 : Int32) (b3 : Int32) (b4 : Nat) (b5 : Nat) (b6 : Nat) (b7 : Nat) (b8 : Int32) (b9 : Int32) (b10 : Nat) (b11 : Nat) (b12 : Nat) (b13 : Nat) (b14 : Nat) (b15 : Nat) (b16 : Nat) (b17 : Nat) (b18 : Nat) (b19 : Nat) (b20 : Nat) (b21 : Nat) (b22 : Nat) (b23 : Nat) (b24 : Int32) (b25 : Int32) (b26 : Int32) (b27 : Nat) (b28 : Nat) (b29 : Nat) (b30 : Nat → Int32) (b31 : Nat → Int32) (b32 : Int32) (b33 : Int32) (b34 : Int32) (b35 : Int32) (b36 : Int32) (b37 : Int32) (b38 : Int32) (b39 : Int32) (b40 : Int32) (b41 : Int32) (hb8 : zI b8 0 7) (hb9 : zI b9 0 8) (hb24 : zI b24 0 20) (hb25 : zI b25 0 3) (hb26 : zI b26 0 20) (hb40 : zI b40 0 1) (hb41 : zI b41 0 1) (hb30 : zR b30 0 12) (hb31 : zR b31 0 9) : zM l G y_X_rules prog_1_method_21_code 8 (Option.some Jvm.ClassFile.FieldType.int) m_s1_X_rules [.ref b0, .int b1, .int b2, .int b3] [(b0, .inr (0, [.ref b4, .ref b5, .ref b6, .ref b7, .int b8, .int b9, .ref b10, .ref b11, .ref b12, .ref b13, .ref b14, .ref b15, .ref b16, .ref b17, .ref b18, .ref b19, .ref b20, .ref b21, .ref b22, .ref b23])), (b5, .inr (2, [.int b24, .int b25, .int b26, .ref b27, .ref b28, .ref b29])), (b27, .inl (G.2 0, 20, .inl b30)), (b28, .inl (G.2 0, 240, .inl b31)), (b21, .inr (10, [.int b32, .int b33, .int b34, .int b35, .int b36, .int b37, .int b38, .int b39, .int b40, .int b41]))] (fun v w => ∃ (e0 : Int32), ∃ (e1 : Int32), ∃ (e2 : Int32), ∃ (e3 : Int32), ∃ (e4 : Int32), ∃ (e5 : Int32), ∃ (e6 : Int32), ∃ (e7 : Int32), ∃ (e8 : Int32), ∃ (e9 : Int32), ∃ (e10 : Int32), v = some (.int e0) ∧ w = [(b0, .inr (0, [.ref b4, .ref b5, .ref b6, .ref b7, .int b8, .int b9, .ref b10, .ref b11, .ref b12, .ref b13, .ref b14, .ref b15, .ref b16, .ref b17, .ref b18, .ref b19, .ref b20, .ref b21, .ref b22, .ref b23])), (b5, .inr (2, [.int b24, .int b25, .int b26, .ref b27, .ref b28, .ref b29])), (b27, .inl (G.2 0, 20, .inl b30)), (b28, .inl (G.2 0, 240, .inl b31)), (b21, .inr (10, [.int e1, .int e2, .int e3, .int e4, .int e5, .int e6, .int e7, .int e8, .int e9, .int e10]))] ∧ (zI e9 0 1) ∧ (zI e10 0 1)) := by
  refine z_start (by decide +kernel) (Nat.le_of_ble_eq_true rfl) ?_
  intro p e s m below meth c A Z hr hnm hA hP hD hS ls hl
  have Z : zC p s m _ meth c prog_1_method_21_code 8 "TraceMachines" G := Z
  obtain ⟨hx, hb, hml, hown, hts, hK, hN, hlocks⟩ := id Z
  have hl : lv_has ls 8 [(0, .ref b0), (1, .int b1), (2, .int b2), (3, .int b3)] := hl
  refine lv_iload_n hx hb d_X_rules_0 rfl (lv_at hl 1 rfl) ?_
  refine z_callS (index := 305) (As := [.int b1]) (rest := []) (wr := [(b0, .inr (0, [.ref b4, .ref b5, .ref b6, .ref b7, .int b8, .int b9, .ref b10, .ref b11, .ref b12, .ref b13, .ref b14, .ref b15, .ref b16, .ref b17, .ref b18, .ref b19, .ref b20, .ref b21, .ref b22, .ref b23])), (b5, .inr (2, [.int b24, .int b25, .int b26, .ref b27, .ref b28, .ref b29])), (b27, .inl (G.2 0, 20, .inl b30)), (b28, .inl (G.2 0, 240, .inl b31)), (b21, .inr (10, [.int b32, .int b33, .int b34, .int b35, .int b36, .int b37, .int b38, .int b39, .int b40, .int b41]))]) Z (s2_X_isKind l G (b1)) hl.1 q915 q916 q1 q917 ⟨by decide, by decide, by show _ = some 1; decide +kernel⟩ ⟨Nat.le_of_ble_eq_true rfl, Nat.le_of_ble_eq_true rfl⟩ ⟨Nat.le_of_ble_eq_true rfl, Nat.le_of_ble_eq_true rfl⟩ rfl (Nat.le_of_ble_eq_true rfl) d_X_rules_1 hP hD hS hA [] [0, 1, 2, 3, 4] rfl rfl rfl rfl (by decide) (fun v w1 H locs hw_1 hP hD hS => ?_)
  rcases hw_1 with ⟨rfl, rfl, hq_2⟩ | ⟨rfl, rfl, hq_3, hq_4⟩ | ⟨rfl, rfl, hq_5, hq_6⟩
  · have hP : va_P G.1 classes [(b0, .inr (0, [.ref b4, .ref b5, .ref b6, .ref b7, .int b8, .int b9, .ref b10, .ref b11, .ref b12, .ref b13, .ref b14, .ref b15, .ref b16, .ref b17, .ref b18, .ref b19, .ref b20, .ref b21, .ref b22, .ref b23])), (b5, .inr (2, [.int b24, .int b25, .int b26, .ref b27, .ref b28, .ref b29])), (b27, .inl (G.2 0, 20, .inl b30)), (b28, .inl (G.2 0, 240, .inl b31)), (b21, .inr (10, [.int b32, .int b33, .int b34, .int b35, .int b36, .int b37, .int b38, .int b39, .int b40, .int b41]))] H := hP
    have hD := z_tie hP hD rfl
    have hv_7 : zI b1 (-2147483648) (-1) := by have _a := hq_2; have _b := (zI_all b1); have _c := zc_0; exact ⟨by omega, by omega⟩
    refine W.widen (k := 0) (n := 0) (Nat.le_of_ble_eq_true rfl) (Nat.le_of_ble_eq_true rfl) ?_
    refine lv_if_eq (tgt := 23) hx hb d_X_rules_4 (by decide) (fun _ => ?_) (fun hc => absurd hc (by decide +kernel))
    refine lv_iconst (v := (-1)) hx hb d_X_rules_23 (by decide) ?_
    exact z_iret hx hb hr hlocks hP hD hS (Nat.le_of_ble_eq_true rfl) (Nat.le_of_ble_eq_true rfl) d_X_rules_24 ⟨(-1), b32, b33, b34, b35, b36, b37, b38, b39, b40, b41, rfl, rfl, hb40, hb41⟩
  · have hP : va_P G.1 classes [(b0, .inr (0, [.ref b4, .ref b5, .ref b6, .ref b7, .int b8, .int b9, .ref b10, .ref b11, .ref b12, .ref b13, .ref b14, .ref b15, .ref b16, .ref b17, .ref b18, .ref b19, .ref b20, .ref b21, .ref b22, .ref b23])), (b5, .inr (2, [.int b24, .int b25, .int b26, .ref b27, .ref b28, .ref b29])), (b27, .inl (G.2 0, 20, .inl b30)), (b28, .inl (G.2 0, 240, .inl b31)), (b21, .inr (10, [.int b32, .int b33, .int b34, .int b35, .int b36, .int b37, .int b38, .int b39, .int b40, .int b41]))] H := hP
    have hD := z_tie hP hD rfl
    have hv_8 : zI b1 0 2147483647 := by have _a := hq_3; have _b := (zI_all b1); have _c := zc_0; exact ⟨by omega, by omega⟩
    have hv_9 : zI b1 6 2147483647 := by have _a := hq_4; have _b := hv_8; have _c := zc_6; exact ⟨by omega, by omega⟩
    refine W.widen (k := 0) (n := 0) (Nat.le_of_ble_eq_true rfl) (Nat.le_of_ble_eq_true rfl) ?_
    refine lv_if_eq (tgt := 23) hx hb d_X_rules_4 (by decide) (fun _ => ?_) (fun hc => absurd hc (by decide +kernel))
    refine lv_iconst (v := (-1)) hx hb d_X_rules_23 (by decide) ?_
    exact z_iret hx hb hr hlocks hP hD hS (Nat.le_of_ble_eq_true rfl) (Nat.le_of_ble_eq_true rfl) d_X_rules_24 ⟨(-1), b32, b33, b34, b35, b36, b37, b38, b39, b40, b41, rfl, rfl, hb40, hb41⟩
  · have hP : va_P G.1 classes [(b0, .inr (0, [.ref b4, .ref b5, .ref b6, .ref b7, .int b8, .int b9, .ref b10, .ref b11, .ref b12, .ref b13, .ref b14, .ref b15, .ref b16, .ref b17, .ref b18, .ref b19, .ref b20, .ref b21, .ref b22, .ref b23])), (b5, .inr (2, [.int b24, .int b25, .int b26, .ref b27, .ref b28, .ref b29])), (b27, .inl (G.2 0, 20, .inl b30)), (b28, .inl (G.2 0, 240, .inl b31)), (b21, .inr (10, [.int b32, .int b33, .int b34, .int b35, .int b36, .int b37, .int b38, .int b39, .int b40, .int b41]))] H := hP
    have hD := z_tie hP hD rfl
    have hv_10 : zI b1 0 2147483647 := by have _a := hq_5; have _b := (zI_all b1); have _c := zc_0; exact ⟨by omega, by omega⟩
    have hv_11 : zI b1 0 5 := by have _a := hq_6; have _b := hv_10; have _c := zc_6; exact ⟨by omega, by omega⟩
    refine W.widen (k := 0) (n := 0) (Nat.le_of_ble_eq_true rfl) (Nat.le_of_ble_eq_true rfl) ?_
    refine lv_if_eq (tgt := 23) hx hb d_X_rules_4 (by decide) (fun hc => absurd hc (by decide +kernel)) (fun _ => ?_)
    refine lv_iload_n hx hb d_X_rules_7 rfl (lv_at hl 2 rfl) ?_
    refine lv_iconst (v := 1) hx hb d_X_rules_8 (by decide) ?_
    refine lv_icmp_lt (tgt := 23) hx hb d_X_rules_9 (by decide) (fun hc_12 => ?_) (fun hc_12 => ?_)
    · have _nhc_12 := hc_12
      have ni_13 := (fa_lt _ _).mp hc_12
      rw [li_1] at ni_13
      have hv_14 : zI b2 (-2147483648) 0 := zI.lt_l (zI_all b2) zc_1 hc_12 (by decide)
      refine lv_iconst (v := (-1)) hx hb d_X_rules_23 (by decide) ?_
      exact z_iret hx hb hr hlocks hP hD hS (Nat.le_of_ble_eq_true rfl) (Nat.le_of_ble_eq_true rfl) d_X_rules_24 ⟨(-1), b32, b33, b34, b35, b36, b37, b38, b39, b40, b41, rfl, rfl, hb40, hb41⟩
    · have _nhc_12 := hc_12
      have ni_15 := (fa_le _ _).mp (zi_nlt hc_12)
      rw [li_1] at ni_15
      have hv_16 : zI b2 1 2147483647 := zI.le_r zc_1 (zI_all b2) (zi_nlt hc_12) (by decide)
      refine lv_iload_n hx hb d_X_rules_12 rfl (lv_at hl 2 rfl) ?_
      refine lv_bipush (v := 20) hx hb d_X_rules_13 (by decide) ?_
      refine lv_icmp_gt (tgt := 23) hx hb d_X_rules_15 (by decide) (fun hc_17 => ?_) (fun hc_17 => ?_)
      · have _nhc_17 := hc_17
        have ni_18 := (fa_lt _ _).mp hc_17
        rw [li_20] at ni_18
        have hv_19 : zI b2 21 2147483647 := zI.lt_r zc_20 hv_16 hc_17 (by decide)
        refine lv_iconst (v := (-1)) hx hb d_X_rules_23 (by decide) ?_
        exact z_iret hx hb hr hlocks hP hD hS (Nat.le_of_ble_eq_true rfl) (Nat.le_of_ble_eq_true rfl) d_X_rules_24 ⟨(-1), b32, b33, b34, b35, b36, b37, b38, b39, b40, b41, rfl, rfl, hb40, hb41⟩
      · have _nhc_17 := hc_17
        have ni_20 := (fa_le _ _).mp (zi_nlt hc_17)
        rw [li_20] at ni_20
        have hv_21 : zI b2 1 20 := zI.le_l hv_16 zc_20 (zi_nlt hc_17) (by decide)
        refine lv_iload_n hx hb d_X_rules_18 rfl (lv_at hl 3 rfl) ?_
        refine lv_iconst (v := (-1)) hx hb d_X_rules_19 (by decide) ?_
        refine lv_icmp_ge (tgt := 25) hx hb d_X_rules_20 (by decide) (fun hc_22 => ?_) (fun hc_22 => ?_)
        · have _nhc_22 := hc_22
          have ni_23 := (fa_le _ _).mp hc_22
          rw [li_m1] at ni_23
          have hv_24 : zI b3 (-1) 2147483647 := zI.le_r zc_m1 (zI_all b3) hc_22 (by decide)
          refine lv_iconst (v := 0) hx hb d_X_rules_25 (by decide) ?_
          refine lv_istore (lv' := [(4, .int 0), (0, .ref b0), (1, .int b1), (2, .int b2), (3, .int b3)]) hx hb d_X_rules_26 hl (by decide) rfl (fun ls hl => ?_)
          refine lv_iconst (v := 0) hx hb d_X_rules_28 (by decide) ?_
          refine lv_istore (lv' := [(5, .int 0), (4, .int 0), (0, .ref b0), (1, .int b1), (2, .int b2), (3, .int b3)]) hx hb d_X_rules_29 hl (by decide) rfl (fun ls hl => ?_)
          suffices key : ∀ (k_976 : Nat) (y_977 : Int32) (y_978 : Int32) (y_979 : Int32) (y_980 : Int32) (y_981 : Int32) (y_982 : Int32) (y_983 : Int32) (y_984 : Int32) (y_985 : Int32) (y_986 : Int32) (y_987 : Int32) (y_988 : Int32) (H : Heap) (locs : List Loc) (ls : Array Slot), (zI y_977 0 100) → (zI y_986 0 1) → (zI y_987 0 1) → (100 : Int) - y_977.toInt < (k_976 : Int) → va_P G.1 classes [(b0, .inr (0, [.ref b4, .ref b5, .ref b6, .ref b7, .int b8, .int b9, .ref b10, .ref b11, .ref b12, .ref b13, .ref b14, .ref b15, .ref b16, .ref b17, .ref b18, .ref b19, .ref b20, .ref b21, .ref b22, .ref b23])), (b5, .inr (2, [.int b24, .int b25, .int b26, .ref b27, .ref b28, .ref b29])), (b27, .inl (G.2 0, 20, .inl b30)), (b28, .inl (G.2 0, 240, .inl b31)), (b21, .inr (10, [.int y_978, .int y_979, .int y_980, .int y_981, .int y_982, .int y_983, .int y_984, .int y_985, .int y_986, .int y_987]))] H → va_D A [(b0, .inr (0, [.ref b4, .ref b5, .ref b6, .ref b7, .int b8, .int b9, .ref b10, .ref b11, .ref b12, .ref b13, .ref b14, .ref b15, .ref b16, .ref b17, .ref b18, .ref b19, .ref b20, .ref b21, .ref b22, .ref b23])), (b5, .inr (2, [.int b24, .int b25, .int b26, .ref b27, .ref b28, .ref b29])), (b27, .inl (G.2 0, 20, .inl b30)), (b28, .inl (G.2 0, 240, .inl b31)), (b21, .inr (10, [.int y_978, .int y_979, .int y_980, .int y_981, .int y_982, .int y_983, .int y_984, .int y_985, .int y_986, .int y_987]))] → va_S A s.heap H locs → lv_has ls 8 [(5, .int y_977), (4, .int y_988), (0, .ref b0), (1, .int b1), (2, .int b2), (3, .int b3)] → W p l e m_s1_X_rules s m ([.ref b0, .int b1, .int b2, .int b3] : List Value).toArray below meth c H locs 0 0 (MQ below (zQ G (fun v w => ∃ (e0 : Int32), ∃ (e1 : Int32), ∃ (e2 : Int32), ∃ (e3 : Int32), ∃ (e4 : Int32), ∃ (e5 : Int32), ∃ (e6 : Int32), ∃ (e7 : Int32), ∃ (e8 : Int32), ∃ (e9 : Int32), ∃ (e10 : Int32), v = some (.int e0) ∧ w = [(b0, .inr (0, [.ref b4, .ref b5, .ref b6, .ref b7, .int b8, .int b9, .ref b10, .ref b11, .ref b12, .ref b13, .ref b14, .ref b15, .ref b16, .ref b17, .ref b18, .ref b19, .ref b20, .ref b21, .ref b22, .ref b23])), (b5, .inr (2, [.int b24, .int b25, .int b26, .ref b27, .ref b28, .ref b29])), (b27, .inl (G.2 0, 20, .inl b30)), (b28, .inl (G.2 0, 240, .inl b31)), (b21, .inr (10, [.int e1, .int e2, .int e3, .int e4, .int e5, .int e6, .int e7, .int e8, .int e9, .int e10]))] ∧ (zI e9 0 1) ∧ (zI e10 0 1)) A) ([.ref b0, .int b1, .int b2, .int b3] : List Value).toArray s m_s1_X_rules.cells m_s1_X_rules.slots A) (F0 m 31 ls []) by
            exact key 101 (0) (b32) (b33) (b34) (b35) (b36) (b37) (b38) (b39) (b40) (b41) (0) _ _ _ (zI.wk (l' := 0) (h' := 100) zc_0 (by decide)) hb40 hb41 (zm_upi (zI.wk (l' := 0) (h' := 100) zc_0 (by decide)) (by decide)) hP hD hS (lv_sub hl [0, 1, 2, 3, 4, 5] rfl)
          intro k_976
          induction k_976 with
          | zero =>
            intro y_977 y_978 y_979 y_980 y_981 y_982 y_983 y_984 y_985 y_986 y_987 y_988 H locs ls hy_977 hy_986 hy_987 hmk_976 hP hD hS hl
            exact (zm_up0 hy_977 hmk_976).elim
          | succ k_976 ihk_976 =>
            intro y_977 y_978 y_979 y_980 y_981 y_982 y_983 y_984 y_985 y_986 y_987 y_988 H locs ls hy_977 hy_986 hy_987 hmk_976 hP hD hS hl
            refine lv_iload hx hb d_X_rules_31 (lv_at hl 0 rfl) ?_
            refine lv_bipush (v := 100) hx hb d_X_rules_33 (by decide) ?_
            refine lv_icmp_ge (tgt := 97) hx hb d_X_rules_35 (by decide) (fun hc_989 => ?_) (fun hc_989 => ?_)
            · have _nhc_989 := hc_989
              have ni_990 := (fa_le _ _).mp hc_989
              rw [li_100] at ni_990
              have hv_991 : zI y_977 100 100 := zI.le_r zc_100 hy_977 hc_989 (by decide)
              refine lv_iload_n hx hb d_X_rules_97 rfl (lv_at hl 5 rfl) ?_
              refine lv_iconst (v := (-1)) hx hb d_X_rules_98 (by decide) ?_
              refine lv_icmp_ne (tgt := 107) hx hb d_X_rules_99 (by decide) (fun hc_992 => ?_) (fun hc_992 => ?_)
              · have _nhc_992 := hc_992
                have ni_993 : ¬ (b3 : Int32).toInt = ((-1) : Int32).toInt := fun z => hc_992 ((fa_eq _ _).mpr z)
                simp only [li_m1] at ni_993
                have hv_994 : zI b3 0 2147483647 := zI.ne_lo hv_24 zc_m1 hc_992 (by decide)
                refine lv_iconst (v := (-1)) hx hb d_X_rules_107 (by decide) ?_
                exact z_iret hx hb hr hlocks hP hD hS (Nat.le_of_ble_eq_true rfl) (Nat.le_of_ble_eq_true rfl) d_X_rules_108 ⟨(-1), y_978, y_979, y_980, y_981, y_982, y_983, y_984, y_985, y_986, y_987, rfl, rfl, hy_986, hy_987⟩
              · have _nhc_992 := hc_992
                have ni_995 := (fa_eq _ _).mp hc_992
                rw [li_m1] at ni_995
                have hv_996 : zI b3 (-1) (-1) := zI.eq_l hv_24 zc_m1 hc_992
                refine lv_iload hx hb d_X_rules_102 (lv_at hl 1 rfl) ?_
                refine lv_goto (tgt := 108) hx hb d_X_rules_104 (by decide) ?_
                exact z_iret hx hb hr hlocks hP hD hS (Nat.le_of_ble_eq_true rfl) (Nat.le_of_ble_eq_true rfl) d_X_rules_108 ⟨y_988, y_978, y_979, y_980, y_981, y_982, y_983, y_984, y_985, y_986, y_987, rfl, rfl, hy_986, hy_987⟩
            · have _nhc_989 := hc_989
              have ni_997 := (fa_lt _ _).mp (zi_nle hc_989)
              rw [li_100] at ni_997
              have hv_998 : zI y_977 0 99 := zI.lt_l hy_977 zc_100 (zi_nle hc_989) (by decide)
              refine lv_iload hx hb d_X_rules_38 (lv_at hl 0 rfl) ?_
              refine lv_bipush (v := 10) hx hb d_X_rules_40 (by decide) ?_
              refine lv_idiv hx hb d_X_rules_42 (by decide +kernel) ?_
              refine lv_topi (fun v_999 ev_999 => ?_)
              obtain ⟨qv_999, hv_999⟩ := zI_div (l := 0) (h := 9) (d := 10) hv_998 rfl ev_999 (by decide)
              refine lv_istore (lv' := [(6, .int v_999), (5, .int y_977), (4, .int y_988), (0, .ref b0), (1, .int b1), (2, .int b2), (3, .int b3)]) hx hb d_X_rules_43 hl (by decide) rfl (fun ls hl => ?_)
              refine lv_iload hx hb d_X_rules_45 (lv_at hl 1 rfl) ?_
              refine lv_bipush (v := 10) hx hb d_X_rules_47 (by decide) ?_
              refine lv_irem hx hb d_X_rules_49 (by decide +kernel) ?_
              refine lv_topi (fun v_1000 ev_1000 => ?_)
              obtain ⟨qv_1000, hv_1000⟩ := zI_rem (h := 9) (d := 10) hv_998 rfl ev_1000 (by decide)
              refine lv_istore (lv' := [(7, .int v_1000), (6, .int v_999), (5, .int y_977), (4, .int y_988), (0, .ref b0), (1, .int b1), (2, .int b2), (3, .int b3)]) hx hb d_X_rules_50 hl (by decide) rfl (fun ls hl => ?_)
              refine lv_iload hx hb d_X_rules_52 (lv_at hl 1 rfl) ?_
              refine lv_iload hx hb d_X_rules_54 (lv_at hl 0 rfl) ?_
              refine lv_icmp_eq (tgt := 91) hx hb d_X_rules_56 (by decide) (fun hc_1001 => ?_) (fun hc_1001 => ?_)
              · have _nhc_1001 := hc_1001
                have ni_1002 := (fa_eq _ _).mp hc_1001
                obtain ⟨v_1003, ev_1003⟩ : ∃ z : Int32, z = y_977 + 1 := ⟨_, rfl⟩
                obtain ⟨qv_1003, hv_1003⟩ := zI_add (l := 1) (h := 100) hv_998 zc_1 ev_1003 (by decide)
                rw [li_1] at qv_1003
                refine lv_iinc (v := v_1003) (lv' := [(5, .int v_1003), (7, .int v_1000), (6, .int v_999), (4, .int y_988), (0, .ref b0), (1, .int b1), (2, .int b2), (3, .int b3)]) hx hb d_X_rules_91 hl (k := 2) rfl (by rw [ev_1003]; rfl) (by decide) rfl (fun ls hl => ?_)
                refine lv_goto (tgt := 31) hx hb d_X_rules_94 (by decide) ?_
                exact ihk_976 (v_1003) (y_978) (y_979) (y_980) (y_981) (y_982) (y_983) (y_984) (y_985) (y_986) (y_987) (y_988) _ _ _ (zI.wk (l' := 0) (h' := 100) hv_1003 (by decide)) hy_986 hy_987 (zm_up qv_1003 hmk_976 (by decide)) hP hD hS (lv_sub hl [0, 3, 4, 5, 6, 7] rfl)
              · have _nhc_1001 := hc_1001
                have ni_1004 : ¬ (v_999 : Int32).toInt = (v_1000 : Int32).toInt := fun z => hc_1001 ((fa_eq _ _).mpr z)
                refine lv_aload_n hx hb d_X_rules_59 rfl (lv_at hl 4 rfl) ?_
                refine va_get (D := G.1) (ci := 0) (v := .ref b21) (C := R_X) (T := F_X) (N := 20) hx hb hts i_X hown hK hP 0 rfl rfl 17 (by decide) (hts _ q434) (fun _ h9 => h9) rfl d_X_rules_60 ?_
                refine lv_aload_n hx hb d_X_rules_63 rfl (lv_at hl 4 rfl) ?_
                refine va_get (D := G.1) (ci := 0) (v := .ref b5) (C := R_X) (T := F_X) (N := 20) hx hb hts i_X hown hK hP 0 rfl rfl 1 (by decide) (hts _ q418) (fun _ h9 => h9) rfl d_X_rules_64 ?_
                refine lv_iload_n hx hb d_X_rules_67 rfl (lv_at hl 5 rfl) ?_
                refine lv_iload hx hb d_X_rules_68 (lv_at hl 1 rfl) ?_
                refine lv_iload hx hb d_X_rules_70 (lv_at hl 0 rfl) ?_
                refine lv_iload_n hx hb d_X_rules_72 rfl (lv_at hl 6 rfl) ?_
                refine z_callV (index := 321) (As := [.ref b5, .int b1, .int v_999, .int v_1000, .int b2]) (rest := []) (wr := [(b0, .inr (0, [.ref b4, .ref b5, .ref b6, .ref b7, .int b8, .int b9, .ref b10, .ref b11, .ref b12, .ref b13, .ref b14, .ref b15, .ref b16, .ref b17, .ref b18, .ref b19, .ref b20, .ref b21, .ref b22, .ref b23]))]) Z (s1_Pair_stands l G (b21) (b5) (b1) (v_999) (v_1000) (b2) (y_978) (y_979) (y_980) (y_981) (y_982) (y_983) (y_984) (y_985) (y_986) (y_987) (b24) (b25) (b26) (b27) (b28) (b29) (b30) (b31) hy_986 hy_987 hb24 hb25 hb26 hb30 hb31) hl.1 q952 q953 q954 q11 q955 ⟨by decide, by decide, by show _ = some 5; decide +kernel⟩ ⟨Nat.le_of_ble_eq_true rfl, Nat.le_of_ble_eq_true rfl⟩ ⟨Nat.le_of_ble_eq_true rfl, Nat.le_of_ble_eq_true rfl⟩ rfl (Nat.le_of_ble_eq_true rfl) d_X_rules_73 hP hD hS hA 4 10 rfl rfl rfl [4, 1, 2, 3] [0] rfl rfl rfl rfl (by decide) (fun v w1 H locs hw_1005 hP hD hS => ?_)
                refine Exists.elim hw_1005 (fun x_1006 hz_1017 => Exists.elim hz_1017 (fun x_1007 hz_1018 => Exists.elim hz_1018 (fun x_1008 hz_1019 => Exists.elim hz_1019 (fun x_1009 hz_1020 => Exists.elim hz_1020 (fun x_1010 hz_1021 => Exists.elim hz_1021 (fun x_1011 hz_1022 => Exists.elim hz_1022 (fun x_1012 hz_1023 => Exists.elim hz_1023 (fun x_1013 hz_1024 => Exists.elim hz_1024 (fun x_1014 hz_1025 => Exists.elim hz_1025 (fun x_1015 hz_1026 => Exists.elim hz_1026 (fun x_1016 hz_1027 => ?_)))))))))))
                obtain ⟨rfl, rfl, hx_1006, hx_1015, hx_1016⟩ := hz_1027
                have hP : va_P G.1 classes [(b0, .inr (0, [.ref b4, .ref b5, .ref b6, .ref b7, .int b8, .int b9, .ref b10, .ref b11, .ref b12, .ref b13, .ref b14, .ref b15, .ref b16, .ref b17, .ref b18, .ref b19, .ref b20, .ref b21, .ref b22, .ref b23])), (b21, .inr (10, [.int x_1007, .int x_1008, .int x_1009, .int x_1010, .int x_1011, .int x_1012, .int x_1013, .int x_1014, .int x_1015, .int x_1016])), (b5, .inr (2, [.int b24, .int b25, .int b26, .ref b27, .ref b28, .ref b29])), (b27, .inl (G.2 0, 20, .inl b30)), (b28, .inl (G.2 0, 240, .inl b31))] H := hP
                have hD := z_tie hP hD rfl
                refine W.widen (k := 0) (n := 0) (Nat.le_of_ble_eq_true rfl) (Nat.le_of_ble_eq_true rfl) ?_
                refine lv_if_eq (tgt := 91) hx hb d_X_rules_76 (by decide) (fun hc_1028 => ?_) (fun hc_1028 => ?_)
                · have _nhc_1028 := hc_1028
                  have ni_1029 := (fa_eq _ _).mp hc_1028
                  rw [li_0] at ni_1029
                  have hv_1030 : zI x_1006 0 0 := zI.eq_l hx_1006 zc_0 hc_1028
                  obtain ⟨v_1031, ev_1031⟩ : ∃ z : Int32, z = y_977 + 1 := ⟨_, rfl⟩
                  obtain ⟨qv_1031, hv_1031⟩ := zI_add (l := 1) (h := 100) hv_998 zc_1 ev_1031 (by decide)
                  rw [li_1] at qv_1031
                  refine lv_iinc (v := v_1031) (lv' := [(5, .int v_1031), (7, .int v_1000), (6, .int v_999), (4, .int y_988), (0, .ref b0), (1, .int b1), (2, .int b2), (3, .int b3)]) hx hb d_X_rules_91 hl (k := 2) rfl (by rw [ev_1031]; rfl) (by decide) rfl (fun ls hl => ?_)
                  refine lv_goto (tgt := 31) hx hb d_X_rules_94 (by decide) ?_
                  exact ihk_976 (v_1031) (x_1007) (x_1008) (x_1009) (x_1010) (x_1011) (x_1012) (x_1013) (x_1014) (x_1015) (x_1016) (y_988) _ _ _ (zI.wk (l' := 0) (h' := 100) hv_1031 (by decide)) hx_1015 hx_1016 (zm_up qv_1031 hmk_976 (by decide)) (hP.sub [0, 2, 3, 4, 1] rfl) (hD.sub [0, 2, 3, 4, 1] (by decide) rfl) hS (lv_sub hl [0, 3, 4, 5, 6, 7] rfl)
                · have _nhc_1028 := hc_1028
                  have ni_1032 : ¬ (x_1006 : Int32).toInt = (0 : Int32).toInt := fun z => hc_1028 ((fa_eq _ _).mpr z)
                  simp only [li_0] at ni_1032
                  have hv_1033 : zI x_1006 1 1 := zI.ne_lo hx_1006 zc_0 hc_1028 (by decide)
                  refine lv_iload hx hb d_X_rules_79 (lv_at hl 3 rfl) ?_
                  refine lv_iload_n hx hb d_X_rules_81 rfl (lv_at hl 7 rfl) ?_
                  refine lv_icmp_ne (tgt := 88) hx hb d_X_rules_82 (by decide) (fun hc_1034 => ?_) (fun hc_1034 => ?_)
                  · have _nhc_1034 := hc_1034
                    have ni_1035 : ¬ (y_988 : Int32).toInt = (b3 : Int32).toInt := fun z => hc_1034 ((fa_eq _ _).mpr z)
                    obtain ⟨v_1036, ev_1036⟩ : ∃ z : Int32, z = y_988 + 1 := ⟨_, rfl⟩
                    refine lv_iinc (v := v_1036) (lv' := [(4, .int v_1036), (7, .int v_1000), (6, .int v_999), (5, .int y_977), (0, .ref b0), (1, .int b1), (2, .int b2), (3, .int b3)]) hx hb d_X_rules_88 hl (k := 3) rfl (by rw [ev_1036]; rfl) (by decide) rfl (fun ls hl => ?_)
                    obtain ⟨v_1037, ev_1037⟩ : ∃ z : Int32, z = y_977 + 1 := ⟨_, rfl⟩
                    obtain ⟨qv_1037, hv_1037⟩ := zI_add (l := 1) (h := 100) hv_998 zc_1 ev_1037 (by decide)
                    rw [li_1] at qv_1037
                    refine lv_iinc (v := v_1037) (lv' := [(5, .int v_1037), (4, .int v_1036), (7, .int v_1000), (6, .int v_999), (0, .ref b0), (1, .int b1), (2, .int b2), (3, .int b3)]) hx hb d_X_rules_91 hl (k := 3) rfl (by rw [ev_1037]; rfl) (by decide) rfl (fun ls hl => ?_)
                    refine lv_goto (tgt := 31) hx hb d_X_rules_94 (by decide) ?_
                    exact ihk_976 (v_1037) (x_1007) (x_1008) (x_1009) (x_1010) (x_1011) (x_1012) (x_1013) (x_1014) (x_1015) (x_1016) (v_1036) _ _ _ (zI.wk (l' := 0) (h' := 100) hv_1037 (by decide)) hx_1015 hx_1016 (zm_up qv_1037 hmk_976 (by decide)) (hP.sub [0, 2, 3, 4, 1] rfl) (hD.sub [0, 2, 3, 4, 1] (by decide) rfl) hS (lv_sub hl [0, 1, 4, 5, 6, 7] rfl)
                  · have _nhc_1034 := hc_1034
                    have ni_1038 := (fa_eq _ _).mp hc_1034
                    have hv_1039 : zI y_988 (-1) 2147483647 := zI.eq_l (zI_all y_988) hv_24 hc_1034
                    refine lv_iload hx hb d_X_rules_85 (lv_at hl 2 rfl) ?_
                    exact z_iret hx hb hr hlocks (hP.sub [0, 2, 3, 4, 1] rfl) (hD.sub [0, 2, 3, 4, 1] (by decide) rfl) hS (Nat.le_of_ble_eq_true rfl) (Nat.le_of_ble_eq_true rfl) d_X_rules_87 ⟨y_977, x_1007, x_1008, x_1009, x_1010, x_1011, x_1012, x_1013, x_1014, x_1015, x_1016, rfl, rfl, hx_1015, hx_1016⟩
        · have _nhc_22 := hc_22
          have ni_1040 := (fa_lt _ _).mp (zi_nle hc_22)
          rw [li_m1] at ni_1040
          have hv_1041 : zI b3 (-2147483648) (-2) := zI.lt_l (zI_all b3) zc_m1 (zi_nle hc_22) (by decide)
          refine lv_iconst (v := (-1)) hx hb d_X_rules_23 (by decide) ?_
          exact z_iret hx hb hr hlocks hP hD hS (Nat.le_of_ble_eq_true rfl) (Nat.le_of_ble_eq_true rfl) d_X_rules_24 ⟨(-1), b32, b33, b34, b35, b36, b37, b38, b39, b40, b41, rfl, rfl, hb40, hb41⟩
