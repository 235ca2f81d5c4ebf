theorem d_Sets_longAt_0 : decode prog_8_method_5_code 0 = .ok (.aload_n 0, 1) := by decide +kernel
theorem d_Sets_longAt_1 : decode prog_8_method_5_code 1 = .ok (.getfield 18, 3) := by decide +kernel
theorem d_Sets_longAt_4 : decode prog_8_method_5_code 4 = .ok (.iload_n 1, 1) := by decide +kernel
theorem d_Sets_longAt_5 : decode prog_8_method_5_code 5 = .ok (.aload_n 0, 1) := by decide +kernel
theorem d_Sets_longAt_6 : decode prog_8_method_5_code 6 = .ok (.getfield 15, 3) := by decide +kernel
theorem d_Sets_longAt_9 : decode prog_8_method_5_code 9 = .ok (.imul, 1) := by decide +kernel
theorem d_Sets_longAt_10 : decode prog_8_method_5_code 10 = .ok (.iload_n 2, 1) := by decide +kernel
theorem d_Sets_longAt_11 : decode prog_8_method_5_code 11 = .ok (.iconst 4, 1) := by decide +kernel
theorem d_Sets_longAt_12 : decode prog_8_method_5_code 12 = .ok (.imul, 1) := by decide +kernel
theorem d_Sets_longAt_13 : decode prog_8_method_5_code 13 = .ok (.iadd, 1) := by decide +kernel
theorem d_Sets_longAt_14 : decode prog_8_method_5_code 14 = .ok (.iload_n 3, 1) := by decide +kernel
theorem d_Sets_longAt_15 : decode prog_8_method_5_code 15 = .ok (.iadd, 1) := by decide +kernel
theorem d_Sets_longAt_16 : decode prog_8_method_5_code 16 = .ok (.laload, 1) := by decide +kernel
theorem d_Sets_longAt_17 : decode prog_8_method_5_code 17 = .ok (.lreturn, 1) := by decide +kernel
abbrev m_s1_Sets_longAt : Room := { frames := 0, cells := 0, slots := 0, locals := 0 }
set_option maxHeartbeats 4000000 in
set_option maxRecDepth 100000 in
theorem s1_Sets_longAt (l : Launch) (G : zG) (b0 : Nat) (b1 : Int32) (b2 : Int32) (b3 : Int32) (b4 : Int32) (b5 : Nat) (b6 : Nat) (b7 : Nat → Int64) (hb1 : zI b1 0 1) (hb2 : zI b2 0 0) (hb3 : zI b3 0 3) (hb4 : zI b4 0 2) (hb7 : zqa qB b7) : zM l G y_Sets_longAt prog_8_method_5_code 4 (Option.some Jvm.ClassFile.FieldType.long) m_s1_Sets_longAt [.ref b0, .int b1, .int b2, .int b3] [(b0, .inr (6, [.int b4, .int 4, .int 2, .ref b5, .ref b6])), (b5, .inl (G.2 1, 8, .inr (.inl b7)))] (fun v w => ∃ (e0 : Int64), v = some (.long e0) ∧ w = [(b0, .inr (6, [.int b4, .int 4, .int 2, .ref b5, .ref b6])), (b5, .inl (G.2 1, 8, .inr (.inl b7)))] ∧ ((b3 : Int32).toInt = 3 → (e0 : Int64).toBitVec.toNat < 2 ^ 49)) := by
  refine z_start (by decide +kernel) (Nat.le_of_ble_eq_true rfl) ?_
  intro p e s m below meth c A Z hr hnm hA hP hD hS ls hl
  have Z : zC p s m _ meth c prog_8_method_5_code 4 "TraceMachines$StateSets" G := Z
  obtain ⟨hx, hb, hml, hown, hts, hK, hN, hlocks⟩ := id Z
  have hl : lv_has ls 4 [(0, .ref b0), (1, .int b1), (2, .int b2), (3, .int b3)] := hl
  refine lv_aload_n hx hb d_Sets_longAt_0 rfl (lv_at hl 0 rfl) ?_
  refine va_get (D := G.1) (ci := 6) (v := .ref b5) (C := R_Sets) (T := F_Sets) (N := 5) hx hb hts i_Sets hown hK hP 0 rfl rfl 3 (by decide) (hts _ q244) (fun _ h9 => h9) rfl d_Sets_longAt_1 ?_
  refine lv_iload_n hx hb d_Sets_longAt_4 rfl (lv_at hl 1 rfl) ?_
  refine lv_aload_n hx hb d_Sets_longAt_5 rfl (lv_at hl 0 rfl) ?_
  refine va_get (D := G.1) (ci := 6) (v := .int 4) (C := R_Sets) (T := F_Sets) (N := 5) hx hb hts i_Sets hown hK hP 0 rfl rfl 1 (by decide) (hts _ q242) (fun _ h9 => h9) rfl d_Sets_longAt_6 ?_
  refine lv_imul hx hb d_Sets_longAt_9 ?_
  refine lv_topi (fun v_1 ev_1 => ?_)
  obtain ⟨qv_1, hv_1⟩ := zI_mul (l := 0) (h := 4) hb1 zc_4 ev_1 (by decide)
  rw [li_4] at qv_1
  refine lv_iload_n hx hb d_Sets_longAt_10 rfl (lv_at hl 2 rfl) ?_
  refine lv_iconst (v := 4) hx hb d_Sets_longAt_11 (by decide) ?_
  refine lv_imul hx hb d_Sets_longAt_12 ?_
  refine lv_topi (fun v_2 ev_2 => ?_)
  obtain ⟨qv_2, hv_2⟩ := zI_mul (l := 0) (h := 0) hb2 zc_4 ev_2 (by decide)
  rw [li_4] at qv_2
  refine lv_iadd hx hb d_Sets_longAt_13 ?_
  refine lv_topi (fun v_3 ev_3 => ?_)
  obtain ⟨qv_3, hv_3⟩ := zI_add (l := 0) (h := 4) hv_1 hv_2 ev_3 (by decide)
  refine lv_iload_n hx hb d_Sets_longAt_14 rfl (lv_at hl 3 rfl) ?_
  refine lv_iadd hx hb d_Sets_longAt_15 ?_
  refine lv_topi (fun v_4 ev_4 => ?_)
  obtain ⟨qv_4, hv_4⟩ := zI_add (l := 0) (h := 7) hv_3 hb3 ev_4 (by decide)
  refine va_lald hx hb hK hP 1 1 rfl rfl (zI.inn hv_4 (by decide)) d_Sets_longAt_16 ?_
  refine lv_topl (fun v_5 ev_5 => ?_)
  have bv_5 := zQB.ld hb7 hv_4 ev_5 (by decide)
  exact z_lret hx hb hr hlocks hP hD hS (Nat.le_of_ble_eq_true rfl) (Nat.le_of_ble_eq_true rfl) d_Sets_longAt_17 ⟨v_5, rfl, rfl, (fun h9 => bv_5 (by omega))⟩
theorem d_Sets_put_0 : decode prog_8_method_4_code 0 = .ok (.aload_n 0, 1) := by decide +kernel
theorem d_Sets_put_1 : decode prog_8_method_4_code 1 = .ok (.getfield 18, 3) := by decide +kernel
theorem d_Sets_put_4 : decode prog_8_method_4_code 4 = .ok (.iload_n 1, 1) := by decide +kernel
theorem d_Sets_put_5 : decode prog_8_method_4_code 5 = .ok (.aload_n 0, 1) := by decide +kernel
theorem d_Sets_put_6 : decode prog_8_method_4_code 6 = .ok (.getfield 15, 3) := by decide +kernel
theorem d_Sets_put_9 : decode prog_8_method_4_code 9 = .ok (.imul, 1) := by decide +kernel
theorem d_Sets_put_10 : decode prog_8_method_4_code 10 = .ok (.iload_n 2, 1) := by decide +kernel
theorem d_Sets_put_11 : decode prog_8_method_4_code 11 = .ok (.iconst 4, 1) := by decide +kernel
theorem d_Sets_put_12 : decode prog_8_method_4_code 12 = .ok (.imul, 1) := by decide +kernel
theorem d_Sets_put_13 : decode prog_8_method_4_code 13 = .ok (.iadd, 1) := by decide +kernel
theorem d_Sets_put_14 : decode prog_8_method_4_code 14 = .ok (.iload_n 3, 1) := by decide +kernel
theorem d_Sets_put_15 : decode prog_8_method_4_code 15 = .ok (.bipush 6, 2) := by decide +kernel
theorem d_Sets_put_17 : decode prog_8_method_4_code 17 = .ok (.ishr, 1) := by decide +kernel
theorem d_Sets_put_18 : decode prog_8_method_4_code 18 = .ok (.iadd, 1) := by decide +kernel
theorem d_Sets_put_19 : decode prog_8_method_4_code 19 = .ok (.dup2, 1) := by decide +kernel
theorem d_Sets_put_20 : decode prog_8_method_4_code 20 = .ok (.laload, 1) := by decide +kernel
theorem d_Sets_put_21 : decode prog_8_method_4_code 21 = .ok (.lconst 1, 1) := by decide +kernel
theorem d_Sets_put_22 : decode prog_8_method_4_code 22 = .ok (.iload_n 3, 1) := by decide +kernel
theorem d_Sets_put_23 : decode prog_8_method_4_code 23 = .ok (.bipush 63, 2) := by decide +kernel
theorem d_Sets_put_25 : decode prog_8_method_4_code 25 = .ok (.iand, 1) := by decide +kernel
theorem d_Sets_put_26 : decode prog_8_method_4_code 26 = .ok (.lshl, 1) := by decide +kernel
theorem d_Sets_put_27 : decode prog_8_method_4_code 27 = .ok (.lor, 1) := by decide +kernel
theorem d_Sets_put_28 : decode prog_8_method_4_code 28 = .ok (.lastore, 1) := by decide +kernel
theorem d_Sets_put_29 : decode prog_8_method_4_code 29 = .ok (.return_, 1) := by decide +kernel
abbrev m_s1_Sets_put : Room := { frames := 0, cells := 0, slots := 0, locals := 0 }
set_option maxHeartbeats 4000000 in
set_option maxRecDepth 100000 in
theorem s1_Sets_put (l : Launch) (G : zG) (b0 : Nat) (b1 : Int32) (b2 : Int32) (b3 : Int32) (b4 : Int32) (b5 : Nat) (b6 : Nat) (b7 : Nat → Int64) (hb1 : zI b1 0 1) (hb2 : zI b2 0 0) (hb3 : zI b3 0 240) (hb4 : zI b4 0 2) (hb7 : zqa qB b7) : zM l G y_Sets_put prog_8_method_4_code 4 (Option.none : Option Jvm.ClassFile.FieldType) m_s1_Sets_put [.ref b0, .int b1, .int b2, .int b3] [(b0, .inr (6, [.int b4, .int 4, .int 2, .ref b5, .ref b6])), (b5, .inl (G.2 1, 8, .inr (.inl b7)))] (fun v w => ∃ (e0 : Nat → Int64), v = none ∧ w = [(b0, .inr (6, [.int b4, .int 4, .int 2, .ref b5, .ref b6])), (b5, .inl (G.2 1, 8, .inr (.inl e0)))] ∧ (zqa qB e0)) := by
  refine z_start (by decide +kernel) (Nat.le_of_ble_eq_true rfl) ?_
  intro p e s m below meth c A Z hr hnm hA hP hD hS ls hl
  have Z : zC p s m _ meth c prog_8_method_4_code 4 "TraceMachines$StateSets" G := Z
  obtain ⟨hx, hb, hml, hown, hts, hK, hN, hlocks⟩ := id Z
  have hl : lv_has ls 4 [(0, .ref b0), (1, .int b1), (2, .int b2), (3, .int b3)] := hl
  refine lv_aload_n hx hb d_Sets_put_0 rfl (lv_at hl 0 rfl) ?_
  refine va_get (D := G.1) (ci := 6) (v := .ref b5) (C := R_Sets) (T := F_Sets) (N := 5) hx hb hts i_Sets hown hK hP 0 rfl rfl 3 (by decide) (hts _ q244) (fun _ h9 => h9) rfl d_Sets_put_1 ?_
  refine lv_iload_n hx hb d_Sets_put_4 rfl (lv_at hl 1 rfl) ?_
  refine lv_aload_n hx hb d_Sets_put_5 rfl (lv_at hl 0 rfl) ?_
  refine va_get (D := G.1) (ci := 6) (v := .int 4) (C := R_Sets) (T := F_Sets) (N := 5) hx hb hts i_Sets hown hK hP 0 rfl rfl 1 (by decide) (hts _ q242) (fun _ h9 => h9) rfl d_Sets_put_6 ?_
  refine lv_imul hx hb d_Sets_put_9 ?_
  refine lv_topi (fun v_1 ev_1 => ?_)
  obtain ⟨qv_1, hv_1⟩ := zI_mul (l := 0) (h := 4) hb1 zc_4 ev_1 (by decide)
  rw [li_4] at qv_1
  refine lv_iload_n hx hb d_Sets_put_10 rfl (lv_at hl 2 rfl) ?_
  refine lv_iconst (v := 4) hx hb d_Sets_put_11 (by decide) ?_
  refine lv_imul hx hb d_Sets_put_12 ?_
  refine lv_topi (fun v_2 ev_2 => ?_)
  obtain ⟨qv_2, hv_2⟩ := zI_mul (l := 0) (h := 0) hb2 zc_4 ev_2 (by decide)
  rw [li_4] at qv_2
  refine lv_iadd hx hb d_Sets_put_13 ?_
  refine lv_topi (fun v_3 ev_3 => ?_)
  obtain ⟨qv_3, hv_3⟩ := zI_add (l := 0) (h := 4) hv_1 hv_2 ev_3 (by decide)
  refine lv_iload_n hx hb d_Sets_put_14 rfl (lv_at hl 3 rfl) ?_
  refine lv_bipush (v := 6) hx hb d_Sets_put_15 (by decide) ?_
  refine lv_ishr hx hb d_Sets_put_17 ?_
  refine lv_topi (fun v_4 ev_4 => ?_)
  obtain ⟨qv_4, hv_4⟩ := zI_shr (l := 0) (h := 3) (k := 6) hb3 (by decide +kernel) ev_4 (by decide)
  refine lv_iadd hx hb d_Sets_put_18 ?_
  refine lv_topi (fun v_5 ev_5 => ?_)
  obtain ⟨qv_5, hv_5⟩ := zI_add (l := 0) (h := 7) hv_3 hv_4 ev_5 (by decide)
  refine lv_dup2_11 hx hb d_Sets_put_19 rfl rfl ?_
  refine va_lald hx hb hK hP 1 1 rfl rfl (zI.inn hv_5 (by decide)) d_Sets_put_20 ?_
  refine lv_topl (fun v_6 ev_6 => ?_)
  have bv_6 := zQB.ld hb7 hv_5 ev_6 (by decide)
  refine lv_lconst (v := 1) hx hb d_Sets_put_21 (by decide) ?_
  refine lv_iload_n hx hb d_Sets_put_22 rfl (lv_at hl 3 rfl) ?_
  refine lv_bipush (v := 63) hx hb d_Sets_put_23 (by decide) ?_
  refine lv_iand hx hb d_Sets_put_25 ?_
  refine lv_topi (fun v_7 ev_7 => ?_)
  have hv_7 := zI_and (k := 6) (h := 63) (by decide +kernel) ev_7 (by decide)
  obtain ⟨v_8, ev_8⟩ : ∃ z : Int64, z = 1 <<< ((v_7 : Int32).toInt64 &&& 63) := ⟨_, rfl⟩
  refine lv_lshl (v := v_8) hx hb d_Sets_put_26 ev_8.symm ?_
  refine lv_lor hx hb d_Sets_put_27 ?_
  refine lv_topl (fun v_9 ev_9 => ?_)
  refine va_last hx hb hK hP hD hS 1 1 rfl rfl (zI.inn hv_5 (by decide)) d_Sets_put_28 (fun H locs hP hD hS => ?_)
  obtain ⟨f_10, hf_10, uf_10, hP, hD⟩ := z_newlb 1 hP hD rfl hb7 (qB_v hv_5 (by decide) (fun h9 => by rw [ev_9]; exact zB_or (bv_6 h9) (zB_sh ev_8 ev_7 ⟨by omega, by omega⟩)))
  have hP : va_P G.1 classes [(b0, .inr (6, [.int b4, .int 4, .int 2, .ref b5, .ref b6])), (b5, .inl (G.2 1, 8, .inr (.inl f_10)))] H := hP
  have hD := z_tie hP hD rfl
  exact z_vret hx hb hr hlocks hP hD hS (Nat.le_of_ble_eq_true rfl) (Nat.le_of_ble_eq_true rfl) d_Sets_put_29 ⟨f_10, rfl, rfl, hf_10⟩
theorem d_Sets_least_0 : decode prog_8_method_8_code 0 = .ok (.iconst 0, 1) := by decide +kernel
theorem d_Sets_least_1 : decode prog_8_method_8_code 1 = .ok (.istore_n 2, 1) := by decide +kernel
theorem d_Sets_least_2 : decode prog_8_method_8_code 2 = .ok (.iload_n 2, 1) := by decide +kernel
theorem d_Sets_least_3 : decode prog_8_method_8_code 3 = .ok (.aload_n 0, 1) := by decide +kernel
theorem d_Sets_least_4 : decode prog_8_method_8_code 4 = .ok (.getfield 15, 3) := by decide +kernel
theorem d_Sets_least_7 : decode prog_8_method_8_code 7 = .ok (.if_icmp .ge 39, 3) := by decide +kernel
theorem d_Sets_least_10 : decode prog_8_method_8_code 10 = .ok (.aload_n 0, 1) := by decide +kernel
theorem d_Sets_least_11 : decode prog_8_method_8_code 11 = .ok (.getfield 18, 3) := by decide +kernel
theorem d_Sets_least_14 : decode prog_8_method_8_code 14 = .ok (.iload_n 1, 1) := by decide +kernel
theorem d_Sets_least_15 : decode prog_8_method_8_code 15 = .ok (.aload_n 0, 1) := by decide +kernel
theorem d_Sets_least_16 : decode prog_8_method_8_code 16 = .ok (.getfield 15, 3) := by decide +kernel
theorem d_Sets_least_19 : decode prog_8_method_8_code 19 = .ok (.imul, 1) := by decide +kernel
theorem d_Sets_least_20 : decode prog_8_method_8_code 20 = .ok (.iload_n 2, 1) := by decide +kernel
theorem d_Sets_least_21 : decode prog_8_method_8_code 21 = .ok (.iadd, 1) := by decide +kernel
theorem d_Sets_least_22 : decode prog_8_method_8_code 22 = .ok (.laload, 1) := by decide +kernel
theorem d_Sets_least_23 : decode prog_8_method_8_code 23 = .ok (.lstore_n 3, 1) := by decide +kernel
theorem d_Sets_least_24 : decode prog_8_method_8_code 24 = .ok (.lload_n 3, 1) := by decide +kernel
theorem d_Sets_least_25 : decode prog_8_method_8_code 25 = .ok (.lconst 0, 1) := by decide +kernel
theorem d_Sets_least_26 : decode prog_8_method_8_code 26 = .ok (.lcmp, 1) := by decide +kernel
theorem d_Sets_least_27 : decode prog_8_method_8_code 27 = .ok (.ifCond .eq 13, 3) := by decide +kernel
theorem d_Sets_least_30 : decode prog_8_method_8_code 30 = .ok (.bipush 64, 2) := by decide +kernel
theorem d_Sets_least_32 : decode prog_8_method_8_code 32 = .ok (.iload_n 2, 1) := by decide +kernel
theorem d_Sets_least_33 : decode prog_8_method_8_code 33 = .ok (.imul, 1) := by decide +kernel
theorem d_Sets_least_34 : decode prog_8_method_8_code 34 = .ok (.lload_n 3, 1) := by decide +kernel
theorem d_Sets_least_35 : decode prog_8_method_8_code 35 = .ok (.invokestatic 44, 3) := by decide +kernel
theorem d_Sets_least_38 : decode prog_8_method_8_code 38 = .ok (.iadd, 1) := by decide +kernel
theorem d_Sets_least_40 : decode prog_8_method_8_code 40 = .ok (.iinc 2 1, 3) := by decide +kernel
theorem d_Sets_least_43 : decode prog_8_method_8_code 43 = .ok (.goto (-41), 3) := by decide +kernel
theorem d_Sets_least_46 : decode prog_8_method_8_code 46 = .ok (.iconst (-1), 1) := by decide +kernel
theorem d_Sets_least_47 : decode prog_8_method_8_code 47 = .ok (.ireturn, 1) := by decide +kernel
theorem d_Sets_lowest_0 : decode prog_8_method_9_code 0 = .ok (.lload_n 0, 1) := by decide +kernel
theorem d_Sets_lowest_1 : decode prog_8_method_9_code 1 = .ok (.lload_n 0, 1) := by decide +kernel
theorem d_Sets_lowest_2 : decode prog_8_method_9_code 2 = .ok (.lneg, 1) := by decide +kernel
theorem d_Sets_lowest_3 : decode prog_8_method_9_code 3 = .ok (.land, 1) := by decide +kernel
theorem d_Sets_lowest_4 : decode prog_8_method_9_code 4 = .ok (.lconst 1, 1) := by decide +kernel
theorem d_Sets_lowest_5 : decode prog_8_method_9_code 5 = .ok (.lsub, 1) := by decide +kernel
theorem d_Sets_lowest_6 : decode prog_8_method_9_code 6 = .ok (.invokestatic 38, 3) := by decide +kernel
theorem d_Sets_lowest_9 : decode prog_8_method_9_code 9 = .ok (.ireturn, 1) := by decide +kernel
theorem zc_64 : zI 64 64 64 := ⟨by decide +kernel, by decide +kernel⟩
theorem li_64 : (64 : Int32).toInt = 64 := by decide +kernel
abbrev m_s2_Sets_lowest : Room := { frames := 1, cells := 0, slots := 0, locals := 21 }
set_option maxHeartbeats 4000000 in
set_option maxRecDepth 100000 in
theorem s2_Sets_lowest (l : Launch) (G : zG) (b0 : Int64) (hne : (b0 : Int64).toInt ≠ 0) : zM l G y_Sets_lowest prog_8_method_9_code 2 (Option.some Jvm.ClassFile.FieldType.int) m_s2_Sets_lowest [.long b0] [] (fun v w => ∃ (e0 : Int32), v = some (.int e0) ∧ w = [] ∧ (zI e0 0 63) ∧ ((b0 : Int64).toBitVec.toNat < 2 ^ 49 → (e0 : Int32).toInt ≤ 48)) := by
  refine z_start (by decide +kernel) (Nat.le_of_ble_eq_true rfl) ?_
  intro p e s m below meth c A Z hr hnm hA hP hD hS ls hl
  have Z : zC p s m _ meth c prog_8_method_9_code 2 "TraceMachines$StateSets" G := Z
  obtain ⟨hx, hb, hml, hown, hts, hK, hN, hlocks⟩ := id Z
  have hl : lv_has ls 2 [(0, .long b0)] := hl
  refine lv_lload_n hx hb d_Sets_lowest_0 rfl (lv_at hl 0 rfl) ?_
  refine lv_lload_n hx hb d_Sets_lowest_1 rfl (lv_at hl 0 rfl) ?_
  refine lv_lneg hx hb d_Sets_lowest_2 ?_
  refine lv_topl (fun v_1 ev_1 => ?_)
  refine lv_land hx hb d_Sets_lowest_3 ?_
  refine lv_topl (fun v_2 ev_2 => ?_)
  refine lv_lconst (v := 1) hx hb d_Sets_lowest_4 (by decide) ?_
  refine lv_lsub hx hb d_Sets_lowest_5 ?_
  refine lv_topl (fun v_3 ev_3 => ?_)
  refine z_callS (index := 38) (As := [.long v_3]) (rest := []) (wr := []) Z (s2_Long_bitCount l G (v_3)) hl.1 q726 q727 q21 q728 ⟨by decide, by decide, by show _ = some 1; decide +kernel⟩ ⟨Nat.le_of_ble_eq_true rfl, Nat.le_of_ble_eq_true rfl⟩ ⟨Nat.le_of_ble_eq_true rfl, Nat.le_of_ble_eq_true rfl⟩ rfl (Nat.le_of_ble_eq_true rfl) d_Sets_lowest_6 hP hD hS hA [] [] rfl rfl rfl rfl (by decide) (fun v w1 H locs hw_4 hP hD hS => ?_)
  obtain ⟨x_5, rfl, rfl, hx_5, hfx_6⟩ := hw_4
  have hP : va_P G.1 classes [] H := hP
  have hD := z_tie hP hD rfl
  refine W.widen (k := 0) (n := 0) (Nat.le_of_ble_eq_true rfl) (Nat.le_of_ble_eq_true rfl) ?_
  obtain ⟨hzx_5, hyx_5⟩ := z_lowest ev_1 ev_2 ev_3 hfx_6 hne
  exact z_iret hx hb hr hlocks hP hD hS (Nat.le_of_ble_eq_true rfl) (Nat.le_of_ble_eq_true rfl) d_Sets_lowest_9 ⟨x_5, rfl, rfl, hzx_5, hyx_5⟩
theorem d_Sets_least_39 : decode prog_8_method_8_code 39 = .ok (.ireturn, 1) := by decide +kernel
abbrev m_s1_Sets_least : Room := { frames := 2, cells := 0, slots := 0, locals := 42 }
set_option maxHeartbeats 4000000 in
set_option maxRecDepth 100000 in
theorem s1_Sets_least (l : Launch) (G : zG) (b0 : Nat) (b1 : Int32) (b2 : Int32) (b3 : Nat) (b4 : Nat) (b5 : Nat → Int64) (hb1 : zI b1 0 0) (hb2 : zI b2 0 2) (hb5 : zqa qB b5) : zM l G y_Sets_least prog_8_method_8_code 5 (Option.some Jvm.ClassFile.FieldType.int) m_s1_Sets_least [.ref b0, .int b1] [(b0, .inr (6, [.int b2, .int 4, .int 2, .ref b3, .ref b4])), (b3, .inl (G.2 1, 8, .inr (.inl b5)))] (fun v w => ∃ (e0 : Int32), v = some (.int e0) ∧ w = [(b0, .inr (6, [.int b2, .int 4, .int 2, .ref b3, .ref b4])), (b3, .inl (G.2 1, 8, .inr (.inl b5)))] ∧ (zI e0 (-1) 255)) := by
  refine z_start (by decide +kernel) (Nat.le_of_ble_eq_true rfl) ?_
  intro p e s m below meth c A Z hr hnm hA hP hD hS ls hl
  have Z : zC p s m _ meth c prog_8_method_8_code 5 "TraceMachines$StateSets" G := Z
  obtain ⟨hx, hb, hml, hown, hts, hK, hN, hlocks⟩ := id Z
  have hl : lv_has ls 5 [(0, .ref b0), (1, .int b1)] := hl
  refine lv_iconst (v := 0) hx hb d_Sets_least_0 (by decide) ?_
  refine lv_istore_n (lv' := [(2, .int 0), (0, .ref b0), (1, .int b1)]) hx hb d_Sets_least_1 rfl hl (by decide) rfl (fun ls hl => ?_)
  suffices key : ∀ (k_21 : Nat) (y_22 : Int32) (H : Heap) (locs : List Loc) (ls : Array Slot), (zI y_22 0 4) → (4 : Int) - y_22.toInt < (k_21 : Int) → va_P G.1 classes [(b0, .inr (6, [.int b2, .int 4, .int 2, .ref b3, .ref b4])), (b3, .inl (G.2 1, 8, .inr (.inl b5)))] H → va_D A [(b0, .inr (6, [.int b2, .int 4, .int 2, .ref b3, .ref b4])), (b3, .inl (G.2 1, 8, .inr (.inl b5)))] → va_S A s.heap H locs → lv_has ls 5 [(2, .int y_22), (0, .ref b0), (1, .int b1)] → W p l e m_s1_Sets_least s m ([.ref b0, .int b1] : List Value).toArray below meth c H locs 0 0 (MQ below (zQ G (fun v w => ∃ (e0 : Int32), v = some (.int e0) ∧ w = [(b0, .inr (6, [.int b2, .int 4, .int 2, .ref b3, .ref b4])), (b3, .inl (G.2 1, 8, .inr (.inl b5)))] ∧ (zI e0 (-1) 255)) A) ([.ref b0, .int b1] : List Value).toArray s m_s1_Sets_least.cells m_s1_Sets_least.slots A) (F0 m 2 ls []) by
    exact key 5 (0) _ _ _ (zI.wk (l' := 0) (h' := 4) zc_0 (by decide)) (zm_upi (zI.wk (l' := 0) (h' := 4) zc_0 (by decide)) (by decide)) hP hD hS (lv_sub hl [0, 1, 2] rfl)
  intro k_21
  induction k_21 with
  | zero =>
    intro y_22 H locs ls hy_22 hmk_21 hP hD hS hl
    exact (zm_up0 hy_22 hmk_21).elim
  | succ k_21 ihk_21 =>
    intro y_22 H locs ls hy_22 hmk_21 hP hD hS hl
    refine lv_iload_n hx hb d_Sets_least_2 rfl (lv_at hl 0 rfl) ?_
    refine lv_aload_n hx hb d_Sets_least_3 rfl (lv_at hl 1 rfl) ?_
    refine va_get (D := G.1) (ci := 6) (v := .int 4) (C := R_Sets) (T := F_Sets) (N := 5) hx hb hts i_Sets hown hK hP 0 rfl rfl 1 (by decide) (hts _ q242) (fun _ h9 => h9) rfl d_Sets_least_4 ?_
    refine lv_icmp_ge (tgt := 46) hx hb d_Sets_least_7 (by decide) (fun hc_23 => ?_) (fun hc_23 => ?_)
    · have _nhc_23 := hc_23
      have ni_24 := (fa_le _ _).mp hc_23
      rw [li_4] at ni_24
      have hv_25 : zI y_22 4 4 := zI.le_r zc_4 hy_22 hc_23 (by decide)
      refine lv_iconst (v := (-1)) hx hb d_Sets_least_46 (by decide) ?_
      exact z_iret hx hb hr hlocks hP hD hS (Nat.le_of_ble_eq_true rfl) (Nat.le_of_ble_eq_true rfl) d_Sets_least_47 ⟨(-1), rfl, rfl, (zI.wk (l' := (-1)) (h' := 255) zc_m1 (by decide))⟩
    · have _nhc_23 := hc_23
      have ni_26 := (fa_lt _ _).mp (zi_nle hc_23)
      rw [li_4] at ni_26
      have hv_27 : zI y_22 0 3 := zI.lt_l hy_22 zc_4 (zi_nle hc_23) (by decide)
      refine lv_aload_n hx hb d_Sets_least_10 rfl (lv_at hl 1 rfl) ?_
      refine va_get (D := G.1) (ci := 6) (v := .ref b3) (C := R_Sets) (T := F_Sets) (N := 5) hx hb hts i_Sets hown hK hP 0 rfl rfl 3 (by decide) (hts _ q244) (fun _ h9 => h9) rfl d_Sets_least_11 ?_
      refine lv_iload_n hx hb d_Sets_least_14 rfl (lv_at hl 2 rfl) ?_
      refine lv_aload_n hx hb d_Sets_least_15 rfl (lv_at hl 1 rfl) ?_
      refine va_get (D := G.1) (ci := 6) (v := .int 4) (C := R_Sets) (T := F_Sets) (N := 5) hx hb hts i_Sets hown hK hP 0 rfl rfl 1 (by decide) (hts _ q242) (fun _ h9 => h9) rfl d_Sets_least_16 ?_
      refine lv_imul hx hb d_Sets_least_19 ?_
      refine lv_topi (fun v_28 ev_28 => ?_)
      obtain ⟨qv_28, hv_28⟩ := zI_mul (l := 0) (h := 0) hb1 zc_4 ev_28 (by decide)
      rw [li_4] at qv_28
      refine lv_iload_n hx hb d_Sets_least_20 rfl (lv_at hl 0 rfl) ?_
      refine lv_iadd hx hb d_Sets_least_21 ?_
      refine lv_topi (fun v_29 ev_29 => ?_)
      obtain ⟨qv_29, hv_29⟩ := zI_add (l := 0) (h := 3) hv_28 hv_27 ev_29 (by decide)
      refine va_lald hx hb hK hP 1 1 rfl rfl (zI.inn hv_29 (by decide)) d_Sets_least_22 ?_
      refine lv_topl (fun v_30 ev_30 => ?_)
      have bv_30 := zQB.ld hb5 hv_29 ev_30 (by decide)
      refine lv_lstore_n (lv' := [(3, .long v_30), (2, .int y_22), (0, .ref b0), (1, .int b1)]) hx hb d_Sets_least_23 rfl hl (by decide) rfl (fun ls hl => ?_)
      refine lv_lload_n hx hb d_Sets_least_24 rfl (lv_at hl 0 rfl) ?_
      refine lv_lconst (v := 0) hx hb d_Sets_least_25 (by decide) ?_
      refine W.lcmp hx hb d_Sets_least_26 ?_
      refine lv_topi (fun v_31 ev_31 => ?_)
      refine lv_if_eq (tgt := 40) hx hb d_Sets_least_27 (by decide) (fun hc_32 => ?_) (fun hc_32 => ?_)
      · have ni_33 := hc_32
        rw [ev_31] at ni_33
        simp only [lg_cmp_lt, lg_cmp_le, lg_cmp_gt, lg_cmp_ge, lg_cmp_eq, fa_lt64, fa_le64, fa_eq64, Int32.toInt_toInt64, ll_0] at ni_33
        have hv_34 : zJ v_30 0 0 := by have _a := ni_33; have _b := (zJ_all v_30); have _c := zcl_0; simp only [Int32.toInt_toInt64] at *; exact ⟨by omega, by omega⟩
        obtain ⟨v_35, ev_35⟩ : ∃ z : Int32, z = y_22 + 1 := ⟨_, rfl⟩
        obtain ⟨qv_35, hv_35⟩ := zI_add (l := 1) (h := 4) hv_27 zc_1 ev_35 (by decide)
        rw [li_1] at qv_35
        refine lv_iinc (v := v_35) (lv' := [(2, .int v_35), (3, .long v_30), (0, .ref b0), (1, .int b1)]) hx hb d_Sets_least_40 hl (k := 1) rfl (by rw [ev_35]; rfl) (by decide) rfl (fun ls hl => ?_)
        refine lv_goto (tgt := 2) hx hb d_Sets_least_43 (by decide) ?_
        exact ihk_21 (v_35) _ _ _ (zI.wk (l' := 0) (h' := 4) hv_35 (by decide)) (zm_up qv_35 hmk_21 (by decide)) hP hD hS (lv_sub hl [0, 2, 3] rfl)
      · have ni_36 := hc_32
        rw [ev_31] at ni_36
        simp only [lg_cmp_lt, lg_cmp_le, lg_cmp_gt, lg_cmp_ge, lg_cmp_eq, fa_lt64, fa_le64, fa_eq64, Int32.toInt_toInt64, ll_0] at ni_36
        refine lv_bipush (v := 64) hx hb d_Sets_least_30 (by decide) ?_
        refine lv_iload_n hx hb d_Sets_least_32 rfl (lv_at hl 1 rfl) ?_
        refine lv_imul hx hb d_Sets_least_33 ?_
        refine lv_topi (fun v_37 ev_37 => ?_)
        obtain ⟨qv_37, hv_37⟩ := zI_mul (l := 0) (h := 192) zc_64 hv_27 ev_37 (by decide)
        rw [li_64] at qv_37
        refine lv_lload_n hx hb d_Sets_least_34 rfl (lv_at hl 0 rfl) ?_
        refine z_callS (index := 44) (As := [.long v_30]) (rest := [.int v_37]) (wr := [(b0, .inr (6, [.int b2, .int 4, .int 2, .ref b3, .ref b4])), (b3, .inl (G.2 1, 8, .inr (.inl b5)))]) Z (s2_Sets_lowest l G (v_30) (by omega)) hl.1 q754 q724 q7 q725 ⟨by decide, by decide, by show _ = some 1; decide +kernel⟩ ⟨Nat.le_of_ble_eq_true rfl, Nat.le_of_ble_eq_true rfl⟩ ⟨Nat.le_of_ble_eq_true rfl, Nat.le_of_ble_eq_true rfl⟩ rfl (Nat.le_of_ble_eq_true rfl) d_Sets_least_35 hP hD hS hA [] [0, 1] rfl rfl rfl rfl (by decide) (fun v w1 H locs hw_38 hP hD hS => ?_)
        obtain ⟨x_39, rfl, rfl, hx_39, hfx_40⟩ := hw_38
        have hP : va_P G.1 classes [(b0, .inr (6, [.int b2, .int 4, .int 2, .ref b3, .ref b4])), (b3, .inl (G.2 1, 8, .inr (.inl b5)))] H := hP
        have hD := z_tie hP hD rfl
        refine W.widen (k := 0) (n := 0) (Nat.le_of_ble_eq_true rfl) (Nat.le_of_ble_eq_true rfl) ?_
        refine lv_iadd hx hb d_Sets_least_38 ?_
        refine lv_topi (fun v_41 ev_41 => ?_)
        obtain ⟨qv_41, hv_41⟩ := zI_add (l := 0) (h := 255) hv_37 hx_39 ev_41 (by decide)
        exact z_iret hx hb hr hlocks hP hD hS (Nat.le_of_ble_eq_true rfl) (Nat.le_of_ble_eq_true rfl) d_Sets_least_39 ⟨v_41, rfl, rfl, (zI.wk (l' := (-1)) (h' := 255) hv_41 (by decide))⟩
theorem d_Sets_hashOf_0 : decode prog_8_method_13_code 0 = .ok (.lconst 0, 1) := by decide +kernel
theorem d_Sets_hashOf_1 : decode prog_8_method_13_code 1 = .ok (.lstore_n 2, 1) := by decide +kernel
theorem d_Sets_hashOf_2 : decode prog_8_method_13_code 2 = .ok (.iconst 0, 1) := by decide +kernel
theorem d_Sets_hashOf_3 : decode prog_8_method_13_code 3 = .ok (.istore 4, 2) := by decide +kernel
theorem d_Sets_hashOf_5 : decode prog_8_method_13_code 5 = .ok (.iload 4, 2) := by decide +kernel
theorem d_Sets_hashOf_7 : decode prog_8_method_13_code 7 = .ok (.aload_n 0, 1) := by decide +kernel
theorem d_Sets_hashOf_8 : decode prog_8_method_13_code 8 = .ok (.getfield 15, 3) := by decide +kernel
theorem d_Sets_hashOf_11 : decode prog_8_method_13_code 11 = .ok (.if_icmp .ge 37, 3) := by decide +kernel
theorem d_Sets_hashOf_14 : decode prog_8_method_13_code 14 = .ok (.lload_n 2, 1) := by decide +kernel
theorem d_Sets_hashOf_15 : decode prog_8_method_13_code 15 = .ok (.aload_n 0, 1) := by decide +kernel
theorem d_Sets_hashOf_16 : decode prog_8_method_13_code 16 = .ok (.getfield 18, 3) := by decide +kernel
theorem d_Sets_hashOf_19 : decode prog_8_method_13_code 19 = .ok (.iload_n 1, 1) := by decide +kernel
theorem d_Sets_hashOf_20 : decode prog_8_method_13_code 20 = .ok (.aload_n 0, 1) := by decide +kernel
theorem d_Sets_hashOf_21 : decode prog_8_method_13_code 21 = .ok (.getfield 15, 3) := by decide +kernel
theorem d_Sets_hashOf_24 : decode prog_8_method_13_code 24 = .ok (.imul, 1) := by decide +kernel
theorem d_Sets_hashOf_25 : decode prog_8_method_13_code 25 = .ok (.iload 4, 2) := by decide +kernel
theorem d_Sets_hashOf_27 : decode prog_8_method_13_code 27 = .ok (.iadd, 1) := by decide +kernel
theorem d_Sets_hashOf_28 : decode prog_8_method_13_code 28 = .ok (.laload, 1) := by decide +kernel
theorem d_Sets_hashOf_29 : decode prog_8_method_13_code 29 = .ok (.lxor, 1) := by decide +kernel
theorem d_Sets_hashOf_30 : decode prog_8_method_13_code 30 = .ok (.ldc2_w 65, 3) := by decide +kernel
theorem d_Sets_hashOf_33 : decode prog_8_method_13_code 33 = .ok (.lmul, 1) := by decide +kernel
theorem d_Sets_hashOf_34 : decode prog_8_method_13_code 34 = .ok (.lstore_n 2, 1) := by decide +kernel
theorem d_Sets_hashOf_35 : decode prog_8_method_13_code 35 = .ok (.lload_n 2, 1) := by decide +kernel
theorem d_Sets_hashOf_36 : decode prog_8_method_13_code 36 = .ok (.lload_n 2, 1) := by decide +kernel
theorem d_Sets_hashOf_37 : decode prog_8_method_13_code 37 = .ok (.bipush 32, 2) := by decide +kernel
theorem d_Sets_hashOf_39 : decode prog_8_method_13_code 39 = .ok (.lushr, 1) := by decide +kernel
theorem d_Sets_hashOf_40 : decode prog_8_method_13_code 40 = .ok (.lxor, 1) := by decide +kernel
theorem d_Sets_hashOf_41 : decode prog_8_method_13_code 41 = .ok (.lstore_n 2, 1) := by decide +kernel
theorem d_Sets_hashOf_42 : decode prog_8_method_13_code 42 = .ok (.iinc 4 1, 3) := by decide +kernel
theorem d_Sets_hashOf_45 : decode prog_8_method_13_code 45 = .ok (.goto (-40), 3) := by decide +kernel
theorem d_Sets_hashOf_48 : decode prog_8_method_13_code 48 = .ok (.lload_n 2, 1) := by decide +kernel
theorem d_Sets_hashOf_49 : decode prog_8_method_13_code 49 = .ok (.l2i, 1) := by decide +kernel
theorem d_Sets_hashOf_50 : decode prog_8_method_13_code 50 = .ok (.ireturn, 1) := by decide +kernel
abbrev m_s1_Sets_hashOf : Room := { frames := 0, cells := 0, slots := 0, locals := 0 }
set_option maxHeartbeats 4000000 in
set_option maxRecDepth 100000 in
theorem s1_Sets_hashOf (l : Launch) (G : zG) (b0 : Nat) (b1 : Int32) (b2 : Int32) (b3 : Nat) (b4 : Nat) (b5 : Nat → Int64) (hb1 : zI b1 0 1) (hb2 : zI b2 0 2) (hb5 : zqa qB b5) : zM l G y_Sets_hashOf prog_8_method_13_code 5 (Option.some Jvm.ClassFile.FieldType.int) m_s1_Sets_hashOf [.ref b0, .int b1] [(b0, .inr (6, [.int b2, .int 4, .int 2, .ref b3, .ref b4])), (b3, .inl (G.2 1, 8, .inr (.inl b5)))] (fun v w => ∃ (e0 : Int32), v = some (.int e0) ∧ w = [(b0, .inr (6, [.int b2, .int 4, .int 2, .ref b3, .ref b4])), (b3, .inl (G.2 1, 8, .inr (.inl b5)))]) := by
  refine z_start (by decide +kernel) (Nat.le_of_ble_eq_true rfl) ?_
  intro p e s m below meth c A Z hr hnm hA hP hD hS ls hl
  have Z : zC p s m _ meth c prog_8_method_13_code 5 "TraceMachines$StateSets" G := Z
  obtain ⟨hx, hb, hml, hown, hts, hK, hN, hlocks⟩ := id Z
  have hl : lv_has ls 5 [(0, .ref b0), (1, .int b1)] := hl
  refine lv_lconst (v := 0) hx hb d_Sets_hashOf_0 (by decide) ?_
  refine lv_lstore_n (lv' := [(2, .long 0), (0, .ref b0), (1, .int b1)]) hx hb d_Sets_hashOf_1 rfl hl (by decide) rfl (fun ls hl => ?_)
  refine lv_iconst (v := 0) hx hb d_Sets_hashOf_2 (by decide) ?_
  refine lv_istore (lv' := [(4, .int 0), (2, .long 0), (0, .ref b0), (1, .int b1)]) hx hb d_Sets_hashOf_3 hl (by decide) rfl (fun ls hl => ?_)
  suffices key : ∀ (k_17 : Nat) (y_18 : Int32) (y_19 : Int64) (H : Heap) (locs : List Loc) (ls : Array Slot), (zI y_18 0 4) → (4 : Int) - y_18.toInt < (k_17 : Int) → va_P G.1 classes [(b0, .inr (6, [.int b2, .int 4, .int 2, .ref b3, .ref b4])), (b3, .inl (G.2 1, 8, .inr (.inl b5)))] H → va_D A [(b0, .inr (6, [.int b2, .int 4, .int 2, .ref b3, .ref b4])), (b3, .inl (G.2 1, 8, .inr (.inl b5)))] → va_S A s.heap H locs → lv_has ls 5 [(4, .int y_18), (2, .long y_19), (0, .ref b0), (1, .int b1)] → W p l e m_s1_Sets_hashOf s m ([.ref b0, .int b1] : List Value).toArray below meth c H locs 0 0 (MQ below (zQ G (fun v w => ∃ (e0 : Int32), v = some (.int e0) ∧ w = [(b0, .inr (6, [.int b2, .int 4, .int 2, .ref b3, .ref b4])), (b3, .inl (G.2 1, 8, .inr (.inl b5)))]) A) ([.ref b0, .int b1] : List Value).toArray s m_s1_Sets_hashOf.cells m_s1_Sets_hashOf.slots A) (F0 m 5 ls []) by
    exact key 5 (0) (0) _ _ _ (zI.wk (l' := 0) (h' := 4) zc_0 (by decide)) (zm_upi (zI.wk (l' := 0) (h' := 4) zc_0 (by decide)) (by decide)) hP hD hS (lv_sub hl [0, 1, 2, 3] rfl)
  intro k_17
  induction k_17 with
  | zero =>
    intro y_18 y_19 H locs ls hy_18 hmk_17 hP hD hS hl
    exact (zm_up0 hy_18 hmk_17).elim
  | succ k_17 ihk_17 =>
    intro y_18 y_19 H locs ls hy_18 hmk_17 hP hD hS hl
    refine lv_iload hx hb d_Sets_hashOf_5 (lv_at hl 0 rfl) ?_
    refine lv_aload_n hx hb d_Sets_hashOf_7 rfl (lv_at hl 2 rfl) ?_
    refine va_get (D := G.1) (ci := 6) (v := .int 4) (C := R_Sets) (T := F_Sets) (N := 5) hx hb hts i_Sets hown hK hP 0 rfl rfl 1 (by decide) (hts _ q242) (fun _ h9 => h9) rfl d_Sets_hashOf_8 ?_
    refine lv_icmp_ge (tgt := 48) hx hb d_Sets_hashOf_11 (by decide) (fun hc_20 => ?_) (fun hc_20 => ?_)
    · have _nhc_20 := hc_20
      have ni_21 := (fa_le _ _).mp hc_20
      rw [li_4] at ni_21
      have hv_22 : zI y_18 4 4 := zI.le_r zc_4 hy_18 hc_20 (by decide)
      refine lv_lload_n hx hb d_Sets_hashOf_48 rfl (lv_at hl 1 rfl) ?_
      obtain ⟨v_23, ev_23⟩ : ∃ z : Int32, z = (y_19).toInt32 := ⟨_, rfl⟩
      refine lv_l2i (v := v_23) hx hb d_Sets_hashOf_49 ev_23.symm ?_
      exact z_iret hx hb hr hlocks hP hD hS (Nat.le_of_ble_eq_true rfl) (Nat.le_of_ble_eq_true rfl) d_Sets_hashOf_50 ⟨v_23, rfl, rfl⟩
    · have _nhc_20 := hc_20
      have ni_24 := (fa_lt _ _).mp (zi_nle hc_20)
      rw [li_4] at ni_24
      have hv_25 : zI y_18 0 3 := zI.lt_l hy_18 zc_4 (zi_nle hc_20) (by decide)
      refine lv_lload_n hx hb d_Sets_hashOf_14 rfl (lv_at hl 1 rfl) ?_
      refine lv_aload_n hx hb d_Sets_hashOf_15 rfl (lv_at hl 2 rfl) ?_
      refine va_get (D := G.1) (ci := 6) (v := .ref b3) (C := R_Sets) (T := F_Sets) (N := 5) hx hb hts i_Sets hown hK hP 0 rfl rfl 3 (by decide) (hts _ q244) (fun _ h9 => h9) rfl d_Sets_hashOf_16 ?_
      refine lv_iload_n hx hb d_Sets_hashOf_19 rfl (lv_at hl 3 rfl) ?_
      refine lv_aload_n hx hb d_Sets_hashOf_20 rfl (lv_at hl 2 rfl) ?_
      refine va_get (D := G.1) (ci := 6) (v := .int 4) (C := R_Sets) (T := F_Sets) (N := 5) hx hb hts i_Sets hown hK hP 0 rfl rfl 1 (by decide) (hts _ q242) (fun _ h9 => h9) rfl d_Sets_hashOf_21 ?_
      refine lv_imul hx hb d_Sets_hashOf_24 ?_
      refine lv_topi (fun v_26 ev_26 => ?_)
      obtain ⟨qv_26, hv_26⟩ := zI_mul (l := 0) (h := 4) hb1 zc_4 ev_26 (by decide)
      rw [li_4] at qv_26
      refine lv_iload hx hb d_Sets_hashOf_25 (lv_at hl 0 rfl) ?_
      refine lv_iadd hx hb d_Sets_hashOf_27 ?_
      refine lv_topi (fun v_27 ev_27 => ?_)
      obtain ⟨qv_27, hv_27⟩ := zI_add (l := 0) (h := 7) hv_26 hv_25 ev_27 (by decide)
      refine va_lald hx hb hK hP 1 1 rfl rfl (zI.inn hv_27 (by decide)) d_Sets_hashOf_28 ?_
      refine lv_topl (fun v_28 ev_28 => ?_)
      have bv_28 := zQB.ld hb5 hv_27 ev_28 (by decide)
      refine lv_lxor hx hb d_Sets_hashOf_29 ?_
      refine lv_topl (fun v_29 ev_29 => ?_)
      refine lv_ldc2 hx hb hown (hts _ q838) d_Sets_hashOf_30 ?_
      refine lv_lmul hx hb d_Sets_hashOf_33 ?_
      refine lv_topl (fun v_30 ev_30 => ?_)
      refine lv_lstore_n (lv' := [(2, .long v_30), (4, .int y_18), (0, .ref b0), (1, .int b1)]) hx hb d_Sets_hashOf_34 rfl hl (by decide) rfl (fun ls hl => ?_)
      refine lv_lload_n hx hb d_Sets_hashOf_35 rfl (lv_at hl 0 rfl) ?_
      refine lv_lload_n hx hb d_Sets_hashOf_36 rfl (lv_at hl 0 rfl) ?_
      refine lv_bipush (v := 32) hx hb d_Sets_hashOf_37 (by decide) ?_
      obtain ⟨v_31, ev_31⟩ : ∃ z : Int64, z = ((v_30).toUInt64 >>> ((32 : Int32).toInt64.toUInt64 &&& Int64.toUInt64 63)).toInt64 := ⟨_, rfl⟩
      refine lv_lushr (v := v_31) hx hb d_Sets_hashOf_39 ev_31.symm ?_
      refine lv_lxor hx hb d_Sets_hashOf_40 ?_
      refine lv_topl (fun v_32 ev_32 => ?_)
      refine lv_lstore_n (lv' := [(2, .long v_32), (4, .int y_18), (0, .ref b0), (1, .int b1)]) hx hb d_Sets_hashOf_41 rfl hl (by decide) rfl (fun ls hl => ?_)
      obtain ⟨v_33, ev_33⟩ : ∃ z : Int32, z = y_18 + 1 := ⟨_, rfl⟩
      obtain ⟨qv_33, hv_33⟩ := zI_add (l := 1) (h := 4) hv_25 zc_1 ev_33 (by decide)
      rw [li_1] at qv_33
      refine lv_iinc (v := v_33) (lv' := [(4, .int v_33), (2, .long v_32), (0, .ref b0), (1, .int b1)]) hx hb d_Sets_hashOf_42 hl (k := 1) rfl (by rw [ev_33]; rfl) (by decide) rfl (fun ls hl => ?_)
      refine lv_goto (tgt := 5) hx hb d_Sets_hashOf_45 (by decide) ?_
      exact ihk_17 (v_33) (v_32) _ _ _ (zI.wk (l' := 0) (h' := 4) hv_33 (by decide)) (zm_up qv_33 hmk_17 (by decide)) hP hD hS (lv_sub hl [0, 1, 2, 3] rfl)
theorem d_Machine_takes_0 : decode prog_4_method_18_code 0 = .ok (.iconst 0, 1) := by decide +kernel
theorem d_Machine_takes_1 : decode prog_4_method_18_code 1 = .ok (.istore 4, 2) := by decide +kernel
theorem d_Machine_takes_3 : decode prog_4_method_18_code 3 = .ok (.iload 4, 2) := by decide +kernel
theorem d_Machine_takes_5 : decode prog_4_method_18_code 5 = .ok (.iconst 4, 1) := by decide +kernel
theorem d_Machine_takes_6 : decode prog_4_method_18_code 6 = .ok (.if_icmp .ge 32, 3) := by decide +kernel
theorem d_Machine_takes_9 : decode prog_4_method_18_code 9 = .ok (.aload_n 1, 1) := by decide +kernel
theorem d_Machine_takes_10 : decode prog_4_method_18_code 10 = .ok (.iload_n 2, 1) := by decide +kernel
theorem d_Machine_takes_11 : decode prog_4_method_18_code 11 = .ok (.iload_n 3, 1) := by decide +kernel
theorem d_Machine_takes_12 : decode prog_4_method_18_code 12 = .ok (.iload 4, 2) := by decide +kernel
theorem d_Machine_takes_14 : decode prog_4_method_18_code 14 = .ok (.invokevirtual 166, 3) := by decide +kernel
theorem d_Machine_takes_17 : decode prog_4_method_18_code 17 = .ok (.aload_n 0, 1) := by decide +kernel
theorem d_Machine_takes_18 : decode prog_4_method_18_code 18 = .ok (.getfield 29, 3) := by decide +kernel
theorem d_Machine_takes_21 : decode prog_4_method_18_code 21 = .ok (.iload 4, 2) := by decide +kernel
theorem d_Machine_takes_23 : decode prog_4_method_18_code 23 = .ok (.laload, 1) := by decide +kernel
theorem d_Machine_takes_24 : decode prog_4_method_18_code 24 = .ok (.land, 1) := by decide +kernel
theorem d_Machine_takes_25 : decode prog_4_method_18_code 25 = .ok (.lconst 0, 1) := by decide +kernel
theorem d_Machine_takes_26 : decode prog_4_method_18_code 26 = .ok (.lcmp, 1) := by decide +kernel
theorem d_Machine_takes_27 : decode prog_4_method_18_code 27 = .ok (.ifCond .eq 5, 3) := by decide +kernel
theorem d_Machine_takes_30 : decode prog_4_method_18_code 30 = .ok (.iconst 1, 1) := by decide +kernel
theorem d_Machine_takes_31 : decode prog_4_method_18_code 31 = .ok (.ireturn, 1) := by decide +kernel
theorem d_Machine_takes_32 : decode prog_4_method_18_code 32 = .ok (.iinc 4 1, 3) := by decide +kernel
theorem d_Machine_takes_35 : decode prog_4_method_18_code 35 = .ok (.goto (-32), 3) := by decide +kernel
theorem d_Machine_takes_38 : decode prog_4_method_18_code 38 = .ok (.iconst 0, 1) := by decide +kernel
theorem d_Machine_takes_39 : decode prog_4_method_18_code 39 = .ok (.ireturn, 1) := by decide +kernel
abbrev m_s1_Machine_takes : Room := { frames := 1, cells := 0, slots := 0, locals := 23 }
set_option maxHeartbeats 4000000 in
set_option maxRecDepth 100000 in
theorem s1_Machine_takes (l : Launch) (G : zG) (b0 : Nat) (b1 : Nat) (b2 : Int32) (b3 : Int32) (b4 : Int32) (b5 : Int32) (b6 : Nat) (b7 : Nat) (b8 : Nat) (b9 : Nat) (b10 : Nat) (b11 : Nat) (b12 : Int32) (b13 : Nat) (b14 : Nat) (b15 : Nat) (b16 : Nat) (b17 : Nat) (b18 : Nat) (b19 : Nat → Int64) (b20 : Int32) (b21 : Nat) (b22 : Nat) (b23 : Nat → Int64) (hb2 : zI b2 0 1) (hb3 : zI b3 0 0) (hb4 : zI b4 0 1) (hb5 : zI b5 0 241) (hb12 : zI b12 0 240) (hb20 : zI b20 0 2) (hb23 : zqa qB b23) : zM l G y_Machine_takes prog_4_method_18_code 5 (Option.some Jvm.ClassFile.FieldType.boolean) m_s1_Machine_takes [.ref b0, .ref b1, .int b2, .int b3] [(b0, .inr (5, [.int b4, .int b5, .ref b6, .ref b7, .ref b8, .ref b9, .ref b10, .ref b11, .int b12, .ref b13, .ref b14, .ref b15, .ref b16, .ref b17, .ref b18])), (b11, .inl (G.2 1, 4, .inr (.inl b19))), (b1, .inr (6, [.int b20, .int 4, .int 2, .ref b21, .ref b22])), (b21, .inl (G.2 1, 8, .inr (.inl b23)))] (fun v w => ∃ (e0 : Int32), v = some (.int e0) ∧ w = [(b0, .inr (5, [.int b4, .int b5, .ref b6, .ref b7, .ref b8, .ref b9, .ref b10, .ref b11, .int b12, .ref b13, .ref b14, .ref b15, .ref b16, .ref b17, .ref b18])), (b11, .inl (G.2 1, 4, .inr (.inl b19))), (b1, .inr (6, [.int b20, .int 4, .int 2, .ref b21, .ref b22])), (b21, .inl (G.2 1, 8, .inr (.inl b23)))] ∧ (zI e0 0 1)) := by
  refine z_start (by decide +kernel) (Nat.le_of_ble_eq_true rfl) ?_
  intro p e s m below meth c A Z hr hnm hA hP hD hS ls hl
  have Z : zC p s m _ meth c prog_4_method_18_code 5 "TraceMachines$Machine" G := Z
  obtain ⟨hx, hb, hml, hown, hts, hK, hN, hlocks⟩ := id Z
  have hl : lv_has ls 5 [(0, .ref b0), (1, .ref b1), (2, .int b2), (3, .int b3)] := hl
  refine lv_iconst (v := 0) hx hb d_Machine_takes_0 (by decide) ?_
  refine lv_istore (lv' := [(4, .int 0), (0, .ref b0), (1, .ref b1), (2, .int b2), (3, .int b3)]) hx hb d_Machine_takes_1 hl (by decide) rfl (fun ls hl => ?_)
  suffices key : ∀ (k_18 : Nat) (y_19 : Int32) (H : Heap) (locs : List Loc) (ls : Array Slot), (zI y_19 0 4) → (4 : Int) - y_19.toInt < (k_18 : Int) → va_P G.1 classes [(b0, .inr (5, [.int b4, .int b5, .ref b6, .ref b7, .ref b8, .ref b9, .ref b10, .ref b11, .int b12, .ref b13, .ref b14, .ref b15, .ref b16, .ref b17, .ref b18])), (b11, .inl (G.2 1, 4, .inr (.inl b19))), (b1, .inr (6, [.int b20, .int 4, .int 2, .ref b21, .ref b22])), (b21, .inl (G.2 1, 8, .inr (.inl b23)))] H → va_D A [(b0, .inr (5, [.int b4, .int b5, .ref b6, .ref b7, .ref b8, .ref b9, .ref b10, .ref b11, .int b12, .ref b13, .ref b14, .ref b15, .ref b16, .ref b17, .ref b18])), (b11, .inl (G.2 1, 4, .inr (.inl b19))), (b1, .inr (6, [.int b20, .int 4, .int 2, .ref b21, .ref b22])), (b21, .inl (G.2 1, 8, .inr (.inl b23)))] → va_S A s.heap H locs → lv_has ls 5 [(4, .int y_19), (0, .ref b0), (1, .ref b1), (2, .int b2), (3, .int b3)] → W p l e m_s1_Machine_takes s m ([.ref b0, .ref b1, .int b2, .int b3] : List Value).toArray below meth c H locs 0 0 (MQ below (zQ G (fun v w => ∃ (e0 : Int32), v = some (.int e0) ∧ w = [(b0, .inr (5, [.int b4, .int b5, .ref b6, .ref b7, .ref b8, .ref b9, .ref b10, .ref b11, .int b12, .ref b13, .ref b14, .ref b15, .ref b16, .ref b17, .ref b18])), (b11, .inl (G.2 1, 4, .inr (.inl b19))), (b1, .inr (6, [.int b20, .int 4, .int 2, .ref b21, .ref b22])), (b21, .inl (G.2 1, 8, .inr (.inl b23)))] ∧ (zI e0 0 1)) A) ([.ref b0, .ref b1, .int b2, .int b3] : List Value).toArray s m_s1_Machine_takes.cells m_s1_Machine_takes.slots A) (F0 m 3 ls []) by
    exact key 5 (0) _ _ _ (zI.wk (l' := 0) (h' := 4) zc_0 (by decide)) (zm_upi (zI.wk (l' := 0) (h' := 4) zc_0 (by decide)) (by decide)) hP hD hS (lv_sub hl [0, 1, 2, 3, 4] rfl)
  intro k_18
  induction k_18 with
  | zero =>
    intro y_19 H locs ls hy_19 hmk_18 hP hD hS hl
    exact (zm_up0 hy_19 hmk_18).elim
  | succ k_18 ihk_18 =>
    intro y_19 H locs ls hy_19 hmk_18 hP hD hS hl
    refine lv_iload hx hb d_Machine_takes_3 (lv_at hl 0 rfl) ?_
    refine lv_iconst (v := 4) hx hb d_Machine_takes_5 (by decide) ?_
    refine lv_icmp_ge (tgt := 38) hx hb d_Machine_takes_6 (by decide) (fun hc_20 => ?_) (fun hc_20 => ?_)
    · have _nhc_20 := hc_20
      have ni_21 := (fa_le _ _).mp hc_20
      rw [li_4] at ni_21
      have hv_22 : zI y_19 4 4 := zI.le_r zc_4 hy_19 hc_20 (by decide)
      refine lv_iconst (v := 0) hx hb d_Machine_takes_38 (by decide) ?_
      exact z_zret hx hb hr hlocks rfl hP hD hS (Nat.le_of_ble_eq_true rfl) (Nat.le_of_ble_eq_true rfl) d_Machine_takes_39 ⟨0, rfl, rfl, (zI.wk (l' := 0) (h' := 1) zc_0 (by decide))⟩
    · have _nhc_20 := hc_20
      have ni_23 := (fa_lt _ _).mp (zi_nle hc_20)
      rw [li_4] at ni_23
      have hv_24 : zI y_19 0 3 := zI.lt_l hy_19 zc_4 (zi_nle hc_20) (by decide)
      refine lv_aload_n hx hb d_Machine_takes_9 rfl (lv_at hl 2 rfl) ?_
      refine lv_iload_n hx hb d_Machine_takes_10 rfl (lv_at hl 3 rfl) ?_
      refine lv_iload_n hx hb d_Machine_takes_11 rfl (lv_at hl 4 rfl) ?_
      refine lv_iload hx hb d_Machine_takes_12 (lv_at hl 0 rfl) ?_
      refine z_callV (index := 166) (As := [.int b2, .int b3, .int y_19]) (rest := []) (wr := [(b0, .inr (5, [.int b4, .int b5, .ref b6, .ref b7, .ref b8, .ref b9, .ref b10, .ref b11, .int b12, .ref b13, .ref b14, .ref b15, .ref b16, .ref b17, .ref b18])), (b11, .inl (G.2 1, 4, .inr (.inl b19)))]) Z (s1_Sets_longAt l G (b1) (b2) (b3) (y_19) (b20) (b21) (b22) (b23) hb2 hb3 hv_24 hb20 hb23) hl.1 q719 q720 q721 q7 q722 ⟨by decide, by decide, by show _ = some 3; decide +kernel⟩ ⟨Nat.le_of_ble_eq_true rfl, Nat.le_of_ble_eq_true rfl⟩ ⟨Nat.le_of_ble_eq_true rfl, Nat.le_of_ble_eq_true rfl⟩ rfl (Nat.le_of_ble_eq_true rfl) d_Machine_takes_14 hP hD hS hA 2 6 rfl rfl rfl [2, 3] [0, 1] rfl rfl rfl rfl (by decide) (fun v w1 H locs hw_25 hP hD hS => ?_)
      obtain ⟨x_26, rfl, rfl, hfx_27⟩ := hw_25
      have hP : va_P G.1 classes [(b0, .inr (5, [.int b4, .int b5, .ref b6, .ref b7, .ref b8, .ref b9, .ref b10, .ref b11, .int b12, .ref b13, .ref b14, .ref b15, .ref b16, .ref b17, .ref b18])), (b11, .inl (G.2 1, 4, .inr (.inl b19))), (b1, .inr (6, [.int b20, .int 4, .int 2, .ref b21, .ref b22])), (b21, .inl (G.2 1, 8, .inr (.inl b23)))] H := hP
      have hD := z_tie hP hD rfl
      refine W.widen (k := 0) (n := 0) (Nat.le_of_ble_eq_true rfl) (Nat.le_of_ble_eq_true rfl) ?_
      refine lv_aload_n hx hb d_Machine_takes_17 rfl (lv_at hl 1 rfl) ?_
      refine va_get (D := G.1) (ci := 5) (v := .ref b11) (C := R_Machine) (T := F_Machine) (N := 15) hx hb hts i_Machine hown hK hP 0 rfl rfl 7 (by decide) (hts _ q181) (fun _ h9 => h9) rfl d_Machine_takes_18 ?_
      refine lv_iload hx hb d_Machine_takes_21 (lv_at hl 0 rfl) ?_
      refine va_lald hx hb hK hP 1 1 rfl rfl (zI.inn hv_24 (by decide)) d_Machine_takes_23 ?_
      refine lv_topl (fun v_28 ev_28 => ?_)
      refine lv_land hx hb d_Machine_takes_24 ?_
      refine lv_topl (fun v_29 ev_29 => ?_)
      refine lv_lconst (v := 0) hx hb d_Machine_takes_25 (by decide) ?_
      refine W.lcmp hx hb d_Machine_takes_26 ?_
      refine lv_topi (fun v_30 ev_30 => ?_)
      refine lv_if_eq (tgt := 32) hx hb d_Machine_takes_27 (by decide) (fun hc_31 => ?_) (fun hc_31 => ?_)
      · have ni_32 := hc_31
        rw [ev_30] at ni_32
        simp only [lg_cmp_lt, lg_cmp_le, lg_cmp_gt, lg_cmp_ge, lg_cmp_eq, fa_lt64, fa_le64, fa_eq64, Int32.toInt_toInt64, ll_0] at ni_32
        have hv_33 : zJ v_29 0 0 := by have _a := ni_32; have _b := (zJ_all v_29); have _c := zcl_0; simp only [Int32.toInt_toInt64] at *; exact ⟨by omega, by omega⟩
        obtain ⟨v_34, ev_34⟩ : ∃ z : Int32, z = y_19 + 1 := ⟨_, rfl⟩
        obtain ⟨qv_34, hv_34⟩ := zI_add (l := 1) (h := 4) hv_24 zc_1 ev_34 (by decide)
        rw [li_1] at qv_34
        refine lv_iinc (v := v_34) (lv' := [(4, .int v_34), (0, .ref b0), (1, .ref b1), (2, .int b2), (3, .int b3)]) hx hb d_Machine_takes_32 hl (k := 0) rfl (by rw [ev_34]; rfl) (by decide) rfl (fun ls hl => ?_)
        refine lv_goto (tgt := 3) hx hb d_Machine_takes_35 (by decide) ?_
        exact ihk_18 (v_34) _ _ _ (zI.wk (l' := 0) (h' := 4) hv_34 (by decide)) (zm_up qv_34 hmk_18 (by decide)) hP hD hS (lv_sub hl [0, 1, 2, 3, 4] rfl)
      · have ni_35 := hc_31
        rw [ev_30] at ni_35
        simp only [lg_cmp_lt, lg_cmp_le, lg_cmp_gt, lg_cmp_ge, lg_cmp_eq, fa_lt64, fa_le64, fa_eq64, Int32.toInt_toInt64, ll_0] at ni_35
        refine lv_iconst (v := 1) hx hb d_Machine_takes_30 (by decide) ?_
        exact z_zret hx hb hr hlocks rfl hP hD hS (Nat.le_of_ble_eq_true rfl) (Nat.le_of_ble_eq_true rfl) d_Machine_takes_31 ⟨1, rfl, rfl, (zI.wk (l' := 0) (h' := 1) zc_1 (by decide))⟩
abbrev m_s2_Machine_gatherFirsts : Room := { frames := 1, cells := 0, slots := 0, locals := 21 }
set_option maxHeartbeats 4000000 in
set_option maxRecDepth 100000 in
theorem s2_Machine_gatherFirsts (l : Launch) (G : zG) (b0 : Nat) (b1 : Int32) (b2 : Int32) (b3 : Nat) (b4 : Nat) (b5 : Nat) (b6 : Nat) (b7 : Nat) (b8 : Nat) (b9 : Int32) (b10 : Nat) (b11 : Nat) (b12 : Nat) (b13 : Nat) (b14 : Nat) (b15 : Nat) (b16 : Nat → Int32) (b17 : Nat → Int32) (hb1 : zI b1 0 1) (hb2 : zI b2 0 241) (hb9 : zI b9 0 240) (hb16 : zK b16) (hb17 : zR b17 0 240) : zM l G y_Machine_gatherFirsts prog_4_method_11_code 3 (Option.none : Option Jvm.ClassFile.FieldType) m_s2_Machine_gatherFirsts [.ref b0] [(b0, .inr (5, [.int b1, .int b2, .ref b3, .ref b4, .ref b5, .ref b6, .ref b7, .ref b8, .int b9, .ref b10, .ref b11, .ref b12, .ref b13, .ref b14, .ref b15])), (b10, .inl (G.2 0, 240, .inl b16)), (b14, .inl (G.2 0, 242, .inl b17))] (fun v w => ∃ (e0 : Nat → Int32), v = none ∧ w = [(b0, .inr (5, [.int b1, .int b2, .ref b3, .ref b4, .ref b5, .ref b6, .ref b7, .ref b8, .int b9, .ref b10, .ref b11, .ref b12, .ref b13, .ref b14, .ref b15])), (b10, .inl (G.2 0, 240, .inl b16)), (b14, .inl (G.2 0, 242, .inl e0))] ∧ (zR e0 0 240)) := by
  refine z_start (by decide +kernel) (Nat.le_of_ble_eq_true rfl) ?_
  intro p e s m below meth c A Z hr hnm hA hP hD hS ls hl
  have Z : zC p s m _ meth c prog_4_method_11_code 3 "TraceMachines$Machine" G := Z
  obtain ⟨hx, hb, hml, hown, hts, hK, hN, hlocks⟩ := id Z
  have hl : lv_has ls 3 [(0, .ref b0)] := hl
  refine lv_iconst (v := 0) hx hb d_Machine_gatherFirsts_0 (by decide) ?_
  refine lv_istore_n (lv' := [(1, .int 0), (0, .ref b0)]) hx hb d_Machine_gatherFirsts_1 rfl hl (by decide) rfl (fun ls hl => ?_)
  refine lv_iconst (v := 0) hx hb d_Machine_gatherFirsts_2 (by decide) ?_
  refine lv_istore_n (lv' := [(2, .int 0), (1, .int 0), (0, .ref b0)]) hx hb d_Machine_gatherFirsts_3 rfl hl (by decide) rfl (fun ls hl => ?_)
  suffices key : ∀ (k_39 : Nat) (y_40 : Int32) (y_41 : Int32) (y_42 : Nat → Int32) (H : Heap) (locs : List Loc) (ls : Array Slot), (zI y_40 0 241) → (zI y_41 0 240) → (zR y_42 0 240) → (241 : Int) - y_40.toInt < (k_39 : Int) → va_P G.1 classes [(b0, .inr (5, [.int b1, .int b2, .ref b3, .ref b4, .ref b5, .ref b6, .ref b7, .ref b8, .int b9, .ref b10, .ref b11, .ref b12, .ref b13, .ref b14, .ref b15])), (b10, .inl (G.2 0, 240, .inl b16)), (b14, .inl (G.2 0, 242, .inl y_42))] H → va_D A [(b0, .inr (5, [.int b1, .int b2, .ref b3, .ref b4, .ref b5, .ref b6, .ref b7, .ref b8, .int b9, .ref b10, .ref b11, .ref b12, .ref b13, .ref b14, .ref b15])), (b10, .inl (G.2 0, 240, .inl b16)), (b14, .inl (G.2 0, 242, .inl y_42))] → va_S A s.heap H locs → lv_has ls 3 [(2, .int y_40), (1, .int y_41), (0, .ref b0)] → W p l e m_s2_Machine_gatherFirsts s m ([.ref b0] : List Value).toArray below meth c H locs 0 0 (MQ below (zQ G (fun v w => ∃ (e0 : Nat → Int32), v = none ∧ w = [(b0, .inr (5, [.int b1, .int b2, .ref b3, .ref b4, .ref b5, .ref b6, .ref b7, .ref b8, .int b9, .ref b10, .ref b11, .ref b12, .ref b13, .ref b14, .ref b15])), (b10, .inl (G.2 0, 240, .inl b16)), (b14, .inl (G.2 0, 242, .inl e0))] ∧ (zR e0 0 240)) A) ([.ref b0] : List Value).toArray s m_s2_Machine_gatherFirsts.cells m_s2_Machine_gatherFirsts.slots A) (F0 m 4 ls []) by
    exact key 242 (0) (0) (b17) _ _ _ (zI.wk (l' := 0) (h' := 241) zc_0 (by decide)) (zI.wk (l' := 0) (h' := 240) zc_0 (by decide)) hb17 (zm_upi (zI.wk (l' := 0) (h' := 241) zc_0 (by decide)) (by decide)) hP hD hS (lv_sub hl [0, 1, 2] rfl)
  intro k_39
  induction k_39 with
  | zero =>
    intro y_40 y_41 y_42 H locs ls hy_40 hy_41 hy_42 hmk_39 hP hD hS hl
    exact (zm_up0 hy_40 hmk_39).elim
  | succ k_39 ihk_39 =>
    intro y_40 y_41 y_42 H locs ls hy_40 hy_41 hy_42 hmk_39 hP hD hS hl
    refine lv_iload_n hx hb d_Machine_gatherFirsts_4 rfl (lv_at hl 0 rfl) ?_
    refine lv_aload_n hx hb d_Machine_gatherFirsts_5 rfl (lv_at hl 2 rfl) ?_
    refine va_get (D := G.1) (ci := 5) (v := .int b2) (C := R_Machine) (T := F_Machine) (N := 15) hx hb hts i_Machine hown hK hP 0 rfl rfl 1 (by decide) (hts _ q168) (fun _ h9 => h9) rfl d_Machine_gatherFirsts_6 ?_
    refine lv_icmp_ge (tgt := 48) hx hb d_Machine_gatherFirsts_9 (by decide) (fun hc_43 => ?_) (fun hc_43 => ?_)
    · have _nhc_43 := hc_43
      have ni_44 := (fa_le _ _).mp hc_43
      refine lv_aload_n hx hb d_Machine_gatherFirsts_48 rfl (lv_at hl 2 rfl) ?_
      refine va_get (D := G.1) (ci := 5) (v := .ref b14) (C := R_Machine) (T := F_Machine) (N := 15) hx hb hts i_Machine hown hK hP 0 rfl rfl 13 (by decide) (hts _ q195) (fun _ h9 => h9) rfl d_Machine_gatherFirsts_49 ?_
      refine lv_aload_n hx hb d_Machine_gatherFirsts_52 rfl (lv_at hl 2 rfl) ?_
      refine va_get (D := G.1) (ci := 5) (v := .int b2) (C := R_Machine) (T := F_Machine) (N := 15) hx hb hts i_Machine hown hK hP 0 rfl rfl 1 (by decide) (hts _ q168) (fun _ h9 => h9) rfl d_Machine_gatherFirsts_53 ?_
      refine lv_aload_n hx hb d_Machine_gatherFirsts_56 rfl (lv_at hl 2 rfl) ?_
      refine va_get (D := G.1) (ci := 5) (v := .int b9) (C := R_Machine) (T := F_Machine) (N := 15) hx hb hts i_Machine hown hK hP 0 rfl rfl 8 (by decide) (hts _ q184) (fun _ h9 => h9) rfl d_Machine_gatherFirsts_57 ?_
      refine va_iast hx hb hK hP hD hS 2 0 rfl rfl (zI.inn hb2 (by decide)) d_Machine_gatherFirsts_60 (fun H locs hP hD hS => ?_)
      obtain ⟨f_45, hf_45, gf_45, uf_45, hP, hD⟩ := z_newfu 2 hP hD rfl hy_42 hb9
      have hP : va_P G.1 classes [(b0, .inr (5, [.int b1, .int b2, .ref b3, .ref b4, .ref b5, .ref b6, .ref b7, .ref b8, .int b9, .ref b10, .ref b11, .ref b12, .ref b13, .ref b14, .ref b15])), (b10, .inl (G.2 0, 240, .inl b16)), (b14, .inl (G.2 0, 242, .inl f_45))] H := hP
      have hD := z_tie hP hD rfl
      exact z_vret hx hb hr hlocks hP hD hS (Nat.le_of_ble_eq_true rfl) (Nat.le_of_ble_eq_true rfl) d_Machine_gatherFirsts_61 ⟨f_45, rfl, rfl, hf_45⟩
    · have _nhc_43 := hc_43
      have ni_46 := (fa_lt _ _).mp (zi_nle hc_43)
      have hv_47 : zI y_40 0 240 := zI.lt_l hy_40 hb2 (zi_nle hc_43) (by decide)
      have hv_48 : zI b2 1 241 := zI.lt_r hy_40 hb2 (zi_nle hc_43) (by decide)
      refine lv_aload_n hx hb d_Machine_gatherFirsts_12 rfl (lv_at hl 2 rfl) ?_
      refine va_get (D := G.1) (ci := 5) (v := .ref b14) (C := R_Machine) (T := F_Machine) (N := 15) hx hb hts i_Machine hown hK hP 0 rfl rfl 13 (by decide) (hts _ q195) (fun _ h9 => h9) rfl d_Machine_gatherFirsts_13 ?_
      refine lv_iload_n hx hb d_Machine_gatherFirsts_16 rfl (lv_at hl 0 rfl) ?_
      refine lv_iload_n hx hb d_Machine_gatherFirsts_17 rfl (lv_at hl 1 rfl) ?_
      refine va_iast hx hb hK hP hD hS 2 0 rfl rfl (zI.inn hv_47 (by decide)) d_Machine_gatherFirsts_18 (fun H locs hP hD hS => ?_)
      obtain ⟨f_49, hf_49, gf_49, uf_49, hP, hD⟩ := z_newfu 2 hP hD rfl hy_42 hy_41
      have hP : va_P G.1 classes [(b0, .inr (5, [.int b1, .int b2, .ref b3, .ref b4, .ref b5, .ref b6, .ref b7, .ref b8, .int b9, .ref b10, .ref b11, .ref b12, .ref b13, .ref b14, .ref b15])), (b10, .inl (G.2 0, 240, .inl b16)), (b14, .inl (G.2 0, 242, .inl f_49))] H := hP
      have hD := z_tie hP hD rfl
      suffices key : ∀ (k_64 : Nat) (y_65 : Int32) (H : Heap) (locs : List Loc) (ls : Array Slot), (zI y_65 0 240) → (240 : Int) - y_65.toInt < (k_64 : Int) → va_P G.1 classes [(b0, .inr (5, [.int b1, .int b2, .ref b3, .ref b4, .ref b5, .ref b6, .ref b7, .ref b8, .int b9, .ref b10, .ref b11, .ref b12, .ref b13, .ref b14, .ref b15])), (b10, .inl (G.2 0, 240, .inl b16)), (b14, .inl (G.2 0, 242, .inl f_49))] H → va_D A [(b0, .inr (5, [.int b1, .int b2, .ref b3, .ref b4, .ref b5, .ref b6, .ref b7, .ref b8, .int b9, .ref b10, .ref b11, .ref b12, .ref b13, .ref b14, .ref b15])), (b10, .inl (G.2 0, 240, .inl b16)), (b14, .inl (G.2 0, 242, .inl f_49))] → va_S A s.heap H locs → lv_has ls 3 [(2, .int y_40), (1, .int y_65), (0, .ref b0)] → W p l e m_s2_Machine_gatherFirsts s m ([.ref b0] : List Value).toArray below meth c H locs 0 0 (MQ below (zQ G (fun v w => ∃ (e0 : Nat → Int32), v = none ∧ w = [(b0, .inr (5, [.int b1, .int b2, .ref b3, .ref b4, .ref b5, .ref b6, .ref b7, .ref b8, .int b9, .ref b10, .ref b11, .ref b12, .ref b13, .ref b14, .ref b15])), (b10, .inl (G.2 0, 240, .inl b16)), (b14, .inl (G.2 0, 242, .inl e0))] ∧ (zR e0 0 240)) A) ([.ref b0] : List Value).toArray s m_s2_Machine_gatherFirsts.cells m_s2_Machine_gatherFirsts.slots A) (F0 m 19 ls []) by
        exact key 241 (y_41) _ _ _ hy_41 (zm_upi hy_41 (by decide)) hP hD hS (lv_sub hl [0, 1, 2] rfl)
      intro k_64
      induction k_64 with
      | zero =>
        intro y_65 H locs ls hy_65 hmk_64 hP hD hS hl
        exact (zm_up0 hy_65 hmk_64).elim
      | succ k_64 ihk_64 =>
        intro y_65 H locs ls hy_65 hmk_64 hP hD hS hl
        refine lv_iload_n hx hb d_Machine_gatherFirsts_19 rfl (lv_at hl 1 rfl) ?_
        refine lv_aload_n hx hb d_Machine_gatherFirsts_20 rfl (lv_at hl 2 rfl) ?_
        refine va_get (D := G.1) (ci := 5) (v := .int b9) (C := R_Machine) (T := F_Machine) (N := 15) hx hb hts i_Machine hown hK hP 0 rfl rfl 8 (by decide) (hts _ q184) (fun _ h9 => h9) rfl d_Machine_gatherFirsts_21 ?_
        refine lv_icmp_ge (tgt := 42) hx hb d_Machine_gatherFirsts_24 (by decide) (fun hc_66 => ?_) (fun hc_66 => ?_)
        · have _nhc_66 := hc_66
          have ni_67 := (fa_le _ _).mp hc_66
          obtain ⟨v_68, ev_68⟩ : ∃ z : Int32, z = y_40 + 1 := ⟨_, rfl⟩
          obtain ⟨qv_68, hv_68⟩ := zI_add (l := 1) (h := 241) hv_47 zc_1 ev_68 (by decide)
          rw [li_1] at qv_68
          refine lv_iinc (v := v_68) (lv' := [(2, .int v_68), (1, .int y_65), (0, .ref b0)]) hx hb d_Machine_gatherFirsts_42 hl (k := 0) rfl (by rw [ev_68]; rfl) (by decide) rfl (fun ls hl => ?_)
          refine lv_goto (tgt := 4) hx hb d_Machine_gatherFirsts_45 (by decide) ?_
          exact ihk_39 (v_68) (y_65) (f_49) _ _ _ (zI.wk (l' := 0) (h' := 241) hv_68 (by decide)) hy_65 hf_49 (zm_up qv_68 hmk_39 (by decide)) hP hD hS (lv_sub hl [0, 1, 2] rfl)
        · have _nhc_66 := hc_66
          have ni_69 := (fa_lt _ _).mp (zi_nle hc_66)
          have hv_70 : zI y_65 0 239 := zI.lt_l hy_65 hb9 (zi_nle hc_66) (by decide)
          have hv_71 : zI b9 1 240 := zI.lt_r hy_65 hb9 (zi_nle hc_66) (by decide)
          refine lv_aload_n hx hb d_Machine_gatherFirsts_27 rfl (lv_at hl 2 rfl) ?_
          refine lv_iload_n hx hb d_Machine_gatherFirsts_28 rfl (lv_at hl 1 rfl) ?_
          refine z_callV (index := 133) (As := [.int y_65]) (rest := []) (wr := [(b14, .inl (G.2 0, 242, .inl f_49))]) Z (s1_Machine_from l G (b0) (y_65) (b1) (b2) (b3) (b4) (b5) (b6) (b7) (b8) (b9) (b10) (b11) (b12) (b13) (b14) (b15) (b16) hv_70 hb1 (zI.wk (l' := 0) (h' := 241) hv_48 (by decide)) (zI.wk (l' := 0) (h' := 240) hv_71 (by decide)) hb16) hl.1 q660 q661 q662 q6 q663 ⟨by decide, by decide, by show _ = some 1; decide +kernel⟩ ⟨Nat.le_of_ble_eq_true rfl, Nat.le_of_ble_eq_true rfl⟩ ⟨Nat.le_of_ble_eq_true rfl, Nat.le_of_ble_eq_true rfl⟩ rfl (Nat.le_of_ble_eq_true rfl) d_Machine_gatherFirsts_29 hP hD hS hA 0 5 rfl rfl rfl [0, 1] [2] rfl rfl rfl rfl (by decide) (fun v w1 H locs hw_72 hP hD hS => ?_)
          obtain ⟨x_73, rfl, rfl, hx_73⟩ := hw_72
          have hP : va_P G.1 classes [(b14, .inl (G.2 0, 242, .inl f_49)), (b0, .inr (5, [.int b1, .int b2, .ref b3, .ref b4, .ref b5, .ref b6, .ref b7, .ref b8, .int b9, .ref b10, .ref b11, .ref b12, .ref b13, .ref b14, .ref b15])), (b10, .inl (G.2 0, 240, .inl b16))] H := hP
          have hD := z_tie hP hD rfl
          refine W.widen (k := 0) (n := 0) (Nat.le_of_ble_eq_true rfl) (Nat.le_of_ble_eq_true rfl) ?_
          refine lv_iload_n hx hb d_Machine_gatherFirsts_32 rfl (lv_at hl 0 rfl) ?_
          refine lv_icmp_ne (tgt := 42) hx hb d_Machine_gatherFirsts_33 (by decide) (fun hc_74 => ?_) (fun hc_74 => ?_)
          · have _nhc_74 := hc_74
            have ni_75 : ¬ (x_73 : Int32).toInt = (y_40 : Int32).toInt := fun z => hc_74 ((fa_eq _ _).mpr z)
            obtain ⟨v_76, ev_76⟩ : ∃ z : Int32, z = y_40 + 1 := ⟨_, rfl⟩
            obtain ⟨qv_76, hv_76⟩ := zI_add (l := 1) (h := 241) hv_47 zc_1 ev_76 (by decide)
            rw [li_1] at qv_76
            refine lv_iinc (v := v_76) (lv' := [(2, .int v_76), (1, .int y_65), (0, .ref b0)]) hx hb d_Machine_gatherFirsts_42 hl (k := 0) rfl (by rw [ev_76]; rfl) (by decide) rfl (fun ls hl => ?_)
            refine lv_goto (tgt := 4) hx hb d_Machine_gatherFirsts_45 (by decide) ?_
            exact ihk_39 (v_76) (y_65) (f_49) _ _ _ (zI.wk (l' := 0) (h' := 241) hv_76 (by decide)) (zI.wk (l' := 0) (h' := 240) hv_70 (by decide)) hf_49 (zm_up qv_76 hmk_39 (by decide)) (hP.sub [1, 2, 0] rfl) (hD.sub [1, 2, 0] (by decide) rfl) hS (lv_sub hl [0, 1, 2] rfl)
          · have _nhc_74 := hc_74
            have ni_77 := (fa_eq _ _).mp hc_74
            obtain ⟨v_78, ev_78⟩ : ∃ z : Int32, z = y_65 + 1 := ⟨_, rfl⟩
            obtain ⟨qv_78, hv_78⟩ := zI_add (l := 1) (h := 240) hv_70 zc_1 ev_78 (by decide)
            rw [li_1] at qv_78
            refine lv_iinc (v := v_78) (lv' := [(1, .int v_78), (2, .int y_40), (0, .ref b0)]) hx hb d_Machine_gatherFirsts_36 hl (k := 1) rfl (by rw [ev_78]; rfl) (by decide) rfl (fun ls hl => ?_)
            refine lv_goto (tgt := 19) hx hb d_Machine_gatherFirsts_39 (by decide) ?_
            exact ihk_64 (v_78) _ _ _ (zI.wk (l' := 0) (h' := 240) hv_78 (by decide)) (zm_up qv_78 hmk_64 (by decide)) (hP.sub [1, 2, 0] rfl) (hD.sub [1, 2, 0] (by decide) rfl) hS (lv_sub hl [1, 0, 2] rfl)
theorem d_Follows_hashOf_0 : decode prog_3_method_6_code 0 = .ok (.iconst 0, 1) := by decide +kernel
theorem d_Follows_hashOf_1 : decode prog_3_method_6_code 1 = .ok (.istore_n 2, 1) := by decide +kernel
theorem d_Follows_hashOf_2 : decode prog_3_method_6_code 2 = .ok (.iload_n 1, 1) := by decide +kernel
theorem d_Follows_hashOf_3 : decode prog_3_method_6_code 3 = .ok (.bipush 20, 2) := by decide +kernel
theorem d_Follows_hashOf_5 : decode prog_3_method_6_code 5 = .ok (.imul, 1) := by decide +kernel
theorem d_Follows_hashOf_6 : decode prog_3_method_6_code 6 = .ok (.istore_n 3, 1) := by decide +kernel
theorem d_Follows_hashOf_7 : decode prog_3_method_6_code 7 = .ok (.iload_n 3, 1) := by decide +kernel
theorem d_Follows_hashOf_8 : decode prog_3_method_6_code 8 = .ok (.istore 4, 2) := by decide +kernel
theorem d_Follows_hashOf_10 : decode prog_3_method_6_code 10 = .ok (.iload 4, 2) := by decide +kernel
theorem d_Follows_hashOf_12 : decode prog_3_method_6_code 12 = .ok (.iload_n 3, 1) := by decide +kernel
theorem d_Follows_hashOf_13 : decode prog_3_method_6_code 13 = .ok (.aload_n 0, 1) := by decide +kernel
theorem d_Follows_hashOf_14 : decode prog_3_method_6_code 14 = .ok (.getfield 9, 3) := by decide +kernel
theorem d_Follows_hashOf_17 : decode prog_3_method_6_code 17 = .ok (.iload_n 1, 1) := by decide +kernel
theorem d_Follows_hashOf_18 : decode prog_3_method_6_code 18 = .ok (.iaload, 1) := by decide +kernel
theorem d_Follows_hashOf_19 : decode prog_3_method_6_code 19 = .ok (.iadd, 1) := by decide +kernel
theorem d_Follows_hashOf_20 : decode prog_3_method_6_code 20 = .ok (.if_icmp .ge 24, 3) := by decide +kernel
theorem d_Follows_hashOf_23 : decode prog_3_method_6_code 23 = .ok (.bipush 31, 2) := by decide +kernel
theorem d_Follows_hashOf_25 : decode prog_3_method_6_code 25 = .ok (.iload_n 2, 1) := by decide +kernel
theorem d_Follows_hashOf_26 : decode prog_3_method_6_code 26 = .ok (.imul, 1) := by decide +kernel
theorem d_Follows_hashOf_27 : decode prog_3_method_6_code 27 = .ok (.aload_n 0, 1) := by decide +kernel
theorem d_Follows_hashOf_28 : decode prog_3_method_6_code 28 = .ok (.getfield 15, 3) := by decide +kernel
theorem d_Follows_hashOf_31 : decode prog_3_method_6_code 31 = .ok (.iload 4, 2) := by decide +kernel
theorem d_Follows_hashOf_33 : decode prog_3_method_6_code 33 = .ok (.iaload, 1) := by decide +kernel
theorem d_Follows_hashOf_34 : decode prog_3_method_6_code 34 = .ok (.iadd, 1) := by decide +kernel
theorem d_Follows_hashOf_35 : decode prog_3_method_6_code 35 = .ok (.iconst 1, 1) := by decide +kernel
theorem d_Follows_hashOf_36 : decode prog_3_method_6_code 36 = .ok (.iadd, 1) := by decide +kernel
theorem d_Follows_hashOf_37 : decode prog_3_method_6_code 37 = .ok (.istore_n 2, 1) := by decide +kernel
theorem d_Follows_hashOf_38 : decode prog_3_method_6_code 38 = .ok (.iinc 4 1, 3) := by decide +kernel
theorem d_Follows_hashOf_41 : decode prog_3_method_6_code 41 = .ok (.goto (-31), 3) := by decide +kernel
theorem d_Follows_hashOf_44 : decode prog_3_method_6_code 44 = .ok (.iload_n 2, 1) := by decide +kernel
theorem d_Follows_hashOf_45 : decode prog_3_method_6_code 45 = .ok (.iload_n 2, 1) := by decide +kernel
theorem d_Follows_hashOf_46 : decode prog_3_method_6_code 46 = .ok (.bipush 9, 2) := by decide +kernel
theorem d_Follows_hashOf_48 : decode prog_3_method_6_code 48 = .ok (.iushr, 1) := by decide +kernel
theorem d_Follows_hashOf_49 : decode prog_3_method_6_code 49 = .ok (.ixor, 1) := by decide +kernel
theorem d_Follows_hashOf_50 : decode prog_3_method_6_code 50 = .ok (.ireturn, 1) := by decide +kernel
abbrev m_s1_Follows_hashOf : Room := { frames := 0, cells := 0, slots := 0, locals := 0 }
set_option maxHeartbeats 4000000 in
set_option maxRecDepth 100000 in
theorem s1_Follows_hashOf (l : Launch) (G : zG) (b0 : Nat) (b1 : Int32) (b2 : Nat) (b3 : Nat) (b4 : Nat) (b5 : Nat → Int32) (b6 : Nat → Int32) (hb1 : zI b1 0 240) (hb5 : zqa qC b5) : zM l G y_Follows_hashOf prog_3_method_6_code 5 (Option.some Jvm.ClassFile.FieldType.int) m_s1_Follows_hashOf [.ref b0, .int b1] [(b0, .inr (4, [.ref b2, .ref b3, .ref b4])), (b2, .inl (G.2 0, 241, .inl b5)), (b3, .inl (G.2 0, 4820, .inl b6))] (fun v w => ∃ (e0 : Int32), v = some (.int e0) ∧ w = [(b0, .inr (4, [.ref b2, .ref b3, .ref b4])), (b2, .inl (G.2 0, 241, .inl b5)), (b3, .inl (G.2 0, 4820, .inl b6))]) := by
  refine z_start (by decide +kernel) (Nat.le_of_ble_eq_true rfl) ?_
  intro p e s m below meth c A Z hr hnm hA hP hD hS ls hl
  have Z : zC p s m _ meth c prog_3_method_6_code 5 "TraceMachines$Follows" G := Z
  obtain ⟨hx, hb, hml, hown, hts, hK, hN, hlocks⟩ := id Z
  have hl : lv_has ls 5 [(0, .ref b0), (1, .int b1)] := hl
  refine lv_iconst (v := 0) hx hb d_Follows_hashOf_0 (by decide) ?_
  refine lv_istore_n (lv' := [(2, .int 0), (0, .ref b0), (1, .int b1)]) hx hb d_Follows_hashOf_1 rfl hl (by decide) rfl (fun ls hl => ?_)
  refine lv_iload_n hx hb d_Follows_hashOf_2 rfl (lv_at hl 2 rfl) ?_
  refine lv_bipush (v := 20) hx hb d_Follows_hashOf_3 (by decide) ?_
  refine lv_imul hx hb d_Follows_hashOf_5 ?_
  refine lv_topi (fun v_1 ev_1 => ?_)
  obtain ⟨qv_1, hv_1⟩ := zI_mul (l := 0) (h := 4800) hb1 zc_20 ev_1 (by decide)
  rw [li_20] at qv_1
  refine lv_istore_n (lv' := [(3, .int v_1), (2, .int 0), (0, .ref b0), (1, .int b1)]) hx hb d_Follows_hashOf_6 rfl hl (by decide) rfl (fun ls hl => ?_)
  refine lv_iload_n hx hb d_Follows_hashOf_7 rfl (lv_at hl 0 rfl) ?_
  refine lv_istore (lv' := [(4, .int v_1), (3, .int v_1), (2, .int 0), (0, .ref b0), (1, .int b1)]) hx hb d_Follows_hashOf_8 hl (by decide) rfl (fun ls hl => ?_)
  suffices key : ∀ (k_19 : Nat) (y_20 : Int32) (y_21 : Int32) (H : Heap) (locs : List Loc) (ls : Array Slot), (zI y_20 0 4820) → (4820 : Int) - y_20.toInt < (k_19 : Int) → va_P G.1 classes [(b0, .inr (4, [.ref b2, .ref b3, .ref b4])), (b2, .inl (G.2 0, 241, .inl b5)), (b3, .inl (G.2 0, 4820, .inl b6))] H → va_D A [(b0, .inr (4, [.ref b2, .ref b3, .ref b4])), (b2, .inl (G.2 0, 241, .inl b5)), (b3, .inl (G.2 0, 4820, .inl b6))] → va_S A s.heap H locs → lv_has ls 5 [(4, .int y_20), (3, .int v_1), (2, .int y_21), (0, .ref b0), (1, .int b1)] → W p l e m_s1_Follows_hashOf s m ([.ref b0, .int b1] : List Value).toArray below meth c H locs 0 0 (MQ below (zQ G (fun v w => ∃ (e0 : Int32), v = some (.int e0) ∧ w = [(b0, .inr (4, [.ref b2, .ref b3, .ref b4])), (b2, .inl (G.2 0, 241, .inl b5)), (b3, .inl (G.2 0, 4820, .inl b6))]) A) ([.ref b0, .int b1] : List Value).toArray s m_s1_Follows_hashOf.cells m_s1_Follows_hashOf.slots A) (F0 m 10 ls []) by
    exact key 4821 (v_1) (0) _ _ _ (zI.wk (l' := 0) (h' := 4820) hv_1 (by decide)) (zm_upi (zI.wk (l' := 0) (h' := 4820) hv_1 (by decide)) (by decide)) hP hD hS (lv_sub hl [0, 1, 2, 3, 4] rfl)
  intro k_19
  induction k_19 with
  | zero =>
    intro y_20 y_21 H locs ls hy_20 hmk_19 hP hD hS hl
    exact (zm_up0 hy_20 hmk_19).elim
  | succ k_19 ihk_19 =>
    intro y_20 y_21 H locs ls hy_20 hmk_19 hP hD hS hl
    refine lv_iload hx hb d_Follows_hashOf_10 (lv_at hl 0 rfl) ?_
    refine lv_iload_n hx hb d_Follows_hashOf_12 rfl (lv_at hl 1 rfl) ?_
    refine lv_aload_n hx hb d_Follows_hashOf_13 rfl (lv_at hl 3 rfl) ?_
    refine va_get (D := G.1) (ci := 4) (v := .ref b2) (C := R_Follows) (T := F_Follows) (N := 3) hx hb hts i_Follows hown hK hP 0 rfl rfl 0 (by decide) (hts _ q146) (fun _ h9 => h9) rfl d_Follows_hashOf_14 ?_
    refine lv_iload_n hx hb d_Follows_hashOf_17 rfl (lv_at hl 4 rfl) ?_
    refine va_iald hx hb hK hP 1 0 rfl rfl (zI.inn hb1 (by decide)) d_Follows_hashOf_18 ?_
    refine lv_topi (fun v_22 ev_22 => ?_)
    obtain ⟨hv_22, kv_22⟩ := zQC.ld hb5 hb1 ev_22 (by decide)
    refine lv_iadd hx hb d_Follows_hashOf_19 ?_
    refine lv_topi (fun v_23 ev_23 => ?_)
    obtain ⟨qv_23, hv_23⟩ := zI_add (l := 0) (h := 5060) hv_1 hv_22 ev_23 (by decide)
    refine lv_icmp_ge (tgt := 44) hx hb d_Follows_hashOf_20 (by decide) (fun hc_24 => ?_) (fun hc_24 => ?_)
    · have _nhc_24 := hc_24
      have ni_25 := (fa_le _ _).mp hc_24
      have hv_26 : zI v_23 0 4820 := zI.le_l hv_23 hy_20 hc_24 (by decide)
      refine lv_iload_n hx hb d_Follows_hashOf_44 rfl (lv_at hl 2 rfl) ?_
      refine lv_iload_n hx hb d_Follows_hashOf_45 rfl (lv_at hl 2 rfl) ?_
      refine lv_bipush (v := 9) hx hb d_Follows_hashOf_46 (by decide) ?_
      obtain ⟨v_27, ev_27⟩ : ∃ z : Int32, z = ((y_21).toUInt32 >>> ((9 : Int32).toUInt32 &&& Int32.toUInt32 31)).toInt32 := ⟨_, rfl⟩
      refine lv_iushr (v := v_27) hx hb d_Follows_hashOf_48 ev_27.symm ?_
      refine lv_ixor hx hb d_Follows_hashOf_49 ?_
      refine lv_topi (fun v_28 ev_28 => ?_)
      exact z_iret hx hb hr hlocks hP hD hS (Nat.le_of_ble_eq_true rfl) (Nat.le_of_ble_eq_true rfl) d_Follows_hashOf_50 ⟨v_28, rfl, rfl⟩
    · have _nhc_24 := hc_24
      have ni_29 := (fa_lt _ _).mp (zi_nle hc_24)
      have hv_30 : zI v_23 1 5060 := zI.lt_r hy_20 hv_23 (zi_nle hc_24) (by decide)
      refine lv_bipush (v := 31) hx hb d_Follows_hashOf_23 (by decide) ?_
      refine lv_iload_n hx hb d_Follows_hashOf_25 rfl (lv_at hl 2 rfl) ?_
      refine lv_imul hx hb d_Follows_hashOf_26 ?_
      refine lv_topi (fun v_31 ev_31 => ?_)
      refine lv_aload_n hx hb d_Follows_hashOf_27 rfl (lv_at hl 3 rfl) ?_
      refine va_get (D := G.1) (ci := 4) (v := .ref b3) (C := R_Follows) (T := F_Follows) (N := 3) hx hb hts i_Follows hown hK hP 0 rfl rfl 1 (by decide) (hts _ q148) (fun _ h9 => h9) rfl d_Follows_hashOf_28 ?_
      refine lv_iload hx hb d_Follows_hashOf_31 (lv_at hl 0 rfl) ?_
      have hv_32 : zI y_20 0 4819 := ⟨by omega, by omega⟩
      refine va_iald hx hb hK hP 2 0 rfl rfl (zI.inn hv_32 (by decide)) d_Follows_hashOf_33 ?_
      refine lv_topi (fun v_33 ev_33 => ?_)
      refine lv_iadd hx hb d_Follows_hashOf_34 ?_
      refine lv_topi (fun v_34 ev_34 => ?_)
      refine lv_iconst (v := 1) hx hb d_Follows_hashOf_35 (by decide) ?_
      refine lv_iadd hx hb d_Follows_hashOf_36 ?_
      refine lv_topi (fun v_35 ev_35 => ?_)
      refine lv_istore_n (lv' := [(2, .int v_35), (4, .int y_20), (3, .int v_1), (0, .ref b0), (1, .int b1)]) hx hb d_Follows_hashOf_37 rfl hl (by decide) rfl (fun ls hl => ?_)
      obtain ⟨v_36, ev_36⟩ : ∃ z : Int32, z = y_20 + 1 := ⟨_, rfl⟩
      obtain ⟨qv_36, hv_36⟩ := zI_add (l := 1) (h := 4820) hv_32 zc_1 ev_36 (by decide)
      rw [li_1] at qv_36
      refine lv_iinc (v := v_36) (lv' := [(4, .int v_36), (2, .int v_35), (3, .int v_1), (0, .ref b0), (1, .int b1)]) hx hb d_Follows_hashOf_38 hl (k := 1) rfl (by rw [ev_36]; rfl) (by decide) rfl (fun ls hl => ?_)
      refine lv_goto (tgt := 10) hx hb d_Follows_hashOf_41 (by decide) ?_
      exact ihk_19 (v_36) (v_35) _ _ _ (zI.wk (l' := 0) (h' := 4820) hv_36 (by decide)) (zm_up qv_36 hmk_19 (by decide)) hP hD hS (lv_sub hl [0, 2, 1, 3, 4] rfl)
theorem d_Follows_isLike_0 : decode prog_3_method_7_code 0 = .ok (.aload_n 0, 1) := by decide +kernel
theorem d_Follows_isLike_1 : decode prog_3_method_7_code 1 = .ok (.getfield 9, 3) := by decide +kernel
theorem d_Follows_isLike_4 : decode prog_3_method_7_code 4 = .ok (.iload_n 1, 1) := by decide +kernel
theorem d_Follows_isLike_5 : decode prog_3_method_7_code 5 = .ok (.iaload, 1) := by decide +kernel
theorem d_Follows_isLike_6 : decode prog_3_method_7_code 6 = .ok (.aload_n 0, 1) := by decide +kernel
theorem d_Follows_isLike_7 : decode prog_3_method_7_code 7 = .ok (.getfield 9, 3) := by decide +kernel
theorem d_Follows_isLike_10 : decode prog_3_method_7_code 10 = .ok (.iload_n 2, 1) := by decide +kernel
theorem d_Follows_isLike_11 : decode prog_3_method_7_code 11 = .ok (.iaload, 1) := by decide +kernel
theorem d_Follows_isLike_12 : decode prog_3_method_7_code 12 = .ok (.if_icmp .eq 5, 3) := by decide +kernel
theorem d_Follows_isLike_15 : decode prog_3_method_7_code 15 = .ok (.iconst 0, 1) := by decide +kernel
theorem d_Follows_isLike_16 : decode prog_3_method_7_code 16 = .ok (.ireturn, 1) := by decide +kernel
theorem d_Follows_isLike_17 : decode prog_3_method_7_code 17 = .ok (.iconst 0, 1) := by decide +kernel
theorem d_Follows_isLike_18 : decode prog_3_method_7_code 18 = .ok (.istore_n 3, 1) := by decide +kernel
theorem d_Follows_isLike_19 : decode prog_3_method_7_code 19 = .ok (.iload_n 3, 1) := by decide +kernel
theorem d_Follows_isLike_20 : decode prog_3_method_7_code 20 = .ok (.aload_n 0, 1) := by decide +kernel
theorem d_Follows_isLike_21 : decode prog_3_method_7_code 21 = .ok (.getfield 9, 3) := by decide +kernel
theorem d_Follows_isLike_24 : decode prog_3_method_7_code 24 = .ok (.iload_n 1, 1) := by decide +kernel
theorem d_Follows_isLike_25 : decode prog_3_method_7_code 25 = .ok (.iaload, 1) := by decide +kernel
theorem d_Follows_isLike_26 : decode prog_3_method_7_code 26 = .ok (.if_icmp .ge 36, 3) := by decide +kernel
theorem d_Follows_isLike_29 : decode prog_3_method_7_code 29 = .ok (.aload_n 0, 1) := by decide +kernel
theorem d_Follows_isLike_30 : decode prog_3_method_7_code 30 = .ok (.getfield 15, 3) := by decide +kernel
theorem d_Follows_isLike_33 : decode prog_3_method_7_code 33 = .ok (.iload_n 1, 1) := by decide +kernel
theorem d_Follows_isLike_34 : decode prog_3_method_7_code 34 = .ok (.bipush 20, 2) := by decide +kernel
theorem d_Follows_isLike_36 : decode prog_3_method_7_code 36 = .ok (.imul, 1) := by decide +kernel
theorem d_Follows_isLike_37 : decode prog_3_method_7_code 37 = .ok (.iload_n 3, 1) := by decide +kernel
theorem d_Follows_isLike_38 : decode prog_3_method_7_code 38 = .ok (.iadd, 1) := by decide +kernel
theorem d_Follows_isLike_39 : decode prog_3_method_7_code 39 = .ok (.iaload, 1) := by decide +kernel
theorem d_Follows_isLike_40 : decode prog_3_method_7_code 40 = .ok (.aload_n 0, 1) := by decide +kernel
theorem d_Follows_isLike_41 : decode prog_3_method_7_code 41 = .ok (.getfield 15, 3) := by decide +kernel
theorem d_Follows_isLike_44 : decode prog_3_method_7_code 44 = .ok (.iload_n 2, 1) := by decide +kernel
theorem d_Follows_isLike_45 : decode prog_3_method_7_code 45 = .ok (.bipush 20, 2) := by decide +kernel
theorem d_Follows_isLike_47 : decode prog_3_method_7_code 47 = .ok (.imul, 1) := by decide +kernel
theorem d_Follows_isLike_48 : decode prog_3_method_7_code 48 = .ok (.iload_n 3, 1) := by decide +kernel
theorem d_Follows_isLike_49 : decode prog_3_method_7_code 49 = .ok (.iadd, 1) := by decide +kernel
theorem d_Follows_isLike_50 : decode prog_3_method_7_code 50 = .ok (.iaload, 1) := by decide +kernel
theorem d_Follows_isLike_51 : decode prog_3_method_7_code 51 = .ok (.if_icmp .eq 5, 3) := by decide +kernel
theorem d_Follows_isLike_54 : decode prog_3_method_7_code 54 = .ok (.iconst 0, 1) := by decide +kernel
theorem d_Follows_isLike_55 : decode prog_3_method_7_code 55 = .ok (.ireturn, 1) := by decide +kernel
theorem d_Follows_isLike_56 : decode prog_3_method_7_code 56 = .ok (.iinc 3 1, 3) := by decide +kernel
theorem d_Follows_isLike_59 : decode prog_3_method_7_code 59 = .ok (.goto (-40), 3) := by decide +kernel
theorem d_Follows_isLike_62 : decode prog_3_method_7_code 62 = .ok (.iconst 1, 1) := by decide +kernel
theorem d_Follows_isLike_63 : decode prog_3_method_7_code 63 = .ok (.ireturn, 1) := by decide +kernel
abbrev m_s1_Follows_isLike : Room := { frames := 0, cells := 0, slots := 0, locals := 0 }
set_option maxHeartbeats 4000000 in
set_option maxRecDepth 100000 in
theorem s1_Follows_isLike (l : Launch) (G : zG) (b0 : Nat) (b1 : Int32) (b2 : Int32) (b3 : Nat) (b4 : Nat) (b5 : Nat) (b6 : Nat → Int32) (b7 : Nat → Int32) (hb1 : zI b1 0 240) (hb2 : zI b2 0 240) (hb6 : zqa qC b6) : zM l G y_Follows_isLike prog_3_method_7_code 4 (Option.some Jvm.ClassFile.FieldType.boolean) m_s1_Follows_isLike [.ref b0, .int b1, .int b2] [(b0, .inr (4, [.ref b3, .ref b4, .ref b5])), (b3, .inl (G.2 0, 241, .inl b6)), (b4, .inl (G.2 0, 4820, .inl b7))] (fun v w => ∃ (e0 : Int32), v = some (.int e0) ∧ w = [(b0, .inr (4, [.ref b3, .ref b4, .ref b5])), (b3, .inl (G.2 0, 241, .inl b6)), (b4, .inl (G.2 0, 4820, .inl b7))] ∧ (zI e0 0 1)) := by
  refine z_start (by decide +kernel) (Nat.le_of_ble_eq_true rfl) ?_
  intro p e s m below meth c A Z hr hnm hA hP hD hS ls hl
  have Z : zC p s m _ meth c prog_3_method_7_code 4 "TraceMachines$Follows" G := Z
  obtain ⟨hx, hb, hml, hown, hts, hK, hN, hlocks⟩ := id Z
  have hl : lv_has ls 4 [(0, .ref b0), (1, .int b1), (2, .int b2)] := hl
  refine lv_aload_n hx hb d_Follows_isLike_0 rfl (lv_at hl 0 rfl) ?_
  refine va_get (D := G.1) (ci := 4) (v := .ref b3) (C := R_Follows) (T := F_Follows) (N := 3) hx hb hts i_Follows hown hK hP 0 rfl rfl 0 (by decide) (hts _ q146) (fun _ h9 => h9) rfl d_Follows_isLike_1 ?_
  refine lv_iload_n hx hb d_Follows_isLike_4 rfl (lv_at hl 1 rfl) ?_
  refine va_iald hx hb hK hP 1 0 rfl rfl (zI.inn hb1 (by decide)) d_Follows_isLike_5 ?_
  refine lv_topi (fun v_1 ev_1 => ?_)
  obtain ⟨hv_1, kv_1⟩ := zQC.ld hb6 hb1 ev_1 (by decide)
  refine lv_aload_n hx hb d_Follows_isLike_6 rfl (lv_at hl 0 rfl) ?_
  refine va_get (D := G.1) (ci := 4) (v := .ref b3) (C := R_Follows) (T := F_Follows) (N := 3) hx hb hts i_Follows hown hK hP 0 rfl rfl 0 (by decide) (hts _ q146) (fun _ h9 => h9) rfl d_Follows_isLike_7 ?_
  refine lv_iload_n hx hb d_Follows_isLike_10 rfl (lv_at hl 2 rfl) ?_
  refine va_iald hx hb hK hP 1 0 rfl rfl (zI.inn hb2 (by decide)) d_Follows_isLike_11 ?_
  refine lv_topi (fun v_2 ev_2 => ?_)
  obtain ⟨hv_2, kv_2⟩ := zQC.ld hb6 hb2 ev_2 (by decide)
  refine lv_icmp_eq (tgt := 17) hx hb d_Follows_isLike_12 (by decide) (fun hc_3 => ?_) (fun hc_3 => ?_)
  · have _nhc_3 := hc_3
    have ni_4 := (fa_eq _ _).mp hc_3
    refine lv_iconst (v := 0) hx hb d_Follows_isLike_17 (by decide) ?_
    refine lv_istore_n (lv' := [(3, .int 0), (0, .ref b0), (1, .int b1), (2, .int b2)]) hx hb d_Follows_isLike_18 rfl hl (by decide) rfl (fun ls hl => ?_)
    suffices key : ∀ (k_24 : Nat) (y_25 : Int32) (H : Heap) (locs : List Loc) (ls : Array Slot), (zI y_25 0 260) → (260 : Int) - y_25.toInt < (k_24 : Int) → va_P G.1 classes [(b0, .inr (4, [.ref b3, .ref b4, .ref b5])), (b3, .inl (G.2 0, 241, .inl b6)), (b4, .inl (G.2 0, 4820, .inl b7))] H → va_D A [(b0, .inr (4, [.ref b3, .ref b4, .ref b5])), (b3, .inl (G.2 0, 241, .inl b6)), (b4, .inl (G.2 0, 4820, .inl b7))] → va_S A s.heap H locs → lv_has ls 4 [(3, .int y_25), (0, .ref b0), (1, .int b1), (2, .int b2)] → W p l e m_s1_Follows_isLike s m ([.ref b0, .int b1, .int b2] : List Value).toArray below meth c H locs 0 0 (MQ below (zQ G (fun v w => ∃ (e0 : Int32), v = some (.int e0) ∧ w = [(b0, .inr (4, [.ref b3, .ref b4, .ref b5])), (b3, .inl (G.2 0, 241, .inl b6)), (b4, .inl (G.2 0, 4820, .inl b7))] ∧ (zI e0 0 1)) A) ([.ref b0, .int b1, .int b2] : List Value).toArray s m_s1_Follows_isLike.cells m_s1_Follows_isLike.slots A) (F0 m 19 ls []) by
      exact key 261 (0) _ _ _ (zI.wk (l' := 0) (h' := 260) zc_0 (by decide)) (zm_upi (zI.wk (l' := 0) (h' := 260) zc_0 (by decide)) (by decide)) hP hD hS (lv_sub hl [0, 1, 2, 3] rfl)
    intro k_24
    induction k_24 with
    | zero =>
      intro y_25 H locs ls hy_25 hmk_24 hP hD hS hl
      exact (zm_up0 hy_25 hmk_24).elim
    | succ k_24 ihk_24 =>
      intro y_25 H locs ls hy_25 hmk_24 hP hD hS hl
      refine lv_iload_n hx hb d_Follows_isLike_19 rfl (lv_at hl 0 rfl) ?_
      refine lv_aload_n hx hb d_Follows_isLike_20 rfl (lv_at hl 1 rfl) ?_
      refine va_get (D := G.1) (ci := 4) (v := .ref b3) (C := R_Follows) (T := F_Follows) (N := 3) hx hb hts i_Follows hown hK hP 0 rfl rfl 0 (by decide) (hts _ q146) (fun _ h9 => h9) rfl d_Follows_isLike_21 ?_
      refine lv_iload_n hx hb d_Follows_isLike_24 rfl (lv_at hl 2 rfl) ?_
      refine va_iald hx hb hK hP 1 0 rfl rfl (zI.inn hb1 (by decide)) d_Follows_isLike_25 ?_
      refine lv_topi (fun v_26 ev_26 => ?_)
      obtain rfl : v_1 = v_26 := ev_1.trans ev_26.symm
      refine lv_icmp_ge (tgt := 62) hx hb d_Follows_isLike_26 (by decide) (fun hc_27 => ?_) (fun hc_27 => ?_)
      · have _nhc_27 := hc_27
        have ni_28 := (fa_le _ _).mp hc_27
        refine lv_iconst (v := 1) hx hb d_Follows_isLike_62 (by decide) ?_
        exact z_zret hx hb hr hlocks rfl hP hD hS (Nat.le_of_ble_eq_true rfl) (Nat.le_of_ble_eq_true rfl) d_Follows_isLike_63 ⟨1, rfl, rfl, (zI.wk (l' := 0) (h' := 1) zc_1 (by decide))⟩
      · have _nhc_27 := hc_27
        have ni_29 := (fa_lt _ _).mp (zi_nle hc_27)
        have hv_30 : zI y_25 0 259 := zI.lt_l hy_25 hv_1 (zi_nle hc_27) (by decide)
        have hv_31 : zI v_1 1 260 := zI.lt_r hy_25 hv_1 (zi_nle hc_27) (by decide)
        refine lv_aload_n hx hb d_Follows_isLike_29 rfl (lv_at hl 1 rfl) ?_
        refine va_get (D := G.1) (ci := 4) (v := .ref b4) (C := R_Follows) (T := F_Follows) (N := 3) hx hb hts i_Follows hown hK hP 0 rfl rfl 1 (by decide) (hts _ q148) (fun _ h9 => h9) rfl d_Follows_isLike_30 ?_
        refine lv_iload_n hx hb d_Follows_isLike_33 rfl (lv_at hl 2 rfl) ?_
        refine lv_bipush (v := 20) hx hb d_Follows_isLike_34 (by decide) ?_
        refine lv_imul hx hb d_Follows_isLike_36 ?_
        refine lv_topi (fun v_32 ev_32 => ?_)
        obtain ⟨qv_32, hv_32⟩ := zI_mul (l := 0) (h := 4800) hb1 zc_20 ev_32 (by decide)
        rw [li_20] at qv_32
        refine lv_iload_n hx hb d_Follows_isLike_37 rfl (lv_at hl 0 rfl) ?_
        refine lv_iadd hx hb d_Follows_isLike_38 ?_
        refine lv_topi (fun v_33 ev_33 => ?_)
        obtain ⟨qv_33, hv_33⟩ := zI_add (l := 0) (h := 5059) hv_32 hv_30 ev_33 (by decide)
        have hv_34 : zI v_33 0 4819 := ⟨by omega, by omega⟩
        refine va_iald hx hb hK hP 2 0 rfl rfl (zI.inn hv_34 (by decide)) d_Follows_isLike_39 ?_
        refine lv_topi (fun v_35 ev_35 => ?_)
        refine lv_aload_n hx hb d_Follows_isLike_40 rfl (lv_at hl 1 rfl) ?_
        refine va_get (D := G.1) (ci := 4) (v := .ref b4) (C := R_Follows) (T := F_Follows) (N := 3) hx hb hts i_Follows hown hK hP 0 rfl rfl 1 (by decide) (hts _ q148) (fun _ h9 => h9) rfl d_Follows_isLike_41 ?_
        refine lv_iload_n hx hb d_Follows_isLike_44 rfl (lv_at hl 3 rfl) ?_
        refine lv_bipush (v := 20) hx hb d_Follows_isLike_45 (by decide) ?_
        refine lv_imul hx hb d_Follows_isLike_47 ?_
        refine lv_topi (fun v_36 ev_36 => ?_)
        obtain ⟨qv_36, hv_36⟩ := zI_mul (l := 0) (h := 4800) hb2 zc_20 ev_36 (by decide)
        rw [li_20] at qv_36
        refine lv_iload_n hx hb d_Follows_isLike_48 rfl (lv_at hl 0 rfl) ?_
        refine lv_iadd hx hb d_Follows_isLike_49 ?_
        refine lv_topi (fun v_37 ev_37 => ?_)
        obtain ⟨qv_37, hv_37⟩ := zI_add (l := 0) (h := 5059) hv_36 hv_30 ev_37 (by decide)
        have hv_38 : zI v_37 0 4819 := ⟨by omega, by omega⟩
        refine va_iald hx hb hK hP 2 0 rfl rfl (zI.inn hv_38 (by decide)) d_Follows_isLike_50 ?_
        refine lv_topi (fun v_39 ev_39 => ?_)
        refine lv_icmp_eq (tgt := 56) hx hb d_Follows_isLike_51 (by decide) (fun hc_40 => ?_) (fun hc_40 => ?_)
        · have _nhc_40 := hc_40
          have ni_41 := (fa_eq _ _).mp hc_40
          obtain ⟨v_42, ev_42⟩ : ∃ z : Int32, z = y_25 + 1 := ⟨_, rfl⟩
          obtain ⟨qv_42, hv_42⟩ := zI_add (l := 1) (h := 260) hv_30 zc_1 ev_42 (by decide)
          rw [li_1] at qv_42
          refine lv_iinc (v := v_42) (lv' := [(3, .int v_42), (0, .ref b0), (1, .int b1), (2, .int b2)]) hx hb d_Follows_isLike_56 hl (k := 0) rfl (by rw [ev_42]; rfl) (by decide) rfl (fun ls hl => ?_)
          refine lv_goto (tgt := 19) hx hb d_Follows_isLike_59 (by decide) ?_
          exact ihk_24 (v_42) _ _ _ (zI.wk (l' := 0) (h' := 260) hv_42 (by decide)) (zm_up qv_42 hmk_24 (by decide)) hP hD hS (lv_sub hl [0, 1, 2, 3] rfl)
        · have _nhc_40 := hc_40
          have ni_43 : ¬ (v_35 : Int32).toInt = (v_39 : Int32).toInt := fun z => hc_40 ((fa_eq _ _).mpr z)
          refine lv_iconst (v := 0) hx hb d_Follows_isLike_54 (by decide) ?_
          exact z_zret hx hb hr hlocks rfl hP hD hS (Nat.le_of_ble_eq_true rfl) (Nat.le_of_ble_eq_true rfl) d_Follows_isLike_55 ⟨0, rfl, rfl, (zI.wk (l' := 0) (h' := 1) zc_0 (by decide))⟩
  · have _nhc_3 := hc_3
    have ni_44 : ¬ (v_1 : Int32).toInt = (v_2 : Int32).toInt := fun z => hc_3 ((fa_eq _ _).mpr z)
    refine lv_iconst (v := 0) hx hb d_Follows_isLike_15 (by decide) ?_
    exact z_zret hx hb hr hlocks rfl hP hD hS (Nat.le_of_ble_eq_true rfl) (Nat.le_of_ble_eq_true rfl) d_Follows_isLike_16 ⟨0, rfl, rfl, (zI.wk (l' := 0) (h' := 1) zc_0 (by decide))⟩
theorem d_Follows_firstLike_0 : decode prog_3_method_5_code 0 = .ok (.aload_n 0, 1) := by decide +kernel
theorem d_Follows_firstLike_1 : decode prog_3_method_5_code 1 = .ok (.iload_n 1, 1) := by decide +kernel
theorem d_Follows_firstLike_2 : decode prog_3_method_5_code 2 = .ok (.invokevirtual 59, 3) := by decide +kernel
theorem d_Follows_firstLike_5 : decode prog_3_method_5_code 5 = .ok (.istore_n 2, 1) := by decide +kernel
theorem d_Follows_firstLike_6 : decode prog_3_method_5_code 6 = .ok (.iconst 0, 1) := by decide +kernel
theorem d_Follows_firstLike_7 : decode prog_3_method_5_code 7 = .ok (.istore_n 3, 1) := by decide +kernel
theorem d_Follows_firstLike_8 : decode prog_3_method_5_code 8 = .ok (.iload_n 3, 1) := by decide +kernel
theorem d_Follows_firstLike_9 : decode prog_3_method_5_code 9 = .ok (.sipush 512, 3) := by decide +kernel
theorem d_Follows_firstLike_12 : decode prog_3_method_5_code 12 = .ok (.if_icmp .ge 56, 3) := by decide +kernel
theorem d_Follows_firstLike_15 : decode prog_3_method_5_code 15 = .ok (.iload_n 2, 1) := by decide +kernel
theorem d_Follows_firstLike_16 : decode prog_3_method_5_code 16 = .ok (.iload_n 3, 1) := by decide +kernel
theorem d_Follows_firstLike_17 : decode prog_3_method_5_code 17 = .ok (.iadd, 1) := by decide +kernel
theorem d_Follows_firstLike_18 : decode prog_3_method_5_code 18 = .ok (.sipush 511, 3) := by decide +kernel
theorem d_Follows_firstLike_21 : decode prog_3_method_5_code 21 = .ok (.iand, 1) := by decide +kernel
theorem d_Follows_firstLike_22 : decode prog_3_method_5_code 22 = .ok (.istore 4, 2) := by decide +kernel
theorem d_Follows_firstLike_24 : decode prog_3_method_5_code 24 = .ok (.aload_n 0, 1) := by decide +kernel
theorem d_Follows_firstLike_25 : decode prog_3_method_5_code 25 = .ok (.getfield 18, 3) := by decide +kernel
theorem d_Follows_firstLike_28 : decode prog_3_method_5_code 28 = .ok (.iload 4, 2) := by decide +kernel
theorem d_Follows_firstLike_30 : decode prog_3_method_5_code 30 = .ok (.iaload, 1) := by decide +kernel
theorem d_Follows_firstLike_31 : decode prog_3_method_5_code 31 = .ok (.istore 5, 2) := by decide +kernel
theorem d_Follows_firstLike_33 : decode prog_3_method_5_code 33 = .ok (.iload 5, 2) := by decide +kernel
theorem d_Follows_firstLike_35 : decode prog_3_method_5_code 35 = .ok (.iconst (-1), 1) := by decide +kernel
theorem d_Follows_firstLike_36 : decode prog_3_method_5_code 36 = .ok (.if_icmp .ne 13, 3) := by decide +kernel
theorem d_Follows_firstLike_39 : decode prog_3_method_5_code 39 = .ok (.aload_n 0, 1) := by decide +kernel
theorem d_Follows_firstLike_40 : decode prog_3_method_5_code 40 = .ok (.getfield 18, 3) := by decide +kernel
theorem d_Follows_firstLike_43 : decode prog_3_method_5_code 43 = .ok (.iload 4, 2) := by decide +kernel
theorem d_Follows_firstLike_45 : decode prog_3_method_5_code 45 = .ok (.iload_n 1, 1) := by decide +kernel
theorem d_Follows_firstLike_46 : decode prog_3_method_5_code 46 = .ok (.iastore, 1) := by decide +kernel
theorem d_Follows_firstLike_47 : decode prog_3_method_5_code 47 = .ok (.iload_n 1, 1) := by decide +kernel
theorem d_Follows_firstLike_48 : decode prog_3_method_5_code 48 = .ok (.ireturn, 1) := by decide +kernel
theorem d_Follows_firstLike_49 : decode prog_3_method_5_code 49 = .ok (.aload_n 0, 1) := by decide +kernel
theorem d_Follows_firstLike_50 : decode prog_3_method_5_code 50 = .ok (.iload_n 1, 1) := by decide +kernel
theorem d_Follows_firstLike_51 : decode prog_3_method_5_code 51 = .ok (.iload 5, 2) := by decide +kernel
theorem d_Follows_firstLike_53 : decode prog_3_method_5_code 53 = .ok (.invokevirtual 63, 3) := by decide +kernel
theorem d_Follows_firstLike_56 : decode prog_3_method_5_code 56 = .ok (.ifCond .eq 6, 3) := by decide +kernel
theorem d_Follows_firstLike_59 : decode prog_3_method_5_code 59 = .ok (.iload 5, 2) := by decide +kernel
theorem d_Follows_firstLike_61 : decode prog_3_method_5_code 61 = .ok (.ireturn, 1) := by decide +kernel
theorem d_Follows_firstLike_62 : decode prog_3_method_5_code 62 = .ok (.iinc 3 1, 3) := by decide +kernel
theorem d_Follows_firstLike_65 : decode prog_3_method_5_code 65 = .ok (.goto (-57), 3) := by decide +kernel
theorem d_Follows_firstLike_68 : decode prog_3_method_5_code 68 = .ok (.iload_n 1, 1) := by decide +kernel
theorem d_Follows_firstLike_69 : decode prog_3_method_5_code 69 = .ok (.ireturn, 1) := by decide +kernel
theorem zc_512 : zI 512 512 512 := ⟨by decide +kernel, by decide +kernel⟩
theorem li_512 : (512 : Int32).toInt = 512 := by decide +kernel
abbrev m_s1_Follows_firstLike : Room := { frames := 1, cells := 0, slots := 0, locals := 24 }
set_option maxHeartbeats 4000000 in
set_option maxRecDepth 100000 in
theorem s1_Follows_firstLike (l : Launch) (G : zG) (b0 : Nat) (b1 : Int32) (b2 : Nat) (b3 : Nat) (b4 : Nat) (b5 : Nat → Int32) (b6 : Nat → Int32) (b7 : Nat → Int32) (hb1 : zI b1 0 240) (hb5 : zqa qC b5) (hb7 : zR b7 (-1) 240) : zM l G y_Follows_firstLike prog_3_method_5_code 6 (Option.some Jvm.ClassFile.FieldType.int) m_s1_Follows_firstLike [.ref b0, .int b1] [(b0, .inr (4, [.ref b2, .ref b3, .ref b4])), (b2, .inl (G.2 0, 241, .inl b5)), (b3, .inl (G.2 0, 4820, .inl b6)), (b4, .inl (G.2 0, 512, .inl b7))] (fun v w => ∃ (e0 : Int32), ∃ (e1 : Nat → Int32), v = some (.int e0) ∧ w = [(b0, .inr (4, [.ref b2, .ref b3, .ref b4])), (b2, .inl (G.2 0, 241, .inl b5)), (b3, .inl (G.2 0, 4820, .inl b6)), (b4, .inl (G.2 0, 512, .inl e1))] ∧ (zI e0 0 240) ∧ (zR e1 (-1) 240)) := by
  refine z_start (by decide +kernel) (Nat.le_of_ble_eq_true rfl) ?_
  intro p e s m below meth c A Z hr hnm hA hP hD hS ls hl
  have Z : zC p s m _ meth c prog_3_method_5_code 6 "TraceMachines$Follows" G := Z
  obtain ⟨hx, hb, hml, hown, hts, hK, hN, hlocks⟩ := id Z
  have hl : lv_has ls 6 [(0, .ref b0), (1, .int b1)] := hl
  refine lv_aload_n hx hb d_Follows_firstLike_0 rfl (lv_at hl 0 rfl) ?_
  refine lv_iload_n hx hb d_Follows_firstLike_1 rfl (lv_at hl 1 rfl) ?_
  refine z_callV (index := 59) (As := [.int b1]) (rest := []) (wr := [(b4, .inl (G.2 0, 512, .inl b7))]) Z (s1_Follows_hashOf l G (b0) (b1) (b2) (b3) (b4) (b5) (b6) hb1 hb5) hl.1 q629 q631 qs8 q5 q632 ⟨by decide, by decide, by show _ = some 1; decide +kernel⟩ ⟨Nat.le_of_ble_eq_true rfl, Nat.le_of_ble_eq_true rfl⟩ ⟨Nat.le_of_ble_eq_true rfl, Nat.le_of_ble_eq_true rfl⟩ rfl (Nat.le_of_ble_eq_true rfl) d_Follows_firstLike_2 hP hD hS hA 0 4 rfl rfl rfl [0, 1, 2] [3] rfl rfl rfl rfl (by decide) (fun v w1 H locs hw_1 hP hD hS => ?_)
  obtain ⟨x_2, rfl, rfl⟩ := hw_1
  have hP : va_P G.1 classes [(b4, .inl (G.2 0, 512, .inl b7)), (b0, .inr (4, [.ref b2, .ref b3, .ref b4])), (b2, .inl (G.2 0, 241, .inl b5)), (b3, .inl (G.2 0, 4820, .inl b6))] H := hP
  have hD := z_tie hP hD rfl
  refine W.widen (k := 0) (n := 0) (Nat.le_of_ble_eq_true rfl) (Nat.le_of_ble_eq_true rfl) ?_
  refine lv_istore_n (lv' := [(2, .int x_2), (0, .ref b0), (1, .int b1)]) hx hb d_Follows_firstLike_5 rfl hl (by decide) rfl (fun ls hl => ?_)
  refine lv_iconst (v := 0) hx hb d_Follows_firstLike_6 (by decide) ?_
  refine lv_istore_n (lv' := [(3, .int 0), (2, .int x_2), (0, .ref b0), (1, .int b1)]) hx hb d_Follows_firstLike_7 rfl hl (by decide) rfl (fun ls hl => ?_)
  suffices key : ∀ (k_26 : Nat) (y_27 : Int32) (H : Heap) (locs : List Loc) (ls : Array Slot), (zI y_27 0 512) → (512 : Int) - y_27.toInt < (k_26 : Int) → va_P G.1 classes [(b4, .inl (G.2 0, 512, .inl b7)), (b0, .inr (4, [.ref b2, .ref b3, .ref b4])), (b2, .inl (G.2 0, 241, .inl b5)), (b3, .inl (G.2 0, 4820, .inl b6))] H → va_D A [(b4, .inl (G.2 0, 512, .inl b7)), (b0, .inr (4, [.ref b2, .ref b3, .ref b4])), (b2, .inl (G.2 0, 241, .inl b5)), (b3, .inl (G.2 0, 4820, .inl b6))] → va_S A s.heap H locs → lv_has ls 6 [(3, .int y_27), (2, .int x_2), (0, .ref b0), (1, .int b1)] → W p l e m_s1_Follows_firstLike s m ([.ref b0, .int b1] : List Value).toArray below meth c H locs 0 0 (MQ below (zQ G (fun v w => ∃ (e0 : Int32), ∃ (e1 : Nat → Int32), v = some (.int e0) ∧ w = [(b0, .inr (4, [.ref b2, .ref b3, .ref b4])), (b2, .inl (G.2 0, 241, .inl b5)), (b3, .inl (G.2 0, 4820, .inl b6)), (b4, .inl (G.2 0, 512, .inl e1))] ∧ (zI e0 0 240) ∧ (zR e1 (-1) 240)) A) ([.ref b0, .int b1] : List Value).toArray s m_s1_Follows_firstLike.cells m_s1_Follows_firstLike.slots A) (F0 m 8 ls []) by
    exact key 513 (0) _ _ _ (zI.wk (l' := 0) (h' := 512) zc_0 (by decide)) (zm_upi (zI.wk (l' := 0) (h' := 512) zc_0 (by decide)) (by decide)) hP hD hS (lv_sub hl [0, 1, 2, 3] rfl)
  intro k_26
  induction k_26 with
  | zero =>
    intro y_27 H locs ls hy_27 hmk_26 hP hD hS hl
    exact (zm_up0 hy_27 hmk_26).elim
  | succ k_26 ihk_26 =>
    intro y_27 H locs ls hy_27 hmk_26 hP hD hS hl
    refine lv_iload_n hx hb d_Follows_firstLike_8 rfl (lv_at hl 0 rfl) ?_
    refine lv_sipush (v := 512) hx hb d_Follows_firstLike_9 (by decide) ?_
    refine lv_icmp_ge (tgt := 68) hx hb d_Follows_firstLike_12 (by decide) (fun hc_28 => ?_) (fun hc_28 => ?_)
    · have _nhc_28 := hc_28
      have ni_29 := (fa_le _ _).mp hc_28
      rw [li_512] at ni_29
      have hv_30 : zI y_27 512 512 := zI.le_r zc_512 hy_27 hc_28 (by decide)
      refine lv_iload_n hx hb d_Follows_firstLike_68 rfl (lv_at hl 3 rfl) ?_
      exact z_iret hx hb hr hlocks (hP.sub [1, 2, 3, 0] rfl) (hD.sub [1, 2, 3, 0] (by decide) rfl) hS (Nat.le_of_ble_eq_true rfl) (Nat.le_of_ble_eq_true rfl) d_Follows_firstLike_69 ⟨b1, b7, rfl, rfl, hb1, hb7⟩
    · have _nhc_28 := hc_28
      have ni_31 := (fa_lt _ _).mp (zi_nle hc_28)
      rw [li_512] at ni_31
      have hv_32 : zI y_27 0 511 := zI.lt_l hy_27 zc_512 (zi_nle hc_28) (by decide)
      refine lv_iload_n hx hb d_Follows_firstLike_15 rfl (lv_at hl 1 rfl) ?_
      refine lv_iload_n hx hb d_Follows_firstLike_16 rfl (lv_at hl 0 rfl) ?_
      refine lv_iadd hx hb d_Follows_firstLike_17 ?_
      refine lv_topi (fun v_33 ev_33 => ?_)
      refine lv_sipush (v := 511) hx hb d_Follows_firstLike_18 (by decide) ?_
      refine lv_iand hx hb d_Follows_firstLike_21 ?_
      refine lv_topi (fun v_34 ev_34 => ?_)
      have hv_34 := zI_and (k := 9) (h := 511) (by decide +kernel) ev_34 (by decide)
      refine lv_istore (lv' := [(4, .int v_34), (3, .int y_27), (2, .int x_2), (0, .ref b0), (1, .int b1)]) hx hb d_Follows_firstLike_22 hl (by decide) rfl (fun ls hl => ?_)
      refine lv_aload_n hx hb d_Follows_firstLike_24 rfl (lv_at hl 3 rfl) ?_
      refine va_get (D := G.1) (ci := 4) (v := .ref b4) (C := R_Follows) (T := F_Follows) (N := 3) hx hb hts i_Follows hown hK hP 1 rfl rfl 2 (by decide) (hts _ q149) (fun _ h9 => h9) rfl d_Follows_firstLike_25 ?_
      refine lv_iload hx hb d_Follows_firstLike_28 (lv_at hl 0 rfl) ?_
      refine va_iald hx hb hK hP 0 0 rfl rfl (zI.inn hv_34 (by decide)) d_Follows_firstLike_30 ?_
      refine lv_topi (fun v_35 ev_35 => ?_)
      have hv_35 : zI v_35 (-1) 240 := (hb7 _).eq ev_35
      refine lv_istore (lv' := [(5, .int v_35), (4, .int v_34), (3, .int y_27), (2, .int x_2), (0, .ref b0), (1, .int b1)]) hx hb d_Follows_firstLike_31 hl (by decide) rfl (fun ls hl => ?_)
      refine lv_iload hx hb d_Follows_firstLike_33 (lv_at hl 0 rfl) ?_
      refine lv_iconst (v := (-1)) hx hb d_Follows_firstLike_35 (by decide) ?_
      refine lv_icmp_ne (tgt := 49) hx hb d_Follows_firstLike_36 (by decide) (fun hc_36 => ?_) (fun hc_36 => ?_)
      · have _nhc_36 := hc_36
        have ni_37 : ¬ (v_35 : Int32).toInt = ((-1) : Int32).toInt := fun z => hc_36 ((fa_eq _ _).mpr z)
        simp only [li_m1] at ni_37
        have hv_38 : zI v_35 0 240 := zI.ne_lo hv_35 zc_m1 hc_36 (by decide)
        refine lv_aload_n hx hb d_Follows_firstLike_49 rfl (lv_at hl 4 rfl) ?_
        refine lv_iload_n hx hb d_Follows_firstLike_50 rfl (lv_at hl 5 rfl) ?_
        refine lv_iload hx hb d_Follows_firstLike_51 (lv_at hl 0 rfl) ?_
        refine z_callV (index := 63) (As := [.int b1, .int v_35]) (rest := []) (wr := [(b4, .inl (G.2 0, 512, .inl b7))]) Z (s1_Follows_isLike l G (b0) (b1) (v_35) (b2) (b3) (b4) (b5) (b6) hb1 hv_38 hb5) hl.1 q633 q635 qs9 q5 q636 ⟨by decide, by decide, by show _ = some 2; decide +kernel⟩ ⟨Nat.le_of_ble_eq_true rfl, Nat.le_of_ble_eq_true rfl⟩ ⟨Nat.le_of_ble_eq_true rfl, Nat.le_of_ble_eq_true rfl⟩ rfl (Nat.le_of_ble_eq_true rfl) d_Follows_firstLike_53 hP hD hS hA 1 4 rfl rfl rfl [1, 2, 3] [0] rfl rfl rfl rfl (by decide) (fun v w1 H locs hw_39 hP hD hS => ?_)
        obtain ⟨x_40, rfl, rfl, hx_40⟩ := hw_39
        have hP : va_P G.1 classes [(b4, .inl (G.2 0, 512, .inl b7)), (b0, .inr (4, [.ref b2, .ref b3, .ref b4])), (b2, .inl (G.2 0, 241, .inl b5)), (b3, .inl (G.2 0, 4820, .inl b6))] H := hP
        have hD := z_tie hP hD rfl
        refine W.widen (k := 0) (n := 0) (Nat.le_of_ble_eq_true rfl) (Nat.le_of_ble_eq_true rfl) ?_
        refine lv_if_eq (tgt := 62) hx hb d_Follows_firstLike_56 (by decide) (fun hc_41 => ?_) (fun hc_41 => ?_)
        · have _nhc_41 := hc_41
          have ni_42 := (fa_eq _ _).mp hc_41
          rw [li_0] at ni_42
          have hv_43 : zI x_40 0 0 := zI.eq_l hx_40 zc_0 hc_41
          obtain ⟨v_44, ev_44⟩ : ∃ z : Int32, z = y_27 + 1 := ⟨_, rfl⟩
          obtain ⟨qv_44, hv_44⟩ := zI_add (l := 1) (h := 512) hv_32 zc_1 ev_44 (by decide)
          rw [li_1] at qv_44
          refine lv_iinc (v := v_44) (lv' := [(3, .int v_44), (5, .int v_35), (4, .int v_34), (2, .int x_2), (0, .ref b0), (1, .int b1)]) hx hb d_Follows_firstLike_62 hl (k := 2) rfl (by rw [ev_44]; rfl) (by decide) rfl (fun ls hl => ?_)
          refine lv_goto (tgt := 8) hx hb d_Follows_firstLike_65 (by decide) ?_
          exact ihk_26 (v_44) _ _ _ (zI.wk (l' := 0) (h' := 512) hv_44 (by decide)) (zm_up qv_44 hmk_26 (by decide)) hP hD hS (lv_sub hl [0, 3, 4, 5] rfl)
        · have _nhc_41 := hc_41
          have ni_45 : ¬ (x_40 : Int32).toInt = (0 : Int32).toInt := fun z => hc_41 ((fa_eq _ _).mpr z)
          simp only [li_0] at ni_45
          have hv_46 : zI x_40 1 1 := zI.ne_lo hx_40 zc_0 hc_41 (by decide)
          refine lv_iload hx hb d_Follows_firstLike_59 (lv_at hl 0 rfl) ?_
          exact z_iret hx hb hr hlocks (hP.sub [1, 2, 3, 0] rfl) (hD.sub [1, 2, 3, 0] (by decide) rfl) hS (Nat.le_of_ble_eq_true rfl) (Nat.le_of_ble_eq_true rfl) d_Follows_firstLike_61 ⟨v_35, b7, rfl, rfl, hv_38, hb7⟩
      · have _nhc_36 := hc_36
        have ni_47 := (fa_eq _ _).mp hc_36
        rw [li_m1] at ni_47
        have hv_48 : zI v_35 (-1) (-1) := zI.eq_l hv_35 zc_m1 hc_36
        refine lv_aload_n hx hb d_Follows_firstLike_39 rfl (lv_at hl 4 rfl) ?_
        refine va_get (D := G.1) (ci := 4) (v := .ref b4) (C := R_Follows) (T := F_Follows) (N := 3) hx hb hts i_Follows hown hK hP 1 rfl rfl 2 (by decide) (hts _ q149) (fun _ h9 => h9) rfl d_Follows_firstLike_40 ?_
        refine lv_iload hx hb d_Follows_firstLike_43 (lv_at hl 1 rfl) ?_
        refine lv_iload_n hx hb d_Follows_firstLike_45 rfl (lv_at hl 5 rfl) ?_
        refine va_iast hx hb hK hP hD hS 0 0 rfl rfl (zI.inn hv_34 (by decide)) d_Follows_firstLike_46 (fun H locs hP hD hS => ?_)
        obtain ⟨f_49, hf_49, gf_49, uf_49, hP, hD⟩ := z_newfu 0 hP hD rfl hb7 (zI.wk (l' := (-1)) (h' := 240) hb1 (by decide))
        have hP : va_P G.1 classes [(b4, .inl (G.2 0, 512, .inl f_49)), (b0, .inr (4, [.ref b2, .ref b3, .ref b4])), (b2, .inl (G.2 0, 241, .inl b5)), (b3, .inl (G.2 0, 4820, .inl b6))] H := hP
        have hD := z_tie hP hD rfl
        refine lv_iload_n hx hb d_Follows_firstLike_47 rfl (lv_at hl 5 rfl) ?_
        exact z_iret hx hb hr hlocks (hP.sub [1, 2, 3, 0] rfl) (hD.sub [1, 2, 3, 0] (by decide) rfl) hS (Nat.le_of_ble_eq_true rfl) (Nat.le_of_ble_eq_true rfl) d_Follows_firstLike_48 ⟨b1, f_49, rfl, rfl, hb1, hf_49⟩
theorem d_Follows_gather_0 : decode prog_3_method_2_code 0 = .ok (.aload_n 0, 1) := by decide +kernel
theorem d_Follows_gather_1 : decode prog_3_method_2_code 1 = .ok (.getfield 18, 3) := by decide +kernel
theorem d_Follows_gather_4 : decode prog_3_method_2_code 4 = .ok (.iconst (-1), 1) := by decide +kernel
theorem d_Follows_gather_5 : decode prog_3_method_2_code 5 = .ok (.invokestatic 21, 3) := by decide +kernel
theorem d_Follows_gather_8 : decode prog_3_method_2_code 8 = .ok (.iconst 0, 1) := by decide +kernel
theorem d_Follows_gather_9 : decode prog_3_method_2_code 9 = .ok (.istore 4, 2) := by decide +kernel
theorem d_Follows_gather_11 : decode prog_3_method_2_code 11 = .ok (.iload 4, 2) := by decide +kernel
theorem d_Follows_gather_13 : decode prog_3_method_2_code 13 = .ok (.aload_n 2, 1) := by decide +kernel
theorem d_Follows_gather_14 : decode prog_3_method_2_code 14 = .ok (.getfield 27, 3) := by decide +kernel
theorem d_Follows_gather_17 : decode prog_3_method_2_code 17 = .ok (.if_icmp .ge 17, 3) := by decide +kernel
theorem d_Follows_gather_20 : decode prog_3_method_2_code 20 = .ok (.aload_n 0, 1) := by decide +kernel
theorem d_Follows_gather_21 : decode prog_3_method_2_code 21 = .ok (.getfield 9, 3) := by decide +kernel
theorem d_Follows_gather_24 : decode prog_3_method_2_code 24 = .ok (.iload 4, 2) := by decide +kernel
theorem d_Follows_gather_26 : decode prog_3_method_2_code 26 = .ok (.iconst 0, 1) := by decide +kernel
theorem d_Follows_gather_27 : decode prog_3_method_2_code 27 = .ok (.iastore, 1) := by decide +kernel
theorem d_Follows_gather_28 : decode prog_3_method_2_code 28 = .ok (.iinc 4 1, 3) := by decide +kernel
theorem d_Follows_gather_31 : decode prog_3_method_2_code 31 = .ok (.goto (-20), 3) := by decide +kernel
theorem d_Follows_gather_34 : decode prog_3_method_2_code 34 = .ok (.iconst 0, 1) := by decide +kernel
theorem d_Follows_gather_35 : decode prog_3_method_2_code 35 = .ok (.istore 4, 2) := by decide +kernel
theorem d_Follows_gather_37 : decode prog_3_method_2_code 37 = .ok (.iload 4, 2) := by decide +kernel
theorem d_Follows_gather_39 : decode prog_3_method_2_code 39 = .ok (.aload_n 1, 1) := by decide +kernel
theorem d_Follows_gather_40 : decode prog_3_method_2_code 40 = .ok (.getfield 33, 3) := by decide +kernel
theorem d_Follows_gather_43 : decode prog_3_method_2_code 43 = .ok (.if_icmp .ge 60, 3) := by decide +kernel
theorem d_Follows_gather_46 : decode prog_3_method_2_code 46 = .ok (.iload 4, 2) := by decide +kernel
theorem d_Follows_gather_48 : decode prog_3_method_2_code 48 = .ok (.aload_n 2, 1) := by decide +kernel
theorem d_Follows_gather_49 : decode prog_3_method_2_code 49 = .ok (.getfield 38, 3) := by decide +kernel
theorem d_Follows_gather_52 : decode prog_3_method_2_code 52 = .ok (.if_icmp .eq 45, 3) := by decide +kernel
theorem d_Follows_gather_55 : decode prog_3_method_2_code 55 = .ok (.iconst 0, 1) := by decide +kernel
theorem d_Follows_gather_56 : decode prog_3_method_2_code 56 = .ok (.istore 5, 2) := by decide +kernel
theorem d_Follows_gather_58 : decode prog_3_method_2_code 58 = .ok (.iload 5, 2) := by decide +kernel
theorem d_Follows_gather_60 : decode prog_3_method_2_code 60 = .ok (.aload_n 1, 1) := by decide +kernel
theorem d_Follows_gather_61 : decode prog_3_method_2_code 61 = .ok (.getfield 41, 3) := by decide +kernel
theorem d_Follows_gather_64 : decode prog_3_method_2_code 64 = .ok (.iload 4, 2) := by decide +kernel
theorem d_Follows_gather_66 : decode prog_3_method_2_code 66 = .ok (.iaload, 1) := by decide +kernel
theorem d_Follows_gather_67 : decode prog_3_method_2_code 67 = .ok (.if_icmp .gt 30, 3) := by decide +kernel
theorem d_Follows_gather_70 : decode prog_3_method_2_code 70 = .ok (.aload_n 0, 1) := by decide +kernel
theorem d_Follows_gather_71 : decode prog_3_method_2_code 71 = .ok (.aload_n 2, 1) := by decide +kernel
theorem d_Follows_gather_72 : decode prog_3_method_2_code 72 = .ok (.iload 4, 2) := by decide +kernel
theorem d_Follows_gather_74 : decode prog_3_method_2_code 74 = .ok (.iload 5, 2) := by decide +kernel
theorem d_Follows_gather_76 : decode prog_3_method_2_code 76 = .ok (.invokevirtual 44, 3) := by decide +kernel
theorem d_Follows_gather_79 : decode prog_3_method_2_code 79 = .ok (.aload_n 1, 1) := by decide +kernel
theorem d_Follows_gather_80 : decode prog_3_method_2_code 80 = .ok (.iload 4, 2) := by decide +kernel
theorem d_Follows_gather_82 : decode prog_3_method_2_code 82 = .ok (.iload 5, 2) := by decide +kernel
theorem d_Follows_gather_84 : decode prog_3_method_2_code 84 = .ok (.iload_n 3, 1) := by decide +kernel
theorem d_Follows_gather_85 : decode prog_3_method_2_code 85 = .ok (.invokestatic 48, 3) := by decide +kernel
theorem d_Follows_gather_88 : decode prog_3_method_2_code 88 = .ok (.invokevirtual 52, 3) := by decide +kernel
theorem d_Follows_gather_91 : decode prog_3_method_2_code 91 = .ok (.iinc 5 1, 3) := by decide +kernel
theorem d_Follows_gather_94 : decode prog_3_method_2_code 94 = .ok (.goto (-36), 3) := by decide +kernel
theorem d_Follows_gather_97 : decode prog_3_method_2_code 97 = .ok (.iinc 4 1, 3) := by decide +kernel
theorem d_Follows_gather_100 : decode prog_3_method_2_code 100 = .ok (.goto (-63), 3) := by decide +kernel
theorem d_Follows_gather_103 : decode prog_3_method_2_code 103 = .ok (.return_, 1) := by decide +kernel
theorem d_Follows_rowOf_0 : decode prog_3_method_3_code 0 = .ok (.iconst 0, 1) := by decide +kernel
theorem d_Follows_rowOf_1 : decode prog_3_method_3_code 1 = .ok (.istore 4, 2) := by decide +kernel
theorem d_Follows_rowOf_3 : decode prog_3_method_3_code 3 = .ok (.iload_n 2, 1) := by decide +kernel
theorem d_Follows_rowOf_4 : decode prog_3_method_3_code 4 = .ok (.istore 5, 2) := by decide +kernel
theorem d_Follows_rowOf_6 : decode prog_3_method_3_code 6 = .ok (.iload 5, 2) := by decide +kernel
theorem d_Follows_rowOf_8 : decode prog_3_method_3_code 8 = .ok (.iload_n 2, 1) := by decide +kernel
theorem d_Follows_rowOf_9 : decode prog_3_method_3_code 9 = .ok (.iload_n 3, 1) := by decide +kernel
theorem d_Follows_rowOf_10 : decode prog_3_method_3_code 10 = .ok (.iadd, 1) := by decide +kernel
theorem d_Follows_rowOf_11 : decode prog_3_method_3_code 11 = .ok (.if_icmp .ge 45, 3) := by decide +kernel
theorem d_Follows_rowOf_14 : decode prog_3_method_3_code 14 = .ok (.iload 5, 2) := by decide +kernel
theorem d_Follows_rowOf_16 : decode prog_3_method_3_code 16 = .ok (.aload_n 0, 1) := by decide +kernel
theorem d_Follows_rowOf_17 : decode prog_3_method_3_code 17 = .ok (.getfield 41, 3) := by decide +kernel
theorem d_Follows_rowOf_20 : decode prog_3_method_3_code 20 = .ok (.iload_n 1, 1) := by decide +kernel
theorem d_Follows_rowOf_21 : decode prog_3_method_3_code 21 = .ok (.iaload, 1) := by decide +kernel
theorem d_Follows_rowOf_22 : decode prog_3_method_3_code 22 = .ok (.if_icmp .ge 15, 3) := by decide +kernel
theorem d_Follows_rowOf_25 : decode prog_3_method_3_code 25 = .ok (.aload_n 0, 1) := by decide +kernel
theorem d_Follows_rowOf_26 : decode prog_3_method_3_code 26 = .ok (.iload_n 1, 1) := by decide +kernel
theorem d_Follows_rowOf_27 : decode prog_3_method_3_code 27 = .ok (.iload 5, 2) := by decide +kernel
theorem d_Follows_rowOf_29 : decode prog_3_method_3_code 29 = .ok (.invokevirtual 56, 3) := by decide +kernel
theorem d_Follows_rowOf_32 : decode prog_3_method_3_code 32 = .ok (.iconst 1, 1) := by decide +kernel
theorem d_Follows_rowOf_33 : decode prog_3_method_3_code 33 = .ok (.iadd, 1) := by decide +kernel
theorem d_Follows_rowOf_34 : decode prog_3_method_3_code 34 = .ok (.goto 4, 3) := by decide +kernel
theorem d_Follows_rowOf_37 : decode prog_3_method_3_code 37 = .ok (.iconst 0, 1) := by decide +kernel
theorem d_Follows_rowOf_38 : decode prog_3_method_3_code 38 = .ok (.istore 6, 2) := by decide +kernel
theorem d_Follows_rowOf_40 : decode prog_3_method_3_code 40 = .ok (.iload 4, 2) := by decide +kernel
theorem d_Follows_rowOf_42 : decode prog_3_method_3_code 42 = .ok (.bipush 11, 2) := by decide +kernel
theorem d_Follows_rowOf_44 : decode prog_3_method_3_code 44 = .ok (.imul, 1) := by decide +kernel
theorem d_Follows_rowOf_45 : decode prog_3_method_3_code 45 = .ok (.iload 6, 2) := by decide +kernel
theorem d_Follows_rowOf_47 : decode prog_3_method_3_code 47 = .ok (.iadd, 1) := by decide +kernel
theorem d_Follows_rowOf_48 : decode prog_3_method_3_code 48 = .ok (.istore 4, 2) := by decide +kernel
theorem d_Follows_rowOf_50 : decode prog_3_method_3_code 50 = .ok (.iinc 5 1, 3) := by decide +kernel
theorem d_Follows_rowOf_53 : decode prog_3_method_3_code 53 = .ok (.goto (-47), 3) := by decide +kernel
theorem d_Follows_rowOf_56 : decode prog_3_method_3_code 56 = .ok (.iload 4, 2) := by decide +kernel
theorem d_Follows_rowOf_58 : decode prog_3_method_3_code 58 = .ok (.ireturn, 1) := by decide +kernel
theorem d_Follows_insert_0 : decode prog_3_method_4_code 0 = .ok (.iload_n 1, 1) := by decide +kernel
theorem d_Follows_insert_1 : decode prog_3_method_4_code 1 = .ok (.bipush 20, 2) := by decide +kernel
theorem d_Follows_insert_3 : decode prog_3_method_4_code 3 = .ok (.imul, 1) := by decide +kernel
theorem d_Follows_insert_4 : decode prog_3_method_4_code 4 = .ok (.istore_n 3, 1) := by decide +kernel
theorem d_Follows_insert_5 : decode prog_3_method_4_code 5 = .ok (.iload_n 3, 1) := by decide +kernel
theorem d_Follows_insert_6 : decode prog_3_method_4_code 6 = .ok (.aload_n 0, 1) := by decide +kernel
theorem d_Follows_insert_7 : decode prog_3_method_4_code 7 = .ok (.getfield 9, 3) := by decide +kernel
theorem d_Follows_insert_10 : decode prog_3_method_4_code 10 = .ok (.iload_n 1, 1) := by decide +kernel
theorem d_Follows_insert_11 : decode prog_3_method_4_code 11 = .ok (.iaload, 1) := by decide +kernel
theorem d_Follows_insert_12 : decode prog_3_method_4_code 12 = .ok (.iadd, 1) := by decide +kernel
theorem d_Follows_insert_13 : decode prog_3_method_4_code 13 = .ok (.istore 4, 2) := by decide +kernel
theorem d_Follows_insert_15 : decode prog_3_method_4_code 15 = .ok (.iload 4, 2) := by decide +kernel
theorem d_Follows_insert_17 : decode prog_3_method_4_code 17 = .ok (.iload_n 3, 1) := by decide +kernel
theorem d_Follows_insert_18 : decode prog_3_method_4_code 18 = .ok (.if_icmp .le 22, 3) := by decide +kernel
theorem d_Follows_insert_21 : decode prog_3_method_4_code 21 = .ok (.aload_n 0, 1) := by decide +kernel
theorem d_Follows_insert_22 : decode prog_3_method_4_code 22 = .ok (.getfield 15, 3) := by decide +kernel
theorem d_Follows_insert_25 : decode prog_3_method_4_code 25 = .ok (.iload 4, 2) := by decide +kernel
theorem d_Follows_insert_27 : decode prog_3_method_4_code 27 = .ok (.iconst 1, 1) := by decide +kernel
theorem d_Follows_insert_28 : decode prog_3_method_4_code 28 = .ok (.isub, 1) := by decide +kernel
theorem d_Follows_insert_29 : decode prog_3_method_4_code 29 = .ok (.iaload, 1) := by decide +kernel
theorem d_Follows_insert_30 : decode prog_3_method_4_code 30 = .ok (.iload_n 2, 1) := by decide +kernel
theorem d_Follows_insert_31 : decode prog_3_method_4_code 31 = .ok (.if_icmp .le 9, 3) := by decide +kernel
theorem d_Follows_insert_34 : decode prog_3_method_4_code 34 = .ok (.iinc 4 (-1), 3) := by decide +kernel
theorem d_Follows_insert_37 : decode prog_3_method_4_code 37 = .ok (.goto (-22), 3) := by decide +kernel
theorem d_Follows_insert_40 : decode prog_3_method_4_code 40 = .ok (.iload 4, 2) := by decide +kernel
theorem d_Follows_insert_42 : decode prog_3_method_4_code 42 = .ok (.iload_n 3, 1) := by decide +kernel
theorem d_Follows_insert_43 : decode prog_3_method_4_code 43 = .ok (.if_icmp .le 17, 3) := by decide +kernel
theorem d_Follows_insert_46 : decode prog_3_method_4_code 46 = .ok (.aload_n 0, 1) := by decide +kernel
theorem d_Follows_insert_47 : decode prog_3_method_4_code 47 = .ok (.getfield 15, 3) := by decide +kernel
theorem d_Follows_insert_50 : decode prog_3_method_4_code 50 = .ok (.iload 4, 2) := by decide +kernel
theorem d_Follows_insert_52 : decode prog_3_method_4_code 52 = .ok (.iconst 1, 1) := by decide +kernel
theorem d_Follows_insert_53 : decode prog_3_method_4_code 53 = .ok (.isub, 1) := by decide +kernel
theorem d_Follows_insert_54 : decode prog_3_method_4_code 54 = .ok (.iaload, 1) := by decide +kernel
theorem d_Follows_insert_55 : decode prog_3_method_4_code 55 = .ok (.iload_n 2, 1) := by decide +kernel
theorem d_Follows_insert_56 : decode prog_3_method_4_code 56 = .ok (.if_icmp .ne 4, 3) := by decide +kernel
theorem d_Follows_insert_60 : decode prog_3_method_4_code 60 = .ok (.iload_n 3, 1) := by decide +kernel
theorem d_Follows_insert_61 : decode prog_3_method_4_code 61 = .ok (.aload_n 0, 1) := by decide +kernel
theorem d_Follows_insert_62 : decode prog_3_method_4_code 62 = .ok (.getfield 9, 3) := by decide +kernel
theorem d_Follows_insert_65 : decode prog_3_method_4_code 65 = .ok (.iload_n 1, 1) := by decide +kernel
theorem d_Follows_insert_66 : decode prog_3_method_4_code 66 = .ok (.iaload, 1) := by decide +kernel
theorem d_Follows_insert_67 : decode prog_3_method_4_code 67 = .ok (.iadd, 1) := by decide +kernel
theorem d_Follows_insert_68 : decode prog_3_method_4_code 68 = .ok (.istore 5, 2) := by decide +kernel
theorem d_Follows_insert_70 : decode prog_3_method_4_code 70 = .ok (.iload 5, 2) := by decide +kernel
theorem d_Follows_insert_72 : decode prog_3_method_4_code 72 = .ok (.iload 4, 2) := by decide +kernel
theorem d_Follows_insert_74 : decode prog_3_method_4_code 74 = .ok (.if_icmp .le 25, 3) := by decide +kernel
theorem d_Follows_insert_77 : decode prog_3_method_4_code 77 = .ok (.aload_n 0, 1) := by decide +kernel
theorem d_Follows_insert_78 : decode prog_3_method_4_code 78 = .ok (.getfield 15, 3) := by decide +kernel
theorem d_Follows_insert_81 : decode prog_3_method_4_code 81 = .ok (.iload 5, 2) := by decide +kernel
theorem d_Follows_insert_83 : decode prog_3_method_4_code 83 = .ok (.aload_n 0, 1) := by decide +kernel
theorem d_Follows_insert_84 : decode prog_3_method_4_code 84 = .ok (.getfield 15, 3) := by decide +kernel
theorem d_Follows_insert_87 : decode prog_3_method_4_code 87 = .ok (.iload 5, 2) := by decide +kernel
theorem d_Follows_insert_89 : decode prog_3_method_4_code 89 = .ok (.iconst 1, 1) := by decide +kernel
theorem d_Follows_insert_90 : decode prog_3_method_4_code 90 = .ok (.isub, 1) := by decide +kernel
theorem d_Follows_insert_91 : decode prog_3_method_4_code 91 = .ok (.iaload, 1) := by decide +kernel
theorem d_Follows_insert_92 : decode prog_3_method_4_code 92 = .ok (.iastore, 1) := by decide +kernel
theorem d_Follows_insert_93 : decode prog_3_method_4_code 93 = .ok (.iinc 5 (-1), 3) := by decide +kernel
theorem d_Follows_insert_96 : decode prog_3_method_4_code 96 = .ok (.goto (-26), 3) := by decide +kernel
theorem d_Follows_insert_99 : decode prog_3_method_4_code 99 = .ok (.aload_n 0, 1) := by decide +kernel
theorem d_Follows_insert_100 : decode prog_3_method_4_code 100 = .ok (.getfield 15, 3) := by decide +kernel
theorem d_Follows_insert_103 : decode prog_3_method_4_code 103 = .ok (.iload 4, 2) := by decide +kernel
theorem d_Follows_insert_105 : decode prog_3_method_4_code 105 = .ok (.iload_n 2, 1) := by decide +kernel
theorem d_Follows_insert_106 : decode prog_3_method_4_code 106 = .ok (.iastore, 1) := by decide +kernel
theorem d_Follows_insert_107 : decode prog_3_method_4_code 107 = .ok (.aload_n 0, 1) := by decide +kernel
theorem d_Follows_insert_108 : decode prog_3_method_4_code 108 = .ok (.getfield 9, 3) := by decide +kernel
theorem d_Follows_insert_111 : decode prog_3_method_4_code 111 = .ok (.iload_n 1, 1) := by decide +kernel
theorem d_Follows_insert_112 : decode prog_3_method_4_code 112 = .ok (.dup2, 1) := by decide +kernel
theorem d_Follows_insert_113 : decode prog_3_method_4_code 113 = .ok (.iaload, 1) := by decide +kernel
theorem d_Follows_insert_114 : decode prog_3_method_4_code 114 = .ok (.iconst 1, 1) := by decide +kernel
theorem d_Follows_insert_115 : decode prog_3_method_4_code 115 = .ok (.iadd, 1) := by decide +kernel
theorem d_Follows_insert_116 : decode prog_3_method_4_code 116 = .ok (.iastore, 1) := by decide +kernel
theorem zc_11 : zI 11 11 11 := ⟨by decide +kernel, by decide +kernel⟩
theorem li_11 : (11 : Int32).toInt = 11 := by decide +kernel
abbrev m_s2_Follows_rowOf : Room := { frames := 1, cells := 0, slots := 0, locals := 22 }
set_option maxHeartbeats 4000000 in
set_option maxRecDepth 100000 in
theorem s2_Follows_rowOf (l : Launch) (G : zG) (b0 : Nat) (b1 : Int32) (b2 : Int32) (b3 : Int32) (b4 : Int32) (b5 : Int32) (b6 : Int32) (b7 : Nat) (b8 : Nat) (b9 : Nat) (b10 : Nat → Int32) (b11 : Nat → Int32) (hb1 : zI b1 0 19) (hb2 : zI b2 0 12) (hb3 : zI b3 0 3) (hb4 : zI b4 0 20) (hb5 : zI b5 0 3) (hb6 : zI b6 0 20) (hb10 : zR b10 0 12) (hb11 : zR b11 0 9) : zM l G y_Follows_rowOf prog_3_method_3_code 7 (Option.some Jvm.ClassFile.FieldType.int) m_s2_Follows_rowOf [.ref b0, .int b1, .int b2, .int b3] [(b0, .inr (2, [.int b4, .int b5, .int b6, .ref b7, .ref b8, .ref b9])), (b7, .inl (G.2 0, 20, .inl b10)), (b8, .inl (G.2 0, 240, .inl b11))] (fun v w => ∃ (e0 : Int32), v = some (.int e0) ∧ w = [(b0, .inr (2, [.int b4, .int b5, .int b6, .ref b7, .ref b8, .ref b9])), (b7, .inl (G.2 0, 20, .inl b10)), (b8, .inl (G.2 0, 240, .inl b11))]) := by
  refine z_start (by decide +kernel) (Nat.le_of_ble_eq_true rfl) ?_
  intro p e s m below meth c A Z hr hnm hA hP hD hS ls hl
  have Z : zC p s m _ meth c prog_3_method_3_code 7 "TraceMachines$Follows" G := Z
  obtain ⟨hx, hb, hml, hown, hts, hK, hN, hlocks⟩ := id Z
  have hl : lv_has ls 7 [(0, .ref b0), (1, .int b1), (2, .int b2), (3, .int b3)] := hl
  refine lv_iconst (v := 0) hx hb d_Follows_rowOf_0 (by decide) ?_
  refine lv_istore (lv' := [(4, .int 0), (0, .ref b0), (1, .int b1), (2, .int b2), (3, .int b3)]) hx hb d_Follows_rowOf_1 hl (by decide) rfl (fun ls hl => ?_)
  refine lv_iload_n hx hb d_Follows_rowOf_3 rfl (lv_at hl 3 rfl) ?_
  refine lv_istore (lv' := [(5, .int b2), (4, .int 0), (0, .ref b0), (1, .int b1), (2, .int b2), (3, .int b3)]) hx hb d_Follows_rowOf_4 hl (by decide) rfl (fun ls hl => ?_)
  suffices key : ∀ (k_24 : Nat) (y_25 : Int32) (y_26 : Int32) (H : Heap) (locs : List Loc) (ls : Array Slot), (zI y_25 0 15) → (15 : Int) - y_25.toInt < (k_24 : Int) → va_P G.1 classes [(b0, .inr (2, [.int b4, .int b5, .int b6, .ref b7, .ref b8, .ref b9])), (b7, .inl (G.2 0, 20, .inl b10)), (b8, .inl (G.2 0, 240, .inl b11))] H → va_D A [(b0, .inr (2, [.int b4, .int b5, .int b6, .ref b7, .ref b8, .ref b9])), (b7, .inl (G.2 0, 20, .inl b10)), (b8, .inl (G.2 0, 240, .inl b11))] → va_S A s.heap H locs → lv_has ls 7 [(5, .int y_25), (4, .int y_26), (0, .ref b0), (1, .int b1), (2, .int b2), (3, .int b3)] → W p l e m_s2_Follows_rowOf s m ([.ref b0, .int b1, .int b2, .int b3] : List Value).toArray below meth c H locs 0 0 (MQ below (zQ G (fun v w => ∃ (e0 : Int32), v = some (.int e0) ∧ w = [(b0, .inr (2, [.int b4, .int b5, .int b6, .ref b7, .ref b8, .ref b9])), (b7, .inl (G.2 0, 20, .inl b10)), (b8, .inl (G.2 0, 240, .inl b11))]) A) ([.ref b0, .int b1, .int b2, .int b3] : List Value).toArray s m_s2_Follows_rowOf.cells m_s2_Follows_rowOf.slots A) (F0 m 6 ls []) by
    exact key 16 (b2) (0) _ _ _ (zI.wk (l' := 0) (h' := 15) hb2 (by decide)) (zm_upi (zI.wk (l' := 0) (h' := 15) hb2 (by decide)) (by decide)) hP hD hS (lv_sub hl [0, 1, 2, 3, 4, 5] rfl)
  intro k_24
  induction k_24 with
  | zero =>
    intro y_25 y_26 H locs ls hy_25 hmk_24 hP hD hS hl
    exact (zm_up0 hy_25 hmk_24).elim
  | succ k_24 ihk_24 =>
    intro y_25 y_26 H locs ls hy_25 hmk_24 hP hD hS hl
    refine lv_iload hx hb d_Follows_rowOf_6 (lv_at hl 0 rfl) ?_
    refine lv_iload_n hx hb d_Follows_rowOf_8 rfl (lv_at hl 4 rfl) ?_
    refine lv_iload_n hx hb d_Follows_rowOf_9 rfl (lv_at hl 5 rfl) ?_
    refine lv_iadd hx hb d_Follows_rowOf_10 ?_
    refine lv_topi (fun v_27 ev_27 => ?_)
    obtain ⟨qv_27, hv_27⟩ := zI_add (l := 0) (h := 15) hb2 hb3 ev_27 (by decide)
    refine lv_icmp_ge (tgt := 56) hx hb d_Follows_rowOf_11 (by decide) (fun hc_28 => ?_) (fun hc_28 => ?_)
    · have _nhc_28 := hc_28
      have ni_29 := (fa_le _ _).mp hc_28
      refine lv_iload hx hb d_Follows_rowOf_56 (lv_at hl 1 rfl) ?_
      exact z_iret hx hb hr hlocks hP hD hS (Nat.le_of_ble_eq_true rfl) (Nat.le_of_ble_eq_true rfl) d_Follows_rowOf_58 ⟨y_26, rfl, rfl⟩
    · have _nhc_28 := hc_28
      have ni_30 := (fa_lt _ _).mp (zi_nle hc_28)
      have hv_31 : zI y_25 0 14 := zI.lt_l hy_25 hv_27 (zi_nle hc_28) (by decide)
      have hv_32 : zI v_27 1 15 := zI.lt_r hy_25 hv_27 (zi_nle hc_28) (by decide)
      refine lv_iload hx hb d_Follows_rowOf_14 (lv_at hl 0 rfl) ?_
      refine lv_aload_n hx hb d_Follows_rowOf_16 rfl (lv_at hl 2 rfl) ?_
      refine va_get (D := G.1) (ci := 2) (v := .ref b7) (C := R_Traces) (T := F_Traces) (N := 6) hx hb hts i_Traces hown hK hP 0 rfl rfl 3 (by decide) (hts _ q65) (fun _ h9 => h9) rfl d_Follows_rowOf_17 ?_
      refine lv_iload_n hx hb d_Follows_rowOf_20 rfl (lv_at hl 3 rfl) ?_
      refine va_iald hx hb hK hP 1 0 rfl rfl (zI.inn hb1 (by decide)) d_Follows_rowOf_21 ?_
      refine lv_topi (fun v_33 ev_33 => ?_)
      have hv_33 : zI v_33 0 12 := (hb10 _).eq ev_33
      refine lv_icmp_ge (tgt := 37) hx hb d_Follows_rowOf_22 (by decide) (fun hc_34 => ?_) (fun hc_34 => ?_)
      · have _nhc_34 := hc_34
        have ni_35 := (fa_le _ _).mp hc_34
        refine lv_iconst (v := 0) hx hb d_Follows_rowOf_37 (by decide) ?_
        refine lv_istore (lv' := [(6, .int 0), (5, .int y_25), (4, .int y_26), (0, .ref b0), (1, .int b1), (2, .int b2), (3, .int b3)]) hx hb d_Follows_rowOf_38 hl (by decide) rfl (fun ls hl => ?_)
        refine lv_iload hx hb d_Follows_rowOf_40 (lv_at hl 2 rfl) ?_
        refine lv_bipush (v := 11) hx hb d_Follows_rowOf_42 (by decide) ?_
        refine lv_imul hx hb d_Follows_rowOf_44 ?_
        refine lv_topi (fun v_36 ev_36 => ?_)
        refine lv_iload hx hb d_Follows_rowOf_45 (lv_at hl 0 rfl) ?_
        refine lv_iadd hx hb d_Follows_rowOf_47 ?_
        refine lv_topi (fun v_37 ev_37 => ?_)
        obtain ⟨qv_37, hv_37⟩ := zI_add (l := -2147483648) (h := 2147483647) (zI_all v_36) zc_0 ev_37 (by decide)
        rw [li_0] at qv_37
        refine lv_istore (lv' := [(4, .int v_37), (6, .int 0), (5, .int y_25), (0, .ref b0), (1, .int b1), (2, .int b2), (3, .int b3)]) hx hb d_Follows_rowOf_48 hl (by decide) rfl (fun ls hl => ?_)
        obtain ⟨v_38, ev_38⟩ : ∃ z : Int32, z = y_25 + 1 := ⟨_, rfl⟩
        obtain ⟨qv_38, hv_38⟩ := zI_add (l := 1) (h := 15) hv_31 zc_1 ev_38 (by decide)
        rw [li_1] at qv_38
        refine lv_iinc (v := v_38) (lv' := [(5, .int v_38), (4, .int v_37), (6, .int 0), (0, .ref b0), (1, .int b1), (2, .int b2), (3, .int b3)]) hx hb d_Follows_rowOf_50 hl (k := 2) rfl (by rw [ev_38]; rfl) (by decide) rfl (fun ls hl => ?_)
        refine lv_goto (tgt := 6) hx hb d_Follows_rowOf_53 (by decide) ?_
        exact ihk_24 (v_38) (v_37) _ _ _ (zI.wk (l' := 0) (h' := 15) hv_38 (by decide)) (zm_up qv_38 hmk_24 (by decide)) hP hD hS (lv_sub hl [0, 1, 3, 4, 5, 6] rfl)
      · have _nhc_34 := hc_34
        have ni_39 := (fa_lt _ _).mp (zi_nle hc_34)
        have hv_40 : zI y_25 0 11 := zI.lt_l hv_31 hv_33 (zi_nle hc_34) (by decide)
        have hv_41 : zI v_33 1 12 := zI.lt_r hv_31 hv_33 (zi_nle hc_34) (by decide)
        refine lv_aload_n hx hb d_Follows_rowOf_25 rfl (lv_at hl 2 rfl) ?_
        refine lv_iload_n hx hb d_Follows_rowOf_26 rfl (lv_at hl 3 rfl) ?_
        refine lv_iload hx hb d_Follows_rowOf_27 (lv_at hl 0 rfl) ?_
        refine z_callV (index := 56) (As := [.int b1, .int y_25]) (rest := []) (wr := [(b7, .inl (G.2 0, 20, .inl b10))]) Z (s1_Traces_letterAt l G (b0) (b1) (y_25) (b4) (b5) (b6) (b7) (b8) (b9) (b11) hb1 hv_40 hb4 hb5 hb6 hb11) hl.1 q613 q580 q581 q3 q582 ⟨by decide, by decide, by show _ = some 2; decide +kernel⟩ ⟨Nat.le_of_ble_eq_true rfl, Nat.le_of_ble_eq_true rfl⟩ ⟨Nat.le_of_ble_eq_true rfl, Nat.le_of_ble_eq_true rfl⟩ rfl (Nat.le_of_ble_eq_true rfl) d_Follows_rowOf_29 hP hD hS hA 0 2 rfl rfl rfl [0, 2] [1] rfl rfl rfl rfl (by decide) (fun v w1 H locs hw_42 hP hD hS => ?_)
        obtain ⟨x_43, rfl, rfl, hx_43⟩ := hw_42
        have hP : va_P G.1 classes [(b7, .inl (G.2 0, 20, .inl b10)), (b0, .inr (2, [.int b4, .int b5, .int b6, .ref b7, .ref b8, .ref b9])), (b8, .inl (G.2 0, 240, .inl b11))] H := hP
        have hD := z_tie hP hD rfl
        refine W.widen (k := 0) (n := 0) (Nat.le_of_ble_eq_true rfl) (Nat.le_of_ble_eq_true rfl) ?_
        refine lv_iconst (v := 1) hx hb d_Follows_rowOf_32 (by decide) ?_
        refine lv_iadd hx hb d_Follows_rowOf_33 ?_
        refine lv_topi (fun v_44 ev_44 => ?_)
        obtain ⟨qv_44, hv_44⟩ := zI_add (l := 1) (h := 10) hx_43 zc_1 ev_44 (by decide)
        rw [li_1] at qv_44
        refine lv_goto (tgt := 38) hx hb d_Follows_rowOf_34 (by decide) ?_
        refine lv_istore (lv' := [(6, .int v_44), (5, .int y_25), (4, .int y_26), (0, .ref b0), (1, .int b1), (2, .int b2), (3, .int b3)]) hx hb d_Follows_rowOf_38 hl (by decide) rfl (fun ls hl => ?_)
        refine lv_iload hx hb d_Follows_rowOf_40 (lv_at hl 2 rfl) ?_
        refine lv_bipush (v := 11) hx hb d_Follows_rowOf_42 (by decide) ?_
        refine lv_imul hx hb d_Follows_rowOf_44 ?_
        refine lv_topi (fun v_45 ev_45 => ?_)
        refine lv_iload hx hb d_Follows_rowOf_45 (lv_at hl 0 rfl) ?_
        refine lv_iadd hx hb d_Follows_rowOf_47 ?_
        refine lv_topi (fun v_46 ev_46 => ?_)
        refine lv_istore (lv' := [(4, .int v_46), (6, .int v_44), (5, .int y_25), (0, .ref b0), (1, .int b1), (2, .int b2), (3, .int b3)]) hx hb d_Follows_rowOf_48 hl (by decide) rfl (fun ls hl => ?_)
        obtain ⟨v_47, ev_47⟩ : ∃ z : Int32, z = y_25 + 1 := ⟨_, rfl⟩
        obtain ⟨qv_47, hv_47⟩ := zI_add (l := 1) (h := 12) hv_40 zc_1 ev_47 (by decide)
        rw [li_1] at qv_47
        refine lv_iinc (v := v_47) (lv' := [(5, .int v_47), (4, .int v_46), (6, .int v_44), (0, .ref b0), (1, .int b1), (2, .int b2), (3, .int b3)]) hx hb d_Follows_rowOf_50 hl (k := 2) rfl (by rw [ev_47]; rfl) (by decide) rfl (fun ls hl => ?_)
        refine lv_goto (tgt := 6) hx hb d_Follows_rowOf_53 (by decide) ?_
        exact ihk_24 (v_47) (v_46) _ _ _ (zI.wk (l' := 0) (h' := 15) hv_47 (by decide)) (zm_up qv_47 hmk_24 (by decide)) (hP.sub [1, 0, 2] rfl) (hD.sub [1, 0, 2] (by decide) rfl) hS (lv_sub hl [0, 1, 3, 4, 5, 6] rfl)
theorem d_Follows_insert_59 : decode prog_3_method_4_code 59 = .ok (.return_, 1) := by decide +kernel
theorem d_Follows_insert_117 : decode prog_3_method_4_code 117 = .ok (.return_, 1) := by decide +kernel
abbrev m_s2_Follows_insert : Room := { frames := 0, cells := 0, slots := 0, locals := 0 }
set_option maxHeartbeats 4000000 in
set_option maxRecDepth 100000 in
theorem s2_Follows_insert (l : Launch) (G : zG) (b0 : Nat) (b1 : Int32) (b2 : Int32) (b3 : Nat) (b4 : Nat) (b5 : Nat) (b6 : Nat → Int32) (b7 : Nat → Int32) (hb1 : zI b1 0 240) (hb6 : zqa qC b6) (hins : (b6 b1.toNatClampNeg).toInt + b1.toInt ≤ 259) : zM l G y_Follows_insert prog_3_method_4_code 6 (Option.none : Option Jvm.ClassFile.FieldType) m_s2_Follows_insert [.ref b0, .int b1, .int b2] [(b0, .inr (4, [.ref b3, .ref b4, .ref b5])), (b3, .inl (G.2 0, 241, .inl b6)), (b4, .inl (G.2 0, 4820, .inl b7))] (fun v w => ∃ (e0 : Nat → Int32), ∃ (e1 : Nat → Int32), v = none ∧ w = [(b0, .inr (4, [.ref b3, .ref b4, .ref b5])), (b3, .inl (G.2 0, 241, .inl e0)), (b4, .inl (G.2 0, 4820, .inl e1))] ∧ (zqa qC e0) ∧ (∀ q : Nat, (e0 q).toInt = (b6 q).toInt ∨ q = b1.toNatClampNeg ∧ (e0 q).toInt = (b6 q).toInt + 1)) := by
  refine z_start (by decide +kernel) (Nat.le_of_ble_eq_true rfl) ?_
  intro p e s m below meth c A Z hr hnm hA hP hD hS ls hl
  have Z : zC p s m _ meth c prog_3_method_4_code 6 "TraceMachines$Follows" G := Z
  obtain ⟨hx, hb, hml, hown, hts, hK, hN, hlocks⟩ := id Z
  have hl : lv_has ls 6 [(0, .ref b0), (1, .int b1), (2, .int b2)] := hl
  refine lv_iload_n hx hb d_Follows_insert_0 rfl (lv_at hl 1 rfl) ?_
  refine lv_bipush (v := 20) hx hb d_Follows_insert_1 (by decide) ?_
  refine lv_imul hx hb d_Follows_insert_3 ?_
  refine lv_topi (fun v_1 ev_1 => ?_)
  obtain ⟨qv_1, hv_1⟩ := zI_mul (l := 0) (h := 4800) hb1 zc_20 ev_1 (by decide)
  rw [li_20] at qv_1
  refine lv_istore_n (lv' := [(3, .int v_1), (0, .ref b0), (1, .int b1), (2, .int b2)]) hx hb d_Follows_insert_4 rfl hl (by decide) rfl (fun ls hl => ?_)
  refine lv_iload_n hx hb d_Follows_insert_5 rfl (lv_at hl 0 rfl) ?_
  refine lv_aload_n hx hb d_Follows_insert_6 rfl (lv_at hl 1 rfl) ?_
  refine va_get (D := G.1) (ci := 4) (v := .ref b3) (C := R_Follows) (T := F_Follows) (N := 3) hx hb hts i_Follows hown hK hP 0 rfl rfl 0 (by decide) (hts _ q146) (fun _ h9 => h9) rfl d_Follows_insert_7 ?_
  refine lv_iload_n hx hb d_Follows_insert_10 rfl (lv_at hl 2 rfl) ?_
  refine va_iald hx hb hK hP 1 0 rfl rfl (zI.inn hb1 (by decide)) d_Follows_insert_11 ?_
  refine lv_topi (fun v_2 ev_2 => ?_)
  obtain ⟨hv_2, kv_2⟩ := zQC.ld hb6 hb1 ev_2 (by decide)
  have hinv_2 : v_2.toInt + b1.toInt ≤ 259 := by rw [ev_2]; exact hins
  refine lv_iadd hx hb d_Follows_insert_12 ?_
  refine lv_topi (fun v_3 ev_3 => ?_)
  obtain ⟨qv_3, hv_3⟩ := zI_add (l := 0) (h := 5060) hv_1 hv_2 ev_3 (by decide)
  have hv_4 : zI v_3 0 4819 := ⟨by omega, by omega⟩
  refine lv_istore (lv' := [(4, .int v_3), (3, .int v_1), (0, .ref b0), (1, .int b1), (2, .int b2)]) hx hb d_Follows_insert_13 hl (by decide) rfl (fun ls hl => ?_)
  suffices key : ∀ (k_167 : Nat) (y_168 : Int32) (H : Heap) (locs : List Loc) (ls : Array Slot), (zI y_168 0 4819) → y_168.toInt - (0) < (k_167 : Int) → va_P G.1 classes [(b0, .inr (4, [.ref b3, .ref b4, .ref b5])), (b3, .inl (G.2 0, 241, .inl b6)), (b4, .inl (G.2 0, 4820, .inl b7))] H → va_D A [(b0, .inr (4, [.ref b3, .ref b4, .ref b5])), (b3, .inl (G.2 0, 241, .inl b6)), (b4, .inl (G.2 0, 4820, .inl b7))] → va_S A s.heap H locs → lv_has ls 6 [(4, .int y_168), (3, .int v_1), (0, .ref b0), (1, .int b1), (2, .int b2)] → W p l e m_s2_Follows_insert s m ([.ref b0, .int b1, .int b2] : List Value).toArray below meth c H locs 0 0 (MQ below (zQ G (fun v w => ∃ (e0 : Nat → Int32), ∃ (e1 : Nat → Int32), v = none ∧ w = [(b0, .inr (4, [.ref b3, .ref b4, .ref b5])), (b3, .inl (G.2 0, 241, .inl e0)), (b4, .inl (G.2 0, 4820, .inl e1))] ∧ (zqa qC e0) ∧ (∀ q : Nat, (e0 q).toInt = (b6 q).toInt ∨ q = b1.toNatClampNeg ∧ (e0 q).toInt = (b6 q).toInt + 1)) A) ([.ref b0, .int b1, .int b2] : List Value).toArray s m_s2_Follows_insert.cells m_s2_Follows_insert.slots A) (F0 m 15 ls []) by
    exact key 4820 (v_3) _ _ _ hv_4 (zm_dni hv_4 (by decide)) hP hD hS (lv_sub hl [0, 1, 2, 3, 4] rfl)
  intro k_167
  induction k_167 with
  | zero =>
    intro y_168 H locs ls hy_168 hmk_167 hP hD hS hl
    exact (zm_dn0 hy_168 hmk_167).elim
  | succ k_167 ihk_167 =>
    intro y_168 H locs ls hy_168 hmk_167 hP hD hS hl
    refine lv_iload hx hb d_Follows_insert_15 (lv_at hl 0 rfl) ?_
    refine lv_iload_n hx hb d_Follows_insert_17 rfl (lv_at hl 1 rfl) ?_
    refine lv_icmp_le (tgt := 40) hx hb d_Follows_insert_18 (by decide) (fun hc_169 => ?_) (fun hc_169 => ?_)
    · have _nhc_169 := hc_169
      have ni_170 := (fa_le _ _).mp hc_169
      have hv_171 : zI y_168 0 4800 := zI.le_l hy_168 hv_1 hc_169 (by decide)
      refine lv_iload hx hb d_Follows_insert_40 (lv_at hl 0 rfl) ?_
      refine lv_iload_n hx hb d_Follows_insert_42 rfl (lv_at hl 1 rfl) ?_
      refine lv_icmp_le (tgt := 60) hx hb d_Follows_insert_43 (by decide) (fun hc_172 => ?_) (fun hc_172 => ?_)
      · have _nhc_172 := hc_172
        have ni_173 := (fa_le _ _).mp hc_172
        refine lv_iload_n hx hb d_Follows_insert_60 rfl (lv_at hl 1 rfl) ?_
        refine lv_aload_n hx hb d_Follows_insert_61 rfl (lv_at hl 2 rfl) ?_
        refine va_get (D := G.1) (ci := 4) (v := .ref b3) (C := R_Follows) (T := F_Follows) (N := 3) hx hb hts i_Follows hown hK hP 0 rfl rfl 0 (by decide) (hts _ q146) (fun _ h9 => h9) rfl d_Follows_insert_62 ?_
        refine lv_iload_n hx hb d_Follows_insert_65 rfl (lv_at hl 3 rfl) ?_
        refine va_iald hx hb hK hP 1 0 rfl rfl (zI.inn hb1 (by decide)) d_Follows_insert_66 ?_
        refine lv_topi (fun v_174 ev_174 => ?_)
        obtain rfl : v_2 = v_174 := ev_2.trans ev_174.symm
        refine lv_iadd hx hb d_Follows_insert_67 ?_
        refine lv_topi (fun v_175 ev_175 => ?_)
        obtain rfl : v_3 = v_175 := ev_3.trans ev_175.symm
        refine lv_istore (lv' := [(5, .int v_3), (4, .int y_168), (3, .int v_1), (0, .ref b0), (1, .int b1), (2, .int b2)]) hx hb d_Follows_insert_68 hl (by decide) rfl (fun ls hl => ?_)
        suffices key : ∀ (k_191 : Nat) (y_192 : Int32) (y_193 : Nat → Int32) (H : Heap) (locs : List Loc) (ls : Array Slot), (zI y_192 0 4819) → y_192.toInt - (0) < (k_191 : Int) → va_P G.1 classes [(b0, .inr (4, [.ref b3, .ref b4, .ref b5])), (b3, .inl (G.2 0, 241, .inl b6)), (b4, .inl (G.2 0, 4820, .inl y_193))] H → va_D A [(b0, .inr (4, [.ref b3, .ref b4, .ref b5])), (b3, .inl (G.2 0, 241, .inl b6)), (b4, .inl (G.2 0, 4820, .inl y_193))] → va_S A s.heap H locs → lv_has ls 6 [(5, .int y_192), (4, .int y_168), (3, .int v_1), (0, .ref b0), (1, .int b1), (2, .int b2)] → W p l e m_s2_Follows_insert s m ([.ref b0, .int b1, .int b2] : List Value).toArray below meth c H locs 0 0 (MQ below (zQ G (fun v w => ∃ (e0 : Nat → Int32), ∃ (e1 : Nat → Int32), v = none ∧ w = [(b0, .inr (4, [.ref b3, .ref b4, .ref b5])), (b3, .inl (G.2 0, 241, .inl e0)), (b4, .inl (G.2 0, 4820, .inl e1))] ∧ (zqa qC e0) ∧ (∀ q : Nat, (e0 q).toInt = (b6 q).toInt ∨ q = b1.toNatClampNeg ∧ (e0 q).toInt = (b6 q).toInt + 1)) A) ([.ref b0, .int b1, .int b2] : List Value).toArray s m_s2_Follows_insert.cells m_s2_Follows_insert.slots A) (F0 m 70 ls []) by
          exact key 4820 (v_3) (b7) _ _ _ hv_4 (zm_dni hv_4 (by decide)) hP hD hS (lv_sub hl [0, 1, 2, 3, 4, 5] rfl)
        intro k_191
        induction k_191 with
        | zero =>
          intro y_192 y_193 H locs ls hy_192 hmk_191 hP hD hS hl
          exact (zm_dn0 hy_192 hmk_191).elim
        | succ k_191 ihk_191 =>
          intro y_192 y_193 H locs ls hy_192 hmk_191 hP hD hS hl
          refine lv_iload hx hb d_Follows_insert_70 (lv_at hl 0 rfl) ?_
          refine lv_iload hx hb d_Follows_insert_72 (lv_at hl 1 rfl) ?_
          refine lv_icmp_le (tgt := 99) hx hb d_Follows_insert_74 (by decide) (fun hc_194 => ?_) (fun hc_194 => ?_)
          · have _nhc_194 := hc_194
            have ni_195 := (fa_le _ _).mp hc_194
            have hv_196 : zI y_192 0 4800 := zI.le_l hy_192 hv_171 hc_194 (by decide)
            refine lv_aload_n hx hb d_Follows_insert_99 rfl (lv_at hl 3 rfl) ?_
            refine va_get (D := G.1) (ci := 4) (v := .ref b4) (C := R_Follows) (T := F_Follows) (N := 3) hx hb hts i_Follows hown hK hP 0 rfl rfl 1 (by decide) (hts _ q148) (fun _ h9 => h9) rfl d_Follows_insert_100 ?_
            refine lv_iload hx hb d_Follows_insert_103 (lv_at hl 1 rfl) ?_
            refine lv_iload_n hx hb d_Follows_insert_105 rfl (lv_at hl 5 rfl) ?_
            refine va_iast hx hb hK hP hD hS 2 0 rfl rfl (zI.inn hv_171 (by decide)) d_Follows_insert_106 (fun H locs hP hD hS => ?_)
            obtain ⟨f_197, gf_197, uf_197, hP, hD⟩ := z_newFu 2 hP hD rfl
            have hP : va_P G.1 classes [(b0, .inr (4, [.ref b3, .ref b4, .ref b5])), (b3, .inl (G.2 0, 241, .inl b6)), (b4, .inl (G.2 0, 4820, .inl f_197))] H := hP
            have hD := z_tie hP hD rfl
            refine lv_aload_n hx hb d_Follows_insert_107 rfl (lv_at hl 3 rfl) ?_
            refine va_get (D := G.1) (ci := 4) (v := .ref b3) (C := R_Follows) (T := F_Follows) (N := 3) hx hb hts i_Follows hown hK hP 0 rfl rfl 0 (by decide) (hts _ q146) (fun _ h9 => h9) rfl d_Follows_insert_108 ?_
            refine lv_iload_n hx hb d_Follows_insert_111 rfl (lv_at hl 4 rfl) ?_
            refine lv_dup2_11 hx hb d_Follows_insert_112 rfl rfl ?_
            refine va_iald hx hb hK hP 1 0 rfl rfl (zI.inn hb1 (by decide)) d_Follows_insert_113 ?_
            refine lv_topi (fun v_198 ev_198 => ?_)
            obtain rfl : v_2 = v_198 := ev_2.trans ev_198.symm
            refine lv_iconst (v := 1) hx hb d_Follows_insert_114 (by decide) ?_
            refine lv_iadd hx hb d_Follows_insert_115 ?_
            refine lv_topi (fun v_199 ev_199 => ?_)
            obtain ⟨qv_199, hv_199⟩ := zI_add (l := 1) (h := 261) hv_2 zc_1 ev_199 (by decide)
            rw [li_1] at qv_199
            refine va_iast hx hb hK hP hD hS 1 0 rfl rfl (zI.inn hb1 (by decide)) d_Follows_insert_116 (fun H locs hP hD hS => ?_)
            obtain ⟨f_200, hf_200, gf_200, uf_200, hP, hD⟩ := z_newq_ (Q := qC) 1 hP hD rfl hb6 (qC_v hb1 (by decide) ⟨⟨by have _w := hv_199; have _x := hb1; omega, by have _w := hv_199; have _x := hb1; omega⟩, by have _w := hv_199; have _x := hb1; omega⟩)
            have hP : va_P G.1 classes [(b0, .inr (4, [.ref b3, .ref b4, .ref b5])), (b3, .inl (G.2 0, 241, .inl f_200)), (b4, .inl (G.2 0, 4820, .inl f_197))] H := hP
            have hD := z_tie hP hD rfl
            exact z_vret hx hb hr hlocks hP hD hS (Nat.le_of_ble_eq_true rfl) (Nat.le_of_ble_eq_true rfl) d_Follows_insert_117 ⟨f_200, f_197, rfl, rfl, hf_200, (by intro q; rw [uf_200, z_at]; split; rename_i h; right; refine ⟨h, ?_⟩; rw [h, ← ev_2]; omega; left; rfl)⟩
          · have _nhc_194 := hc_194
            have ni_201 := (fa_lt _ _).mp (zi_nle hc_194)
            have hv_202 : zI y_192 1 4819 := zI.lt_r hv_171 hy_192 (zi_nle hc_194) (by decide)
            refine lv_aload_n hx hb d_Follows_insert_77 rfl (lv_at hl 3 rfl) ?_
            refine va_get (D := G.1) (ci := 4) (v := .ref b4) (C := R_Follows) (T := F_Follows) (N := 3) hx hb hts i_Follows hown hK hP 0 rfl rfl 1 (by decide) (hts _ q148) (fun _ h9 => h9) rfl d_Follows_insert_78 ?_
            refine lv_iload hx hb d_Follows_insert_81 (lv_at hl 0 rfl) ?_
            refine lv_aload_n hx hb d_Follows_insert_83 rfl (lv_at hl 3 rfl) ?_
            refine va_get (D := G.1) (ci := 4) (v := .ref b4) (C := R_Follows) (T := F_Follows) (N := 3) hx hb hts i_Follows hown hK hP 0 rfl rfl 1 (by decide) (hts _ q148) (fun _ h9 => h9) rfl d_Follows_insert_84 ?_
            refine lv_iload hx hb d_Follows_insert_87 (lv_at hl 0 rfl) ?_
            refine lv_iconst (v := 1) hx hb d_Follows_insert_89 (by decide) ?_
            refine lv_isub hx hb d_Follows_insert_90 ?_
            refine lv_topi (fun v_203 ev_203 => ?_)
            obtain ⟨qv_203, hv_203⟩ := zI_sub (l := 0) (h := 4818) hv_202 zc_1 ev_203 (by decide)
            rw [li_1] at qv_203
            refine va_iald hx hb hK hP 2 0 rfl rfl (zI.inn hv_203 (by decide)) d_Follows_insert_91 ?_
            refine lv_topi (fun v_204 ev_204 => ?_)
            refine va_iast hx hb hK hP hD hS 2 0 rfl rfl (zI.inn hv_202 (by decide)) d_Follows_insert_92 (fun H locs hP hD hS => ?_)
            obtain ⟨f_205, gf_205, uf_205, hP, hD⟩ := z_newFu 2 hP hD rfl
            have hP : va_P G.1 classes [(b0, .inr (4, [.ref b3, .ref b4, .ref b5])), (b3, .inl (G.2 0, 241, .inl b6)), (b4, .inl (G.2 0, 4820, .inl f_205))] H := hP
            have hD := z_tie hP hD rfl
            obtain ⟨v_206, ev_206⟩ : ∃ z : Int32, z = y_192 + (-1) := ⟨_, rfl⟩
            obtain ⟨qv_206, hv_206⟩ := zI_add (l := 0) (h := 4818) hv_202 zc_m1 ev_206 (by decide)
            rw [li_m1] at qv_206
            refine lv_iinc (v := v_206) (lv' := [(5, .int v_206), (4, .int y_168), (3, .int v_1), (0, .ref b0), (1, .int b1), (2, .int b2)]) hx hb d_Follows_insert_93 hl (k := 0) rfl (by rw [ev_206]; rfl) (by decide) rfl (fun ls hl => ?_)
            refine lv_goto (tgt := 70) hx hb d_Follows_insert_96 (by decide) ?_
            exact ihk_191 (v_206) (f_205) _ _ _ (zI.wk (l' := 0) (h' := 4819) hv_206 (by decide)) (zm_dn qv_206 hmk_191 (by decide)) hP hD hS (lv_sub hl [0, 1, 2, 3, 4, 5] rfl)
      · have _nhc_172 := hc_172
        have ni_207 := (fa_lt _ _).mp (zi_nle hc_172)
        have hv_208 : zI v_1 0 4799 := zI.lt_l hv_1 hv_171 (zi_nle hc_172) (by decide)
        have hv_209 : zI y_168 1 4800 := zI.lt_r hv_1 hv_171 (zi_nle hc_172) (by decide)
        refine lv_aload_n hx hb d_Follows_insert_46 rfl (lv_at hl 2 rfl) ?_
        refine va_get (D := G.1) (ci := 4) (v := .ref b4) (C := R_Follows) (T := F_Follows) (N := 3) hx hb hts i_Follows hown hK hP 0 rfl rfl 1 (by decide) (hts _ q148) (fun _ h9 => h9) rfl d_Follows_insert_47 ?_
        refine lv_iload hx hb d_Follows_insert_50 (lv_at hl 0 rfl) ?_
        refine lv_iconst (v := 1) hx hb d_Follows_insert_52 (by decide) ?_
        refine lv_isub hx hb d_Follows_insert_53 ?_
        refine lv_topi (fun v_210 ev_210 => ?_)
        obtain ⟨qv_210, hv_210⟩ := zI_sub (l := 0) (h := 4799) hv_209 zc_1 ev_210 (by decide)
        rw [li_1] at qv_210
        refine va_iald hx hb hK hP 2 0 rfl rfl (zI.inn hv_210 (by decide)) d_Follows_insert_54 ?_
        refine lv_topi (fun v_211 ev_211 => ?_)
        refine lv_iload_n hx hb d_Follows_insert_55 rfl (lv_at hl 4 rfl) ?_
        refine lv_icmp_ne (tgt := 60) hx hb d_Follows_insert_56 (by decide) (fun hc_212 => ?_) (fun hc_212 => ?_)
        · have _nhc_212 := hc_212
          have ni_213 : ¬ (v_211 : Int32).toInt = (b2 : Int32).toInt := fun z => hc_212 ((fa_eq _ _).mpr z)
          refine lv_iload_n hx hb d_Follows_insert_60 rfl (lv_at hl 1 rfl) ?_
          refine lv_aload_n hx hb d_Follows_insert_61 rfl (lv_at hl 2 rfl) ?_
          refine va_get (D := G.1) (ci := 4) (v := .ref b3) (C := R_Follows) (T := F_Follows) (N := 3) hx hb hts i_Follows hown hK hP 0 rfl rfl 0 (by decide) (hts _ q146) (fun _ h9 => h9) rfl d_Follows_insert_62 ?_
          refine lv_iload_n hx hb d_Follows_insert_65 rfl (lv_at hl 3 rfl) ?_
          refine va_iald hx hb hK hP 1 0 rfl rfl (zI.inn hb1 (by decide)) d_Follows_insert_66 ?_
          refine lv_topi (fun v_214 ev_214 => ?_)
          obtain rfl : v_2 = v_214 := ev_2.trans ev_214.symm
          refine lv_iadd hx hb d_Follows_insert_67 ?_
          refine lv_topi (fun v_215 ev_215 => ?_)
          obtain rfl : v_3 = v_215 := ev_3.trans ev_215.symm
          refine lv_istore (lv' := [(5, .int v_3), (4, .int y_168), (3, .int v_1), (0, .ref b0), (1, .int b1), (2, .int b2)]) hx hb d_Follows_insert_68 hl (by decide) rfl (fun ls hl => ?_)
          suffices key : ∀ (k_231 : Nat) (y_232 : Int32) (y_233 : Nat → Int32) (H : Heap) (locs : List Loc) (ls : Array Slot), (zI y_232 0 4819) → y_232.toInt - (0) < (k_231 : Int) → va_P G.1 classes [(b0, .inr (4, [.ref b3, .ref b4, .ref b5])), (b3, .inl (G.2 0, 241, .inl b6)), (b4, .inl (G.2 0, 4820, .inl y_233))] H → va_D A [(b0, .inr (4, [.ref b3, .ref b4, .ref b5])), (b3, .inl (G.2 0, 241, .inl b6)), (b4, .inl (G.2 0, 4820, .inl y_233))] → va_S A s.heap H locs → lv_has ls 6 [(5, .int y_232), (4, .int y_168), (3, .int v_1), (0, .ref b0), (1, .int b1), (2, .int b2)] → W p l e m_s2_Follows_insert s m ([.ref b0, .int b1, .int b2] : List Value).toArray below meth c H locs 0 0 (MQ below (zQ G (fun v w => ∃ (e0 : Nat → Int32), ∃ (e1 : Nat → Int32), v = none ∧ w = [(b0, .inr (4, [.ref b3, .ref b4, .ref b5])), (b3, .inl (G.2 0, 241, .inl e0)), (b4, .inl (G.2 0, 4820, .inl e1))] ∧ (zqa qC e0) ∧ (∀ q : Nat, (e0 q).toInt = (b6 q).toInt ∨ q = b1.toNatClampNeg ∧ (e0 q).toInt = (b6 q).toInt + 1)) A) ([.ref b0, .int b1, .int b2] : List Value).toArray s m_s2_Follows_insert.cells m_s2_Follows_insert.slots A) (F0 m 70 ls []) by
            exact key 4820 (v_3) (b7) _ _ _ hv_4 (zm_dni hv_4 (by decide)) hP hD hS (lv_sub hl [0, 1, 2, 3, 4, 5] rfl)
          intro k_231
          induction k_231 with
          | zero =>
            intro y_232 y_233 H locs ls hy_232 hmk_231 hP hD hS hl
            exact (zm_dn0 hy_232 hmk_231).elim
          | succ k_231 ihk_231 =>
            intro y_232 y_233 H locs ls hy_232 hmk_231 hP hD hS hl
            refine lv_iload hx hb d_Follows_insert_70 (lv_at hl 0 rfl) ?_
            refine lv_iload hx hb d_Follows_insert_72 (lv_at hl 1 rfl) ?_
            refine lv_icmp_le (tgt := 99) hx hb d_Follows_insert_74 (by decide) (fun hc_234 => ?_) (fun hc_234 => ?_)
            · have _nhc_234 := hc_234
              have ni_235 := (fa_le _ _).mp hc_234
              have hv_236 : zI y_232 0 4800 := zI.le_l hy_232 hv_209 hc_234 (by decide)
              refine lv_aload_n hx hb d_Follows_insert_99 rfl (lv_at hl 3 rfl) ?_
              refine va_get (D := G.1) (ci := 4) (v := .ref b4) (C := R_Follows) (T := F_Follows) (N := 3) hx hb hts i_Follows hown hK hP 0 rfl rfl 1 (by decide) (hts _ q148) (fun _ h9 => h9) rfl d_Follows_insert_100 ?_
              refine lv_iload hx hb d_Follows_insert_103 (lv_at hl 1 rfl) ?_
              refine lv_iload_n hx hb d_Follows_insert_105 rfl (lv_at hl 5 rfl) ?_
              refine va_iast hx hb hK hP hD hS 2 0 rfl rfl (zI.inn hv_209 (by decide)) d_Follows_insert_106 (fun H locs hP hD hS => ?_)
              obtain ⟨f_237, gf_237, uf_237, hP, hD⟩ := z_newFu 2 hP hD rfl
              have hP : va_P G.1 classes [(b0, .inr (4, [.ref b3, .ref b4, .ref b5])), (b3, .inl (G.2 0, 241, .inl b6)), (b4, .inl (G.2 0, 4820, .inl f_237))] H := hP
              have hD := z_tie hP hD rfl
              refine lv_aload_n hx hb d_Follows_insert_107 rfl (lv_at hl 3 rfl) ?_
              refine va_get (D := G.1) (ci := 4) (v := .ref b3) (C := R_Follows) (T := F_Follows) (N := 3) hx hb hts i_Follows hown hK hP 0 rfl rfl 0 (by decide) (hts _ q146) (fun _ h9 => h9) rfl d_Follows_insert_108 ?_
              refine lv_iload_n hx hb d_Follows_insert_111 rfl (lv_at hl 4 rfl) ?_
              refine lv_dup2_11 hx hb d_Follows_insert_112 rfl rfl ?_
              refine va_iald hx hb hK hP 1 0 rfl rfl (zI.inn hb1 (by decide)) d_Follows_insert_113 ?_
              refine lv_topi (fun v_238 ev_238 => ?_)
              obtain rfl : v_2 = v_238 := ev_2.trans ev_238.symm
              refine lv_iconst (v := 1) hx hb d_Follows_insert_114 (by decide) ?_
              refine lv_iadd hx hb d_Follows_insert_115 ?_
              refine lv_topi (fun v_239 ev_239 => ?_)
              obtain ⟨qv_239, hv_239⟩ := zI_add (l := 1) (h := 261) hv_2 zc_1 ev_239 (by decide)
              rw [li_1] at qv_239
              refine va_iast hx hb hK hP hD hS 1 0 rfl rfl (zI.inn hb1 (by decide)) d_Follows_insert_116 (fun H locs hP hD hS => ?_)
              obtain ⟨f_240, hf_240, gf_240, uf_240, hP, hD⟩ := z_newq_ (Q := qC) 1 hP hD rfl hb6 (qC_v hb1 (by decide) ⟨⟨by have _w := hv_239; have _x := hb1; omega, by have _w := hv_239; have _x := hb1; omega⟩, by have _w := hv_239; have _x := hb1; omega⟩)
              have hP : va_P G.1 classes [(b0, .inr (4, [.ref b3, .ref b4, .ref b5])), (b3, .inl (G.2 0, 241, .inl f_240)), (b4, .inl (G.2 0, 4820, .inl f_237))] H := hP
              have hD := z_tie hP hD rfl
              exact z_vret hx hb hr hlocks hP hD hS (Nat.le_of_ble_eq_true rfl) (Nat.le_of_ble_eq_true rfl) d_Follows_insert_117 ⟨f_240, f_237, rfl, rfl, hf_240, (by intro q; rw [uf_240, z_at]; split; rename_i h; right; refine ⟨h, ?_⟩; rw [h, ← ev_2]; omega; left; rfl)⟩
            · have _nhc_234 := hc_234
              have ni_241 := (fa_lt _ _).mp (zi_nle hc_234)
              have hv_242 : zI y_232 2 4819 := zI.lt_r hv_209 hy_232 (zi_nle hc_234) (by decide)
              refine lv_aload_n hx hb d_Follows_insert_77 rfl (lv_at hl 3 rfl) ?_
              refine va_get (D := G.1) (ci := 4) (v := .ref b4) (C := R_Follows) (T := F_Follows) (N := 3) hx hb hts i_Follows hown hK hP 0 rfl rfl 1 (by decide) (hts _ q148) (fun _ h9 => h9) rfl d_Follows_insert_78 ?_
              refine lv_iload hx hb d_Follows_insert_81 (lv_at hl 0 rfl) ?_
              refine lv_aload_n hx hb d_Follows_insert_83 rfl (lv_at hl 3 rfl) ?_
              refine va_get (D := G.1) (ci := 4) (v := .ref b4) (C := R_Follows) (T := F_Follows) (N := 3) hx hb hts i_Follows hown hK hP 0 rfl rfl 1 (by decide) (hts _ q148) (fun _ h9 => h9) rfl d_Follows_insert_84 ?_
              refine lv_iload hx hb d_Follows_insert_87 (lv_at hl 0 rfl) ?_
              refine lv_iconst (v := 1) hx hb d_Follows_insert_89 (by decide) ?_
              refine lv_isub hx hb d_Follows_insert_90 ?_
              refine lv_topi (fun v_243 ev_243 => ?_)
              obtain ⟨qv_243, hv_243⟩ := zI_sub (l := 1) (h := 4818) hv_242 zc_1 ev_243 (by decide)
              rw [li_1] at qv_243
              refine va_iald hx hb hK hP 2 0 rfl rfl (zI.inn hv_243 (by decide)) d_Follows_insert_91 ?_
              refine lv_topi (fun v_244 ev_244 => ?_)
              refine va_iast hx hb hK hP hD hS 2 0 rfl rfl (zI.inn hv_242 (by decide)) d_Follows_insert_92 (fun H locs hP hD hS => ?_)
              obtain ⟨f_245, gf_245, uf_245, hP, hD⟩ := z_newFu 2 hP hD rfl
              have hP : va_P G.1 classes [(b0, .inr (4, [.ref b3, .ref b4, .ref b5])), (b3, .inl (G.2 0, 241, .inl b6)), (b4, .inl (G.2 0, 4820, .inl f_245))] H := hP
              have hD := z_tie hP hD rfl
              obtain ⟨v_246, ev_246⟩ : ∃ z : Int32, z = y_232 + (-1) := ⟨_, rfl⟩
              obtain ⟨qv_246, hv_246⟩ := zI_add (l := 1) (h := 4818) hv_242 zc_m1 ev_246 (by decide)
              rw [li_m1] at qv_246
              refine lv_iinc (v := v_246) (lv' := [(5, .int v_246), (4, .int y_168), (3, .int v_1), (0, .ref b0), (1, .int b1), (2, .int b2)]) hx hb d_Follows_insert_93 hl (k := 0) rfl (by rw [ev_246]; rfl) (by decide) rfl (fun ls hl => ?_)
              refine lv_goto (tgt := 70) hx hb d_Follows_insert_96 (by decide) ?_
              exact ihk_231 (v_246) (f_245) _ _ _ (zI.wk (l' := 0) (h' := 4819) hv_246 (by decide)) (zm_dn qv_246 hmk_231 (by decide)) hP hD hS (lv_sub hl [0, 1, 2, 3, 4, 5] rfl)
        · have _nhc_212 := hc_212
          have ni_247 := (fa_eq _ _).mp hc_212
          exact z_vret hx hb hr hlocks hP hD hS (Nat.le_of_ble_eq_true rfl) (Nat.le_of_ble_eq_true rfl) d_Follows_insert_59 ⟨b6, b7, rfl, rfl, hb6, (fun _ => Or.inl rfl)⟩
    · have _nhc_169 := hc_169
      have ni_248 := (fa_lt _ _).mp (zi_nle hc_169)
      have hv_249 : zI y_168 1 4819 := zI.lt_r hv_1 hy_168 (zi_nle hc_169) (by decide)
      refine lv_aload_n hx hb d_Follows_insert_21 rfl (lv_at hl 2 rfl) ?_
      refine va_get (D := G.1) (ci := 4) (v := .ref b4) (C := R_Follows) (T := F_Follows) (N := 3) hx hb hts i_Follows hown hK hP 0 rfl rfl 1 (by decide) (hts _ q148) (fun _ h9 => h9) rfl d_Follows_insert_22 ?_
      refine lv_iload hx hb d_Follows_insert_25 (lv_at hl 0 rfl) ?_
      refine lv_iconst (v := 1) hx hb d_Follows_insert_27 (by decide) ?_
      refine lv_isub hx hb d_Follows_insert_28 ?_
      refine lv_topi (fun v_250 ev_250 => ?_)
      obtain ⟨qv_250, hv_250⟩ := zI_sub (l := 0) (h := 4818) hv_249 zc_1 ev_250 (by decide)
      rw [li_1] at qv_250
      refine va_iald hx hb hK hP 2 0 rfl rfl (zI.inn hv_250 (by decide)) d_Follows_insert_29 ?_
      refine lv_topi (fun v_251 ev_251 => ?_)
      refine lv_iload_n hx hb d_Follows_insert_30 rfl (lv_at hl 4 rfl) ?_
      refine lv_icmp_le (tgt := 40) hx hb d_Follows_insert_31 (by decide) (fun hc_252 => ?_) (fun hc_252 => ?_)
      · have _nhc_252 := hc_252
        have ni_253 := (fa_le _ _).mp hc_252
        refine lv_iload hx hb d_Follows_insert_40 (lv_at hl 0 rfl) ?_
        refine lv_iload_n hx hb d_Follows_insert_42 rfl (lv_at hl 1 rfl) ?_
        refine lv_icmp_le (tgt := 60) hx hb d_Follows_insert_43 (by decide) (fun hc_254 => ?_) (fun hc_254 => ?_)
        · have _nhc_254 := hc_254
          have ni_255 := (fa_le _ _).mp hc_254
          have hv_256 : zI y_168 1 4800 := zI.le_l hv_249 hv_1 hc_254 (by decide)
          have hv_257 : zI v_1 1 4800 := zI.le_r hv_249 hv_1 hc_254 (by decide)
          refine lv_iload_n hx hb d_Follows_insert_60 rfl (lv_at hl 1 rfl) ?_
          refine lv_aload_n hx hb d_Follows_insert_61 rfl (lv_at hl 2 rfl) ?_
          refine va_get (D := G.1) (ci := 4) (v := .ref b3) (C := R_Follows) (T := F_Follows) (N := 3) hx hb hts i_Follows hown hK hP 0 rfl rfl 0 (by decide) (hts _ q146) (fun _ h9 => h9) rfl d_Follows_insert_62 ?_
          refine lv_iload_n hx hb d_Follows_insert_65 rfl (lv_at hl 3 rfl) ?_
          refine va_iald hx hb hK hP 1 0 rfl rfl (zI.inn hb1 (by decide)) d_Follows_insert_66 ?_
          refine lv_topi (fun v_258 ev_258 => ?_)
          obtain rfl : v_2 = v_258 := ev_2.trans ev_258.symm
          refine lv_iadd hx hb d_Follows_insert_67 ?_
          refine lv_topi (fun v_259 ev_259 => ?_)
          obtain rfl : v_3 = v_259 := ev_3.trans ev_259.symm
          refine lv_istore (lv' := [(5, .int v_3), (4, .int y_168), (3, .int v_1), (0, .ref b0), (1, .int b1), (2, .int b2)]) hx hb d_Follows_insert_68 hl (by decide) rfl (fun ls hl => ?_)
          suffices key : ∀ (k_275 : Nat) (y_276 : Int32) (y_277 : Nat → Int32) (H : Heap) (locs : List Loc) (ls : Array Slot), (zI y_276 0 4819) → y_276.toInt - (0) < (k_275 : Int) → va_P G.1 classes [(b0, .inr (4, [.ref b3, .ref b4, .ref b5])), (b3, .inl (G.2 0, 241, .inl b6)), (b4, .inl (G.2 0, 4820, .inl y_277))] H → va_D A [(b0, .inr (4, [.ref b3, .ref b4, .ref b5])), (b3, .inl (G.2 0, 241, .inl b6)), (b4, .inl (G.2 0, 4820, .inl y_277))] → va_S A s.heap H locs → lv_has ls 6 [(5, .int y_276), (4, .int y_168), (3, .int v_1), (0, .ref b0), (1, .int b1), (2, .int b2)] → W p l e m_s2_Follows_insert s m ([.ref b0, .int b1, .int b2] : List Value).toArray below meth c H locs 0 0 (MQ below (zQ G (fun v w => ∃ (e0 : Nat → Int32), ∃ (e1 : Nat → Int32), v = none ∧ w = [(b0, .inr (4, [.ref b3, .ref b4, .ref b5])), (b3, .inl (G.2 0, 241, .inl e0)), (b4, .inl (G.2 0, 4820, .inl e1))] ∧ (zqa qC e0) ∧ (∀ q : Nat, (e0 q).toInt = (b6 q).toInt ∨ q = b1.toNatClampNeg ∧ (e0 q).toInt = (b6 q).toInt + 1)) A) ([.ref b0, .int b1, .int b2] : List Value).toArray s m_s2_Follows_insert.cells m_s2_Follows_insert.slots A) (F0 m 70 ls []) by
            exact key 4820 (v_3) (b7) _ _ _ hv_4 (zm_dni hv_4 (by decide)) hP hD hS (lv_sub hl [0, 1, 2, 3, 4, 5] rfl)
          intro k_275
          induction k_275 with
          | zero =>
            intro y_276 y_277 H locs ls hy_276 hmk_275 hP hD hS hl
            exact (zm_dn0 hy_276 hmk_275).elim
          | succ k_275 ihk_275 =>
            intro y_276 y_277 H locs ls hy_276 hmk_275 hP hD hS hl
            refine lv_iload hx hb d_Follows_insert_70 (lv_at hl 0 rfl) ?_
            refine lv_iload hx hb d_Follows_insert_72 (lv_at hl 1 rfl) ?_
            refine lv_icmp_le (tgt := 99) hx hb d_Follows_insert_74 (by decide) (fun hc_278 => ?_) (fun hc_278 => ?_)
            · have _nhc_278 := hc_278
              have ni_279 := (fa_le _ _).mp hc_278
              have hv_280 : zI y_276 0 4800 := zI.le_l hy_276 hv_256 hc_278 (by decide)
              refine lv_aload_n hx hb d_Follows_insert_99 rfl (lv_at hl 3 rfl) ?_
              refine va_get (D := G.1) (ci := 4) (v := .ref b4) (C := R_Follows) (T := F_Follows) (N := 3) hx hb hts i_Follows hown hK hP 0 rfl rfl 1 (by decide) (hts _ q148) (fun _ h9 => h9) rfl d_Follows_insert_100 ?_
              refine lv_iload hx hb d_Follows_insert_103 (lv_at hl 1 rfl) ?_
              refine lv_iload_n hx hb d_Follows_insert_105 rfl (lv_at hl 5 rfl) ?_
              refine va_iast hx hb hK hP hD hS 2 0 rfl rfl (zI.inn hv_256 (by decide)) d_Follows_insert_106 (fun H locs hP hD hS => ?_)
              obtain ⟨f_281, gf_281, uf_281, hP, hD⟩ := z_newFu 2 hP hD rfl
              have hP : va_P G.1 classes [(b0, .inr (4, [.ref b3, .ref b4, .ref b5])), (b3, .inl (G.2 0, 241, .inl b6)), (b4, .inl (G.2 0, 4820, .inl f_281))] H := hP
              have hD := z_tie hP hD rfl
              refine lv_aload_n hx hb d_Follows_insert_107 rfl (lv_at hl 3 rfl) ?_
              refine va_get (D := G.1) (ci := 4) (v := .ref b3) (C := R_Follows) (T := F_Follows) (N := 3) hx hb hts i_Follows hown hK hP 0 rfl rfl 0 (by decide) (hts _ q146) (fun _ h9 => h9) rfl d_Follows_insert_108 ?_
              refine lv_iload_n hx hb d_Follows_insert_111 rfl (lv_at hl 4 rfl) ?_
              refine lv_dup2_11 hx hb d_Follows_insert_112 rfl rfl ?_
              refine va_iald hx hb hK hP 1 0 rfl rfl (zI.inn hb1 (by decide)) d_Follows_insert_113 ?_
              refine lv_topi (fun v_282 ev_282 => ?_)
              obtain rfl : v_2 = v_282 := ev_2.trans ev_282.symm
              refine lv_iconst (v := 1) hx hb d_Follows_insert_114 (by decide) ?_
              refine lv_iadd hx hb d_Follows_insert_115 ?_
              refine lv_topi (fun v_283 ev_283 => ?_)
              obtain ⟨qv_283, hv_283⟩ := zI_add (l := 1) (h := 261) hv_2 zc_1 ev_283 (by decide)
              rw [li_1] at qv_283
              refine va_iast hx hb hK hP hD hS 1 0 rfl rfl (zI.inn hb1 (by decide)) d_Follows_insert_116 (fun H locs hP hD hS => ?_)
              obtain ⟨f_284, hf_284, gf_284, uf_284, hP, hD⟩ := z_newq_ (Q := qC) 1 hP hD rfl hb6 (qC_v hb1 (by decide) ⟨⟨by have _w := hv_283; have _x := hb1; omega, by have _w := hv_283; have _x := hb1; omega⟩, by have _w := hv_283; have _x := hb1; omega⟩)
              have hP : va_P G.1 classes [(b0, .inr (4, [.ref b3, .ref b4, .ref b5])), (b3, .inl (G.2 0, 241, .inl f_284)), (b4, .inl (G.2 0, 4820, .inl f_281))] H := hP
              have hD := z_tie hP hD rfl
              exact z_vret hx hb hr hlocks hP hD hS (Nat.le_of_ble_eq_true rfl) (Nat.le_of_ble_eq_true rfl) d_Follows_insert_117 ⟨f_284, f_281, rfl, rfl, hf_284, (by intro q; rw [uf_284, z_at]; split; rename_i h; right; refine ⟨h, ?_⟩; rw [h, ← ev_2]; omega; left; rfl)⟩
            · have _nhc_278 := hc_278
              have ni_285 := (fa_lt _ _).mp (zi_nle hc_278)
              have hv_286 : zI y_276 2 4819 := zI.lt_r hv_256 hy_276 (zi_nle hc_278) (by decide)
              refine lv_aload_n hx hb d_Follows_insert_77 rfl (lv_at hl 3 rfl) ?_
              refine va_get (D := G.1) (ci := 4) (v := .ref b4) (C := R_Follows) (T := F_Follows) (N := 3) hx hb hts i_Follows hown hK hP 0 rfl rfl 1 (by decide) (hts _ q148) (fun _ h9 => h9) rfl d_Follows_insert_78 ?_
              refine lv_iload hx hb d_Follows_insert_81 (lv_at hl 0 rfl) ?_
              refine lv_aload_n hx hb d_Follows_insert_83 rfl (lv_at hl 3 rfl) ?_
              refine va_get (D := G.1) (ci := 4) (v := .ref b4) (C := R_Follows) (T := F_Follows) (N := 3) hx hb hts i_Follows hown hK hP 0 rfl rfl 1 (by decide) (hts _ q148) (fun _ h9 => h9) rfl d_Follows_insert_84 ?_
              refine lv_iload hx hb d_Follows_insert_87 (lv_at hl 0 rfl) ?_
              refine lv_iconst (v := 1) hx hb d_Follows_insert_89 (by decide) ?_
              refine lv_isub hx hb d_Follows_insert_90 ?_
              refine lv_topi (fun v_287 ev_287 => ?_)
              obtain ⟨qv_287, hv_287⟩ := zI_sub (l := 1) (h := 4818) hv_286 zc_1 ev_287 (by decide)
              rw [li_1] at qv_287
              refine va_iald hx hb hK hP 2 0 rfl rfl (zI.inn hv_287 (by decide)) d_Follows_insert_91 ?_
              refine lv_topi (fun v_288 ev_288 => ?_)
              refine va_iast hx hb hK hP hD hS 2 0 rfl rfl (zI.inn hv_286 (by decide)) d_Follows_insert_92 (fun H locs hP hD hS => ?_)
              obtain ⟨f_289, gf_289, uf_289, hP, hD⟩ := z_newFu 2 hP hD rfl
              have hP : va_P G.1 classes [(b0, .inr (4, [.ref b3, .ref b4, .ref b5])), (b3, .inl (G.2 0, 241, .inl b6)), (b4, .inl (G.2 0, 4820, .inl f_289))] H := hP
              have hD := z_tie hP hD rfl
              obtain ⟨v_290, ev_290⟩ : ∃ z : Int32, z = y_276 + (-1) := ⟨_, rfl⟩
              obtain ⟨qv_290, hv_290⟩ := zI_add (l := 1) (h := 4818) hv_286 zc_m1 ev_290 (by decide)
              rw [li_m1] at qv_290
              refine lv_iinc (v := v_290) (lv' := [(5, .int v_290), (4, .int y_168), (3, .int v_1), (0, .ref b0), (1, .int b1), (2, .int b2)]) hx hb d_Follows_insert_93 hl (k := 0) rfl (by rw [ev_290]; rfl) (by decide) rfl (fun ls hl => ?_)
              refine lv_goto (tgt := 70) hx hb d_Follows_insert_96 (by decide) ?_
              exact ihk_275 (v_290) (f_289) _ _ _ (zI.wk (l' := 0) (h' := 4819) hv_290 (by decide)) (zm_dn qv_290 hmk_275 (by decide)) hP hD hS (lv_sub hl [0, 1, 2, 3, 4, 5] rfl)
        · have _nhc_254 := hc_254
          have ni_291 := (fa_lt _ _).mp (zi_nle hc_254)
          refine lv_aload_n hx hb d_Follows_insert_46 rfl (lv_at hl 2 rfl) ?_
          refine va_get (D := G.1) (ci := 4) (v := .ref b4) (C := R_Follows) (T := F_Follows) (N := 3) hx hb hts i_Follows hown hK hP 0 rfl rfl 1 (by decide) (hts _ q148) (fun _ h9 => h9) rfl d_Follows_insert_47 ?_
          refine lv_iload hx hb d_Follows_insert_50 (lv_at hl 0 rfl) ?_
          refine lv_iconst (v := 1) hx hb d_Follows_insert_52 (by decide) ?_
          refine lv_isub hx hb d_Follows_insert_53 ?_
          refine lv_topi (fun v_292 ev_292 => ?_)
          obtain rfl : v_250 = v_292 := ev_250.trans ev_292.symm
          refine va_iald hx hb hK hP 2 0 rfl rfl (zI.inn hv_250 (by decide)) d_Follows_insert_54 ?_
          refine lv_topi (fun v_293 ev_293 => ?_)
          obtain rfl : v_251 = v_293 := ev_251.trans ev_293.symm
          refine lv_iload_n hx hb d_Follows_insert_55 rfl (lv_at hl 4 rfl) ?_
          refine lv_icmp_ne (tgt := 60) hx hb d_Follows_insert_56 (by decide) (fun hc_294 => ?_) (fun hc_294 => ?_)
          · have _nhc_294 := hc_294
            have ni_295 : ¬ (v_251 : Int32).toInt = (b2 : Int32).toInt := fun z => hc_294 ((fa_eq _ _).mpr z)
            refine lv_iload_n hx hb d_Follows_insert_60 rfl (lv_at hl 1 rfl) ?_
            refine lv_aload_n hx hb d_Follows_insert_61 rfl (lv_at hl 2 rfl) ?_
            refine va_get (D := G.1) (ci := 4) (v := .ref b3) (C := R_Follows) (T := F_Follows) (N := 3) hx hb hts i_Follows hown hK hP 0 rfl rfl 0 (by decide) (hts _ q146) (fun _ h9 => h9) rfl d_Follows_insert_62 ?_
            refine lv_iload_n hx hb d_Follows_insert_65 rfl (lv_at hl 3 rfl) ?_
            refine va_iald hx hb hK hP 1 0 rfl rfl (zI.inn hb1 (by decide)) d_Follows_insert_66 ?_
            refine lv_topi (fun v_296 ev_296 => ?_)
            obtain rfl : v_2 = v_296 := ev_2.trans ev_296.symm
            refine lv_iadd hx hb d_Follows_insert_67 ?_
            refine lv_topi (fun v_297 ev_297 => ?_)
            obtain rfl : v_3 = v_297 := ev_3.trans ev_297.symm
            refine lv_istore (lv' := [(5, .int v_3), (4, .int y_168), (3, .int v_1), (0, .ref b0), (1, .int b1), (2, .int b2)]) hx hb d_Follows_insert_68 hl (by decide) rfl (fun ls hl => ?_)
            suffices key : ∀ (k_313 : Nat) (y_314 : Int32) (y_315 : Nat → Int32) (H : Heap) (locs : List Loc) (ls : Array Slot), (zI y_314 0 4819) → y_314.toInt - (0) < (k_313 : Int) → va_P G.1 classes [(b0, .inr (4, [.ref b3, .ref b4, .ref b5])), (b3, .inl (G.2 0, 241, .inl b6)), (b4, .inl (G.2 0, 4820, .inl y_315))] H → va_D A [(b0, .inr (4, [.ref b3, .ref b4, .ref b5])), (b3, .inl (G.2 0, 241, .inl b6)), (b4, .inl (G.2 0, 4820, .inl y_315))] → va_S A s.heap H locs → lv_has ls 6 [(5, .int y_314), (4, .int y_168), (3, .int v_1), (0, .ref b0), (1, .int b1), (2, .int b2)] → W p l e m_s2_Follows_insert s m ([.ref b0, .int b1, .int b2] : List Value).toArray below meth c H locs 0 0 (MQ below (zQ G (fun v w => ∃ (e0 : Nat → Int32), ∃ (e1 : Nat → Int32), v = none ∧ w = [(b0, .inr (4, [.ref b3, .ref b4, .ref b5])), (b3, .inl (G.2 0, 241, .inl e0)), (b4, .inl (G.2 0, 4820, .inl e1))] ∧ (zqa qC e0) ∧ (∀ q : Nat, (e0 q).toInt = (b6 q).toInt ∨ q = b1.toNatClampNeg ∧ (e0 q).toInt = (b6 q).toInt + 1)) A) ([.ref b0, .int b1, .int b2] : List Value).toArray s m_s2_Follows_insert.cells m_s2_Follows_insert.slots A) (F0 m 70 ls []) by
              exact key 4820 (v_3) (b7) _ _ _ hv_4 (zm_dni hv_4 (by decide)) hP hD hS (lv_sub hl [0, 1, 2, 3, 4, 5] rfl)
            intro k_313
            induction k_313 with
            | zero =>
              intro y_314 y_315 H locs ls hy_314 hmk_313 hP hD hS hl
              exact (zm_dn0 hy_314 hmk_313).elim
            | succ k_313 ihk_313 =>
              intro y_314 y_315 H locs ls hy_314 hmk_313 hP hD hS hl
              refine lv_iload hx hb d_Follows_insert_70 (lv_at hl 0 rfl) ?_
              refine lv_iload hx hb d_Follows_insert_72 (lv_at hl 1 rfl) ?_
              refine lv_icmp_le (tgt := 99) hx hb d_Follows_insert_74 (by decide) (fun hc_316 => ?_) (fun hc_316 => ?_)
              · have _nhc_316 := hc_316
                have ni_317 := (fa_le _ _).mp hc_316
                refine lv_aload_n hx hb d_Follows_insert_99 rfl (lv_at hl 3 rfl) ?_
                refine va_get (D := G.1) (ci := 4) (v := .ref b4) (C := R_Follows) (T := F_Follows) (N := 3) hx hb hts i_Follows hown hK hP 0 rfl rfl 1 (by decide) (hts _ q148) (fun _ h9 => h9) rfl d_Follows_insert_100 ?_
                refine lv_iload hx hb d_Follows_insert_103 (lv_at hl 1 rfl) ?_
                refine lv_iload_n hx hb d_Follows_insert_105 rfl (lv_at hl 5 rfl) ?_
                refine va_iast hx hb hK hP hD hS 2 0 rfl rfl (zI.inn hv_249 (by decide)) d_Follows_insert_106 (fun H locs hP hD hS => ?_)
                obtain ⟨f_318, gf_318, uf_318, hP, hD⟩ := z_newFu 2 hP hD rfl
                have hP : va_P G.1 classes [(b0, .inr (4, [.ref b3, .ref b4, .ref b5])), (b3, .inl (G.2 0, 241, .inl b6)), (b4, .inl (G.2 0, 4820, .inl f_318))] H := hP
                have hD := z_tie hP hD rfl
                refine lv_aload_n hx hb d_Follows_insert_107 rfl (lv_at hl 3 rfl) ?_
                refine va_get (D := G.1) (ci := 4) (v := .ref b3) (C := R_Follows) (T := F_Follows) (N := 3) hx hb hts i_Follows hown hK hP 0 rfl rfl 0 (by decide) (hts _ q146) (fun _ h9 => h9) rfl d_Follows_insert_108 ?_
                refine lv_iload_n hx hb d_Follows_insert_111 rfl (lv_at hl 4 rfl) ?_
                refine lv_dup2_11 hx hb d_Follows_insert_112 rfl rfl ?_
                refine va_iald hx hb hK hP 1 0 rfl rfl (zI.inn hb1 (by decide)) d_Follows_insert_113 ?_
                refine lv_topi (fun v_319 ev_319 => ?_)
                obtain rfl : v_2 = v_319 := ev_2.trans ev_319.symm
                refine lv_iconst (v := 1) hx hb d_Follows_insert_114 (by decide) ?_
                refine lv_iadd hx hb d_Follows_insert_115 ?_
                refine lv_topi (fun v_320 ev_320 => ?_)
                obtain ⟨qv_320, hv_320⟩ := zI_add (l := 1) (h := 261) hv_2 zc_1 ev_320 (by decide)
                rw [li_1] at qv_320
                refine va_iast hx hb hK hP hD hS 1 0 rfl rfl (zI.inn hb1 (by decide)) d_Follows_insert_116 (fun H locs hP hD hS => ?_)
                obtain ⟨f_321, hf_321, gf_321, uf_321, hP, hD⟩ := z_newq_ (Q := qC) 1 hP hD rfl hb6 (qC_v hb1 (by decide) ⟨⟨by have _w := hv_320; have _x := hb1; omega, by have _w := hv_320; have _x := hb1; omega⟩, by have _w := hv_320; have _x := hb1; omega⟩)
                have hP : va_P G.1 classes [(b0, .inr (4, [.ref b3, .ref b4, .ref b5])), (b3, .inl (G.2 0, 241, .inl f_321)), (b4, .inl (G.2 0, 4820, .inl f_318))] H := hP
                have hD := z_tie hP hD rfl
                exact z_vret hx hb hr hlocks hP hD hS (Nat.le_of_ble_eq_true rfl) (Nat.le_of_ble_eq_true rfl) d_Follows_insert_117 ⟨f_321, f_318, rfl, rfl, hf_321, (by intro q; rw [uf_321, z_at]; split; rename_i h; right; refine ⟨h, ?_⟩; rw [h, ← ev_2]; omega; left; rfl)⟩
              · have _nhc_316 := hc_316
                have ni_322 := (fa_lt _ _).mp (zi_nle hc_316)
                have hv_323 : zI y_168 1 4818 := zI.lt_l hv_249 hy_314 (zi_nle hc_316) (by decide)
                have hv_324 : zI y_314 2 4819 := zI.lt_r hv_249 hy_314 (zi_nle hc_316) (by decide)
                refine lv_aload_n hx hb d_Follows_insert_77 rfl (lv_at hl 3 rfl) ?_
                refine va_get (D := G.1) (ci := 4) (v := .ref b4) (C := R_Follows) (T := F_Follows) (N := 3) hx hb hts i_Follows hown hK hP 0 rfl rfl 1 (by decide) (hts _ q148) (fun _ h9 => h9) rfl d_Follows_insert_78 ?_
                refine lv_iload hx hb d_Follows_insert_81 (lv_at hl 0 rfl) ?_
                refine lv_aload_n hx hb d_Follows_insert_83 rfl (lv_at hl 3 rfl) ?_
                refine va_get (D := G.1) (ci := 4) (v := .ref b4) (C := R_Follows) (T := F_Follows) (N := 3) hx hb hts i_Follows hown hK hP 0 rfl rfl 1 (by decide) (hts _ q148) (fun _ h9 => h9) rfl d_Follows_insert_84 ?_
                refine lv_iload hx hb d_Follows_insert_87 (lv_at hl 0 rfl) ?_
                refine lv_iconst (v := 1) hx hb d_Follows_insert_89 (by decide) ?_
                refine lv_isub hx hb d_Follows_insert_90 ?_
                refine lv_topi (fun v_325 ev_325 => ?_)
                obtain ⟨qv_325, hv_325⟩ := zI_sub (l := 1) (h := 4818) hv_324 zc_1 ev_325 (by decide)
                rw [li_1] at qv_325
                refine va_iald hx hb hK hP 2 0 rfl rfl (zI.inn hv_325 (by decide)) d_Follows_insert_91 ?_
                refine lv_topi (fun v_326 ev_326 => ?_)
                refine va_iast hx hb hK hP hD hS 2 0 rfl rfl (zI.inn hv_324 (by decide)) d_Follows_insert_92 (fun H locs hP hD hS => ?_)
                obtain ⟨f_327, gf_327, uf_327, hP, hD⟩ := z_newFu 2 hP hD rfl
                have hP : va_P G.1 classes [(b0, .inr (4, [.ref b3, .ref b4, .ref b5])), (b3, .inl (G.2 0, 241, .inl b6)), (b4, .inl (G.2 0, 4820, .inl f_327))] H := hP
                have hD := z_tie hP hD rfl
                obtain ⟨v_328, ev_328⟩ : ∃ z : Int32, z = y_314 + (-1) := ⟨_, rfl⟩
                obtain ⟨qv_328, hv_328⟩ := zI_add (l := 1) (h := 4818) hv_324 zc_m1 ev_328 (by decide)
                rw [li_m1] at qv_328
                refine lv_iinc (v := v_328) (lv' := [(5, .int v_328), (4, .int y_168), (3, .int v_1), (0, .ref b0), (1, .int b1), (2, .int b2)]) hx hb d_Follows_insert_93 hl (k := 0) rfl (by rw [ev_328]; rfl) (by decide) rfl (fun ls hl => ?_)
                refine lv_goto (tgt := 70) hx hb d_Follows_insert_96 (by decide) ?_
                exact ihk_313 (v_328) (f_327) _ _ _ (zI.wk (l' := 0) (h' := 4819) hv_328 (by decide)) (zm_dn qv_328 hmk_313 (by decide)) hP hD hS (lv_sub hl [0, 1, 2, 3, 4, 5] rfl)
          · have _nhc_294 := hc_294
            have ni_329 := (fa_eq _ _).mp hc_294
            exact z_vret hx hb hr hlocks hP hD hS (Nat.le_of_ble_eq_true rfl) (Nat.le_of_ble_eq_true rfl) d_Follows_insert_59 ⟨b6, b7, rfl, rfl, hb6, (fun _ => Or.inl rfl)⟩
      · have _nhc_252 := hc_252
        have ni_330 := (fa_lt _ _).mp (zi_nle hc_252)
        have hv_331 : zI b2 (-2147483648) 2147483646 := zI.lt_l (zI_all b2) (zI_all v_251) (zi_nle hc_252) (by decide)
        have hv_332 : zI v_251 (-2147483647) 2147483647 := zI.lt_r (zI_all b2) (zI_all v_251) (zi_nle hc_252) (by decide)
        obtain ⟨v_333, ev_333⟩ : ∃ z : Int32, z = y_168 + (-1) := ⟨_, rfl⟩
        obtain ⟨qv_333, hv_333⟩ := zI_add (l := 0) (h := 4818) hv_249 zc_m1 ev_333 (by decide)
        rw [li_m1] at qv_333
        refine lv_iinc (v := v_333) (lv' := [(4, .int v_333), (3, .int v_1), (0, .ref b0), (1, .int b1), (2, .int b2)]) hx hb d_Follows_insert_34 hl (k := 0) rfl (by rw [ev_333]; rfl) (by decide) rfl (fun ls hl => ?_)
        refine lv_goto (tgt := 15) hx hb d_Follows_insert_37 (by decide) ?_
        exact ihk_167 (v_333) _ _ _ (zI.wk (l' := 0) (h' := 4819) hv_333 (by decide)) (zm_dn qv_333 hmk_167 (by decide)) hP hD hS (lv_sub hl [0, 1, 2, 3, 4] rfl)
abbrev m_s1_Follows_gather : Room := { frames := 2, cells := 0, slots := 0, locals := 48 }
set_option maxHeartbeats 4000000 in
set_option maxRecDepth 100000 in
theorem s1_Follows_gather (l : Launch) (G : zG) (b0 : Nat) (b1 : Nat) (b2 : Nat) (b3 : Int32) (b4 : Nat) (b5 : Nat) (b6 : Nat) (b7 : Nat → Int32) (b8 : Nat → Int32) (b9 : Nat → Int32) (b10 : Int32) (b11 : Int32) (b12 : Int32) (b13 : Nat) (b14 : Nat) (b15 : Nat) (b16 : Nat → Int32) (b17 : Nat → Int32) (b18 : Int32) (b19 : Int32) (b20 : Int32) (b21 : Nat) (b22 : Nat) (b23 : Nat) (b24 : Nat) (b25 : Nat) (b26 : Nat) (b27 : Nat) (b28 : Nat) (b29 : Nat → Int32) (hb3 : zI b3 0 3) (hb10 : zI b10 0 20) (hb11 : zI b11 0 3) (hb12 : zI b12 0 20) (hb18 : zI b18 0 1) (hb20 : zI b20 0 241) (hb7 : zqa qC b7) (hb9 : zR b9 (-1) 240) (hb16 : zR b16 0 12) (hb17 : zR b17 0 9) (hb29 : zqa qP b29) (htr : zTr (b10 : Int32).toInt (b19 : Int32).toInt (b20 : Int32).toInt b16 b29) : zM l G y_Follows_gather prog_3_method_2_code 6 (Option.none : Option Jvm.ClassFile.FieldType) m_s1_Follows_gather [.ref b0, .ref b1, .ref b2, .int b3] [(b0, .inr (4, [.ref b4, .ref b5, .ref b6])), (b4, .inl (G.2 0, 241, .inl b7)), (b5, .inl (G.2 0, 4820, .inl b8)), (b6, .inl (G.2 0, 512, .inl b9)), (b1, .inr (2, [.int b10, .int b11, .int b12, .ref b13, .ref b14, .ref b15])), (b13, .inl (G.2 0, 20, .inl b16)), (b14, .inl (G.2 0, 240, .inl b17)), (b2, .inr (3, [.int b18, .int b19, .int b20, .ref b21, .ref b22, .ref b23, .ref b24, .ref b25, .ref b26, .ref b27, .ref b28])), (b28, .inl (G.2 0, 260, .inl b29))] (fun v w => ∃ (e0 : Nat → Int32), ∃ (e1 : Nat → Int32), ∃ (e2 : Nat → Int32), v = none ∧ w = [(b0, .inr (4, [.ref b4, .ref b5, .ref b6])), (b4, .inl (G.2 0, 241, .inl e0)), (b5, .inl (G.2 0, 4820, .inl e1)), (b6, .inl (G.2 0, 512, .inl e2)), (b1, .inr (2, [.int b10, .int b11, .int b12, .ref b13, .ref b14, .ref b15])), (b13, .inl (G.2 0, 20, .inl b16)), (b14, .inl (G.2 0, 240, .inl b17)), (b2, .inr (3, [.int b18, .int b19, .int b20, .ref b21, .ref b22, .ref b23, .ref b24, .ref b25, .ref b26, .ref b27, .ref b28])), (b28, .inl (G.2 0, 260, .inl b29))] ∧ (zqa qC e0) ∧ (zR e2 (-1) 240)) := by
  refine z_start (by decide +kernel) (Nat.le_of_ble_eq_true rfl) ?_
  intro p e s m below meth c A Z hr hnm hA hP hD hS ls hl
  have Z : zC p s m _ meth c prog_3_method_2_code 6 "TraceMachines$Follows" G := Z
  obtain ⟨hx, hb, hml, hown, hts, hK, hN, hlocks⟩ := id Z
  have hl : lv_has ls 6 [(0, .ref b0), (1, .ref b1), (2, .ref b2), (3, .int b3)] := hl
  refine lv_aload_n hx hb d_Follows_gather_0 rfl (lv_at hl 0 rfl) ?_
  refine va_get (D := G.1) (ci := 4) (v := .ref b6) (C := R_Follows) (T := F_Follows) (N := 3) hx hb hts i_Follows hown hK hP 0 rfl rfl 2 (by decide) (hts _ q149) (fun _ h9 => h9) rfl d_Follows_gather_1 ?_
  refine lv_iconst (v := (-1)) hx hb d_Follows_gather_4 (by decide) ?_
  refine z_callS (index := 21) (As := [.ref b6, .int (-1)]) (rest := []) (wr := [(b0, .inr (4, [.ref b4, .ref b5, .ref b6])), (b4, .inl (G.2 0, 241, .inl b7)), (b5, .inl (G.2 0, 4820, .inl b8)), (b1, .inr (2, [.int b10, .int b11, .int b12, .ref b13, .ref b14, .ref b15])), (b13, .inl (G.2 0, 20, .inl b16)), (b14, .inl (G.2 0, 240, .inl b17)), (b2, .inr (3, [.int b18, .int b19, .int b20, .ref b21, .ref b22, .ref b23, .ref b24, .ref b25, .ref b26, .ref b27, .ref b28])), (b28, .inl (G.2 0, 260, .inl b29))]) Z (c_fill_I l G (b6) (512) (b9) ((-1)) (by decide)) hl.1 q605 q415 q13 q416 ⟨by decide, by decide, by show _ = some 2; decide +kernel⟩ ⟨Nat.le_of_ble_eq_true rfl, Nat.le_of_ble_eq_true rfl⟩ ⟨Nat.le_of_ble_eq_true rfl, Nat.le_of_ble_eq_true rfl⟩ rfl (Nat.le_of_ble_eq_true rfl) d_Follows_gather_5 hP hD hS hA [3] [0, 1, 2, 4, 5, 6, 7, 8] rfl rfl rfl rfl (by decide) (fun v w1 H locs hw_1 hP hD hS => ?_)
  obtain ⟨rfl, rfl⟩ := hw_1
  have hP : va_P G.1 classes [(b0, .inr (4, [.ref b4, .ref b5, .ref b6])), (b4, .inl (G.2 0, 241, .inl b7)), (b5, .inl (G.2 0, 4820, .inl b8)), (b1, .inr (2, [.int b10, .int b11, .int b12, .ref b13, .ref b14, .ref b15])), (b13, .inl (G.2 0, 20, .inl b16)), (b14, .inl (G.2 0, 240, .inl b17)), (b2, .inr (3, [.int b18, .int b19, .int b20, .ref b21, .ref b22, .ref b23, .ref b24, .ref b25, .ref b26, .ref b27, .ref b28])), (b28, .inl (G.2 0, 260, .inl b29)), (b6, .inl (G.2 0, 512, .inl (fun _ => (-1))))] H := hP
  have hD := z_tie hP hD rfl
  refine W.widen (k := 0) (n := 0) (Nat.le_of_ble_eq_true rfl) (Nat.le_of_ble_eq_true rfl) ?_
  refine lv_iconst (v := 0) hx hb d_Follows_gather_8 (by decide) ?_
  refine lv_istore (lv' := [(4, .int 0), (0, .ref b0), (1, .ref b1), (2, .ref b2), (3, .int b3)]) hx hb d_Follows_gather_9 hl (by decide) rfl (fun ls hl => ?_)
  suffices key : ∀ (k_121 : Nat) (y_122 : Int32) (y_123 : Nat → Int32) (H : Heap) (locs : List Loc) (ls : Array Slot), (zI y_122 0 241) → (zqa qC y_123) → (∀ q : Nat, (q : Int) < (y_122 : Int32).toInt → (y_123 q).toInt = 0) → (241 : Int) - y_122.toInt < (k_121 : Int) → va_P G.1 classes [(b0, .inr (4, [.ref b4, .ref b5, .ref b6])), (b4, .inl (G.2 0, 241, .inl y_123)), (b5, .inl (G.2 0, 4820, .inl b8)), (b1, .inr (2, [.int b10, .int b11, .int b12, .ref b13, .ref b14, .ref b15])), (b13, .inl (G.2 0, 20, .inl b16)), (b14, .inl (G.2 0, 240, .inl b17)), (b2, .inr (3, [.int b18, .int b19, .int b20, .ref b21, .ref b22, .ref b23, .ref b24, .ref b25, .ref b26, .ref b27, .ref b28])), (b28, .inl (G.2 0, 260, .inl b29)), (b6, .inl (G.2 0, 512, .inl (fun _ => (-1))))] H → va_D A [(b0, .inr (4, [.ref b4, .ref b5, .ref b6])), (b4, .inl (G.2 0, 241, .inl y_123)), (b5, .inl (G.2 0, 4820, .inl b8)), (b1, .inr (2, [.int b10, .int b11, .int b12, .ref b13, .ref b14, .ref b15])), (b13, .inl (G.2 0, 20, .inl b16)), (b14, .inl (G.2 0, 240, .inl b17)), (b2, .inr (3, [.int b18, .int b19, .int b20, .ref b21, .ref b22, .ref b23, .ref b24, .ref b25, .ref b26, .ref b27, .ref b28])), (b28, .inl (G.2 0, 260, .inl b29)), (b6, .inl (G.2 0, 512, .inl (fun _ => (-1))))] → va_S A s.heap H locs → lv_has ls 6 [(4, .int y_122), (0, .ref b0), (1, .ref b1), (2, .ref b2), (3, .int b3)] → W p l e m_s1_Follows_gather s m ([.ref b0, .ref b1, .ref b2, .int b3] : List Value).toArray below meth c H locs 0 0 (MQ below (zQ G (fun v w => ∃ (e0 : Nat → Int32), ∃ (e1 : Nat → Int32), ∃ (e2 : Nat → Int32), v = none ∧ w = [(b0, .inr (4, [.ref b4, .ref b5, .ref b6])), (b4, .inl (G.2 0, 241, .inl e0)), (b5, .inl (G.2 0, 4820, .inl e1)), (b6, .inl (G.2 0, 512, .inl e2)), (b1, .inr (2, [.int b10, .int b11, .int b12, .ref b13, .ref b14, .ref b15])), (b13, .inl (G.2 0, 20, .inl b16)), (b14, .inl (G.2 0, 240, .inl b17)), (b2, .inr (3, [.int b18, .int b19, .int b20, .ref b21, .ref b22, .ref b23, .ref b24, .ref b25, .ref b26, .ref b27, .ref b28])), (b28, .inl (G.2 0, 260, .inl b29))] ∧ (zqa qC e0) ∧ (zR e2 (-1) 240)) A) ([.ref b0, .ref b1, .ref b2, .int b3] : List Value).toArray s m_s1_Follows_gather.cells m_s1_Follows_gather.slots A) (F0 m 11 ls []) by
    exact key 242 (0) (b7) _ _ _ (zI.wk (l' := 0) (h' := 241) zc_0 (by decide)) hb7 (by have _l0 := li_0; intro q hq; omega) (zm_upi (zI.wk (l' := 0) (h' := 241) zc_0 (by decide)) (by decide)) hP hD hS (lv_sub hl [0, 1, 2, 3, 4] rfl)
  intro k_121
  induction k_121 with
  | zero =>
    intro y_122 y_123 H locs ls hy_122 hy_123 hli_124 hmk_121 hP hD hS hl
    exact (zm_up0 hy_122 hmk_121).elim
  | succ k_121 ihk_121 =>
    intro y_122 y_123 H locs ls hy_122 hy_123 hli_124 hmk_121 hP hD hS hl
    refine lv_iload hx hb d_Follows_gather_11 (lv_at hl 0 rfl) ?_
    refine lv_aload_n hx hb d_Follows_gather_13 rfl (lv_at hl 3 rfl) ?_
    refine va_get (D := G.1) (ci := 3) (v := .int b20) (C := R_Tree) (T := F_Tree) (N := 11) hx hb hts i_Tree hown hK hP 6 rfl rfl 2 (by decide) (hts _ q99) (fun _ h9 => h9) rfl d_Follows_gather_14 ?_
    refine lv_icmp_ge (tgt := 34) hx hb d_Follows_gather_17 (by decide) (fun hc_125 => ?_) (fun hc_125 => ?_)
    · have _nhc_125 := hc_125
      have ni_126 := (fa_le _ _).mp hc_125
      refine lv_iconst (v := 0) hx hb d_Follows_gather_34 (by decide) ?_
      refine lv_istore (lv' := [(4, .int 0), (0, .ref b0), (1, .ref b1), (2, .ref b2), (3, .int b3)]) hx hb d_Follows_gather_35 hl (by decide) rfl (fun ls hl => ?_)
      suffices key : ∀ (k_182 : Nat) (y_183 : Int32) (y_184 : Nat → Int32) (y_185 : Nat → Int32) (H : Heap) (locs : List Loc) (ls : Array Slot), (zI y_183 0 20) → (zqa qC y_184) → (∀ q : Nat, (q : Int) < (b20 : Int32).toInt → (y_184 q).toInt = 0 ∨ (y_184 q).toInt + (q : Int) ≤ 13 * (y_183 : Int32).toInt) → (20 : Int) - y_183.toInt < (k_182 : Int) → va_P G.1 classes [(b0, .inr (4, [.ref b4, .ref b5, .ref b6])), (b4, .inl (G.2 0, 241, .inl y_184)), (b5, .inl (G.2 0, 4820, .inl y_185)), (b1, .inr (2, [.int b10, .int b11, .int b12, .ref b13, .ref b14, .ref b15])), (b13, .inl (G.2 0, 20, .inl b16)), (b14, .inl (G.2 0, 240, .inl b17)), (b2, .inr (3, [.int b18, .int b19, .int b20, .ref b21, .ref b22, .ref b23, .ref b24, .ref b25, .ref b26, .ref b27, .ref b28])), (b28, .inl (G.2 0, 260, .inl b29)), (b6, .inl (G.2 0, 512, .inl (fun _ => (-1))))] H → va_D A [(b0, .inr (4, [.ref b4, .ref b5, .ref b6])), (b4, .inl (G.2 0, 241, .inl y_184)), (b5, .inl (G.2 0, 4820, .inl y_185)), (b1, .inr (2, [.int b10, .int b11, .int b12, .ref b13, .ref b14, .ref b15])), (b13, .inl (G.2 0, 20, .inl b16)), (b14, .inl (G.2 0, 240, .inl b17)), (b2, .inr (3, [.int b18, .int b19, .int b20, .ref b21, .ref b22, .ref b23, .ref b24, .ref b25, .ref b26, .ref b27, .ref b28])), (b28, .inl (G.2 0, 260, .inl b29)), (b6, .inl (G.2 0, 512, .inl (fun _ => (-1))))] → va_S A s.heap H locs → lv_has ls 6 [(4, .int y_183), (0, .ref b0), (1, .ref b1), (2, .ref b2), (3, .int b3)] → W p l e m_s1_Follows_gather s m ([.ref b0, .ref b1, .ref b2, .int b3] : List Value).toArray below meth c H locs 0 0 (MQ below (zQ G (fun v w => ∃ (e0 : Nat → Int32), ∃ (e1 : Nat → Int32), ∃ (e2 : Nat → Int32), v = none ∧ w = [(b0, .inr (4, [.ref b4, .ref b5, .ref b6])), (b4, .inl (G.2 0, 241, .inl e0)), (b5, .inl (G.2 0, 4820, .inl e1)), (b6, .inl (G.2 0, 512, .inl e2)), (b1, .inr (2, [.int b10, .int b11, .int b12, .ref b13, .ref b14, .ref b15])), (b13, .inl (G.2 0, 20, .inl b16)), (b14, .inl (G.2 0, 240, .inl b17)), (b2, .inr (3, [.int b18, .int b19, .int b20, .ref b21, .ref b22, .ref b23, .ref b24, .ref b25, .ref b26, .ref b27, .ref b28])), (b28, .inl (G.2 0, 260, .inl b29))] ∧ (zqa qC e0) ∧ (zR e2 (-1) 240)) A) ([.ref b0, .ref b1, .ref b2, .int b3] : List Value).toArray s m_s1_Follows_gather.cells m_s1_Follows_gather.slots A) (F0 m 37 ls []) by
        exact key 21 (0) (y_123) (b8) _ _ _ (zI.wk (l' := 0) (h' := 20) zc_0 (by decide)) hy_123 (by have _l0 := li_0; intro q hq; left; exact hli_124 q (by omega)) (zm_upi (zI.wk (l' := 0) (h' := 20) zc_0 (by decide)) (by decide)) hP hD hS (lv_sub hl [0, 1, 2, 3, 4] rfl)
      intro k_182
      induction k_182 with
      | zero =>
        intro y_183 y_184 y_185 H locs ls hy_183 hy_184 hli_186 hmk_182 hP hD hS hl
        exact (zm_up0 hy_183 hmk_182).elim
      | succ k_182 ihk_182 =>
        intro y_183 y_184 y_185 H locs ls hy_183 hy_184 hli_186 hmk_182 hP hD hS hl
        refine lv_iload hx hb d_Follows_gather_37 (lv_at hl 0 rfl) ?_
        refine lv_aload_n hx hb d_Follows_gather_39 rfl (lv_at hl 2 rfl) ?_
        refine va_get (D := G.1) (ci := 2) (v := .int b10) (C := R_Traces) (T := F_Traces) (N := 6) hx hb hts i_Traces hown hK hP 3 rfl rfl 0 (by decide) (hts _ q55) (fun _ h9 => h9) rfl d_Follows_gather_40 ?_
        refine lv_icmp_ge (tgt := 103) hx hb d_Follows_gather_43 (by decide) (fun hc_187 => ?_) (fun hc_187 => ?_)
        · have _nhc_187 := hc_187
          have ni_188 := (fa_le _ _).mp hc_187
          exact z_vret hx hb hr hlocks (hP.sub [0, 1, 2, 8, 3, 4, 5, 6, 7] rfl) (hD.sub [0, 1, 2, 8, 3, 4, 5, 6, 7] (by decide) rfl) hS (Nat.le_of_ble_eq_true rfl) (Nat.le_of_ble_eq_true rfl) d_Follows_gather_103 ⟨y_184, y_185, (fun _ => (-1)), rfl, rfl, hy_184, (zR_c (zI.wk (l' := (-1)) (h' := 240) zc_m1 (by decide)))⟩
        · have _nhc_187 := hc_187
          have ni_189 := (fa_lt _ _).mp (zi_nle hc_187)
          have hv_190 : zI y_183 0 19 := zI.lt_l hy_183 hb10 (zi_nle hc_187) (by decide)
          have hv_191 : zI b10 1 20 := zI.lt_r hy_183 hb10 (zi_nle hc_187) (by decide)
          refine lv_iload hx hb d_Follows_gather_46 (lv_at hl 0 rfl) ?_
          refine lv_aload_n hx hb d_Follows_gather_48 rfl (lv_at hl 3 rfl) ?_
          refine va_get (D := G.1) (ci := 3) (v := .int b19) (C := R_Tree) (T := F_Tree) (N := 11) hx hb hts i_Tree hown hK hP 6 rfl rfl 1 (by decide) (hts _ q97) (fun _ h9 => h9) rfl d_Follows_gather_49 ?_
          refine lv_icmp_eq (tgt := 97) hx hb d_Follows_gather_52 (by decide) (fun hc_192 => ?_) (fun hc_192 => ?_)
          · have _nhc_192 := hc_192
            have ni_193 := (fa_eq _ _).mp hc_192
            have hv_194 : zI b19 0 19 := zI.eq_l (zI_all b19) hv_190 hc_192.symm
            obtain ⟨v_195, ev_195⟩ : ∃ z : Int32, z = y_183 + 1 := ⟨_, rfl⟩
            obtain ⟨qv_195, hv_195⟩ := zI_add (l := 1) (h := 20) hv_190 zc_1 ev_195 (by decide)
            rw [li_1] at qv_195
            refine lv_iinc (v := v_195) (lv' := [(4, .int v_195), (0, .ref b0), (1, .ref b1), (2, .ref b2), (3, .int b3)]) hx hb d_Follows_gather_97 hl (k := 0) rfl (by rw [ev_195]; rfl) (by decide) rfl (fun ls hl => ?_)
            refine lv_goto (tgt := 37) hx hb d_Follows_gather_100 (by decide) ?_
            exact ihk_182 (v_195) (y_184) (y_185) _ _ _ (zI.wk (l' := 0) (h' := 20) hv_195 (by decide)) hy_184 (by intro q hq; have := hli_186 q hq; omega) (zm_up qv_195 hmk_182 (by decide)) hP hD hS (lv_sub hl [0, 1, 2, 3, 4] rfl)
          · have _nhc_192 := hc_192
            have ni_196 : ¬ (y_183 : Int32).toInt = (b19 : Int32).toInt := fun z => hc_192 ((fa_eq _ _).mpr z)
            refine lv_iconst (v := 0) hx hb d_Follows_gather_55 (by decide) ?_
            refine lv_istore (lv' := [(5, .int 0), (4, .int y_183), (0, .ref b0), (1, .ref b1), (2, .ref b2), (3, .int b3)]) hx hb d_Follows_gather_56 hl (by decide) rfl (fun ls hl => ?_)
            suffices key : ∀ (k_218 : Nat) (y_219 : Int32) (y_220 : Nat → Int32) (y_221 : Nat → Int32) (H : Heap) (locs : List Loc) (ls : Array Slot), (zI y_219 0 13) → (zqa qC y_220) → (∀ q : Nat, (q : Int) < (b20 : Int32).toInt → (y_220 q).toInt = 0 ∨ (y_220 q).toInt + (q : Int) ≤ 13 * (y_183 : Int32).toInt + (y_219 : Int32).toInt) → (13 : Int) - y_219.toInt < (k_218 : Int) → va_P G.1 classes [(b0, .inr (4, [.ref b4, .ref b5, .ref b6])), (b4, .inl (G.2 0, 241, .inl y_220)), (b5, .inl (G.2 0, 4820, .inl y_221)), (b1, .inr (2, [.int b10, .int b11, .int b12, .ref b13, .ref b14, .ref b15])), (b13, .inl (G.2 0, 20, .inl b16)), (b14, .inl (G.2 0, 240, .inl b17)), (b2, .inr (3, [.int b18, .int b19, .int b20, .ref b21, .ref b22, .ref b23, .ref b24, .ref b25, .ref b26, .ref b27, .ref b28])), (b28, .inl (G.2 0, 260, .inl b29)), (b6, .inl (G.2 0, 512, .inl (fun _ => (-1))))] H → va_D A [(b0, .inr (4, [.ref b4, .ref b5, .ref b6])), (b4, .inl (G.2 0, 241, .inl y_220)), (b5, .inl (G.2 0, 4820, .inl y_221)), (b1, .inr (2, [.int b10, .int b11, .int b12, .ref b13, .ref b14, .ref b15])), (b13, .inl (G.2 0, 20, .inl b16)), (b14, .inl (G.2 0, 240, .inl b17)), (b2, .inr (3, [.int b18, .int b19, .int b20, .ref b21, .ref b22, .ref b23, .ref b24, .ref b25, .ref b26, .ref b27, .ref b28])), (b28, .inl (G.2 0, 260, .inl b29)), (b6, .inl (G.2 0, 512, .inl (fun _ => (-1))))] → va_S A s.heap H locs → lv_has ls 6 [(5, .int y_219), (4, .int y_183), (0, .ref b0), (1, .ref b1), (2, .ref b2), (3, .int b3)] → W p l e m_s1_Follows_gather s m ([.ref b0, .ref b1, .ref b2, .int b3] : List Value).toArray below meth c H locs 0 0 (MQ below (zQ G (fun v w => ∃ (e0 : Nat → Int32), ∃ (e1 : Nat → Int32), ∃ (e2 : Nat → Int32), v = none ∧ w = [(b0, .inr (4, [.ref b4, .ref b5, .ref b6])), (b4, .inl (G.2 0, 241, .inl e0)), (b5, .inl (G.2 0, 4820, .inl e1)), (b6, .inl (G.2 0, 512, .inl e2)), (b1, .inr (2, [.int b10, .int b11, .int b12, .ref b13, .ref b14, .ref b15])), (b13, .inl (G.2 0, 20, .inl b16)), (b14, .inl (G.2 0, 240, .inl b17)), (b2, .inr (3, [.int b18, .int b19, .int b20, .ref b21, .ref b22, .ref b23, .ref b24, .ref b25, .ref b26, .ref b27, .ref b28])), (b28, .inl (G.2 0, 260, .inl b29))] ∧ (zqa qC e0) ∧ (zR e2 (-1) 240)) A) ([.ref b0, .ref b1, .ref b2, .int b3] : List Value).toArray s m_s1_Follows_gather.cells m_s1_Follows_gather.slots A) (F0 m 58 ls []) by
              exact key 14 (0) (y_184) (y_185) _ _ _ (zI.wk (l' := 0) (h' := 13) zc_0 (by decide)) hy_184 (by have _l0 := li_0; intro q hq; have := hli_186 q hq; omega) (zm_upi (zI.wk (l' := 0) (h' := 13) zc_0 (by decide)) (by decide)) hP hD hS (lv_sub hl [0, 1, 2, 3, 4, 5] rfl)
            intro k_218
            induction k_218 with
            | zero =>
              intro y_219 y_220 y_221 H locs ls hy_219 hy_220 hli_222 hmk_218 hP hD hS hl
              exact (zm_up0 hy_219 hmk_218).elim
            | succ k_218 ihk_218 =>
              intro y_219 y_220 y_221 H locs ls hy_219 hy_220 hli_222 hmk_218 hP hD hS hl
              refine lv_iload hx hb d_Follows_gather_58 (lv_at hl 0 rfl) ?_
              refine lv_aload_n hx hb d_Follows_gather_60 rfl (lv_at hl 3 rfl) ?_
              refine va_get (D := G.1) (ci := 2) (v := .ref b13) (C := R_Traces) (T := F_Traces) (N := 6) hx hb hts i_Traces hown hK hP 3 rfl rfl 3 (by decide) (hts _ q65) (fun _ h9 => h9) rfl d_Follows_gather_61 ?_
              refine lv_iload hx hb d_Follows_gather_64 (lv_at hl 1 rfl) ?_
              refine va_iald hx hb hK hP 4 0 rfl rfl (zI.inn hv_190 (by decide)) d_Follows_gather_66 ?_
              refine lv_topi (fun v_223 ev_223 => ?_)
              have hv_223 : zI v_223 0 12 := (hb16 _).eq ev_223
              refine lv_icmp_gt (tgt := 97) hx hb d_Follows_gather_67 (by decide) (fun hc_224 => ?_) (fun hc_224 => ?_)
              · have _nhc_224 := hc_224
                have ni_225 := (fa_lt _ _).mp hc_224
                have hv_226 : zI y_219 1 13 := zI.lt_r hv_223 hy_219 hc_224 (by decide)
                obtain ⟨v_227, ev_227⟩ : ∃ z : Int32, z = y_183 + 1 := ⟨_, rfl⟩
                obtain ⟨qv_227, hv_227⟩ := zI_add (l := 1) (h := 20) hv_190 zc_1 ev_227 (by decide)
                rw [li_1] at qv_227
                refine lv_iinc (v := v_227) (lv' := [(4, .int v_227), (5, .int y_219), (0, .ref b0), (1, .ref b1), (2, .ref b2), (3, .int b3)]) hx hb d_Follows_gather_97 hl (k := 1) rfl (by rw [ev_227]; rfl) (by decide) rfl (fun ls hl => ?_)
                refine lv_goto (tgt := 37) hx hb d_Follows_gather_100 (by decide) ?_
                exact ihk_182 (v_227) (y_220) (y_221) _ _ _ (zI.wk (l' := 0) (h' := 20) hv_227 (by decide)) hy_220 (by intro q hq; have := hli_222 q hq; omega) (zm_up qv_227 hmk_182 (by decide)) hP hD hS (lv_sub hl [0, 2, 3, 4, 5] rfl)
              · have _nhc_224 := hc_224
                have ni_228 := (fa_le _ _).mp (zi_nlt hc_224)
                have hv_229 : zI y_219 0 12 := zI.le_l hy_219 hv_223 (zi_nlt hc_224) (by decide)
                refine lv_aload_n hx hb d_Follows_gather_70 rfl (lv_at hl 2 rfl) ?_
                refine lv_aload_n hx hb d_Follows_gather_71 rfl (lv_at hl 4 rfl) ?_
                refine lv_iload hx hb d_Follows_gather_72 (lv_at hl 1 rfl) ?_
                refine lv_iload hx hb d_Follows_gather_74 (lv_at hl 0 rfl) ?_
                refine z_callV (index := 44) (As := [.int y_183, .int y_219]) (rest := [.ref b0]) (wr := [(b0, .inr (4, [.ref b4, .ref b5, .ref b6])), (b4, .inl (G.2 0, 241, .inl y_220)), (b5, .inl (G.2 0, 4820, .inl y_221)), (b1, .inr (2, [.int b10, .int b11, .int b12, .ref b13, .ref b14, .ref b15])), (b13, .inl (G.2 0, 20, .inl b16)), (b14, .inl (G.2 0, 240, .inl b17)), (b6, .inl (G.2 0, 512, .inl (fun _ => (-1))))]) Z (s1_Tree_prefixAt l G (b2) (y_183) (y_219) (b18) (b19) (b20) (b21) (b22) (b23) (b24) (b25) (b26) (b27) (b28) (b29) hv_190 hv_229 hb18 hb20 hb29) hl.1 q606 q607 q608 q4 q609 ⟨by decide, by decide, by show _ = some 2; decide +kernel⟩ ⟨Nat.le_of_ble_eq_true rfl, Nat.le_of_ble_eq_true rfl⟩ ⟨Nat.le_of_ble_eq_true rfl, Nat.le_of_ble_eq_true rfl⟩ rfl (Nat.le_of_ble_eq_true rfl) d_Follows_gather_76 hP hD hS hA 6 3 rfl rfl rfl [6, 7] [0, 1, 2, 3, 4, 5, 8] rfl rfl rfl rfl (by decide) (fun v w1 H locs hw_230 hP hD hS => ?_)
                obtain ⟨x_231, rfl, rfl, hx_231, hfx_232, hfx_233⟩ := hw_230
                have hP : va_P G.1 classes [(b0, .inr (4, [.ref b4, .ref b5, .ref b6])), (b4, .inl (G.2 0, 241, .inl y_220)), (b5, .inl (G.2 0, 4820, .inl y_221)), (b1, .inr (2, [.int b10, .int b11, .int b12, .ref b13, .ref b14, .ref b15])), (b13, .inl (G.2 0, 20, .inl b16)), (b14, .inl (G.2 0, 240, .inl b17)), (b6, .inl (G.2 0, 512, .inl (fun _ => (-1)))), (b2, .inr (3, [.int b18, .int b19, .int b20, .ref b21, .ref b22, .ref b23, .ref b24, .ref b25, .ref b26, .ref b27, .ref b28])), (b28, .inl (G.2 0, 260, .inl b29))] H := hP
                have hD := z_tie hP hD rfl
                refine W.widen (k := 0) (n := 0) (Nat.le_of_ble_eq_true rfl) (Nat.le_of_ble_eq_true rfl) ?_
                refine lv_aload_n hx hb d_Follows_gather_79 rfl (lv_at hl 3 rfl) ?_
                refine lv_iload hx hb d_Follows_gather_80 (lv_at hl 1 rfl) ?_
                refine lv_iload hx hb d_Follows_gather_82 (lv_at hl 0 rfl) ?_
                refine lv_iload_n hx hb d_Follows_gather_84 rfl (lv_at hl 5 rfl) ?_
                refine z_callS (index := 48) (As := [.ref b1, .int y_183, .int y_219, .int b3]) (rest := [.int x_231, .ref b0]) (wr := [(b0, .inr (4, [.ref b4, .ref b5, .ref b6])), (b4, .inl (G.2 0, 241, .inl y_220)), (b5, .inl (G.2 0, 4820, .inl y_221)), (b6, .inl (G.2 0, 512, .inl (fun _ => (-1)))), (b2, .inr (3, [.int b18, .int b19, .int b20, .ref b21, .ref b22, .ref b23, .ref b24, .ref b25, .ref b26, .ref b27, .ref b28])), (b28, .inl (G.2 0, 260, .inl b29))]) Z (s2_Follows_rowOf l G (b1) (y_183) (y_219) (b3) (b10) (b11) (b12) (b13) (b14) (b15) (b16) (b17) hv_190 hv_229 hb3 (zI.wk (l' := 0) (h' := 20) hv_191 (by decide)) hb11 hb12 hb16 hb17) hl.1 q610 q611 q5 q612 ⟨by decide, by decide, by show _ = some 4; decide +kernel⟩ ⟨Nat.le_of_ble_eq_true rfl, Nat.le_of_ble_eq_true rfl⟩ ⟨Nat.le_of_ble_eq_true rfl, Nat.le_of_ble_eq_true rfl⟩ rfl (Nat.le_of_ble_eq_true rfl) d_Follows_gather_85 hP hD hS hA [3, 4, 5] [0, 1, 2, 6, 7, 8] rfl rfl rfl rfl (by decide) (fun v w1 H locs hw_234 hP hD hS => ?_)
                obtain ⟨x_235, rfl, rfl⟩ := hw_234
                have hP : va_P G.1 classes [(b0, .inr (4, [.ref b4, .ref b5, .ref b6])), (b4, .inl (G.2 0, 241, .inl y_220)), (b5, .inl (G.2 0, 4820, .inl y_221)), (b6, .inl (G.2 0, 512, .inl (fun _ => (-1)))), (b2, .inr (3, [.int b18, .int b19, .int b20, .ref b21, .ref b22, .ref b23, .ref b24, .ref b25, .ref b26, .ref b27, .ref b28])), (b28, .inl (G.2 0, 260, .inl b29)), (b1, .inr (2, [.int b10, .int b11, .int b12, .ref b13, .ref b14, .ref b15])), (b13, .inl (G.2 0, 20, .inl b16)), (b14, .inl (G.2 0, 240, .inl b17))] H := hP
                have hD := z_tie hP hD rfl
                refine W.widen (k := 0) (n := 0) (Nat.le_of_ble_eq_true rfl) (Nat.le_of_ble_eq_true rfl) ?_
                refine z_callV (index := 52) (As := [.int x_231, .int x_235]) (rest := []) (wr := [(b6, .inl (G.2 0, 512, .inl (fun _ => (-1)))), (b2, .inr (3, [.int b18, .int b19, .int b20, .ref b21, .ref b22, .ref b23, .ref b24, .ref b25, .ref b26, .ref b27, .ref b28])), (b28, .inl (G.2 0, 260, .inl b29)), (b1, .inr (2, [.int b10, .int b11, .int b12, .ref b13, .ref b14, .ref b15])), (b13, .inl (G.2 0, 20, .inl b16)), (b14, .inl (G.2 0, 240, .inl b17))]) Z (s2_Follows_insert l G (b0) (x_231) (x_235) (b4) (b5) (b6) (y_220) (y_221) hx_231 hy_220 (by have p9 := z_pl hx_231 (by decide); have p8 : x_231.toInt < b20.toInt := (by rw [hfx_232]; exact htr _ _ (by omega) (by omega) (by rw [← z_plf hv_190 (by decide), ← ev_223]; omega)); have := hli_222 x_231.toNatClampNeg (by omega); omega)) hl.1 q614 q616 qs6 q5 q617 ⟨by decide, by decide, by show _ = some 2; decide +kernel⟩ ⟨Nat.le_of_ble_eq_true rfl, Nat.le_of_ble_eq_true rfl⟩ ⟨Nat.le_of_ble_eq_true rfl, Nat.le_of_ble_eq_true rfl⟩ rfl (Nat.le_of_ble_eq_true rfl) d_Follows_gather_88 hP hD hS hA 0 4 rfl rfl rfl [0, 1, 2] [3, 4, 5, 6, 7, 8] rfl rfl rfl rfl (by decide) (fun v w1 H locs hw_236 hP hD hS => ?_)
                obtain ⟨f_237, f_238, rfl, rfl, hf_237, hfx_239⟩ := hw_236
                have hP : va_P G.1 classes [(b6, .inl (G.2 0, 512, .inl (fun _ => (-1)))), (b2, .inr (3, [.int b18, .int b19, .int b20, .ref b21, .ref b22, .ref b23, .ref b24, .ref b25, .ref b26, .ref b27, .ref b28])), (b28, .inl (G.2 0, 260, .inl b29)), (b1, .inr (2, [.int b10, .int b11, .int b12, .ref b13, .ref b14, .ref b15])), (b13, .inl (G.2 0, 20, .inl b16)), (b14, .inl (G.2 0, 240, .inl b17)), (b0, .inr (4, [.ref b4, .ref b5, .ref b6])), (b4, .inl (G.2 0, 241, .inl f_237)), (b5, .inl (G.2 0, 4820, .inl f_238))] H := hP
                have hD := z_tie hP hD rfl
                refine W.widen (k := 0) (n := 0) (Nat.le_of_ble_eq_true rfl) (Nat.le_of_ble_eq_true rfl) ?_
                obtain ⟨v_240, ev_240⟩ : ∃ z : Int32, z = y_219 + 1 := ⟨_, rfl⟩
                obtain ⟨qv_240, hv_240⟩ := zI_add (l := 1) (h := 13) hv_229 zc_1 ev_240 (by decide)
                rw [li_1] at qv_240
                refine lv_iinc (v := v_240) (lv' := [(5, .int v_240), (4, .int y_183), (0, .ref b0), (1, .ref b1), (2, .ref b2), (3, .int b3)]) hx hb d_Follows_gather_91 hl (k := 0) rfl (by rw [ev_240]; rfl) (by decide) rfl (fun ls hl => ?_)
                refine lv_goto (tgt := 58) hx hb d_Follows_gather_94 (by decide) ?_
                exact ihk_218 (v_240) (f_237) (f_238) _ _ _ (zI.wk (l' := 0) (h' := 13) hv_240 (by decide)) hf_237 (by have _l0 := li_0; have _l1 := li_1; have p9 := z_pl hx_231 (by decide); intro q hq; have _a := hli_222 q hq; have _b := hfx_233; rcases hfx_239 q with h | ⟨h, h2⟩ <;> omega) (zm_up qv_240 hmk_218 (by decide)) (hP.sub [6, 7, 8, 3, 4, 5, 1, 2, 0] rfl) (hD.sub [6, 7, 8, 3, 4, 5, 1, 2, 0] (by decide) rfl) hS (lv_sub hl [0, 1, 2, 3, 4, 5] rfl)
    · have _nhc_125 := hc_125
      have ni_241 := (fa_lt _ _).mp (zi_nle hc_125)
      have hv_242 : zI y_122 0 240 := zI.lt_l hy_122 hb20 (zi_nle hc_125) (by decide)
      have hv_243 : zI b20 1 241 := zI.lt_r hy_122 hb20 (zi_nle hc_125) (by decide)
      refine lv_aload_n hx hb d_Follows_gather_20 rfl (lv_at hl 1 rfl) ?_
      refine va_get (D := G.1) (ci := 4) (v := .ref b4) (C := R_Follows) (T := F_Follows) (N := 3) hx hb hts i_Follows hown hK hP 0 rfl rfl 0 (by decide) (hts _ q146) (fun _ h9 => h9) rfl d_Follows_gather_21 ?_
      refine lv_iload hx hb d_Follows_gather_24 (lv_at hl 0 rfl) ?_
      refine lv_iconst (v := 0) hx hb d_Follows_gather_26 (by decide) ?_
      refine va_iast hx hb hK hP hD hS 1 0 rfl rfl (zI.inn hv_242 (by decide)) d_Follows_gather_27 (fun H locs hP hD hS => ?_)
      obtain ⟨f_244, hf_244, gf_244, uf_244, hP, hD⟩ := z_newq_ (Q := qC) 1 hP hD rfl hy_123 (qC_v hv_242 (by decide) ⟨⟨by have _w := li_0; have _x := hv_242; omega, by have _w := li_0; have _x := hv_242; omega⟩, by have _w := li_0; have _x := hv_242; omega⟩)
      have hP : va_P G.1 classes [(b0, .inr (4, [.ref b4, .ref b5, .ref b6])), (b4, .inl (G.2 0, 241, .inl f_244)), (b5, .inl (G.2 0, 4820, .inl b8)), (b1, .inr (2, [.int b10, .int b11, .int b12, .ref b13, .ref b14, .ref b15])), (b13, .inl (G.2 0, 20, .inl b16)), (b14, .inl (G.2 0, 240, .inl b17)), (b2, .inr (3, [.int b18, .int b19, .int b20, .ref b21, .ref b22, .ref b23, .ref b24, .ref b25, .ref b26, .ref b27, .ref b28])), (b28, .inl (G.2 0, 260, .inl b29)), (b6, .inl (G.2 0, 512, .inl (fun _ => (-1))))] H := hP
      have hD := z_tie hP hD rfl
      obtain ⟨v_245, ev_245⟩ : ∃ z : Int32, z = y_122 + 1 := ⟨_, rfl⟩
      obtain ⟨qv_245, hv_245⟩ := zI_add (l := 1) (h := 241) hv_242 zc_1 ev_245 (by decide)
      rw [li_1] at qv_245
      refine lv_iinc (v := v_245) (lv' := [(4, .int v_245), (0, .ref b0), (1, .ref b1), (2, .ref b2), (3, .int b3)]) hx hb d_Follows_gather_28 hl (k := 0) rfl (by rw [ev_245]; rfl) (by decide) rfl (fun ls hl => ?_)
      refine lv_goto (tgt := 11) hx hb d_Follows_gather_31 (by decide) ?_
      exact ihk_121 (v_245) (f_244) _ _ _ (zI.wk (l' := 0) (h' := 241) hv_245 (by decide)) hf_244 (by have _l0 := li_0; have p9 := z_pl hv_242 (by decide); intro q hq; rw [uf_244, z_at]; split; omega; exact hli_124 q (by omega)) (zm_up qv_245 hmk_121 (by decide)) hP hD hS (lv_sub hl [0, 1, 2, 3, 4] rfl)
theorem d_Machine_failsAt_0 : decode prog_4_method_15_code 0 = .ok (.aload 4, 2) := by decide +kernel
theorem d_Machine_failsAt_2 : decode prog_4_method_15_code 2 = .ok (.invokevirtual 136, 3) := by decide +kernel
theorem d_Machine_failsAt_5 : decode prog_4_method_15_code 5 = .ok (.aload_n 0, 1) := by decide +kernel
theorem d_Machine_failsAt_6 : decode prog_4_method_15_code 6 = .ok (.getfield 75, 3) := by decide +kernel
theorem d_Machine_failsAt_9 : decode prog_4_method_15_code 9 = .ok (.ifCond .ne 5, 3) := by decide +kernel
theorem d_Machine_failsAt_12 : decode prog_4_method_15_code 12 = .ok (.iconst 0, 1) := by decide +kernel
theorem d_Machine_failsAt_14 : decode prog_4_method_15_code 14 = .ok (.aload 4, 2) := by decide +kernel
theorem d_Machine_failsAt_16 : decode prog_4_method_15_code 16 = .ok (.iconst 0, 1) := by decide +kernel
theorem d_Machine_failsAt_17 : decode prog_4_method_15_code 17 = .ok (.iconst 0, 1) := by decide +kernel
theorem d_Machine_failsAt_18 : decode prog_4_method_15_code 18 = .ok (.iconst 0, 1) := by decide +kernel
theorem d_Machine_failsAt_19 : decode prog_4_method_15_code 19 = .ok (.invokevirtual 139, 3) := by decide +kernel
theorem d_Machine_failsAt_22 : decode prog_4_method_15_code 22 = .ok (.aload_n 1, 1) := by decide +kernel
theorem d_Machine_failsAt_23 : decode prog_4_method_15_code 23 = .ok (.getfield 143, 3) := by decide +kernel
theorem d_Machine_failsAt_26 : decode prog_4_method_15_code 26 = .ok (.iload_n 2, 1) := by decide +kernel
theorem d_Machine_failsAt_27 : decode prog_4_method_15_code 27 = .ok (.iaload, 1) := by decide +kernel
theorem d_Machine_failsAt_28 : decode prog_4_method_15_code 28 = .ok (.istore 5, 2) := by decide +kernel
theorem d_Machine_failsAt_30 : decode prog_4_method_15_code 30 = .ok (.iconst 0, 1) := by decide +kernel
theorem d_Machine_failsAt_31 : decode prog_4_method_15_code 31 = .ok (.istore 6, 2) := by decide +kernel
theorem d_Machine_failsAt_33 : decode prog_4_method_15_code 33 = .ok (.iload 6, 2) := by decide +kernel
theorem d_Machine_failsAt_35 : decode prog_4_method_15_code 35 = .ok (.iload 5, 2) := by decide +kernel
theorem d_Machine_failsAt_37 : decode prog_4_method_15_code 37 = .ok (.if_icmp .ge 42, 3) := by decide +kernel
theorem d_Machine_failsAt_40 : decode prog_4_method_15_code 40 = .ok (.aload_n 0, 1) := by decide +kernel
theorem d_Machine_failsAt_41 : decode prog_4_method_15_code 41 = .ok (.aload 4, 2) := by decide +kernel
theorem d_Machine_failsAt_43 : decode prog_4_method_15_code 43 = .ok (.aload_n 1, 1) := by decide +kernel
theorem d_Machine_failsAt_44 : decode prog_4_method_15_code 44 = .ok (.iload_n 2, 1) := by decide +kernel
theorem d_Machine_failsAt_45 : decode prog_4_method_15_code 45 = .ok (.iload 6, 2) := by decide +kernel
theorem d_Machine_failsAt_47 : decode prog_4_method_15_code 47 = .ok (.invokevirtual 148, 3) := by decide +kernel
theorem d_Machine_failsAt_50 : decode prog_4_method_15_code 50 = .ok (.aload_n 1, 1) := by decide +kernel
theorem d_Machine_failsAt_51 : decode prog_4_method_15_code 51 = .ok (.iload_n 2, 1) := by decide +kernel
theorem d_Machine_failsAt_52 : decode prog_4_method_15_code 52 = .ok (.iload 6, 2) := by decide +kernel
theorem d_Machine_failsAt_54 : decode prog_4_method_15_code 54 = .ok (.invokevirtual 151, 3) := by decide +kernel
theorem d_Machine_failsAt_57 : decode prog_4_method_15_code 57 = .ok (.iload_n 3, 1) := by decide +kernel
theorem d_Machine_failsAt_58 : decode prog_4_method_15_code 58 = .ok (.invokevirtual 154, 3) := by decide +kernel
theorem d_Machine_failsAt_61 : decode prog_4_method_15_code 61 = .ok (.aload 4, 2) := by decide +kernel
theorem d_Machine_failsAt_63 : decode prog_4_method_15_code 63 = .ok (.iconst 0, 1) := by decide +kernel
theorem d_Machine_failsAt_64 : decode prog_4_method_15_code 64 = .ok (.invokevirtual 158, 3) := by decide +kernel
theorem d_Machine_failsAt_67 : decode prog_4_method_15_code 67 = .ok (.ifCond .eq 6, 3) := by decide +kernel
theorem d_Machine_failsAt_70 : decode prog_4_method_15_code 70 = .ok (.iload 6, 2) := by decide +kernel
theorem d_Machine_failsAt_73 : decode prog_4_method_15_code 73 = .ok (.iinc 6 1, 3) := by decide +kernel
theorem d_Machine_failsAt_76 : decode prog_4_method_15_code 76 = .ok (.goto (-43), 3) := by decide +kernel
theorem d_Machine_failsAt_79 : decode prog_4_method_15_code 79 = .ok (.aload_n 0, 1) := by decide +kernel
theorem d_Machine_failsAt_80 : decode prog_4_method_15_code 80 = .ok (.aload 4, 2) := by decide +kernel
theorem d_Machine_failsAt_82 : decode prog_4_method_15_code 82 = .ok (.iconst 0, 1) := by decide +kernel
theorem d_Machine_failsAt_83 : decode prog_4_method_15_code 83 = .ok (.iconst 0, 1) := by decide +kernel
theorem d_Machine_failsAt_84 : decode prog_4_method_15_code 84 = .ok (.invokevirtual 162, 3) := by decide +kernel
theorem d_Machine_failsAt_87 : decode prog_4_method_15_code 87 = .ok (.ifCond .eq 7, 3) := by decide +kernel
theorem d_Machine_failsAt_90 : decode prog_4_method_15_code 90 = .ok (.iconst (-1), 1) := by decide +kernel
theorem d_Machine_failsAt_91 : decode prog_4_method_15_code 91 = .ok (.goto 5, 3) := by decide +kernel
theorem d_Machine_failsAt_94 : decode prog_4_method_15_code 94 = .ok (.iload 5, 2) := by decide +kernel
theorem d_Machine_failsAt_96 : decode prog_4_method_15_code 96 = .ok (.ireturn, 1) := by decide +kernel
theorem d_Machine_goOn_0 : decode prog_4_method_16_code 0 = .ok (.iconst 0, 1) := by decide +kernel
theorem d_Machine_goOn_1 : decode prog_4_method_16_code 1 = .ok (.istore 5, 2) := by decide +kernel
theorem d_Machine_goOn_3 : decode prog_4_method_16_code 3 = .ok (.iload 5, 2) := by decide +kernel
theorem d_Machine_goOn_5 : decode prog_4_method_16_code 5 = .ok (.iconst 4, 1) := by decide +kernel
theorem d_Machine_goOn_6 : decode prog_4_method_16_code 6 = .ok (.if_icmp .ge 130, 3) := by decide +kernel
theorem d_Machine_goOn_9 : decode prog_4_method_16_code 9 = .ok (.aload_n 1, 1) := by decide +kernel
theorem d_Machine_goOn_10 : decode prog_4_method_16_code 10 = .ok (.iconst 0, 1) := by decide +kernel
theorem d_Machine_goOn_11 : decode prog_4_method_16_code 11 = .ok (.iconst 0, 1) := by decide +kernel
theorem d_Machine_goOn_12 : decode prog_4_method_16_code 12 = .ok (.iload 5, 2) := by decide +kernel
theorem d_Machine_goOn_14 : decode prog_4_method_16_code 14 = .ok (.invokevirtual 166, 3) := by decide +kernel
theorem d_Machine_goOn_17 : decode prog_4_method_16_code 17 = .ok (.lstore 6, 2) := by decide +kernel
theorem d_Machine_goOn_19 : decode prog_4_method_16_code 19 = .ok (.lload 6, 2) := by decide +kernel
theorem d_Machine_goOn_21 : decode prog_4_method_16_code 21 = .ok (.lconst 0, 1) := by decide +kernel
theorem d_Machine_goOn_22 : decode prog_4_method_16_code 22 = .ok (.lcmp, 1) := by decide +kernel
theorem d_Machine_goOn_23 : decode prog_4_method_16_code 23 = .ok (.ifCond .eq 107, 3) := by decide +kernel
theorem d_Machine_goOn_26 : decode prog_4_method_16_code 26 = .ok (.bipush 64, 2) := by decide +kernel
theorem d_Machine_goOn_28 : decode prog_4_method_16_code 28 = .ok (.iload 5, 2) := by decide +kernel
theorem d_Machine_goOn_30 : decode prog_4_method_16_code 30 = .ok (.imul, 1) := by decide +kernel
theorem d_Machine_goOn_31 : decode prog_4_method_16_code 31 = .ok (.lload 6, 2) := by decide +kernel
theorem d_Machine_goOn_33 : decode prog_4_method_16_code 33 = .ok (.invokestatic 170, 3) := by decide +kernel
theorem d_Machine_goOn_36 : decode prog_4_method_16_code 36 = .ok (.iadd, 1) := by decide +kernel
theorem d_Machine_goOn_37 : decode prog_4_method_16_code 37 = .ok (.istore 8, 2) := by decide +kernel
theorem d_Machine_goOn_39 : decode prog_4_method_16_code 39 = .ok (.aload_n 0, 1) := by decide +kernel
theorem d_Machine_goOn_40 : decode prog_4_method_16_code 40 = .ok (.getfield 45, 3) := by decide +kernel
theorem d_Machine_goOn_43 : decode prog_4_method_16_code 43 = .ok (.iload 8, 2) := by decide +kernel
theorem d_Machine_goOn_45 : decode prog_4_method_16_code 45 = .ok (.iaload, 1) := by decide +kernel
theorem d_Machine_goOn_46 : decode prog_4_method_16_code 46 = .ok (.istore 9, 2) := by decide +kernel
theorem d_Machine_goOn_48 : decode prog_4_method_16_code 48 = .ok (.iload 9, 2) := by decide +kernel
theorem d_Machine_goOn_50 : decode prog_4_method_16_code 50 = .ok (.aload_n 0, 1) := by decide +kernel
theorem d_Machine_goOn_51 : decode prog_4_method_16_code 51 = .ok (.getfield 45, 3) := by decide +kernel
theorem d_Machine_goOn_54 : decode prog_4_method_16_code 54 = .ok (.iload 8, 2) := by decide +kernel
theorem d_Machine_goOn_56 : decode prog_4_method_16_code 56 = .ok (.iconst 1, 1) := by decide +kernel
theorem d_Machine_goOn_57 : decode prog_4_method_16_code 57 = .ok (.iadd, 1) := by decide +kernel
theorem d_Machine_goOn_58 : decode prog_4_method_16_code 58 = .ok (.iaload, 1) := by decide +kernel
theorem d_Machine_goOn_59 : decode prog_4_method_16_code 59 = .ok (.if_icmp .ge 59, 3) := by decide +kernel
theorem d_Machine_goOn_62 : decode prog_4_method_16_code 62 = .ok (.aload_n 0, 1) := by decide +kernel
theorem d_Machine_goOn_63 : decode prog_4_method_16_code 63 = .ok (.iload 9, 2) := by decide +kernel
theorem d_Machine_goOn_65 : decode prog_4_method_16_code 65 = .ok (.invokevirtual 174, 3) := by decide +kernel
theorem d_Machine_goOn_68 : decode prog_4_method_16_code 68 = .ok (.iload_n 2, 1) := by decide +kernel
theorem d_Machine_goOn_69 : decode prog_4_method_16_code 69 = .ok (.if_icmp .ne 43, 3) := by decide +kernel
theorem d_Machine_goOn_72 : decode prog_4_method_16_code 72 = .ok (.iload_n 3, 1) := by decide +kernel
theorem d_Machine_goOn_73 : decode prog_4_method_16_code 73 = .ok (.aload_n 0, 1) := by decide +kernel
theorem d_Machine_goOn_74 : decode prog_4_method_16_code 74 = .ok (.getfield 39, 3) := by decide +kernel
theorem d_Machine_goOn_77 : decode prog_4_method_16_code 77 = .ok (.iload 9, 2) := by decide +kernel
theorem d_Machine_goOn_79 : decode prog_4_method_16_code 79 = .ok (.iaload, 1) := by decide +kernel
theorem d_Machine_goOn_80 : decode prog_4_method_16_code 80 = .ok (.iload 4, 2) := by decide +kernel
theorem d_Machine_goOn_82 : decode prog_4_method_16_code 82 = .ok (.isub, 1) := by decide +kernel
theorem d_Machine_goOn_83 : decode prog_4_method_16_code 83 = .ok (.if_icmp .lt 29, 3) := by decide +kernel
theorem d_Machine_goOn_86 : decode prog_4_method_16_code 86 = .ok (.iload_n 3, 1) := by decide +kernel
theorem d_Machine_goOn_87 : decode prog_4_method_16_code 87 = .ok (.aload_n 0, 1) := by decide +kernel
theorem d_Machine_goOn_88 : decode prog_4_method_16_code 88 = .ok (.getfield 42, 3) := by decide +kernel
theorem d_Machine_goOn_91 : decode prog_4_method_16_code 91 = .ok (.iload 9, 2) := by decide +kernel
theorem d_Machine_goOn_93 : decode prog_4_method_16_code 93 = .ok (.iaload, 1) := by decide +kernel
theorem d_Machine_goOn_94 : decode prog_4_method_16_code 94 = .ok (.iload 4, 2) := by decide +kernel
theorem d_Machine_goOn_96 : decode prog_4_method_16_code 96 = .ok (.iadd, 1) := by decide +kernel
theorem d_Machine_goOn_97 : decode prog_4_method_16_code 97 = .ok (.if_icmp .gt 15, 3) := by decide +kernel
theorem d_Machine_goOn_100 : decode prog_4_method_16_code 100 = .ok (.aload_n 1, 1) := by decide +kernel
theorem d_Machine_goOn_101 : decode prog_4_method_16_code 101 = .ok (.iconst 1, 1) := by decide +kernel
theorem d_Machine_goOn_102 : decode prog_4_method_16_code 102 = .ok (.iconst 0, 1) := by decide +kernel
theorem d_Machine_goOn_103 : decode prog_4_method_16_code 103 = .ok (.aload_n 0, 1) := by decide +kernel
theorem d_Machine_goOn_104 : decode prog_4_method_16_code 104 = .ok (.iload 9, 2) := by decide +kernel
theorem d_Machine_goOn_106 : decode prog_4_method_16_code 106 = .ok (.invokevirtual 176, 3) := by decide +kernel
theorem d_Machine_goOn_109 : decode prog_4_method_16_code 109 = .ok (.invokevirtual 139, 3) := by decide +kernel
theorem d_Machine_goOn_112 : decode prog_4_method_16_code 112 = .ok (.iinc 9 1, 3) := by decide +kernel
theorem d_Machine_goOn_115 : decode prog_4_method_16_code 115 = .ok (.goto (-67), 3) := by decide +kernel
theorem d_Machine_goOn_118 : decode prog_4_method_16_code 118 = .ok (.lload 6, 2) := by decide +kernel
theorem d_Machine_goOn_120 : decode prog_4_method_16_code 120 = .ok (.lload 6, 2) := by decide +kernel
theorem d_Machine_goOn_122 : decode prog_4_method_16_code 122 = .ok (.lconst 1, 1) := by decide +kernel
theorem d_Machine_goOn_123 : decode prog_4_method_16_code 123 = .ok (.lsub, 1) := by decide +kernel
theorem d_Machine_goOn_124 : decode prog_4_method_16_code 124 = .ok (.land, 1) := by decide +kernel
theorem d_Machine_goOn_125 : decode prog_4_method_16_code 125 = .ok (.lstore 6, 2) := by decide +kernel
theorem d_Machine_goOn_127 : decode prog_4_method_16_code 127 = .ok (.goto (-108), 3) := by decide +kernel
theorem d_Machine_goOn_130 : decode prog_4_method_16_code 130 = .ok (.iinc 5 1, 3) := by decide +kernel
theorem d_Machine_goOn_133 : decode prog_4_method_16_code 133 = .ok (.goto (-130), 3) := by decide +kernel
theorem d_Machine_goOn_136 : decode prog_4_method_16_code 136 = .ok (.aload_n 1, 1) := by decide +kernel
theorem d_Machine_goOn_137 : decode prog_4_method_16_code 137 = .ok (.iconst 1, 1) := by decide +kernel
theorem d_Machine_goOn_138 : decode prog_4_method_16_code 138 = .ok (.iconst 0, 1) := by decide +kernel
theorem d_Machine_goOn_139 : decode prog_4_method_16_code 139 = .ok (.invokevirtual 179, 3) := by decide +kernel
theorem d_Machine_goOn_142 : decode prog_4_method_16_code 142 = .ok (.return_, 1) := by decide +kernel
abbrev m_s2_Machine_goOn : Room := { frames := 2, cells := 0, slots := 0, locals := 42 }
set_option maxHeartbeats 4000000 in
set_option maxRecDepth 100000 in
theorem s2_Machine_goOn (l : Launch) (G : zG) (b0 : Nat) (b1 : Nat) (b2 : Int32) (b3 : Int32) (b4 : Int32) (b5 : Int32) (b6 : Int32) (b7 : Nat) (b8 : Nat) (b9 : Nat) (b10 : Nat) (b11 : Nat) (b12 : Nat) (b13 : Int32) (b14 : Nat) (b15 : Nat) (b16 : Nat) (b17 : Nat) (b18 : Nat) (b19 : Nat) (b20 : Nat → Int32) (b21 : Nat → Int32) (b22 : Nat → Int32) (b23 : Nat → Int32) (b24 : Int32) (b25 : Nat) (b26 : Nat) (b27 : Nat → Int64) (hb2 : zI b2 0 9) (hb5 : zI b5 0 1) (hb6 : zI b6 0 241) (hb13 : zI b13 0 240) (hb24 : zI b24 0 2) (hb20 : zK b20) (hb23 : zR b23 0 240) (hb27 : zqa qB b27) : zM l G y_Machine_goOn prog_4_method_16_code 10 (Option.none : Option Jvm.ClassFile.FieldType) m_s2_Machine_goOn [.ref b0, .ref b1, .int b2, .int b3, .int b4] [(b0, .inr (5, [.int b5, .int b6, .ref b7, .ref b8, .ref b9, .ref b10, .ref b11, .ref b12, .int b13, .ref b14, .ref b15, .ref b16, .ref b17, .ref b18, .ref b19])), (b14, .inl (G.2 0, 240, .inl b20)), (b16, .inl (G.2 0, 240, .inl b21)), (b17, .inl (G.2 0, 240, .inl b22)), (b18, .inl (G.2 0, 242, .inl b23)), (b1, .inr (6, [.int b24, .int 4, .int 2, .ref b25, .ref b26])), (b25, .inl (G.2 1, 8, .inr (.inl b27)))] (fun v w => ∃ (e0 : Nat → Int64), v = none ∧ w = [(b0, .inr (5, [.int b5, .int b6, .ref b7, .ref b8, .ref b9, .ref b10, .ref b11, .ref b12, .int b13, .ref b14, .ref b15, .ref b16, .ref b17, .ref b18, .ref b19])), (b14, .inl (G.2 0, 240, .inl b20)), (b16, .inl (G.2 0, 240, .inl b21)), (b17, .inl (G.2 0, 240, .inl b22)), (b18, .inl (G.2 0, 242, .inl b23)), (b1, .inr (6, [.int b24, .int 4, .int 2, .ref b25, .ref b26])), (b25, .inl (G.2 1, 8, .inr (.inl e0)))] ∧ (zqa qB e0)) := by
  refine z_start (by decide +kernel) (Nat.le_of_ble_eq_true rfl) ?_
  intro p e s m below meth c A Z hr hnm hA hP hD hS ls hl
  have Z : zC p s m _ meth c prog_4_method_16_code 10 "TraceMachines$Machine" G := Z
  obtain ⟨hx, hb, hml, hown, hts, hK, hN, hlocks⟩ := id Z
  have hl : lv_has ls 10 [(0, .ref b0), (1, .ref b1), (2, .int b2), (3, .int b3), (4, .int b4)] := hl
  refine lv_iconst (v := 0) hx hb d_Machine_goOn_0 (by decide) ?_
  refine lv_istore (lv' := [(5, .int 0), (0, .ref b0), (1, .ref b1), (2, .int b2), (3, .int b3), (4, .int b4)]) hx hb d_Machine_goOn_1 hl (by decide) rfl (fun ls hl => ?_)
  suffices key : ∀ (k_195 : Nat) (y_196 : Int32) (y_197 : Nat → Int64) (H : Heap) (locs : List Loc) (ls : Array Slot), (zI y_196 0 4) → (zqa qB y_197) → (4 : Int) - y_196.toInt < (k_195 : Int) → va_P G.1 classes [(b0, .inr (5, [.int b5, .int b6, .ref b7, .ref b8, .ref b9, .ref b10, .ref b11, .ref b12, .int b13, .ref b14, .ref b15, .ref b16, .ref b17, .ref b18, .ref b19])), (b14, .inl (G.2 0, 240, .inl b20)), (b16, .inl (G.2 0, 240, .inl b21)), (b17, .inl (G.2 0, 240, .inl b22)), (b18, .inl (G.2 0, 242, .inl b23)), (b1, .inr (6, [.int b24, .int 4, .int 2, .ref b25, .ref b26])), (b25, .inl (G.2 1, 8, .inr (.inl y_197)))] H → va_D A [(b0, .inr (5, [.int b5, .int b6, .ref b7, .ref b8, .ref b9, .ref b10, .ref b11, .ref b12, .int b13, .ref b14, .ref b15, .ref b16, .ref b17, .ref b18, .ref b19])), (b14, .inl (G.2 0, 240, .inl b20)), (b16, .inl (G.2 0, 240, .inl b21)), (b17, .inl (G.2 0, 240, .inl b22)), (b18, .inl (G.2 0, 242, .inl b23)), (b1, .inr (6, [.int b24, .int 4, .int 2, .ref b25, .ref b26])), (b25, .inl (G.2 1, 8, .inr (.inl y_197)))] → va_S A s.heap H locs → lv_has ls 10 [(5, .int y_196), (0, .ref b0), (1, .ref b1), (2, .int b2), (3, .int b3), (4, .int b4)] → W p l e m_s2_Machine_goOn s m ([.ref b0, .ref b1, .int b2, .int b3, .int b4] : List Value).toArray below meth c H locs 0 0 (MQ below (zQ G (fun v w => ∃ (e0 : Nat → Int64), v = none ∧ w = [(b0, .inr (5, [.int b5, .int b6, .ref b7, .ref b8, .ref b9, .ref b10, .ref b11, .ref b12, .int b13, .ref b14, .ref b15, .ref b16, .ref b17, .ref b18, .ref b19])), (b14, .inl (G.2 0, 240, .inl b20)), (b16, .inl (G.2 0, 240, .inl b21)), (b17, .inl (G.2 0, 240, .inl b22)), (b18, .inl (G.2 0, 242, .inl b23)), (b1, .inr (6, [.int b24, .int 4, .int 2, .ref b25, .ref b26])), (b25, .inl (G.2 1, 8, .inr (.inl e0)))] ∧ (zqa qB e0)) A) ([.ref b0, .ref b1, .int b2, .int b3, .int b4] : List Value).toArray s m_s2_Machine_goOn.cells m_s2_Machine_goOn.slots A) (F0 m 3 ls []) by
    exact key 5 (0) (b27) _ _ _ (zI.wk (l' := 0) (h' := 4) zc_0 (by decide)) hb27 (zm_upi (zI.wk (l' := 0) (h' := 4) zc_0 (by decide)) (by decide)) hP hD hS (lv_sub hl [0, 1, 2, 3, 4, 5] rfl)
  intro k_195
  induction k_195 with
  | zero =>
    intro y_196 y_197 H locs ls hy_196 hy_197 hmk_195 hP hD hS hl
    exact (zm_up0 hy_196 hmk_195).elim
  | succ k_195 ihk_195 =>
    intro y_196 y_197 H locs ls hy_196 hy_197 hmk_195 hP hD hS hl
    refine lv_iload hx hb d_Machine_goOn_3 (lv_at hl 0 rfl) ?_
    refine lv_iconst (v := 4) hx hb d_Machine_goOn_5 (by decide) ?_
    refine lv_icmp_ge (tgt := 136) hx hb d_Machine_goOn_6 (by decide) (fun hc_198 => ?_) (fun hc_198 => ?_)
    · have _nhc_198 := hc_198
      have ni_199 := (fa_le _ _).mp hc_198
      rw [li_4] at ni_199
      have hv_200 : zI y_196 4 4 := zI.le_r zc_4 hy_196 hc_198 (by decide)
      refine lv_aload_n hx hb d_Machine_goOn_136 rfl (lv_at hl 2 rfl) ?_
      refine lv_iconst (v := 1) hx hb d_Machine_goOn_137 (by decide) ?_
      refine lv_iconst (v := 0) hx hb d_Machine_goOn_138 (by decide) ?_
      refine z_callV (index := 179) (As := [.int 1, .int 0]) (rest := []) (wr := [(b0, .inr (5, [.int b5, .int b6, .ref b7, .ref b8, .ref b9, .ref b10, .ref b11, .ref b12, .int b13, .ref b14, .ref b15, .ref b16, .ref b17, .ref b18, .ref b19])), (b14, .inl (G.2 0, 240, .inl b20)), (b16, .inl (G.2 0, 240, .inl b21)), (b17, .inl (G.2 0, 240, .inl b22)), (b18, .inl (G.2 0, 242, .inl b23))]) Z (s1_Sets_moveRow l G (b1) (1) (0) (b24) (b25) (b26) (y_197) (zI.wk (l' := 0) (h' := 1) zc_1 (by decide)) (zI.wk (l' := 0) (h' := 1) zc_0 (by decide)) hb24 hy_197) hl.1 q734 q735 q736 q7 q737 ⟨by decide, by decide, by show _ = some 2; decide +kernel⟩ ⟨Nat.le_of_ble_eq_true rfl, Nat.le_of_ble_eq_true rfl⟩ ⟨Nat.le_of_ble_eq_true rfl, Nat.le_of_ble_eq_true rfl⟩ rfl (Nat.le_of_ble_eq_true rfl) d_Machine_goOn_139 hP hD hS hA 5 6 rfl rfl rfl [5, 6] [0, 1, 2, 3, 4] rfl rfl rfl rfl (by decide) (fun v w1 H locs hw_201 hP hD hS => ?_)
      obtain ⟨f_202, rfl, rfl, hf_202⟩ := hw_201
      have hP : va_P G.1 classes [(b0, .inr (5, [.int b5, .int b6, .ref b7, .ref b8, .ref b9, .ref b10, .ref b11, .ref b12, .int b13, .ref b14, .ref b15, .ref b16, .ref b17, .ref b18, .ref b19])), (b14, .inl (G.2 0, 240, .inl b20)), (b16, .inl (G.2 0, 240, .inl b21)), (b17, .inl (G.2 0, 240, .inl b22)), (b18, .inl (G.2 0, 242, .inl b23)), (b1, .inr (6, [.int b24, .int 4, .int 2, .ref b25, .ref b26])), (b25, .inl (G.2 1, 8, .inr (.inl f_202)))] H := hP
      have hD := z_tie hP hD rfl
      refine W.widen (k := 0) (n := 0) (Nat.le_of_ble_eq_true rfl) (Nat.le_of_ble_eq_true rfl) ?_
      exact z_vret hx hb hr hlocks hP hD hS (Nat.le_of_ble_eq_true rfl) (Nat.le_of_ble_eq_true rfl) d_Machine_goOn_142 ⟨f_202, rfl, rfl, hf_202⟩
    · have _nhc_198 := hc_198
      have ni_203 := (fa_lt _ _).mp (zi_nle hc_198)
      rw [li_4] at ni_203
      have hv_204 : zI y_196 0 3 := zI.lt_l hy_196 zc_4 (zi_nle hc_198) (by decide)
      refine lv_aload_n hx hb d_Machine_goOn_9 rfl (lv_at hl 2 rfl) ?_
      refine lv_iconst (v := 0) hx hb d_Machine_goOn_10 (by decide) ?_
      refine lv_iconst (v := 0) hx hb d_Machine_goOn_11 (by decide) ?_
      refine lv_iload hx hb d_Machine_goOn_12 (lv_at hl 0 rfl) ?_
      refine z_callV (index := 166) (As := [.int 0, .int 0, .int y_196]) (rest := []) (wr := [(b0, .inr (5, [.int b5, .int b6, .ref b7, .ref b8, .ref b9, .ref b10, .ref b11, .ref b12, .int b13, .ref b14, .ref b15, .ref b16, .ref b17, .ref b18, .ref b19])), (b14, .inl (G.2 0, 240, .inl b20)), (b16, .inl (G.2 0, 240, .inl b21)), (b17, .inl (G.2 0, 240, .inl b22)), (b18, .inl (G.2 0, 242, .inl b23))]) Z (s1_Sets_longAt l G (b1) (0) (0) (y_196) (b24) (b25) (b26) (y_197) (zI.wk (l' := 0) (h' := 1) zc_0 (by decide)) zc_0 hv_204 hb24 hy_197) hl.1 q719 q720 q721 q7 q722 ⟨by decide, by decide, by show _ = some 3; decide +kernel⟩ ⟨Nat.le_of_ble_eq_true rfl, Nat.le_of_ble_eq_true rfl⟩ ⟨Nat.le_of_ble_eq_true rfl, Nat.le_of_ble_eq_true rfl⟩ rfl (Nat.le_of_ble_eq_true rfl) d_Machine_goOn_14 hP hD hS hA 5 6 rfl rfl rfl [5, 6] [0, 1, 2, 3, 4] rfl rfl rfl rfl (by decide) (fun v w1 H locs hw_205 hP hD hS => ?_)
      obtain ⟨x_206, rfl, rfl, hfx_207⟩ := hw_205
      have hP : va_P G.1 classes [(b0, .inr (5, [.int b5, .int b6, .ref b7, .ref b8, .ref b9, .ref b10, .ref b11, .ref b12, .int b13, .ref b14, .ref b15, .ref b16, .ref b17, .ref b18, .ref b19])), (b14, .inl (G.2 0, 240, .inl b20)), (b16, .inl (G.2 0, 240, .inl b21)), (b17, .inl (G.2 0, 240, .inl b22)), (b18, .inl (G.2 0, 242, .inl b23)), (b1, .inr (6, [.int b24, .int 4, .int 2, .ref b25, .ref b26])), (b25, .inl (G.2 1, 8, .inr (.inl y_197)))] H := hP
      have hD := z_tie hP hD rfl
      refine W.widen (k := 0) (n := 0) (Nat.le_of_ble_eq_true rfl) (Nat.le_of_ble_eq_true rfl) ?_
      refine lv_lstore (lv' := [(6, .long x_206), (5, .int y_196), (0, .ref b0), (1, .ref b1), (2, .int b2), (3, .int b3), (4, .int b4)]) hx hb d_Machine_goOn_17 hl (by decide) rfl (fun ls hl => ?_)
      suffices key : ∀ (k_299 : Nat) (y_300 : Int64) (y_301 : Nat → Int64) (H : Heap) (locs : List Loc) (ls : Array Slot), (zqa qB y_301) → ((y_196 : Int32).toInt = 3 → (y_300 : Int64).toBitVec.toNat < 2 ^ 49) → (y_300).toBitVec.toNat < k_299 → va_P G.1 classes [(b0, .inr (5, [.int b5, .int b6, .ref b7, .ref b8, .ref b9, .ref b10, .ref b11, .ref b12, .int b13, .ref b14, .ref b15, .ref b16, .ref b17, .ref b18, .ref b19])), (b14, .inl (G.2 0, 240, .inl b20)), (b16, .inl (G.2 0, 240, .inl b21)), (b17, .inl (G.2 0, 240, .inl b22)), (b18, .inl (G.2 0, 242, .inl b23)), (b1, .inr (6, [.int b24, .int 4, .int 2, .ref b25, .ref b26])), (b25, .inl (G.2 1, 8, .inr (.inl y_301)))] H → va_D A [(b0, .inr (5, [.int b5, .int b6, .ref b7, .ref b8, .ref b9, .ref b10, .ref b11, .ref b12, .int b13, .ref b14, .ref b15, .ref b16, .ref b17, .ref b18, .ref b19])), (b14, .inl (G.2 0, 240, .inl b20)), (b16, .inl (G.2 0, 240, .inl b21)), (b17, .inl (G.2 0, 240, .inl b22)), (b18, .inl (G.2 0, 242, .inl b23)), (b1, .inr (6, [.int b24, .int 4, .int 2, .ref b25, .ref b26])), (b25, .inl (G.2 1, 8, .inr (.inl y_301)))] → va_S A s.heap H locs → lv_has ls 10 [(6, .long y_300), (5, .int y_196), (0, .ref b0), (1, .ref b1), (2, .int b2), (3, .int b3), (4, .int b4)] → W p l e m_s2_Machine_goOn s m ([.ref b0, .ref b1, .int b2, .int b3, .int b4] : List Value).toArray below meth c H locs 0 0 (MQ below (zQ G (fun v w => ∃ (e0 : Nat → Int64), v = none ∧ w = [(b0, .inr (5, [.int b5, .int b6, .ref b7, .ref b8, .ref b9, .ref b10, .ref b11, .ref b12, .int b13, .ref b14, .ref b15, .ref b16, .ref b17, .ref b18, .ref b19])), (b14, .inl (G.2 0, 240, .inl b20)), (b16, .inl (G.2 0, 240, .inl b21)), (b17, .inl (G.2 0, 240, .inl b22)), (b18, .inl (G.2 0, 242, .inl b23)), (b1, .inr (6, [.int b24, .int 4, .int 2, .ref b25, .ref b26])), (b25, .inl (G.2 1, 8, .inr (.inl e0)))] ∧ (zqa qB e0)) A) ([.ref b0, .ref b1, .int b2, .int b3, .int b4] : List Value).toArray s m_s2_Machine_goOn.cells m_s2_Machine_goOn.slots A) (F0 m 19 ls []) by
        exact key 18446744073709551616 (x_206) (y_197) _ _ _ hy_197 hfx_207 (Nat.lt_of_lt_of_le (x_206).toBitVec.isLt (by decide)) hP hD hS (lv_sub hl [0, 1, 2, 3, 4, 5, 6] rfl)
      intro k_299
      induction k_299 with
      | zero =>
        intro y_300 y_301 H locs ls hy_301 hli_302 hmk_299 hP hD hS hl
        exfalso; omega
      | succ k_299 ihk_299 =>
        intro y_300 y_301 H locs ls hy_301 hli_302 hmk_299 hP hD hS hl
        refine lv_lload hx hb d_Machine_goOn_19 (lv_at hl 0 rfl) ?_
        refine lv_lconst (v := 0) hx hb d_Machine_goOn_21 (by decide) ?_
        refine W.lcmp hx hb d_Machine_goOn_22 ?_
        refine lv_topi (fun v_303 ev_303 => ?_)
        refine lv_if_eq (tgt := 130) hx hb d_Machine_goOn_23 (by decide) (fun hc_304 => ?_) (fun hc_304 => ?_)
        · have ni_305 := hc_304
          rw [ev_303] at ni_305
          simp only [lg_cmp_lt, lg_cmp_le, lg_cmp_gt, lg_cmp_ge, lg_cmp_eq, fa_lt64, fa_le64, fa_eq64, Int32.toInt_toInt64, ll_0] at ni_305
          have hv_306 : zJ y_300 0 0 := by have _a := ni_305; have _b := (zJ_all y_300); have _c := zcl_0; simp only [Int32.toInt_toInt64] at *; exact ⟨by omega, by omega⟩
          obtain ⟨v_307, ev_307⟩ : ∃ z : Int32, z = y_196 + 1 := ⟨_, rfl⟩
          obtain ⟨qv_307, hv_307⟩ := zI_add (l := 1) (h := 4) hv_204 zc_1 ev_307 (by decide)
          rw [li_1] at qv_307
          refine lv_iinc (v := v_307) (lv' := [(5, .int v_307), (6, .long y_300), (0, .ref b0), (1, .ref b1), (2, .int b2), (3, .int b3), (4, .int b4)]) hx hb d_Machine_goOn_130 hl (k := 1) rfl (by rw [ev_307]; rfl) (by decide) rfl (fun ls hl => ?_)
          refine lv_goto (tgt := 3) hx hb d_Machine_goOn_133 (by decide) ?_
          exact ihk_195 (v_307) (y_301) _ _ _ (zI.wk (l' := 0) (h' := 4) hv_307 (by decide)) hy_301 (zm_up qv_307 hmk_195 (by decide)) hP hD hS (lv_sub hl [0, 2, 3, 4, 5, 6] rfl)
        · have ni_308 := hc_304
          rw [ev_303] at ni_308
          simp only [lg_cmp_lt, lg_cmp_le, lg_cmp_gt, lg_cmp_ge, lg_cmp_eq, fa_lt64, fa_le64, fa_eq64, Int32.toInt_toInt64, ll_0] at ni_308
          refine lv_bipush (v := 64) hx hb d_Machine_goOn_26 (by decide) ?_
          refine lv_iload hx hb d_Machine_goOn_28 (lv_at hl 1 rfl) ?_
          refine lv_imul hx hb d_Machine_goOn_30 ?_
          refine lv_topi (fun v_309 ev_309 => ?_)
          obtain ⟨qv_309, hv_309⟩ := zI_mul (l := 0) (h := 192) zc_64 hv_204 ev_309 (by decide)
          rw [li_64] at qv_309
          refine lv_lload hx hb d_Machine_goOn_31 (lv_at hl 0 rfl) ?_
          refine z_callS (index := 170) (As := [.long y_300]) (rest := [.int v_309]) (wr := [(b0, .inr (5, [.int b5, .int b6, .ref b7, .ref b8, .ref b9, .ref b10, .ref b11, .ref b12, .int b13, .ref b14, .ref b15, .ref b16, .ref b17, .ref b18, .ref b19])), (b14, .inl (G.2 0, 240, .inl b20)), (b16, .inl (G.2 0, 240, .inl b21)), (b17, .inl (G.2 0, 240, .inl b22)), (b18, .inl (G.2 0, 242, .inl b23)), (b1, .inr (6, [.int b24, .int 4, .int 2, .ref b25, .ref b26])), (b25, .inl (G.2 1, 8, .inr (.inl y_301)))]) Z (s2_Sets_lowest l G (y_300) (by omega)) hl.1 q723 q724 q7 q725 ⟨by decide, by decide, by show _ = some 1; decide +kernel⟩ ⟨Nat.le_of_ble_eq_true rfl, Nat.le_of_ble_eq_true rfl⟩ ⟨Nat.le_of_ble_eq_true rfl, Nat.le_of_ble_eq_true rfl⟩ rfl (Nat.le_of_ble_eq_true rfl) d_Machine_goOn_33 hP hD hS hA [] [0, 1, 2, 3, 4, 5, 6] rfl rfl rfl rfl (by decide) (fun v w1 H locs hw_310 hP hD hS => ?_)
          obtain ⟨x_311, rfl, rfl, hx_311, hfx_312⟩ := hw_310
          have hP : va_P G.1 classes [(b0, .inr (5, [.int b5, .int b6, .ref b7, .ref b8, .ref b9, .ref b10, .ref b11, .ref b12, .int b13, .ref b14, .ref b15, .ref b16, .ref b17, .ref b18, .ref b19])), (b14, .inl (G.2 0, 240, .inl b20)), (b16, .inl (G.2 0, 240, .inl b21)), (b17, .inl (G.2 0, 240, .inl b22)), (b18, .inl (G.2 0, 242, .inl b23)), (b1, .inr (6, [.int b24, .int 4, .int 2, .ref b25, .ref b26])), (b25, .inl (G.2 1, 8, .inr (.inl y_301)))] H := hP
          have hD := z_tie hP hD rfl
          refine W.widen (k := 0) (n := 0) (Nat.le_of_ble_eq_true rfl) (Nat.le_of_ble_eq_true rfl) ?_
          refine lv_iadd hx hb d_Machine_goOn_36 ?_
          refine lv_topi (fun v_313 ev_313 => ?_)
          obtain ⟨qv_313, hv_313⟩ := zI_add (l := 0) (h := 255) hv_309 hx_311 ev_313 (by decide)
          have hv_314 : zI v_313 0 240 := ⟨by omega, by omega⟩
          refine lv_istore (lv' := [(8, .int v_313), (6, .long y_300), (5, .int y_196), (0, .ref b0), (1, .ref b1), (2, .int b2), (3, .int b3), (4, .int b4)]) hx hb d_Machine_goOn_37 hl (by decide) rfl (fun ls hl => ?_)
          refine lv_aload_n hx hb d_Machine_goOn_39 rfl (lv_at hl 3 rfl) ?_
          refine va_get (D := G.1) (ci := 5) (v := .ref b18) (C := R_Machine) (T := F_Machine) (N := 15) hx hb hts i_Machine hown hK hP 0 rfl rfl 13 (by decide) (hts _ q195) (fun _ h9 => h9) rfl d_Machine_goOn_40 ?_
          refine lv_iload hx hb d_Machine_goOn_43 (lv_at hl 0 rfl) ?_
          refine va_iald hx hb hK hP 4 0 rfl rfl (zI.inn hv_314 (by decide)) d_Machine_goOn_45 ?_
          refine lv_topi (fun v_315 ev_315 => ?_)
          have hv_315 : zI v_315 0 240 := (hb23 _).eq ev_315
          refine lv_istore (lv' := [(9, .int v_315), (8, .int v_313), (6, .long y_300), (5, .int y_196), (0, .ref b0), (1, .ref b1), (2, .int b2), (3, .int b3), (4, .int b4)]) hx hb d_Machine_goOn_46 hl (by decide) rfl (fun ls hl => ?_)
          suffices key : ∀ (k_354 : Nat) (y_355 : Int32) (y_356 : Nat → Int64) (H : Heap) (locs : List Loc) (ls : Array Slot), (zI y_355 0 240) → (zqa qB y_356) → (240 : Int) - y_355.toInt < (k_354 : Int) → va_P G.1 classes [(b0, .inr (5, [.int b5, .int b6, .ref b7, .ref b8, .ref b9, .ref b10, .ref b11, .ref b12, .int b13, .ref b14, .ref b15, .ref b16, .ref b17, .ref b18, .ref b19])), (b14, .inl (G.2 0, 240, .inl b20)), (b16, .inl (G.2 0, 240, .inl b21)), (b17, .inl (G.2 0, 240, .inl b22)), (b18, .inl (G.2 0, 242, .inl b23)), (b1, .inr (6, [.int b24, .int 4, .int 2, .ref b25, .ref b26])), (b25, .inl (G.2 1, 8, .inr (.inl y_356)))] H → va_D A [(b0, .inr (5, [.int b5, .int b6, .ref b7, .ref b8, .ref b9, .ref b10, .ref b11, .ref b12, .int b13, .ref b14, .ref b15, .ref b16, .ref b17, .ref b18, .ref b19])), (b14, .inl (G.2 0, 240, .inl b20)), (b16, .inl (G.2 0, 240, .inl b21)), (b17, .inl (G.2 0, 240, .inl b22)), (b18, .inl (G.2 0, 242, .inl b23)), (b1, .inr (6, [.int b24, .int 4, .int 2, .ref b25, .ref b26])), (b25, .inl (G.2 1, 8, .inr (.inl y_356)))] → va_S A s.heap H locs → lv_has ls 10 [(9, .int y_355), (8, .int v_313), (6, .long y_300), (5, .int y_196), (0, .ref b0), (1, .ref b1), (2, .int b2), (3, .int b3), (4, .int b4)] → W p l e m_s2_Machine_goOn s m ([.ref b0, .ref b1, .int b2, .int b3, .int b4] : List Value).toArray below meth c H locs 0 0 (MQ below (zQ G (fun v w => ∃ (e0 : Nat → Int64), v = none ∧ w = [(b0, .inr (5, [.int b5, .int b6, .ref b7, .ref b8, .ref b9, .ref b10, .ref b11, .ref b12, .int b13, .ref b14, .ref b15, .ref b16, .ref b17, .ref b18, .ref b19])), (b14, .inl (G.2 0, 240, .inl b20)), (b16, .inl (G.2 0, 240, .inl b21)), (b17, .inl (G.2 0, 240, .inl b22)), (b18, .inl (G.2 0, 242, .inl b23)), (b1, .inr (6, [.int b24, .int 4, .int 2, .ref b25, .ref b26])), (b25, .inl (G.2 1, 8, .inr (.inl e0)))] ∧ (zqa qB e0)) A) ([.ref b0, .ref b1, .int b2, .int b3, .int b4] : List Value).toArray s m_s2_Machine_goOn.cells m_s2_Machine_goOn.slots A) (F0 m 48 ls []) by
            exact key 241 (v_315) (y_301) _ _ _ hv_315 hy_301 (zm_upi hv_315 (by decide)) hP hD hS (lv_sub hl [0, 1, 2, 3, 4, 5, 6, 7, 8] rfl)
          intro k_354
          induction k_354 with
          | zero =>
            intro y_355 y_356 H locs ls hy_355 hy_356 hmk_354 hP hD hS hl
            exact (zm_up0 hy_355 hmk_354).elim
          | succ k_354 ihk_354 =>
            intro y_355 y_356 H locs ls hy_355 hy_356 hmk_354 hP hD hS hl
            refine lv_iload hx hb d_Machine_goOn_48 (lv_at hl 0 rfl) ?_
            refine lv_aload_n hx hb d_Machine_goOn_50 rfl (lv_at hl 4 rfl) ?_
            refine va_get (D := G.1) (ci := 5) (v := .ref b18) (C := R_Machine) (T := F_Machine) (N := 15) hx hb hts i_Machine hown hK hP 0 rfl rfl 13 (by decide) (hts _ q195) (fun _ h9 => h9) rfl d_Machine_goOn_51 ?_
            refine lv_iload hx hb d_Machine_goOn_54 (lv_at hl 1 rfl) ?_
            refine lv_iconst (v := 1) hx hb d_Machine_goOn_56 (by decide) ?_
            refine lv_iadd hx hb d_Machine_goOn_57 ?_
            refine lv_topi (fun v_357 ev_357 => ?_)
            obtain ⟨qv_357, hv_357⟩ := zI_add (l := 1) (h := 241) hv_314 zc_1 ev_357 (by decide)
            rw [li_1] at qv_357
            refine va_iald hx hb hK hP 4 0 rfl rfl (zI.inn hv_357 (by decide)) d_Machine_goOn_58 ?_
            refine lv_topi (fun v_358 ev_358 => ?_)
            have hv_358 : zI v_358 0 240 := (hb23 _).eq ev_358
            refine lv_icmp_ge (tgt := 118) hx hb d_Machine_goOn_59 (by decide) (fun hc_359 => ?_) (fun hc_359 => ?_)
            · have _nhc_359 := hc_359
              have ni_360 := (fa_le _ _).mp hc_359
              refine lv_lload hx hb d_Machine_goOn_118 (lv_at hl 2 rfl) ?_
              refine lv_lload hx hb d_Machine_goOn_120 (lv_at hl 2 rfl) ?_
              refine lv_lconst (v := 1) hx hb d_Machine_goOn_122 (by decide) ?_
              refine lv_lsub hx hb d_Machine_goOn_123 ?_
              refine lv_topl (fun v_361 ev_361 => ?_)
              refine lv_land hx hb d_Machine_goOn_124 ?_
              refine lv_topl (fun v_362 ev_362 => ?_)
              refine lv_lstore (lv' := [(6, .long v_362), (9, .int y_355), (8, .int v_313), (5, .int y_196), (0, .ref b0), (1, .ref b1), (2, .int b2), (3, .int b3), (4, .int b4)]) hx hb d_Machine_goOn_125 hl (by decide) rfl (fun ls hl => ?_)
              refine lv_goto (tgt := 19) hx hb d_Machine_goOn_127 (by decide) ?_
              exact ihk_299 (v_362) (y_356) _ _ _ hy_356 (fun h9 => z_decB ev_362 (hli_302 h9)) (z_dec ev_361 ev_362 (by omega) hmk_299) hP hD hS (lv_sub hl [0, 3, 4, 5, 6, 7, 8] rfl)
            · have _nhc_359 := hc_359
              have ni_363 := (fa_lt _ _).mp (zi_nle hc_359)
              have hv_364 : zI y_355 0 239 := zI.lt_l hy_355 hv_358 (zi_nle hc_359) (by decide)
              have hv_365 : zI v_358 1 240 := zI.lt_r hy_355 hv_358 (zi_nle hc_359) (by decide)
              refine lv_aload_n hx hb d_Machine_goOn_62 rfl (lv_at hl 4 rfl) ?_
              refine lv_iload hx hb d_Machine_goOn_63 (lv_at hl 0 rfl) ?_
              refine z_callV (index := 174) (As := [.int y_355]) (rest := []) (wr := [(b16, .inl (G.2 0, 240, .inl b21)), (b17, .inl (G.2 0, 240, .inl b22)), (b18, .inl (G.2 0, 242, .inl b23)), (b1, .inr (6, [.int b24, .int 4, .int 2, .ref b25, .ref b26])), (b25, .inl (G.2 1, 8, .inr (.inl y_356)))]) Z (s1_Machine_letter l G (b0) (y_355) (b5) (b6) (b7) (b8) (b9) (b10) (b11) (b12) (b13) (b14) (b15) (b16) (b17) (b18) (b19) (b20) hv_364 hb5 hb6 hb13 hb20) hl.1 q732 q674 q675 q6 q676 ⟨by decide, by decide, by show _ = some 1; decide +kernel⟩ ⟨Nat.le_of_ble_eq_true rfl, Nat.le_of_ble_eq_true rfl⟩ ⟨Nat.le_of_ble_eq_true rfl, Nat.le_of_ble_eq_true rfl⟩ rfl (Nat.le_of_ble_eq_true rfl) d_Machine_goOn_65 hP hD hS hA 0 5 rfl rfl rfl [0, 1] [2, 3, 4, 5, 6] rfl rfl rfl rfl (by decide) (fun v w1 H locs hw_366 hP hD hS => ?_)
              obtain ⟨x_367, rfl, rfl, hx_367⟩ := hw_366
              have hP : va_P G.1 classes [(b16, .inl (G.2 0, 240, .inl b21)), (b17, .inl (G.2 0, 240, .inl b22)), (b18, .inl (G.2 0, 242, .inl b23)), (b1, .inr (6, [.int b24, .int 4, .int 2, .ref b25, .ref b26])), (b25, .inl (G.2 1, 8, .inr (.inl y_356))), (b0, .inr (5, [.int b5, .int b6, .ref b7, .ref b8, .ref b9, .ref b10, .ref b11, .ref b12, .int b13, .ref b14, .ref b15, .ref b16, .ref b17, .ref b18, .ref b19])), (b14, .inl (G.2 0, 240, .inl b20))] H := hP
              have hD := z_tie hP hD rfl
              refine W.widen (k := 0) (n := 0) (Nat.le_of_ble_eq_true rfl) (Nat.le_of_ble_eq_true rfl) ?_
              refine lv_iload_n hx hb d_Machine_goOn_68 rfl (lv_at hl 6 rfl) ?_
              refine lv_icmp_ne (tgt := 112) hx hb d_Machine_goOn_69 (by decide) (fun hc_368 => ?_) (fun hc_368 => ?_)
              · have _nhc_368 := hc_368
                have ni_369 : ¬ (x_367 : Int32).toInt = (b2 : Int32).toInt := fun z => hc_368 ((fa_eq _ _).mpr z)
                obtain ⟨v_370, ev_370⟩ : ∃ z : Int32, z = y_355 + 1 := ⟨_, rfl⟩
                obtain ⟨qv_370, hv_370⟩ := zI_add (l := 1) (h := 240) hv_364 zc_1 ev_370 (by decide)
                rw [li_1] at qv_370
                refine lv_iinc (v := v_370) (lv' := [(9, .int v_370), (8, .int v_313), (6, .long y_300), (5, .int y_196), (0, .ref b0), (1, .ref b1), (2, .int b2), (3, .int b3), (4, .int b4)]) hx hb d_Machine_goOn_112 hl (k := 0) rfl (by rw [ev_370]; rfl) (by decide) rfl (fun ls hl => ?_)
                refine lv_goto (tgt := 48) hx hb d_Machine_goOn_115 (by decide) ?_
                exact ihk_354 (v_370) (y_356) _ _ _ (zI.wk (l' := 0) (h' := 240) hv_370 (by decide)) hy_356 (zm_up qv_370 hmk_354 (by decide)) (hP.sub [5, 6, 0, 1, 2, 3, 4] rfl) (hD.sub [5, 6, 0, 1, 2, 3, 4] (by decide) rfl) hS (lv_sub hl [0, 1, 2, 3, 4, 5, 6, 7, 8] rfl)
              · have _nhc_368 := hc_368
                have ni_371 := (fa_eq _ _).mp hc_368
                refine lv_iload_n hx hb d_Machine_goOn_72 rfl (lv_at hl 7 rfl) ?_
                refine lv_aload_n hx hb d_Machine_goOn_73 rfl (lv_at hl 4 rfl) ?_
                refine va_get (D := G.1) (ci := 5) (v := .ref b16) (C := R_Machine) (T := F_Machine) (N := 15) hx hb hts i_Machine hown hK hP 5 rfl rfl 11 (by decide) (hts _ q191) (fun _ h9 => h9) rfl d_Machine_goOn_74 ?_
                refine lv_iload hx hb d_Machine_goOn_77 (lv_at hl 0 rfl) ?_
                refine va_iald hx hb hK hP 0 0 rfl rfl (zI.inn hv_364 (by decide)) d_Machine_goOn_79 ?_
                refine lv_topi (fun v_372 ev_372 => ?_)
                refine lv_iload hx hb d_Machine_goOn_80 (lv_at hl 8 rfl) ?_
                refine lv_isub hx hb d_Machine_goOn_82 ?_
                refine lv_topi (fun v_373 ev_373 => ?_)
                refine lv_icmp_lt (tgt := 112) hx hb d_Machine_goOn_83 (by decide) (fun hc_374 => ?_) (fun hc_374 => ?_)
                · have _nhc_374 := hc_374
                  have ni_375 := (fa_lt _ _).mp hc_374
                  have hv_376 : zI b3 (-2147483648) 2147483646 := zI.lt_l (zI_all b3) (zI_all v_373) hc_374 (by decide)
                  have hv_377 : zI v_373 (-2147483647) 2147483647 := zI.lt_r (zI_all b3) (zI_all v_373) hc_374 (by decide)
                  obtain ⟨v_378, ev_378⟩ : ∃ z : Int32, z = y_355 + 1 := ⟨_, rfl⟩
                  obtain ⟨qv_378, hv_378⟩ := zI_add (l := 1) (h := 240) hv_364 zc_1 ev_378 (by decide)
                  rw [li_1] at qv_378
                  refine lv_iinc (v := v_378) (lv' := [(9, .int v_378), (8, .int v_313), (6, .long y_300), (5, .int y_196), (0, .ref b0), (1, .ref b1), (2, .int b2), (3, .int b3), (4, .int b4)]) hx hb d_Machine_goOn_112 hl (k := 0) rfl (by rw [ev_378]; rfl) (by decide) rfl (fun ls hl => ?_)
                  refine lv_goto (tgt := 48) hx hb d_Machine_goOn_115 (by decide) ?_
                  exact ihk_354 (v_378) (y_356) _ _ _ (zI.wk (l' := 0) (h' := 240) hv_378 (by decide)) hy_356 (zm_up qv_378 hmk_354 (by decide)) (hP.sub [5, 6, 0, 1, 2, 3, 4] rfl) (hD.sub [5, 6, 0, 1, 2, 3, 4] (by decide) rfl) hS (lv_sub hl [0, 1, 2, 3, 4, 5, 6, 7, 8] rfl)
                · have _nhc_374 := hc_374
                  have ni_379 := (fa_le _ _).mp (zi_nlt hc_374)
                  refine lv_iload_n hx hb d_Machine_goOn_86 rfl (lv_at hl 7 rfl) ?_
                  refine lv_aload_n hx hb d_Machine_goOn_87 rfl (lv_at hl 4 rfl) ?_
                  refine va_get (D := G.1) (ci := 5) (v := .ref b17) (C := R_Machine) (T := F_Machine) (N := 15) hx hb hts i_Machine hown hK hP 5 rfl rfl 12 (by decide) (hts _ q193) (fun _ h9 => h9) rfl d_Machine_goOn_88 ?_
                  refine lv_iload hx hb d_Machine_goOn_91 (lv_at hl 0 rfl) ?_
                  refine va_iald hx hb hK hP 1 0 rfl rfl (zI.inn hv_364 (by decide)) d_Machine_goOn_93 ?_
                  refine lv_topi (fun v_380 ev_380 => ?_)
                  refine lv_iload hx hb d_Machine_goOn_94 (lv_at hl 8 rfl) ?_
                  refine lv_iadd hx hb d_Machine_goOn_96 ?_
                  refine lv_topi (fun v_381 ev_381 => ?_)
                  refine lv_icmp_gt (tgt := 112) hx hb d_Machine_goOn_97 (by decide) (fun hc_382 => ?_) (fun hc_382 => ?_)
                  · have _nhc_382 := hc_382
                    have ni_383 := (fa_lt _ _).mp hc_382
                    have hv_384 : zI v_381 (-2147483648) 2147483646 := zI.lt_l (zI_all v_381) (zI_all b3) hc_382 (by decide)
                    have hv_385 : zI b3 (-2147483647) 2147483647 := zI.lt_r (zI_all v_381) (zI_all b3) hc_382 (by decide)
                    obtain ⟨v_386, ev_386⟩ : ∃ z : Int32, z = y_355 + 1 := ⟨_, rfl⟩
                    obtain ⟨qv_386, hv_386⟩ := zI_add (l := 1) (h := 240) hv_364 zc_1 ev_386 (by decide)
                    rw [li_1] at qv_386
                    refine lv_iinc (v := v_386) (lv' := [(9, .int v_386), (8, .int v_313), (6, .long y_300), (5, .int y_196), (0, .ref b0), (1, .ref b1), (2, .int b2), (3, .int b3), (4, .int b4)]) hx hb d_Machine_goOn_112 hl (k := 0) rfl (by rw [ev_386]; rfl) (by decide) rfl (fun ls hl => ?_)
                    refine lv_goto (tgt := 48) hx hb d_Machine_goOn_115 (by decide) ?_
                    exact ihk_354 (v_386) (y_356) _ _ _ (zI.wk (l' := 0) (h' := 240) hv_386 (by decide)) hy_356 (zm_up qv_386 hmk_354 (by decide)) (hP.sub [5, 6, 0, 1, 2, 3, 4] rfl) (hD.sub [5, 6, 0, 1, 2, 3, 4] (by decide) rfl) hS (lv_sub hl [0, 1, 2, 3, 4, 5, 6, 7, 8] rfl)
                  · have _nhc_382 := hc_382
                    have ni_387 := (fa_le _ _).mp (zi_nlt hc_382)
                    refine lv_aload_n hx hb d_Machine_goOn_100 rfl (lv_at hl 5 rfl) ?_
                    refine lv_iconst (v := 1) hx hb d_Machine_goOn_101 (by decide) ?_
                    refine lv_iconst (v := 0) hx hb d_Machine_goOn_102 (by decide) ?_
                    refine lv_aload_n hx hb d_Machine_goOn_103 rfl (lv_at hl 4 rfl) ?_
                    refine lv_iload hx hb d_Machine_goOn_104 (lv_at hl 0 rfl) ?_
                    refine z_callV (index := 176) (As := [.int y_355]) (rest := [.int 0, .int 1, .ref b1]) (wr := [(b16, .inl (G.2 0, 240, .inl b21)), (b17, .inl (G.2 0, 240, .inl b22)), (b18, .inl (G.2 0, 242, .inl b23)), (b1, .inr (6, [.int b24, .int 4, .int 2, .ref b25, .ref b26])), (b25, .inl (G.2 1, 8, .inr (.inl y_356)))]) Z (s1_Machine_to l G (b0) (y_355) (b5) (b6) (b7) (b8) (b9) (b10) (b11) (b12) (b13) (b14) (b15) (b16) (b17) (b18) (b19) (b20) hv_364 hb5 hb6 hb13 hb20) hl.1 q733 q681 q682 q6 q683 ⟨by decide, by decide, by show _ = some 1; decide +kernel⟩ ⟨Nat.le_of_ble_eq_true rfl, Nat.le_of_ble_eq_true rfl⟩ ⟨Nat.le_of_ble_eq_true rfl, Nat.le_of_ble_eq_true rfl⟩ rfl (Nat.le_of_ble_eq_true rfl) d_Machine_goOn_106 hP hD hS hA 5 5 rfl rfl rfl [5, 6] [0, 1, 2, 3, 4] rfl rfl rfl rfl (by decide) (fun v w1 H locs hw_388 hP hD hS => ?_)
                    obtain ⟨x_389, rfl, rfl, hx_389⟩ := hw_388
                    have hP : va_P G.1 classes [(b16, .inl (G.2 0, 240, .inl b21)), (b17, .inl (G.2 0, 240, .inl b22)), (b18, .inl (G.2 0, 242, .inl b23)), (b1, .inr (6, [.int b24, .int 4, .int 2, .ref b25, .ref b26])), (b25, .inl (G.2 1, 8, .inr (.inl y_356))), (b0, .inr (5, [.int b5, .int b6, .ref b7, .ref b8, .ref b9, .ref b10, .ref b11, .ref b12, .int b13, .ref b14, .ref b15, .ref b16, .ref b17, .ref b18, .ref b19])), (b14, .inl (G.2 0, 240, .inl b20))] H := hP
                    have hD := z_tie hP hD rfl
                    refine W.widen (k := 0) (n := 0) (Nat.le_of_ble_eq_true rfl) (Nat.le_of_ble_eq_true rfl) ?_
                    refine z_callV (index := 139) (As := [.int 1, .int 0, .int x_389]) (rest := []) (wr := [(b16, .inl (G.2 0, 240, .inl b21)), (b17, .inl (G.2 0, 240, .inl b22)), (b18, .inl (G.2 0, 242, .inl b23)), (b0, .inr (5, [.int b5, .int b6, .ref b7, .ref b8, .ref b9, .ref b10, .ref b11, .ref b12, .int b13, .ref b14, .ref b15, .ref b16, .ref b17, .ref b18, .ref b19])), (b14, .inl (G.2 0, 240, .inl b20))]) Z (s1_Sets_put l G (b1) (1) (0) (x_389) (b24) (b25) (b26) (y_356) (zI.wk (l' := 0) (h' := 1) zc_1 (by decide)) zc_0 hx_389 hb24 hy_356) hl.1 q709 q710 q711 q7 q712 ⟨by decide, by decide, by show _ = some 3; decide +kernel⟩ ⟨Nat.le_of_ble_eq_true rfl, Nat.le_of_ble_eq_true rfl⟩ ⟨Nat.le_of_ble_eq_true rfl, Nat.le_of_ble_eq_true rfl⟩ rfl (Nat.le_of_ble_eq_true rfl) d_Machine_goOn_109 hP hD hS hA 3 6 rfl rfl rfl [3, 4] [0, 1, 2, 5, 6] rfl rfl rfl rfl (by decide) (fun v w1 H locs hw_390 hP hD hS => ?_)
                    obtain ⟨f_391, rfl, rfl, hf_391⟩ := hw_390
                    have hP : va_P G.1 classes [(b16, .inl (G.2 0, 240, .inl b21)), (b17, .inl (G.2 0, 240, .inl b22)), (b18, .inl (G.2 0, 242, .inl b23)), (b0, .inr (5, [.int b5, .int b6, .ref b7, .ref b8, .ref b9, .ref b10, .ref b11, .ref b12, .int b13, .ref b14, .ref b15, .ref b16, .ref b17, .ref b18, .ref b19])), (b14, .inl (G.2 0, 240, .inl b20)), (b1, .inr (6, [.int b24, .int 4, .int 2, .ref b25, .ref b26])), (b25, .inl (G.2 1, 8, .inr (.inl f_391)))] H := hP
                    have hD := z_tie hP hD rfl
                    refine W.widen (k := 0) (n := 0) (Nat.le_of_ble_eq_true rfl) (Nat.le_of_ble_eq_true rfl) ?_
                    obtain ⟨v_392, ev_392⟩ : ∃ z : Int32, z = y_355 + 1 := ⟨_, rfl⟩
                    obtain ⟨qv_392, hv_392⟩ := zI_add (l := 1) (h := 240) hv_364 zc_1 ev_392 (by decide)
                    rw [li_1] at qv_392
                    refine lv_iinc (v := v_392) (lv' := [(9, .int v_392), (8, .int v_313), (6, .long y_300), (5, .int y_196), (0, .ref b0), (1, .ref b1), (2, .int b2), (3, .int b3), (4, .int b4)]) hx hb d_Machine_goOn_112 hl (k := 0) rfl (by rw [ev_392]; rfl) (by decide) rfl (fun ls hl => ?_)
                    refine lv_goto (tgt := 48) hx hb d_Machine_goOn_115 (by decide) ?_
                    exact ihk_354 (v_392) (f_391) _ _ _ (zI.wk (l' := 0) (h' := 240) hv_392 (by decide)) hf_391 (zm_up qv_392 hmk_354 (by decide)) (hP.sub [3, 4, 0, 1, 2, 5, 6] rfl) (hD.sub [3, 4, 0, 1, 2, 5, 6] (by decide) rfl) hS (lv_sub hl [0, 1, 2, 3, 4, 5, 6, 7, 8] rfl)
theorem d_Machine_failsAt_13 : decode prog_4_method_15_code 13 = .ok (.ireturn, 1) := by decide +kernel
theorem d_Machine_failsAt_72 : decode prog_4_method_15_code 72 = .ok (.ireturn, 1) := by decide +kernel
abbrev m_s1_Machine_failsAt : Room := { frames := 3, cells := 0, slots := 0, locals := 71 }
set_option maxHeartbeats 4000000 in
set_option maxRecDepth 100000 in
theorem s1_Machine_failsAt (l : Launch) (G : zG) (b0 : Nat) (b1 : Nat) (b2 : Int32) (b3 : Int32) (b4 : Nat) (b5 : Int32) (b6 : Int32) (b7 : Nat) (b8 : Nat) (b9 : Nat) (b10 : Nat) (b11 : Nat) (b12 : Nat) (b13 : Int32) (b14 : Nat) (b15 : Nat) (b16 : Nat) (b17 : Nat) (b18 : Nat) (b19 : Nat) (b20 : Nat → Int64) (b21 : Nat → Int32) (b22 : Nat → Int32) (b23 : Nat → Int32) (b24 : Nat → Int32) (b25 : Int32) (b26 : Int32) (b27 : Int32) (b28 : Nat) (b29 : Nat) (b30 : Nat) (b31 : Nat → Int32) (b32 : Nat → Int32) (b33 : Nat → Int32) (b34 : Int32) (b35 : Nat) (b36 : Nat) (b37 : Nat → Int64) (hb2 : zI b2 0 19) (hb5 : zI b5 0 1) (hb6 : zI b6 0 241) (hb13 : zI b13 0 240) (hb25 : zI b25 0 20) (hb26 : zI b26 0 3) (hb27 : zI b27 0 20) (hb34 : zI b34 0 2) (hb21 : zK b21) (hb24 : zR b24 0 240) (hb31 : zR b31 0 12) (hb32 : zR b32 0 9) (hb37 : zqa qB b37) : zM l G y_Machine_failsAt prog_4_method_15_code 7 (Option.some Jvm.ClassFile.FieldType.int) m_s1_Machine_failsAt [.ref b0, .ref b1, .int b2, .int b3, .ref b4] [(b0, .inr (5, [.int b5, .int b6, .ref b7, .ref b8, .ref b9, .ref b10, .ref b11, .ref b12, .int b13, .ref b14, .ref b15, .ref b16, .ref b17, .ref b18, .ref b19])), (b12, .inl (G.2 1, 4, .inr (.inl b20))), (b14, .inl (G.2 0, 240, .inl b21)), (b16, .inl (G.2 0, 240, .inl b22)), (b17, .inl (G.2 0, 240, .inl b23)), (b18, .inl (G.2 0, 242, .inl b24)), (b1, .inr (2, [.int b25, .int b26, .int b27, .ref b28, .ref b29, .ref b30])), (b28, .inl (G.2 0, 20, .inl b31)), (b29, .inl (G.2 0, 240, .inl b32)), (b30, .inl (G.2 0, 240, .inl b33)), (b4, .inr (6, [.int b34, .int 4, .int 2, .ref b35, .ref b36])), (b35, .inl (G.2 1, 8, .inr (.inl b37)))] (fun v w => ∃ (e0 : Int32), ∃ (e1 : Nat → Int64), v = some (.int e0) ∧ w = [(b0, .inr (5, [.int b5, .int b6, .ref b7, .ref b8, .ref b9, .ref b10, .ref b11, .ref b12, .int b13, .ref b14, .ref b15, .ref b16, .ref b17, .ref b18, .ref b19])), (b12, .inl (G.2 1, 4, .inr (.inl b20))), (b14, .inl (G.2 0, 240, .inl b21)), (b16, .inl (G.2 0, 240, .inl b22)), (b17, .inl (G.2 0, 240, .inl b23)), (b18, .inl (G.2 0, 242, .inl b24)), (b1, .inr (2, [.int b25, .int b26, .int b27, .ref b28, .ref b29, .ref b30])), (b28, .inl (G.2 0, 20, .inl b31)), (b29, .inl (G.2 0, 240, .inl b32)), (b30, .inl (G.2 0, 240, .inl b33)), (b4, .inr (6, [.int b34, .int 4, .int 2, .ref b35, .ref b36])), (b35, .inl (G.2 1, 8, .inr (.inl e1)))] ∧ (zI e0 (-1) 12) ∧ (zqa qB e1)) := by
  refine z_start (by decide +kernel) (Nat.le_of_ble_eq_true rfl) ?_
  intro p e s m below meth c A Z hr hnm hA hP hD hS ls hl
  have Z : zC p s m _ meth c prog_4_method_15_code 7 "TraceMachines$Machine" G := Z
  obtain ⟨hx, hb, hml, hown, hts, hK, hN, hlocks⟩ := id Z
  have hl : lv_has ls 7 [(0, .ref b0), (1, .ref b1), (2, .int b2), (3, .int b3), (4, .ref b4)] := hl
  refine lv_aload hx hb d_Machine_failsAt_0 (lv_at hl 4 rfl) ?_
  refine z_callV (index := 136) (As := []) (rest := []) (wr := [(b0, .inr (5, [.int b5, .int b6, .ref b7, .ref b8, .ref b9, .ref b10, .ref b11, .ref b12, .int b13, .ref b14, .ref b15, .ref b16, .ref b17, .ref b18, .ref b19])), (b12, .inl (G.2 1, 4, .inr (.inl b20))), (b14, .inl (G.2 0, 240, .inl b21)), (b16, .inl (G.2 0, 240, .inl b22)), (b17, .inl (G.2 0, 240, .inl b23)), (b18, .inl (G.2 0, 242, .inl b24)), (b1, .inr (2, [.int b25, .int b26, .int b27, .ref b28, .ref b29, .ref b30])), (b28, .inl (G.2 0, 20, .inl b31)), (b29, .inl (G.2 0, 240, .inl b32)), (b30, .inl (G.2 0, 240, .inl b33))]) Z (s1_Sets_clear l G (b4) (b34) (b35) (b36) (b37) hb34 hb37) hl.1 q704 q705 q706 q7 q707 ⟨by decide, by decide, by show _ = some 0; decide +kernel⟩ ⟨Nat.le_of_ble_eq_true rfl, Nat.le_of_ble_eq_true rfl⟩ ⟨Nat.le_of_ble_eq_true rfl, Nat.le_of_ble_eq_true rfl⟩ rfl (Nat.le_of_ble_eq_true rfl) d_Machine_failsAt_2 hP hD hS hA 10 6 rfl rfl rfl [10, 11] [0, 1, 2, 3, 4, 5, 6, 7, 8, 9] rfl rfl rfl rfl (by decide) (fun v w1 H locs hw_1 hP hD hS => ?_)
  obtain ⟨f_2, rfl, rfl, hf_2⟩ := hw_1
  have hP : va_P G.1 classes [(b0, .inr (5, [.int b5, .int b6, .ref b7, .ref b8, .ref b9, .ref b10, .ref b11, .ref b12, .int b13, .ref b14, .ref b15, .ref b16, .ref b17, .ref b18, .ref b19])), (b12, .inl (G.2 1, 4, .inr (.inl b20))), (b14, .inl (G.2 0, 240, .inl b21)), (b16, .inl (G.2 0, 240, .inl b22)), (b17, .inl (G.2 0, 240, .inl b23)), (b18, .inl (G.2 0, 242, .inl b24)), (b1, .inr (2, [.int b25, .int b26, .int b27, .ref b28, .ref b29, .ref b30])), (b28, .inl (G.2 0, 20, .inl b31)), (b29, .inl (G.2 0, 240, .inl b32)), (b30, .inl (G.2 0, 240, .inl b33)), (b4, .inr (6, [.int b34, .int 4, .int 2, .ref b35, .ref b36])), (b35, .inl (G.2 1, 8, .inr (.inl f_2)))] H := hP
  have hD := z_tie hP hD rfl
  refine W.widen (k := 0) (n := 0) (Nat.le_of_ble_eq_true rfl) (Nat.le_of_ble_eq_true rfl) ?_
  refine lv_aload_n hx hb d_Machine_failsAt_5 rfl (lv_at hl 0 rfl) ?_
  refine va_get (D := G.1) (ci := 5) (v := .int b6) (C := R_Machine) (T := F_Machine) (N := 15) hx hb hts i_Machine hown hK hP 0 rfl rfl 1 (by decide) (hts _ q168) (fun _ h9 => h9) rfl d_Machine_failsAt_6 ?_
  refine lv_if_ne (tgt := 14) hx hb d_Machine_failsAt_9 (by decide) (fun hc_3 => ?_) (fun hc_3 => ?_)
  · have _nhc_3 := hc_3
    have ni_4 : ¬ (b6 : Int32).toInt = (0 : Int32).toInt := fun z => hc_3 ((fa_eq _ _).mpr z)
    simp only [li_0] at ni_4
    have hv_5 : zI b6 1 241 := zI.ne_lo hb6 zc_0 hc_3 (by decide)
    refine lv_aload hx hb d_Machine_failsAt_14 (lv_at hl 4 rfl) ?_
    refine lv_iconst (v := 0) hx hb d_Machine_failsAt_16 (by decide) ?_
    refine lv_iconst (v := 0) hx hb d_Machine_failsAt_17 (by decide) ?_
    refine lv_iconst (v := 0) hx hb d_Machine_failsAt_18 (by decide) ?_
    refine z_callV (index := 139) (As := [.int 0, .int 0, .int 0]) (rest := []) (wr := [(b0, .inr (5, [.int b5, .int b6, .ref b7, .ref b8, .ref b9, .ref b10, .ref b11, .ref b12, .int b13, .ref b14, .ref b15, .ref b16, .ref b17, .ref b18, .ref b19])), (b12, .inl (G.2 1, 4, .inr (.inl b20))), (b14, .inl (G.2 0, 240, .inl b21)), (b16, .inl (G.2 0, 240, .inl b22)), (b17, .inl (G.2 0, 240, .inl b23)), (b18, .inl (G.2 0, 242, .inl b24)), (b1, .inr (2, [.int b25, .int b26, .int b27, .ref b28, .ref b29, .ref b30])), (b28, .inl (G.2 0, 20, .inl b31)), (b29, .inl (G.2 0, 240, .inl b32)), (b30, .inl (G.2 0, 240, .inl b33))]) Z (s1_Sets_put l G (b4) (0) (0) (0) (b34) (b35) (b36) (f_2) (zI.wk (l' := 0) (h' := 1) zc_0 (by decide)) zc_0 (zI.wk (l' := 0) (h' := 240) zc_0 (by decide)) hb34 hf_2) hl.1 q709 q710 q711 q7 q712 ⟨by decide, by decide, by show _ = some 3; decide +kernel⟩ ⟨Nat.le_of_ble_eq_true rfl, Nat.le_of_ble_eq_true rfl⟩ ⟨Nat.le_of_ble_eq_true rfl, Nat.le_of_ble_eq_true rfl⟩ rfl (Nat.le_of_ble_eq_true rfl) d_Machine_failsAt_19 hP hD hS hA 10 6 rfl rfl rfl [10, 11] [0, 1, 2, 3, 4, 5, 6, 7, 8, 9] rfl rfl rfl rfl (by decide) (fun v w1 H locs hw_6 hP hD hS => ?_)
    obtain ⟨f_7, rfl, rfl, hf_7⟩ := hw_6
    have hP : va_P G.1 classes [(b0, .inr (5, [.int b5, .int b6, .ref b7, .ref b8, .ref b9, .ref b10, .ref b11, .ref b12, .int b13, .ref b14, .ref b15, .ref b16, .ref b17, .ref b18, .ref b19])), (b12, .inl (G.2 1, 4, .inr (.inl b20))), (b14, .inl (G.2 0, 240, .inl b21)), (b16, .inl (G.2 0, 240, .inl b22)), (b17, .inl (G.2 0, 240, .inl b23)), (b18, .inl (G.2 0, 242, .inl b24)), (b1, .inr (2, [.int b25, .int b26, .int b27, .ref b28, .ref b29, .ref b30])), (b28, .inl (G.2 0, 20, .inl b31)), (b29, .inl (G.2 0, 240, .inl b32)), (b30, .inl (G.2 0, 240, .inl b33)), (b4, .inr (6, [.int b34, .int 4, .int 2, .ref b35, .ref b36])), (b35, .inl (G.2 1, 8, .inr (.inl f_7)))] H := hP
    have hD := z_tie hP hD rfl
    refine W.widen (k := 0) (n := 0) (Nat.le_of_ble_eq_true rfl) (Nat.le_of_ble_eq_true rfl) ?_
    refine lv_aload_n hx hb d_Machine_failsAt_22 rfl (lv_at hl 1 rfl) ?_
    refine va_get (D := G.1) (ci := 2) (v := .ref b28) (C := R_Traces) (T := F_Traces) (N := 6) hx hb hts i_Traces hown hK hP 6 rfl rfl 3 (by decide) (hts _ q71) (fun _ h9 => h9) rfl d_Machine_failsAt_23 ?_
    refine lv_iload_n hx hb d_Machine_failsAt_26 rfl (lv_at hl 2 rfl) ?_
    refine va_iald hx hb hK hP 7 0 rfl rfl (zI.inn hb2 (by decide)) d_Machine_failsAt_27 ?_
    refine lv_topi (fun v_8 ev_8 => ?_)
    have hv_8 : zI v_8 0 12 := (hb31 _).eq ev_8
    refine lv_istore (lv' := [(5, .int v_8), (0, .ref b0), (1, .ref b1), (2, .int b2), (3, .int b3), (4, .ref b4)]) hx hb d_Machine_failsAt_28 hl (by decide) rfl (fun ls hl => ?_)
    refine lv_iconst (v := 0) hx hb d_Machine_failsAt_30 (by decide) ?_
    refine lv_istore (lv' := [(6, .int 0), (5, .int v_8), (0, .ref b0), (1, .ref b1), (2, .int b2), (3, .int b3), (4, .ref b4)]) hx hb d_Machine_failsAt_31 hl (by decide) rfl (fun ls hl => ?_)
    suffices key : ∀ (k_37 : Nat) (y_38 : Int32) (y_39 : Nat → Int64) (H : Heap) (locs : List Loc) (ls : Array Slot), (zI y_38 0 12) → (zqa qB y_39) → (12 : Int) - y_38.toInt < (k_37 : Int) → va_P G.1 classes [(b0, .inr (5, [.int b5, .int b6, .ref b7, .ref b8, .ref b9, .ref b10, .ref b11, .ref b12, .int b13, .ref b14, .ref b15, .ref b16, .ref b17, .ref b18, .ref b19])), (b12, .inl (G.2 1, 4, .inr (.inl b20))), (b14, .inl (G.2 0, 240, .inl b21)), (b16, .inl (G.2 0, 240, .inl b22)), (b17, .inl (G.2 0, 240, .inl b23)), (b18, .inl (G.2 0, 242, .inl b24)), (b1, .inr (2, [.int b25, .int b26, .int b27, .ref b28, .ref b29, .ref b30])), (b28, .inl (G.2 0, 20, .inl b31)), (b29, .inl (G.2 0, 240, .inl b32)), (b30, .inl (G.2 0, 240, .inl b33)), (b4, .inr (6, [.int b34, .int 4, .int 2, .ref b35, .ref b36])), (b35, .inl (G.2 1, 8, .inr (.inl y_39)))] H → va_D A [(b0, .inr (5, [.int b5, .int b6, .ref b7, .ref b8, .ref b9, .ref b10, .ref b11, .ref b12, .int b13, .ref b14, .ref b15, .ref b16, .ref b17, .ref b18, .ref b19])), (b12, .inl (G.2 1, 4, .inr (.inl b20))), (b14, .inl (G.2 0, 240, .inl b21)), (b16, .inl (G.2 0, 240, .inl b22)), (b17, .inl (G.2 0, 240, .inl b23)), (b18, .inl (G.2 0, 242, .inl b24)), (b1, .inr (2, [.int b25, .int b26, .int b27, .ref b28, .ref b29, .ref b30])), (b28, .inl (G.2 0, 20, .inl b31)), (b29, .inl (G.2 0, 240, .inl b32)), (b30, .inl (G.2 0, 240, .inl b33)), (b4, .inr (6, [.int b34, .int 4, .int 2, .ref b35, .ref b36])), (b35, .inl (G.2 1, 8, .inr (.inl y_39)))] → va_S A s.heap H locs → lv_has ls 7 [(6, .int y_38), (5, .int v_8), (0, .ref b0), (1, .ref b1), (2, .int b2), (3, .int b3), (4, .ref b4)] → W p l e m_s1_Machine_failsAt s m ([.ref b0, .ref b1, .int b2, .int b3, .ref b4] : List Value).toArray below meth c H locs 0 0 (MQ below (zQ G (fun v w => ∃ (e0 : Int32), ∃ (e1 : Nat → Int64), v = some (.int e0) ∧ w = [(b0, .inr (5, [.int b5, .int b6, .ref b7, .ref b8, .ref b9, .ref b10, .ref b11, .ref b12, .int b13, .ref b14, .ref b15, .ref b16, .ref b17, .ref b18, .ref b19])), (b12, .inl (G.2 1, 4, .inr (.inl b20))), (b14, .inl (G.2 0, 240, .inl b21)), (b16, .inl (G.2 0, 240, .inl b22)), (b17, .inl (G.2 0, 240, .inl b23)), (b18, .inl (G.2 0, 242, .inl b24)), (b1, .inr (2, [.int b25, .int b26, .int b27, .ref b28, .ref b29, .ref b30])), (b28, .inl (G.2 0, 20, .inl b31)), (b29, .inl (G.2 0, 240, .inl b32)), (b30, .inl (G.2 0, 240, .inl b33)), (b4, .inr (6, [.int b34, .int 4, .int 2, .ref b35, .ref b36])), (b35, .inl (G.2 1, 8, .inr (.inl e1)))] ∧ (zI e0 (-1) 12) ∧ (zqa qB e1)) A) ([.ref b0, .ref b1, .int b2, .int b3, .ref b4] : List Value).toArray s m_s1_Machine_failsAt.cells m_s1_Machine_failsAt.slots A) (F0 m 33 ls []) by
      exact key 13 (0) (f_7) _ _ _ (zI.wk (l' := 0) (h' := 12) zc_0 (by decide)) hf_7 (zm_upi (zI.wk (l' := 0) (h' := 12) zc_0 (by decide)) (by decide)) hP hD hS (lv_sub hl [0, 1, 2, 3, 4, 5, 6] rfl)
    intro k_37
    induction k_37 with
    | zero =>
      intro y_38 y_39 H locs ls hy_38 hy_39 hmk_37 hP hD hS hl
      exact (zm_up0 hy_38 hmk_37).elim
    | succ k_37 ihk_37 =>
      intro y_38 y_39 H locs ls hy_38 hy_39 hmk_37 hP hD hS hl
      refine lv_iload hx hb d_Machine_failsAt_33 (lv_at hl 0 rfl) ?_
      refine lv_iload hx hb d_Machine_failsAt_35 (lv_at hl 1 rfl) ?_
      refine lv_icmp_ge (tgt := 79) hx hb d_Machine_failsAt_37 (by decide) (fun hc_40 => ?_) (fun hc_40 => ?_)
      · have _nhc_40 := hc_40
        have ni_41 := (fa_le _ _).mp hc_40
        refine lv_aload_n hx hb d_Machine_failsAt_79 rfl (lv_at hl 2 rfl) ?_
        refine lv_aload hx hb d_Machine_failsAt_80 (lv_at hl 6 rfl) ?_
        refine lv_iconst (v := 0) hx hb d_Machine_failsAt_82 (by decide) ?_
        refine lv_iconst (v := 0) hx hb d_Machine_failsAt_83 (by decide) ?_
        refine z_callV (index := 162) (As := [.ref b4, .int 0, .int 0]) (rest := []) (wr := [(b14, .inl (G.2 0, 240, .inl b21)), (b16, .inl (G.2 0, 240, .inl b22)), (b17, .inl (G.2 0, 240, .inl b23)), (b18, .inl (G.2 0, 242, .inl b24)), (b1, .inr (2, [.int b25, .int b26, .int b27, .ref b28, .ref b29, .ref b30])), (b28, .inl (G.2 0, 20, .inl b31)), (b29, .inl (G.2 0, 240, .inl b32)), (b30, .inl (G.2 0, 240, .inl b33))]) Z (s1_Machine_takes l G (b0) (b4) (0) (0) (b5) (b6) (b7) (b8) (b9) (b10) (b11) (b12) (b13) (b14) (b15) (b16) (b17) (b18) (b19) (b20) (b34) (b35) (b36) (y_39) (zI.wk (l' := 0) (h' := 1) zc_0 (by decide)) zc_0 hb5 (zI.wk (l' := 0) (h' := 241) hv_5 (by decide)) hb13 hb34 hy_39) hl.1 q742 q743 q744 q6 q745 ⟨by decide, by decide, by show _ = some 3; decide +kernel⟩ ⟨Nat.le_of_ble_eq_true rfl, Nat.le_of_ble_eq_true rfl⟩ ⟨Nat.le_of_ble_eq_true rfl, Nat.le_of_ble_eq_true rfl⟩ rfl (Nat.le_of_ble_eq_true rfl) d_Machine_failsAt_84 hP hD hS hA 0 5 rfl rfl rfl [0, 1, 10, 11] [2, 3, 4, 5, 6, 7, 8, 9] rfl rfl rfl rfl (by decide) (fun v w1 H locs hw_42 hP hD hS => ?_)
        obtain ⟨x_43, rfl, rfl, hx_43⟩ := hw_42
        have hP : va_P G.1 classes [(b14, .inl (G.2 0, 240, .inl b21)), (b16, .inl (G.2 0, 240, .inl b22)), (b17, .inl (G.2 0, 240, .inl b23)), (b18, .inl (G.2 0, 242, .inl b24)), (b1, .inr (2, [.int b25, .int b26, .int b27, .ref b28, .ref b29, .ref b30])), (b28, .inl (G.2 0, 20, .inl b31)), (b29, .inl (G.2 0, 240, .inl b32)), (b30, .inl (G.2 0, 240, .inl b33)), (b0, .inr (5, [.int b5, .int b6, .ref b7, .ref b8, .ref b9, .ref b10, .ref b11, .ref b12, .int b13, .ref b14, .ref b15, .ref b16, .ref b17, .ref b18, .ref b19])), (b12, .inl (G.2 1, 4, .inr (.inl b20))), (b4, .inr (6, [.int b34, .int 4, .int 2, .ref b35, .ref b36])), (b35, .inl (G.2 1, 8, .inr (.inl y_39)))] H := hP
        have hD := z_tie hP hD rfl
        refine W.widen (k := 0) (n := 0) (Nat.le_of_ble_eq_true rfl) (Nat.le_of_ble_eq_true rfl) ?_
        refine lv_if_eq (tgt := 94) hx hb d_Machine_failsAt_87 (by decide) (fun hc_44 => ?_) (fun hc_44 => ?_)
        · have _nhc_44 := hc_44
          have ni_45 := (fa_eq _ _).mp hc_44
          rw [li_0] at ni_45
          have hv_46 : zI x_43 0 0 := zI.eq_l hx_43 zc_0 hc_44
          refine lv_iload hx hb d_Machine_failsAt_94 (lv_at hl 1 rfl) ?_
          exact z_iret hx hb hr hlocks (hP.sub [8, 9, 0, 1, 2, 3, 4, 5, 6, 7, 10, 11] rfl) (hD.sub [8, 9, 0, 1, 2, 3, 4, 5, 6, 7, 10, 11] (by decide) rfl) hS (Nat.le_of_ble_eq_true rfl) (Nat.le_of_ble_eq_true rfl) d_Machine_failsAt_96 ⟨v_8, y_39, rfl, rfl, (zI.wk (l' := (-1)) (h' := 12) hv_8 (by decide)), hy_39⟩
        · have _nhc_44 := hc_44
          have ni_47 : ¬ (x_43 : Int32).toInt = (0 : Int32).toInt := fun z => hc_44 ((fa_eq _ _).mpr z)
          simp only [li_0] at ni_47
          have hv_48 : zI x_43 1 1 := zI.ne_lo hx_43 zc_0 hc_44 (by decide)
          refine lv_iconst (v := (-1)) hx hb d_Machine_failsAt_90 (by decide) ?_
          refine lv_goto (tgt := 96) hx hb d_Machine_failsAt_91 (by decide) ?_
          exact z_iret hx hb hr hlocks (hP.sub [8, 9, 0, 1, 2, 3, 4, 5, 6, 7, 10, 11] rfl) (hD.sub [8, 9, 0, 1, 2, 3, 4, 5, 6, 7, 10, 11] (by decide) rfl) hS (Nat.le_of_ble_eq_true rfl) (Nat.le_of_ble_eq_true rfl) d_Machine_failsAt_96 ⟨(-1), y_39, rfl, rfl, (zI.wk (l' := (-1)) (h' := 12) zc_m1 (by decide)), hy_39⟩
      · have _nhc_40 := hc_40
        have ni_49 := (fa_lt _ _).mp (zi_nle hc_40)
        have hv_50 : zI y_38 0 11 := zI.lt_l hy_38 hv_8 (zi_nle hc_40) (by decide)
        have hv_51 : zI v_8 1 12 := zI.lt_r hy_38 hv_8 (zi_nle hc_40) (by decide)
        refine lv_aload_n hx hb d_Machine_failsAt_40 rfl (lv_at hl 2 rfl) ?_
        refine lv_aload hx hb d_Machine_failsAt_41 (lv_at hl 6 rfl) ?_
        refine lv_aload_n hx hb d_Machine_failsAt_43 rfl (lv_at hl 3 rfl) ?_
        refine lv_iload_n hx hb d_Machine_failsAt_44 rfl (lv_at hl 4 rfl) ?_
        refine lv_iload hx hb d_Machine_failsAt_45 (lv_at hl 0 rfl) ?_
        refine z_callV (index := 148) (As := [.int b2, .int y_38]) (rest := [.ref b4, .ref b0]) (wr := [(b0, .inr (5, [.int b5, .int b6, .ref b7, .ref b8, .ref b9, .ref b10, .ref b11, .ref b12, .int b13, .ref b14, .ref b15, .ref b16, .ref b17, .ref b18, .ref b19])), (b12, .inl (G.2 1, 4, .inr (.inl b20))), (b14, .inl (G.2 0, 240, .inl b21)), (b16, .inl (G.2 0, 240, .inl b22)), (b17, .inl (G.2 0, 240, .inl b23)), (b18, .inl (G.2 0, 242, .inl b24)), (b28, .inl (G.2 0, 20, .inl b31)), (b30, .inl (G.2 0, 240, .inl b33)), (b4, .inr (6, [.int b34, .int 4, .int 2, .ref b35, .ref b36])), (b35, .inl (G.2 1, 8, .inr (.inl y_39)))]) Z (s1_Traces_letterAt l G (b1) (b2) (y_38) (b25) (b26) (b27) (b28) (b29) (b30) (b32) hb2 hv_50 hb25 hb26 hb27 hb32) hl.1 q713 q580 q581 q3 q582 ⟨by decide, by decide, by show _ = some 2; decide +kernel⟩ ⟨Nat.le_of_ble_eq_true rfl, Nat.le_of_ble_eq_true rfl⟩ ⟨Nat.le_of_ble_eq_true rfl, Nat.le_of_ble_eq_true rfl⟩ rfl (Nat.le_of_ble_eq_true rfl) d_Machine_failsAt_47 hP hD hS hA 6 2 rfl rfl rfl [6, 8] [0, 1, 2, 3, 4, 5, 7, 9, 10, 11] rfl rfl rfl rfl (by decide) (fun v w1 H locs hw_52 hP hD hS => ?_)
        obtain ⟨x_53, rfl, rfl, hx_53⟩ := hw_52
        have hP : va_P G.1 classes [(b0, .inr (5, [.int b5, .int b6, .ref b7, .ref b8, .ref b9, .ref b10, .ref b11, .ref b12, .int b13, .ref b14, .ref b15, .ref b16, .ref b17, .ref b18, .ref b19])), (b12, .inl (G.2 1, 4, .inr (.inl b20))), (b14, .inl (G.2 0, 240, .inl b21)), (b16, .inl (G.2 0, 240, .inl b22)), (b17, .inl (G.2 0, 240, .inl b23)), (b18, .inl (G.2 0, 242, .inl b24)), (b28, .inl (G.2 0, 20, .inl b31)), (b30, .inl (G.2 0, 240, .inl b33)), (b4, .inr (6, [.int b34, .int 4, .int 2, .ref b35, .ref b36])), (b35, .inl (G.2 1, 8, .inr (.inl y_39))), (b1, .inr (2, [.int b25, .int b26, .int b27, .ref b28, .ref b29, .ref b30])), (b29, .inl (G.2 0, 240, .inl b32))] H := hP
        have hD := z_tie hP hD rfl
        refine W.widen (k := 0) (n := 0) (Nat.le_of_ble_eq_true rfl) (Nat.le_of_ble_eq_true rfl) ?_
        refine lv_aload_n hx hb d_Machine_failsAt_50 rfl (lv_at hl 3 rfl) ?_
        refine lv_iload_n hx hb d_Machine_failsAt_51 rfl (lv_at hl 4 rfl) ?_
        refine lv_iload hx hb d_Machine_failsAt_52 (lv_at hl 0 rfl) ?_
        refine z_callV (index := 151) (As := [.int b2, .int y_38]) (rest := [.int x_53, .ref b4, .ref b0]) (wr := [(b0, .inr (5, [.int b5, .int b6, .ref b7, .ref b8, .ref b9, .ref b10, .ref b11, .ref b12, .int b13, .ref b14, .ref b15, .ref b16, .ref b17, .ref b18, .ref b19])), (b12, .inl (G.2 1, 4, .inr (.inl b20))), (b14, .inl (G.2 0, 240, .inl b21)), (b16, .inl (G.2 0, 240, .inl b22)), (b17, .inl (G.2 0, 240, .inl b23)), (b18, .inl (G.2 0, 242, .inl b24)), (b28, .inl (G.2 0, 20, .inl b31)), (b4, .inr (6, [.int b34, .int 4, .int 2, .ref b35, .ref b36])), (b35, .inl (G.2 1, 8, .inr (.inl y_39))), (b29, .inl (G.2 0, 240, .inl b32))]) Z (s1_Traces_valueAt l G (b1) (b2) (y_38) (b25) (b26) (b27) (b28) (b29) (b30) (b33) hb2 hv_50 hb25 hb26 hb27) hl.1 q714 q588 q589 q3 q590 ⟨by decide, by decide, by show _ = some 2; decide +kernel⟩ ⟨Nat.le_of_ble_eq_true rfl, Nat.le_of_ble_eq_true rfl⟩ ⟨Nat.le_of_ble_eq_true rfl, Nat.le_of_ble_eq_true rfl⟩ rfl (Nat.le_of_ble_eq_true rfl) d_Machine_failsAt_54 hP hD hS hA 10 2 rfl rfl rfl [10, 7] [0, 1, 2, 3, 4, 5, 6, 8, 9, 11] rfl rfl rfl rfl (by decide) (fun v w1 H locs hw_54 hP hD hS => ?_)
        obtain ⟨x_55, rfl, rfl⟩ := hw_54
        have hP : va_P G.1 classes [(b0, .inr (5, [.int b5, .int b6, .ref b7, .ref b8, .ref b9, .ref b10, .ref b11, .ref b12, .int b13, .ref b14, .ref b15, .ref b16, .ref b17, .ref b18, .ref b19])), (b12, .inl (G.2 1, 4, .inr (.inl b20))), (b14, .inl (G.2 0, 240, .inl b21)), (b16, .inl (G.2 0, 240, .inl b22)), (b17, .inl (G.2 0, 240, .inl b23)), (b18, .inl (G.2 0, 242, .inl b24)), (b28, .inl (G.2 0, 20, .inl b31)), (b4, .inr (6, [.int b34, .int 4, .int 2, .ref b35, .ref b36])), (b35, .inl (G.2 1, 8, .inr (.inl y_39))), (b29, .inl (G.2 0, 240, .inl b32)), (b1, .inr (2, [.int b25, .int b26, .int b27, .ref b28, .ref b29, .ref b30])), (b30, .inl (G.2 0, 240, .inl b33))] H := hP
        have hD := z_tie hP hD rfl
        refine W.widen (k := 0) (n := 0) (Nat.le_of_ble_eq_true rfl) (Nat.le_of_ble_eq_true rfl) ?_
        refine lv_iload_n hx hb d_Machine_failsAt_57 rfl (lv_at hl 5 rfl) ?_
        refine z_callV (index := 154) (As := [.ref b4, .int x_53, .int x_55, .int b3]) (rest := []) (wr := [(b12, .inl (G.2 1, 4, .inr (.inl b20))), (b28, .inl (G.2 0, 20, .inl b31)), (b29, .inl (G.2 0, 240, .inl b32)), (b1, .inr (2, [.int b25, .int b26, .int b27, .ref b28, .ref b29, .ref b30])), (b30, .inl (G.2 0, 240, .inl b33))]) Z (s2_Machine_goOn l G (b0) (b4) (x_53) (x_55) (b3) (b5) (b6) (b7) (b8) (b9) (b10) (b11) (b12) (b13) (b14) (b15) (b16) (b17) (b18) (b19) (b21) (b22) (b23) (b24) (b34) (b35) (b36) (y_39) hx_53 hb5 (zI.wk (l' := 0) (h' := 241) hv_5 (by decide)) hb13 hb34 hb21 hb24 hy_39) hl.1 q715 q717 qs16 q6 q718 ⟨by decide, by decide, by show _ = some 4; decide +kernel⟩ ⟨Nat.le_of_ble_eq_true rfl, Nat.le_of_ble_eq_true rfl⟩ ⟨Nat.le_of_ble_eq_true rfl, Nat.le_of_ble_eq_true rfl⟩ rfl (Nat.le_of_ble_eq_true rfl) d_Machine_failsAt_58 hP hD hS hA 0 5 rfl rfl rfl [0, 2, 3, 4, 5, 7, 8] [1, 6, 9, 10, 11] rfl rfl rfl rfl (by decide) (fun v w1 H locs hw_56 hP hD hS => ?_)
        obtain ⟨f_57, rfl, rfl, hf_57⟩ := hw_56
        have hP : va_P G.1 classes [(b12, .inl (G.2 1, 4, .inr (.inl b20))), (b28, .inl (G.2 0, 20, .inl b31)), (b29, .inl (G.2 0, 240, .inl b32)), (b1, .inr (2, [.int b25, .int b26, .int b27, .ref b28, .ref b29, .ref b30])), (b30, .inl (G.2 0, 240, .inl b33)), (b0, .inr (5, [.int b5, .int b6, .ref b7, .ref b8, .ref b9, .ref b10, .ref b11, .ref b12, .int b13, .ref b14, .ref b15, .ref b16, .ref b17, .ref b18, .ref b19])), (b14, .inl (G.2 0, 240, .inl b21)), (b16, .inl (G.2 0, 240, .inl b22)), (b17, .inl (G.2 0, 240, .inl b23)), (b18, .inl (G.2 0, 242, .inl b24)), (b4, .inr (6, [.int b34, .int 4, .int 2, .ref b35, .ref b36])), (b35, .inl (G.2 1, 8, .inr (.inl f_57)))] H := hP
        have hD := z_tie hP hD rfl
        refine W.widen (k := 0) (n := 0) (Nat.le_of_ble_eq_true rfl) (Nat.le_of_ble_eq_true rfl) ?_
        refine lv_aload hx hb d_Machine_failsAt_61 (lv_at hl 6 rfl) ?_
        refine lv_iconst (v := 0) hx hb d_Machine_failsAt_63 (by decide) ?_
        refine z_callV (index := 158) (As := [.int 0]) (rest := []) (wr := [(b12, .inl (G.2 1, 4, .inr (.inl b20))), (b28, .inl (G.2 0, 20, .inl b31)), (b29, .inl (G.2 0, 240, .inl b32)), (b1, .inr (2, [.int b25, .int b26, .int b27, .ref b28, .ref b29, .ref b30])), (b30, .inl (G.2 0, 240, .inl b33)), (b0, .inr (5, [.int b5, .int b6, .ref b7, .ref b8, .ref b9, .ref b10, .ref b11, .ref b12, .int b13, .ref b14, .ref b15, .ref b16, .ref b17, .ref b18, .ref b19])), (b14, .inl (G.2 0, 240, .inl b21)), (b16, .inl (G.2 0, 240, .inl b22)), (b17, .inl (G.2 0, 240, .inl b23)), (b18, .inl (G.2 0, 242, .inl b24))]) Z (s1_Sets_isEmpty l G (b4) (0) (b34) (b35) (b36) (f_57) (zI.wk (l' := 0) (h' := 1) zc_0 (by decide)) hb34 hf_57) hl.1 q738 q739 q740 q7 q741 ⟨by decide, by decide, by show _ = some 1; decide +kernel⟩ ⟨Nat.le_of_ble_eq_true rfl, Nat.le_of_ble_eq_true rfl⟩ ⟨Nat.le_of_ble_eq_true rfl, Nat.le_of_ble_eq_true rfl⟩ rfl (Nat.le_of_ble_eq_true rfl) d_Machine_failsAt_64 hP hD hS hA 10 6 rfl rfl rfl [10, 11] [0, 1, 2, 3, 4, 5, 6, 7, 8, 9] rfl rfl rfl rfl (by decide) (fun v w1 H locs hw_58 hP hD hS => ?_)
        obtain ⟨x_59, rfl, rfl, hx_59⟩ := hw_58
        have hP : va_P G.1 classes [(b12, .inl (G.2 1, 4, .inr (.inl b20))), (b28, .inl (G.2 0, 20, .inl b31)), (b29, .inl (G.2 0, 240, .inl b32)), (b1, .inr (2, [.int b25, .int b26, .int b27, .ref b28, .ref b29, .ref b30])), (b30, .inl (G.2 0, 240, .inl b33)), (b0, .inr (5, [.int b5, .int b6, .ref b7, .ref b8, .ref b9, .ref b10, .ref b11, .ref b12, .int b13, .ref b14, .ref b15, .ref b16, .ref b17, .ref b18, .ref b19])), (b14, .inl (G.2 0, 240, .inl b21)), (b16, .inl (G.2 0, 240, .inl b22)), (b17, .inl (G.2 0, 240, .inl b23)), (b18, .inl (G.2 0, 242, .inl b24)), (b4, .inr (6, [.int b34, .int 4, .int 2, .ref b35, .ref b36])), (b35, .inl (G.2 1, 8, .inr (.inl f_57)))] H := hP
        have hD := z_tie hP hD rfl
        refine W.widen (k := 0) (n := 0) (Nat.le_of_ble_eq_true rfl) (Nat.le_of_ble_eq_true rfl) ?_
        refine lv_if_eq (tgt := 73) hx hb d_Machine_failsAt_67 (by decide) (fun hc_60 => ?_) (fun hc_60 => ?_)
        · have _nhc_60 := hc_60
          have ni_61 := (fa_eq _ _).mp hc_60
          rw [li_0] at ni_61
          have hv_62 : zI x_59 0 0 := zI.eq_l hx_59 zc_0 hc_60
          obtain ⟨v_63, ev_63⟩ : ∃ z : Int32, z = y_38 + 1 := ⟨_, rfl⟩
          obtain ⟨qv_63, hv_63⟩ := zI_add (l := 1) (h := 12) hv_50 zc_1 ev_63 (by decide)
          rw [li_1] at qv_63
          refine lv_iinc (v := v_63) (lv' := [(6, .int v_63), (5, .int v_8), (0, .ref b0), (1, .ref b1), (2, .int b2), (3, .int b3), (4, .ref b4)]) hx hb d_Machine_failsAt_73 hl (k := 0) rfl (by rw [ev_63]; rfl) (by decide) rfl (fun ls hl => ?_)
          refine lv_goto (tgt := 33) hx hb d_Machine_failsAt_76 (by decide) ?_
          exact ihk_37 (v_63) (f_57) _ _ _ (zI.wk (l' := 0) (h' := 12) hv_63 (by decide)) hf_57 (zm_up qv_63 hmk_37 (by decide)) (hP.sub [5, 0, 6, 7, 8, 9, 3, 1, 2, 4, 10, 11] rfl) (hD.sub [5, 0, 6, 7, 8, 9, 3, 1, 2, 4, 10, 11] (by decide) rfl) hS (lv_sub hl [0, 1, 2, 3, 4, 5, 6] rfl)
        · have _nhc_60 := hc_60
          have ni_64 : ¬ (x_59 : Int32).toInt = (0 : Int32).toInt := fun z => hc_60 ((fa_eq _ _).mpr z)
          simp only [li_0] at ni_64
          have hv_65 : zI x_59 1 1 := zI.ne_lo hx_59 zc_0 hc_60 (by decide)
          refine lv_iload hx hb d_Machine_failsAt_70 (lv_at hl 0 rfl) ?_
          exact z_iret hx hb hr hlocks (hP.sub [5, 0, 6, 7, 8, 9, 3, 1, 2, 4, 10, 11] rfl) (hD.sub [5, 0, 6, 7, 8, 9, 3, 1, 2, 4, 10, 11] (by decide) rfl) hS (Nat.le_of_ble_eq_true rfl) (Nat.le_of_ble_eq_true rfl) d_Machine_failsAt_72 ⟨y_38, f_57, rfl, rfl, (zI.wk (l' := (-1)) (h' := 12) hv_50 (by decide)), hf_57⟩
  · have _nhc_3 := hc_3
    have ni_66 := (fa_eq _ _).mp hc_3
    rw [li_0] at ni_66
    have hv_67 : zI b6 0 0 := zI.eq_l hb6 zc_0 hc_3
    refine lv_iconst (v := 0) hx hb d_Machine_failsAt_12 (by decide) ?_
    exact z_iret hx hb hr hlocks hP hD hS (Nat.le_of_ble_eq_true rfl) (Nat.le_of_ble_eq_true rfl) d_Machine_failsAt_13 ⟨0, f_2, rfl, rfl, (zI.wk (l' := (-1)) (h' := 12) zc_0 (by decide)), hf_2⟩
theorem d_Parting_isOf_0 : decode prog_7_method_2_code 0 = .ok (.aload_n 0, 1) := by decide +kernel
theorem d_Parting_isOf_1 : decode prog_7_method_2_code 1 = .ok (.getfield 36, 3) := by decide +kernel
theorem d_Parting_isOf_4 : decode prog_7_method_2_code 4 = .ok (.ifCond .eq 23, 3) := by decide +kernel
theorem d_Parting_isOf_7 : decode prog_7_method_2_code 7 = .ok (.aload_n 0, 1) := by decide +kernel
theorem d_Parting_isOf_8 : decode prog_7_method_2_code 8 = .ok (.getfield 40, 3) := by decide +kernel
theorem d_Parting_isOf_11 : decode prog_7_method_2_code 11 = .ok (.iload_n 1, 1) := by decide +kernel
theorem d_Parting_isOf_12 : decode prog_7_method_2_code 12 = .ok (.if_icmp .ne 15, 3) := by decide +kernel
theorem d_Parting_isOf_15 : decode prog_7_method_2_code 15 = .ok (.aload_n 0, 1) := by decide +kernel
theorem d_Parting_isOf_16 : decode prog_7_method_2_code 16 = .ok (.getfield 44, 3) := by decide +kernel
theorem d_Parting_isOf_19 : decode prog_7_method_2_code 19 = .ok (.iload_n 2, 1) := by decide +kernel
theorem d_Parting_isOf_20 : decode prog_7_method_2_code 20 = .ok (.if_icmp .ne 7, 3) := by decide +kernel
theorem d_Parting_isOf_23 : decode prog_7_method_2_code 23 = .ok (.iconst 1, 1) := by decide +kernel
theorem d_Parting_isOf_24 : decode prog_7_method_2_code 24 = .ok (.goto 4, 3) := by decide +kernel
theorem d_Parting_isOf_27 : decode prog_7_method_2_code 27 = .ok (.iconst 0, 1) := by decide +kernel
theorem d_Parting_isOf_28 : decode prog_7_method_2_code 28 = .ok (.ireturn, 1) := by decide +kernel
abbrev m_s1_Parting_isOf : Room := { frames := 0, cells := 0, slots := 0, locals := 0 }
set_option maxHeartbeats 4000000 in
set_option maxRecDepth 100000 in
theorem s1_Parting_isOf (l : Launch) (G : zG) (b0 : Nat) (b1 : Int32) (b2 : Int32) (b3 : Int32) (b4 : Int32) (b5 : Nat) (b6 : Int32) (b7 : Int32) (b8 : Nat) (b9 : Nat) (b10 : Nat) (b11 : Nat) (b12 : Nat) (hb3 : zI b3 0 1) (hb4 : zI b4 (-2) 8) : zM l G y_Parting_isOf prog_7_method_2_code 3 (Option.some Jvm.ClassFile.FieldType.boolean) m_s1_Parting_isOf [.ref b0, .int b1, .int b2] [(b0, .inr (8, [.int b3, .int b4, .ref b5, .int b6, .int b7, .ref b8, .ref b9, .ref b10, .ref b11, .ref b12]))] (fun v w => ∃ (e0 : Int32), v = some (.int e0) ∧ w = [(b0, .inr (8, [.int b3, .int b4, .ref b5, .int b6, .int b7, .ref b8, .ref b9, .ref b10, .ref b11, .ref b12]))] ∧ (zI e0 0 1)) := by
  refine z_start (by decide +kernel) (Nat.le_of_ble_eq_true rfl) ?_
  intro p e s m below meth c A Z hr hnm hA hP hD hS ls hl
  have Z : zC p s m _ meth c prog_7_method_2_code 3 "TraceMachines$Parting" G := Z
  obtain ⟨hx, hb, hml, hown, hts, hK, hN, hlocks⟩ := id Z
  have hl : lv_has ls 3 [(0, .ref b0), (1, .int b1), (2, .int b2)] := hl
  refine lv_aload_n hx hb d_Parting_isOf_0 rfl (lv_at hl 0 rfl) ?_
  refine va_get (D := G.1) (ci := 8) (v := .int b3) (C := R_Parting) (T := F_Parting) (N := 10) hx hb hts i_Parting hown hK hP 0 rfl rfl 0 (by decide) (hts _ q299) (fun _ h9 => h9) rfl d_Parting_isOf_1 ?_
  refine lv_if_eq (tgt := 27) hx hb d_Parting_isOf_4 (by decide) (fun hc_1 => ?_) (fun hc_1 => ?_)
  · have _nhc_1 := hc_1
    have ni_2 := (fa_eq _ _).mp hc_1
    rw [li_0] at ni_2
    have hv_3 : zI b3 0 0 := zI.eq_l hb3 zc_0 hc_1
    refine lv_iconst (v := 0) hx hb d_Parting_isOf_27 (by decide) ?_
    exact z_zret hx hb hr hlocks rfl hP hD hS (Nat.le_of_ble_eq_true rfl) (Nat.le_of_ble_eq_true rfl) d_Parting_isOf_28 ⟨0, rfl, rfl, (zI.wk (l' := 0) (h' := 1) zc_0 (by decide))⟩
  · have _nhc_1 := hc_1
    have ni_4 : ¬ (b3 : Int32).toInt = (0 : Int32).toInt := fun z => hc_1 ((fa_eq _ _).mpr z)
    simp only [li_0] at ni_4
    have hv_5 : zI b3 1 1 := zI.ne_lo hb3 zc_0 hc_1 (by decide)
    refine lv_aload_n hx hb d_Parting_isOf_7 rfl (lv_at hl 0 rfl) ?_
    refine va_get (D := G.1) (ci := 8) (v := .int b6) (C := R_Parting) (T := F_Parting) (N := 10) hx hb hts i_Parting hown hK hP 0 rfl rfl 3 (by decide) (hts _ q305) (fun _ h9 => h9) rfl d_Parting_isOf_8 ?_
    refine lv_iload_n hx hb d_Parting_isOf_11 rfl (lv_at hl 1 rfl) ?_
    refine lv_icmp_ne (tgt := 27) hx hb d_Parting_isOf_12 (by decide) (fun hc_6 => ?_) (fun hc_6 => ?_)
    · have _nhc_6 := hc_6
      have ni_7 : ¬ (b6 : Int32).toInt = (b1 : Int32).toInt := fun z => hc_6 ((fa_eq _ _).mpr z)
      refine lv_iconst (v := 0) hx hb d_Parting_isOf_27 (by decide) ?_
      exact z_zret hx hb hr hlocks rfl hP hD hS (Nat.le_of_ble_eq_true rfl) (Nat.le_of_ble_eq_true rfl) d_Parting_isOf_28 ⟨0, rfl, rfl, (zI.wk (l' := 0) (h' := 1) zc_0 (by decide))⟩
    · have _nhc_6 := hc_6
      have ni_8 := (fa_eq _ _).mp hc_6
      refine lv_aload_n hx hb d_Parting_isOf_15 rfl (lv_at hl 0 rfl) ?_
      refine va_get (D := G.1) (ci := 8) (v := .int b7) (C := R_Parting) (T := F_Parting) (N := 10) hx hb hts i_Parting hown hK hP 0 rfl rfl 4 (by decide) (hts _ q306) (fun _ h9 => h9) rfl d_Parting_isOf_16 ?_
      refine lv_iload_n hx hb d_Parting_isOf_19 rfl (lv_at hl 2 rfl) ?_
      refine lv_icmp_ne (tgt := 27) hx hb d_Parting_isOf_20 (by decide) (fun hc_9 => ?_) (fun hc_9 => ?_)
      · have _nhc_9 := hc_9
        have ni_10 : ¬ (b7 : Int32).toInt = (b2 : Int32).toInt := fun z => hc_9 ((fa_eq _ _).mpr z)
        refine lv_iconst (v := 0) hx hb d_Parting_isOf_27 (by decide) ?_
        exact z_zret hx hb hr hlocks rfl hP hD hS (Nat.le_of_ble_eq_true rfl) (Nat.le_of_ble_eq_true rfl) d_Parting_isOf_28 ⟨0, rfl, rfl, (zI.wk (l' := 0) (h' := 1) zc_0 (by decide))⟩
      · have _nhc_9 := hc_9
        have ni_11 := (fa_eq _ _).mp hc_9
        refine lv_iconst (v := 1) hx hb d_Parting_isOf_23 (by decide) ?_
        refine lv_goto (tgt := 28) hx hb d_Parting_isOf_24 (by decide) ?_
        exact z_zret hx hb hr hlocks rfl hP hD hS (Nat.le_of_ble_eq_true rfl) (Nat.le_of_ble_eq_true rfl) d_Parting_isOf_28 ⟨1, rfl, rfl, (zI.wk (l' := 0) (h' := 1) zc_1 (by decide))⟩
theorem d_Parting_setOf_0 : decode prog_7_method_3_code 0 = .ok (.aload_n 0, 1) := by decide +kernel
theorem d_Parting_setOf_1 : decode prog_7_method_3_code 1 = .ok (.iconst 1, 1) := by decide +kernel
theorem d_Parting_setOf_2 : decode prog_7_method_3_code 2 = .ok (.putfield 36, 3) := by decide +kernel
theorem d_Parting_setOf_5 : decode prog_7_method_3_code 5 = .ok (.aload_n 0, 1) := by decide +kernel
theorem d_Parting_setOf_6 : decode prog_7_method_3_code 6 = .ok (.iload_n 1, 1) := by decide +kernel
theorem d_Parting_setOf_7 : decode prog_7_method_3_code 7 = .ok (.putfield 40, 3) := by decide +kernel
theorem d_Parting_setOf_10 : decode prog_7_method_3_code 10 = .ok (.aload_n 0, 1) := by decide +kernel
theorem d_Parting_setOf_11 : decode prog_7_method_3_code 11 = .ok (.iload_n 2, 1) := by decide +kernel
theorem d_Parting_setOf_12 : decode prog_7_method_3_code 12 = .ok (.putfield 44, 3) := by decide +kernel
theorem d_Parting_setOf_15 : decode prog_7_method_3_code 15 = .ok (.return_, 1) := by decide +kernel
abbrev m_s1_Parting_setOf : Room := { frames := 0, cells := 0, slots := 0, locals := 0 }
set_option maxHeartbeats 4000000 in
set_option maxRecDepth 100000 in
theorem s1_Parting_setOf (l : Launch) (G : zG) (b0 : Nat) (b1 : Int32) (b2 : Int32) (b3 : Int32) (b4 : Int32) (b5 : Nat) (b6 : Int32) (b7 : Int32) (b8 : Nat) (b9 : Nat) (b10 : Nat) (b11 : Nat) (b12 : Nat) (hb3 : zI b3 0 1) (hb4 : zI b4 (-2) 8) : zM l G y_Parting_setOf prog_7_method_3_code 3 (Option.none : Option Jvm.ClassFile.FieldType) m_s1_Parting_setOf [.ref b0, .int b1, .int b2] [(b0, .inr (8, [.int b3, .int b4, .ref b5, .int b6, .int b7, .ref b8, .ref b9, .ref b10, .ref b11, .ref b12]))] (fun v w => v = none ∧ w = [(b0, .inr (8, [.int 1, .int b4, .ref b5, .int b1, .int b2, .ref b8, .ref b9, .ref b10, .ref b11, .ref b12]))]) := by
  refine z_start (by decide +kernel) (Nat.le_of_ble_eq_true rfl) ?_
  intro p e s m below meth c A Z hr hnm hA hP hD hS ls hl
  have Z : zC p s m _ meth c prog_7_method_3_code 3 "TraceMachines$Parting" G := Z
  obtain ⟨hx, hb, hml, hown, hts, hK, hN, hlocks⟩ := id Z
  have hl : lv_has ls 3 [(0, .ref b0), (1, .int b1), (2, .int b2)] := hl
  refine lv_aload_n hx hb d_Parting_setOf_0 rfl (lv_at hl 0 rfl) ?_
  refine lv_iconst (v := 1) hx hb d_Parting_setOf_1 (by decide) ?_
  refine va_put (D := G.1) (ci := 8) (v := .int 1) (ty := .boolean) (C := R_Parting) (T := F_Parting) (N := 10) hx hb hts i_Parting t_Parting t_Parting_ok n_Parting hown hK hP hD hS 0 rfl rfl 0 (by decide) (hts _ q299) (fun _ h9 => h9) rfl (by decide +kernel) rfl rfl (Nat.le_of_ble_eq_true rfl) d_Parting_setOf_2 (fun H locs hP hD hS => ?_)
  have hP : va_P G.1 classes [(b0, .inr (8, [.int 1, .int b4, .ref b5, .int b6, .int b7, .ref b8, .ref b9, .ref b10, .ref b11, .ref b12]))] H := hP
  have hD := z_tie hP hD rfl
  refine lv_aload_n hx hb d_Parting_setOf_5 rfl (lv_at hl 0 rfl) ?_
  refine lv_iload_n hx hb d_Parting_setOf_6 rfl (lv_at hl 1 rfl) ?_
  refine va_put (D := G.1) (ci := 8) (v := .int b1) (ty := .int) (C := R_Parting) (T := F_Parting) (N := 10) hx hb hts i_Parting t_Parting t_Parting_ok n_Parting hown hK hP hD hS 0 rfl rfl 3 (by decide) (hts _ q305) (fun _ h9 => h9) rfl (by decide +kernel) rfl rfl (Nat.le_of_ble_eq_true rfl) d_Parting_setOf_7 (fun H locs hP hD hS => ?_)
  have hP : va_P G.1 classes [(b0, .inr (8, [.int 1, .int b4, .ref b5, .int b1, .int b7, .ref b8, .ref b9, .ref b10, .ref b11, .ref b12]))] H := hP
  have hD := z_tie hP hD rfl
  refine lv_aload_n hx hb d_Parting_setOf_10 rfl (lv_at hl 0 rfl) ?_
  refine lv_iload_n hx hb d_Parting_setOf_11 rfl (lv_at hl 2 rfl) ?_
  refine va_put (D := G.1) (ci := 8) (v := .int b2) (ty := .int) (C := R_Parting) (T := F_Parting) (N := 10) hx hb hts i_Parting t_Parting t_Parting_ok n_Parting hown hK hP hD hS 0 rfl rfl 4 (by decide) (hts _ q306) (fun _ h9 => h9) rfl (by decide +kernel) rfl rfl (Nat.le_of_ble_eq_true rfl) d_Parting_setOf_12 (fun H locs hP hD hS => ?_)
  have hP : va_P G.1 classes [(b0, .inr (8, [.int 1, .int b4, .ref b5, .int b1, .int b2, .ref b8, .ref b9, .ref b10, .ref b11, .ref b12]))] H := hP
  have hD := z_tie hP hD rfl
  exact z_vret hx hb hr hlocks hP hD hS (Nat.le_of_ble_eq_true rfl) (Nat.le_of_ble_eq_true rfl) d_Parting_setOf_15 ⟨rfl, rfl⟩
theorem d_Parting_spell_0 : decode prog_7_method_7_code 0 = .ok (.aload_n 0, 1) := by decide +kernel
theorem d_Parting_spell_1 : decode prog_7_method_7_code 1 = .ok (.aload_n 0, 1) := by decide +kernel
theorem d_Parting_spell_2 : decode prog_7_method_7_code 2 = .ok (.getfield 33, 3) := by decide +kernel
theorem d_Parting_spell_5 : decode prog_7_method_7_code 5 = .ok (.iload_n 1, 1) := by decide +kernel
theorem d_Parting_spell_6 : decode prog_7_method_7_code 6 = .ok (.iaload, 1) := by decide +kernel
theorem d_Parting_spell_7 : decode prog_7_method_7_code 7 = .ok (.putfield 47, 3) := by decide +kernel
theorem d_Parting_spell_10 : decode prog_7_method_7_code 10 = .ok (.iload_n 1, 1) := by decide +kernel
theorem d_Parting_spell_11 : decode prog_7_method_7_code 11 = .ok (.istore_n 2, 1) := by decide +kernel
theorem d_Parting_spell_12 : decode prog_7_method_7_code 12 = .ok (.aload_n 0, 1) := by decide +kernel
theorem d_Parting_spell_13 : decode prog_7_method_7_code 13 = .ok (.getfield 47, 3) := by decide +kernel
theorem d_Parting_spell_16 : decode prog_7_method_7_code 16 = .ok (.iconst 1, 1) := by decide +kernel
theorem d_Parting_spell_17 : decode prog_7_method_7_code 17 = .ok (.isub, 1) := by decide +kernel
theorem d_Parting_spell_18 : decode prog_7_method_7_code 18 = .ok (.istore_n 3, 1) := by decide +kernel
theorem d_Parting_spell_19 : decode prog_7_method_7_code 19 = .ok (.iload_n 3, 1) := by decide +kernel
theorem d_Parting_spell_20 : decode prog_7_method_7_code 20 = .ok (.ifCond .lt 28, 3) := by decide +kernel
theorem d_Parting_spell_23 : decode prog_7_method_7_code 23 = .ok (.aload_n 0, 1) := by decide +kernel
theorem d_Parting_spell_24 : decode prog_7_method_7_code 24 = .ok (.getfield 9, 3) := by decide +kernel
theorem d_Parting_spell_27 : decode prog_7_method_7_code 27 = .ok (.iload_n 3, 1) := by decide +kernel
theorem d_Parting_spell_28 : decode prog_7_method_7_code 28 = .ok (.aload_n 0, 1) := by decide +kernel
theorem d_Parting_spell_29 : decode prog_7_method_7_code 29 = .ok (.getfield 30, 3) := by decide +kernel
theorem d_Parting_spell_32 : decode prog_7_method_7_code 32 = .ok (.iload_n 2, 1) := by decide +kernel
theorem d_Parting_spell_33 : decode prog_7_method_7_code 33 = .ok (.iaload, 1) := by decide +kernel
theorem d_Parting_spell_34 : decode prog_7_method_7_code 34 = .ok (.iastore, 1) := by decide +kernel
theorem d_Parting_spell_35 : decode prog_7_method_7_code 35 = .ok (.aload_n 0, 1) := by decide +kernel
theorem d_Parting_spell_36 : decode prog_7_method_7_code 36 = .ok (.getfield 27, 3) := by decide +kernel
theorem d_Parting_spell_39 : decode prog_7_method_7_code 39 = .ok (.iload_n 2, 1) := by decide +kernel
theorem d_Parting_spell_40 : decode prog_7_method_7_code 40 = .ok (.iaload, 1) := by decide +kernel
theorem d_Parting_spell_41 : decode prog_7_method_7_code 41 = .ok (.istore_n 2, 1) := by decide +kernel
theorem d_Parting_spell_42 : decode prog_7_method_7_code 42 = .ok (.iinc 3 (-1), 3) := by decide +kernel
theorem d_Parting_spell_45 : decode prog_7_method_7_code 45 = .ok (.goto (-26), 3) := by decide +kernel
theorem d_Parting_spell_48 : decode prog_7_method_7_code 48 = .ok (.return_, 1) := by decide +kernel
abbrev m_s1_Parting_spell : Room := { frames := 0, cells := 0, slots := 0, locals := 0 }
set_option maxHeartbeats 4000000 in
set_option maxRecDepth 100000 in
theorem s1_Parting_spell (l : Launch) (G : zG) (b0 : Nat) (b1 : Int32) (b2 : Int32) (b3 : Int32) (b4 : Nat) (b5 : Int32) (b6 : Int32) (b7 : Nat) (b8 : Nat) (b9 : Nat) (b10 : Nat) (b11 : Nat) (b12 : Nat → Int32) (b13 : Nat → Int32) (b14 : Nat → Int32) (b15 : Nat → Int32) (hb1 : zI b1 0 399) (hb2 : zI b2 0 1) (hb3 : zI b3 (-2) 8) (hb12 : zR b12 0 9) (hb13 : zR b13 0 399) (hb14 : zR b14 0 9) (hb15 : zR b15 0 8) : zM l G y_Parting_spell prog_7_method_7_code 4 (Option.none : Option Jvm.ClassFile.FieldType) m_s1_Parting_spell [.ref b0, .int b1] [(b0, .inr (8, [.int b2, .int b3, .ref b4, .int b5, .int b6, .ref b7, .ref b8, .ref b9, .ref b10, .ref b11])), (b4, .inl (G.2 0, 8, .inl b12)), (b9, .inl (G.2 0, 400, .inl b13)), (b10, .inl (G.2 0, 400, .inl b14)), (b11, .inl (G.2 0, 400, .inl b15))] (fun v w => ∃ (e0 : Int32), ∃ (e1 : Nat → Int32), v = none ∧ w = [(b0, .inr (8, [.int b2, .int e0, .ref b4, .int b5, .int b6, .ref b7, .ref b8, .ref b9, .ref b10, .ref b11])), (b4, .inl (G.2 0, 8, .inl e1)), (b9, .inl (G.2 0, 400, .inl b13)), (b10, .inl (G.2 0, 400, .inl b14)), (b11, .inl (G.2 0, 400, .inl b15))] ∧ (zI e0 (-2) 8) ∧ (zR e1 0 9)) := by
  refine z_start (by decide +kernel) (Nat.le_of_ble_eq_true rfl) ?_
  intro p e s m below meth c A Z hr hnm hA hP hD hS ls hl
  have Z : zC p s m _ meth c prog_7_method_7_code 4 "TraceMachines$Parting" G := Z
  obtain ⟨hx, hb, hml, hown, hts, hK, hN, hlocks⟩ := id Z
  have hl : lv_has ls 4 [(0, .ref b0), (1, .int b1)] := hl
  refine lv_aload_n hx hb d_Parting_spell_0 rfl (lv_at hl 0 rfl) ?_
  refine lv_aload_n hx hb d_Parting_spell_1 rfl (lv_at hl 0 rfl) ?_
  refine va_get (D := G.1) (ci := 8) (v := .ref b11) (C := R_Parting) (T := F_Parting) (N := 10) hx hb hts i_Parting hown hK hP 0 rfl rfl 9 (by decide) (hts _ q311) (fun _ h9 => h9) rfl d_Parting_spell_2 ?_
  refine lv_iload_n hx hb d_Parting_spell_5 rfl (lv_at hl 1 rfl) ?_
  refine va_iald hx hb hK hP 4 0 rfl rfl (zI.inn hb1 (by decide)) d_Parting_spell_6 ?_
  refine lv_topi (fun v_1 ev_1 => ?_)
  have hv_1 : zI v_1 0 8 := (hb15 _).eq ev_1
  refine va_put (D := G.1) (ci := 8) (v := .int v_1) (ty := .int) (C := R_Parting) (T := F_Parting) (N := 10) hx hb hts i_Parting t_Parting t_Parting_ok n_Parting hown hK hP hD hS 0 rfl rfl 1 (by decide) (hts _ q301) (fun _ h9 => h9) rfl (by decide +kernel) rfl rfl (Nat.le_of_ble_eq_true rfl) d_Parting_spell_7 (fun H locs hP hD hS => ?_)
  have hP : va_P G.1 classes [(b0, .inr (8, [.int b2, .int v_1, .ref b4, .int b5, .int b6, .ref b7, .ref b8, .ref b9, .ref b10, .ref b11])), (b4, .inl (G.2 0, 8, .inl b12)), (b9, .inl (G.2 0, 400, .inl b13)), (b10, .inl (G.2 0, 400, .inl b14)), (b11, .inl (G.2 0, 400, .inl b15))] H := hP
  have hD := z_tie hP hD rfl
  refine lv_iload_n hx hb d_Parting_spell_10 rfl (lv_at hl 1 rfl) ?_
  refine lv_istore_n (lv' := [(2, .int b1), (0, .ref b0), (1, .int b1)]) hx hb d_Parting_spell_11 rfl hl (by decide) rfl (fun ls hl => ?_)
  refine lv_aload_n hx hb d_Parting_spell_12 rfl (lv_at hl 1 rfl) ?_
  refine va_get (D := G.1) (ci := 8) (v := .int v_1) (C := R_Parting) (T := F_Parting) (N := 10) hx hb hts i_Parting hown hK hP 0 rfl rfl 1 (by decide) (hts _ q301) (fun _ h9 => h9) rfl d_Parting_spell_13 ?_
  refine lv_iconst (v := 1) hx hb d_Parting_spell_16 (by decide) ?_
  refine lv_isub hx hb d_Parting_spell_17 ?_
  refine lv_topi (fun v_2 ev_2 => ?_)
  obtain ⟨qv_2, hv_2⟩ := zI_sub (l := -1) (h := 7) hv_1 zc_1 ev_2 (by decide)
  rw [li_1] at qv_2
  refine lv_istore_n (lv' := [(3, .int v_2), (2, .int b1), (0, .ref b0), (1, .int b1)]) hx hb d_Parting_spell_18 rfl hl (by decide) rfl (fun ls hl => ?_)
  suffices key : ∀ (k_15 : Nat) (y_16 : Int32) (y_17 : Int32) (y_18 : Nat → Int32) (H : Heap) (locs : List Loc) (ls : Array Slot), (zI y_16 (-1) 7) → (zI y_17 0 399) → (zR y_18 0 9) → y_16.toInt - ((-1)) < (k_15 : Int) → va_P G.1 classes [(b0, .inr (8, [.int b2, .int v_1, .ref b4, .int b5, .int b6, .ref b7, .ref b8, .ref b9, .ref b10, .ref b11])), (b4, .inl (G.2 0, 8, .inl y_18)), (b9, .inl (G.2 0, 400, .inl b13)), (b10, .inl (G.2 0, 400, .inl b14)), (b11, .inl (G.2 0, 400, .inl b15))] H → va_D A [(b0, .inr (8, [.int b2, .int v_1, .ref b4, .int b5, .int b6, .ref b7, .ref b8, .ref b9, .ref b10, .ref b11])), (b4, .inl (G.2 0, 8, .inl y_18)), (b9, .inl (G.2 0, 400, .inl b13)), (b10, .inl (G.2 0, 400, .inl b14)), (b11, .inl (G.2 0, 400, .inl b15))] → va_S A s.heap H locs → lv_has ls 4 [(3, .int y_16), (2, .int y_17), (0, .ref b0), (1, .int b1)] → W p l e m_s1_Parting_spell s m ([.ref b0, .int b1] : List Value).toArray below meth c H locs 0 0 (MQ below (zQ G (fun v w => ∃ (e0 : Int32), ∃ (e1 : Nat → Int32), v = none ∧ w = [(b0, .inr (8, [.int b2, .int e0, .ref b4, .int b5, .int b6, .ref b7, .ref b8, .ref b9, .ref b10, .ref b11])), (b4, .inl (G.2 0, 8, .inl e1)), (b9, .inl (G.2 0, 400, .inl b13)), (b10, .inl (G.2 0, 400, .inl b14)), (b11, .inl (G.2 0, 400, .inl b15))] ∧ (zI e0 (-2) 8) ∧ (zR e1 0 9)) A) ([.ref b0, .int b1] : List Value).toArray s m_s1_Parting_spell.cells m_s1_Parting_spell.slots A) (F0 m 19 ls []) by
    exact key 9 (v_2) (b1) (b12) _ _ _ hv_2 hb1 hb12 (zm_dni hv_2 (by decide)) hP hD hS (lv_sub hl [0, 1, 2, 3] rfl)
  intro k_15
  induction k_15 with
  | zero =>
    intro y_16 y_17 y_18 H locs ls hy_16 hy_17 hy_18 hmk_15 hP hD hS hl
    exact (zm_dn0 hy_16 hmk_15).elim
  | succ k_15 ihk_15 =>
    intro y_16 y_17 y_18 H locs ls hy_16 hy_17 hy_18 hmk_15 hP hD hS hl
    refine lv_iload_n hx hb d_Parting_spell_19 rfl (lv_at hl 0 rfl) ?_
    refine lv_if_lt (tgt := 48) hx hb d_Parting_spell_20 (by decide) (fun hc_19 => ?_) (fun hc_19 => ?_)
    · have _nhc_19 := hc_19
      have ni_20 := (fa_lt _ _).mp hc_19
      rw [li_0] at ni_20
      have hv_21 : zI y_16 (-1) (-1) := zI.lt_l hy_16 zc_0 hc_19 (by decide)
      exact z_vret hx hb hr hlocks hP hD hS (Nat.le_of_ble_eq_true rfl) (Nat.le_of_ble_eq_true rfl) d_Parting_spell_48 ⟨v_1, y_18, rfl, rfl, (zI.wk (l' := (-2)) (h' := 8) hv_1 (by decide)), hy_18⟩
    · have _nhc_19 := hc_19
      have ni_22 := (fa_le _ _).mp (zi_nlt hc_19)
      rw [li_0] at ni_22
      have hv_23 : zI y_16 0 7 := zI.le_r zc_0 hy_16 (zi_nlt hc_19) (by decide)
      refine lv_aload_n hx hb d_Parting_spell_23 rfl (lv_at hl 2 rfl) ?_
      refine va_get (D := G.1) (ci := 8) (v := .ref b4) (C := R_Parting) (T := F_Parting) (N := 10) hx hb hts i_Parting hown hK hP 0 rfl rfl 2 (by decide) (hts _ q303) (fun _ h9 => h9) rfl d_Parting_spell_24 ?_
      refine lv_iload_n hx hb d_Parting_spell_27 rfl (lv_at hl 0 rfl) ?_
      refine lv_aload_n hx hb d_Parting_spell_28 rfl (lv_at hl 2 rfl) ?_
      refine va_get (D := G.1) (ci := 8) (v := .ref b10) (C := R_Parting) (T := F_Parting) (N := 10) hx hb hts i_Parting hown hK hP 0 rfl rfl 8 (by decide) (hts _ q310) (fun _ h9 => h9) rfl d_Parting_spell_29 ?_
      refine lv_iload_n hx hb d_Parting_spell_32 rfl (lv_at hl 1 rfl) ?_
      refine va_iald hx hb hK hP 3 0 rfl rfl (zI.inn hy_17 (by decide)) d_Parting_spell_33 ?_
      refine lv_topi (fun v_24 ev_24 => ?_)
      have hv_24 : zI v_24 0 9 := (hb14 _).eq ev_24
      refine va_iast hx hb hK hP hD hS 1 0 rfl rfl (zI.inn hv_23 (by decide)) d_Parting_spell_34 (fun H locs hP hD hS => ?_)
      obtain ⟨f_25, hf_25, gf_25, uf_25, hP, hD⟩ := z_newfu 1 hP hD rfl hy_18 hv_24
      have hP : va_P G.1 classes [(b0, .inr (8, [.int b2, .int v_1, .ref b4, .int b5, .int b6, .ref b7, .ref b8, .ref b9, .ref b10, .ref b11])), (b4, .inl (G.2 0, 8, .inl f_25)), (b9, .inl (G.2 0, 400, .inl b13)), (b10, .inl (G.2 0, 400, .inl b14)), (b11, .inl (G.2 0, 400, .inl b15))] H := hP
      have hD := z_tie hP hD rfl
      refine lv_aload_n hx hb d_Parting_spell_35 rfl (lv_at hl 2 rfl) ?_
      refine va_get (D := G.1) (ci := 8) (v := .ref b9) (C := R_Parting) (T := F_Parting) (N := 10) hx hb hts i_Parting hown hK hP 0 rfl rfl 7 (by decide) (hts _ q309) (fun _ h9 => h9) rfl d_Parting_spell_36 ?_
      refine lv_iload_n hx hb d_Parting_spell_39 rfl (lv_at hl 1 rfl) ?_
      refine va_iald hx hb hK hP 2 0 rfl rfl (zI.inn hy_17 (by decide)) d_Parting_spell_40 ?_
      refine lv_topi (fun v_26 ev_26 => ?_)
      have hv_26 : zI v_26 0 399 := (hb13 _).eq ev_26
      refine lv_istore_n (lv' := [(2, .int v_26), (3, .int y_16), (0, .ref b0), (1, .int b1)]) hx hb d_Parting_spell_41 rfl hl (by decide) rfl (fun ls hl => ?_)
      obtain ⟨v_27, ev_27⟩ : ∃ z : Int32, z = y_16 + (-1) := ⟨_, rfl⟩
      obtain ⟨qv_27, hv_27⟩ := zI_add (l := -1) (h := 6) hv_23 zc_m1 ev_27 (by decide)
      rw [li_m1] at qv_27
      refine lv_iinc (v := v_27) (lv' := [(3, .int v_27), (2, .int v_26), (0, .ref b0), (1, .int b1)]) hx hb d_Parting_spell_42 hl (k := 1) rfl (by rw [ev_27]; rfl) (by decide) rfl (fun ls hl => ?_)
      refine lv_goto (tgt := 19) hx hb d_Parting_spell_45 (by decide) ?_
      exact ihk_15 (v_27) (v_26) (f_25) _ _ _ (zI.wk (l' := (-1)) (h' := 7) hv_27 (by decide)) hv_26 hf_25 (zm_dn qv_27 hmk_15 (by decide)) hP hD hS (lv_sub hl [0, 1, 2, 3] rfl)
theorem d_X_ran_0 : decode prog_1_method_14_code 0 = .ok (.iload_n 1, 1) := by decide +kernel
theorem d_X_ran_1 : decode prog_1_method_14_code 1 = .ok (.ifCond .lt 21, 3) := by decide +kernel
theorem d_X_ran_4 : decode prog_1_method_14_code 4 = .ok (.iload_n 1, 1) := by decide +kernel
theorem d_X_ran_5 : decode prog_1_method_14_code 5 = .ok (.aload_n 0, 1) := by decide +kernel
theorem d_X_ran_6 : decode prog_1_method_14_code 6 = .ok (.getfield 70, 3) := by decide +kernel
theorem d_X_ran_9 : decode prog_1_method_14_code 9 = .ok (.arraylength, 1) := by decide +kernel
theorem d_X_ran_10 : decode prog_1_method_14_code 10 = .ok (.if_icmp .ge 12, 3) := by decide +kernel
theorem d_X_ran_13 : decode prog_1_method_14_code 13 = .ok (.aload_n 0, 1) := by decide +kernel
theorem d_X_ran_14 : decode prog_1_method_14_code 14 = .ok (.getfield 70, 3) := by decide +kernel
theorem d_X_ran_17 : decode prog_1_method_14_code 17 = .ok (.iload_n 1, 1) := by decide +kernel
theorem d_X_ran_18 : decode prog_1_method_14_code 18 = .ok (.iaload, 1) := by decide +kernel
theorem d_X_ran_19 : decode prog_1_method_14_code 19 = .ok (.goto 4, 3) := by decide +kernel
theorem d_X_ran_22 : decode prog_1_method_14_code 22 = .ok (.iconst (-1), 1) := by decide +kernel
theorem d_X_ran_23 : decode prog_1_method_14_code 23 = .ok (.ireturn, 1) := by decide +kernel
theorem zc_3 : zI 3 3 3 := ⟨by decide +kernel, by decide +kernel⟩
abbrev m_s1_X_ran : Room := { frames := 0, cells := 0, slots := 0, locals := 0 }
set_option maxHeartbeats 4000000 in
set_option maxRecDepth 100000 in
theorem s1_X_ran (l : Launch) (G : zG) (b0 : Nat) (b1 : Int32) (b2 : Nat) (b3 : Nat) (b4 : Nat) (b5 : Nat) (b6 : Int32) (b7 : Int32) (b8 : Nat) (b9 : Nat) (b10 : Nat) (b11 : Nat) (b12 : Nat) (b13 : Nat) (b14 : Nat) (b15 : Nat) (b16 : Nat) (b17 : Nat) (b18 : Nat) (b19 : Nat) (b20 : Nat) (b21 : Nat) (b22 : Nat → Int32) (hb6 : zI b6 0 7) (hb7 : zI b7 0 8) : zM l G y_X_ran prog_1_method_14_code 2 (Option.some Jvm.ClassFile.FieldType.int) m_s1_X_ran [.ref b0, .int b1] [(b0, .inr (0, [.ref b2, .ref b3, .ref b4, .ref b5, .int b6, .int b7, .ref b8, .ref b9, .ref b10, .ref b11, .ref b12, .ref b13, .ref b14, .ref b15, .ref b16, .ref b17, .ref b18, .ref b19, .ref b20, .ref b21])), (b15, .inl (G.2 0, 3, .inl b22))] (fun v w => ∃ (e0 : Int32), v = some (.int e0) ∧ w = [(b0, .inr (0, [.ref b2, .ref b3, .ref b4, .ref b5, .int b6, .int b7, .ref b8, .ref b9, .ref b10, .ref b11, .ref b12, .ref b13, .ref b14, .ref b15, .ref b16, .ref b17, .ref b18, .ref b19, .ref b20, .ref b21])), (b15, .inl (G.2 0, 3, .inl b22))]) := by
  refine z_start (by decide +kernel) (Nat.le_of_ble_eq_true rfl) ?_
  intro p e s m below meth c A Z hr hnm hA hP hD hS ls hl
  have Z : zC p s m _ meth c prog_1_method_14_code 2 "TraceMachines" G := Z
  obtain ⟨hx, hb, hml, hown, hts, hK, hN, hlocks⟩ := id Z
  have hl : lv_has ls 2 [(0, .ref b0), (1, .int b1)] := hl
  refine lv_iload_n hx hb d_X_ran_0 rfl (lv_at hl 1 rfl) ?_
  refine lv_if_lt (tgt := 22) hx hb d_X_ran_1 (by decide) (fun hc_1 => ?_) (fun hc_1 => ?_)
  · have _nhc_1 := hc_1
    have ni_2 := (fa_lt _ _).mp hc_1
    rw [li_0] at ni_2
    have hv_3 : zI b1 (-2147483648) (-1) := zI.lt_l (zI_all b1) zc_0 hc_1 (by decide)
    refine lv_iconst (v := (-1)) hx hb d_X_ran_22 (by decide) ?_
    exact z_iret hx hb hr hlocks hP hD hS (Nat.le_of_ble_eq_true rfl) (Nat.le_of_ble_eq_true rfl) d_X_ran_23 ⟨(-1), rfl, rfl⟩
  · have _nhc_1 := hc_1
    have ni_4 := (fa_le _ _).mp (zi_nlt hc_1)
    rw [li_0] at ni_4
    have hv_5 : zI b1 0 2147483647 := zI.le_r zc_0 (zI_all b1) (zi_nlt hc_1) (by decide)
    refine lv_iload_n hx hb d_X_ran_4 rfl (lv_at hl 1 rfl) ?_
    refine lv_aload_n hx hb d_X_ran_5 rfl (lv_at hl 0 rfl) ?_
    refine va_get (D := G.1) (ci := 0) (v := .ref b15) (C := R_X) (T := F_X) (N := 20) hx hb hts i_X hown hK hP 0 rfl rfl 13 (by decide) (hts _ q430) (fun _ h9 => h9) rfl d_X_ran_6 ?_
    refine va_alen hx hb hK hP 1 0 rfl rfl (v := 3) (show Int32.ofNat 3 = 3 from by decide +kernel) d_X_ran_9 ?_
    refine lv_icmp_ge (tgt := 22) hx hb d_X_ran_10 (by decide) (fun hc_6 => ?_) (fun hc_6 => ?_)
    · have _nhc_6 := hc_6
      have ni_7 := (fa_le _ _).mp hc_6
      rw [li_3] at ni_7
      have hv_8 : zI b1 3 2147483647 := zI.le_r zc_3 hv_5 hc_6 (by decide)
      refine lv_iconst (v := (-1)) hx hb d_X_ran_22 (by decide) ?_
      exact z_iret hx hb hr hlocks hP hD hS (Nat.le_of_ble_eq_true rfl) (Nat.le_of_ble_eq_true rfl) d_X_ran_23 ⟨(-1), rfl, rfl⟩
    · have _nhc_6 := hc_6
      have ni_9 := (fa_lt _ _).mp (zi_nle hc_6)
      rw [li_3] at ni_9
      have hv_10 : zI b1 0 2 := zI.lt_l hv_5 zc_3 (zi_nle hc_6) (by decide)
      refine lv_aload_n hx hb d_X_ran_13 rfl (lv_at hl 0 rfl) ?_
      refine va_get (D := G.1) (ci := 0) (v := .ref b15) (C := R_X) (T := F_X) (N := 20) hx hb hts i_X hown hK hP 0 rfl rfl 13 (by decide) (hts _ q430) (fun _ h9 => h9) rfl d_X_ran_14 ?_
      refine lv_iload_n hx hb d_X_ran_17 rfl (lv_at hl 1 rfl) ?_
      refine va_iald hx hb hK hP 1 0 rfl rfl (zI.inn hv_10 (by decide)) d_X_ran_18 ?_
      refine lv_topi (fun v_11 ev_11 => ?_)
      refine lv_goto (tgt := 23) hx hb d_X_ran_19 (by decide) ?_
      exact z_iret hx hb hr hlocks hP hD hS (Nat.le_of_ble_eq_true rfl) (Nat.le_of_ble_eq_true rfl) d_X_ran_23 ⟨v_11, rfl, rfl⟩
theorem d_X_sign_0 : decode prog_1_method_2_code 0 = .ok (.aload_n 0, 1) := by decide +kernel
theorem d_X_sign_1 : decode prog_1_method_2_code 1 = .ok (.getfield 12, 3) := by decide +kernel
theorem d_X_sign_4 : decode prog_1_method_2_code 4 = .ok (.iload_n 1, 1) := by decide +kernel
theorem d_X_sign_5 : decode prog_1_method_2_code 5 = .ok (.invokevirtual 118, 3) := by decide +kernel
theorem d_X_sign_8 : decode prog_1_method_2_code 8 = .ok (.ifCond .eq 13, 3) := by decide +kernel
theorem d_X_sign_11 : decode prog_1_method_2_code 11 = .ok (.aload_n 0, 1) := by decide +kernel
theorem d_X_sign_12 : decode prog_1_method_2_code 12 = .ok (.getfield 12, 3) := by decide +kernel
theorem d_X_sign_15 : decode prog_1_method_2_code 15 = .ok (.getfield 122, 3) := by decide +kernel
theorem d_X_sign_18 : decode prog_1_method_2_code 18 = .ok (.goto 4, 3) := by decide +kernel
theorem d_X_sign_21 : decode prog_1_method_2_code 21 = .ok (.iconst (-1), 1) := by decide +kernel
theorem d_X_sign_22 : decode prog_1_method_2_code 22 = .ok (.ireturn, 1) := by decide +kernel
abbrev m_s1_X_sign : Room := { frames := 1, cells := 0, slots := 0, locals := 22 }
set_option maxHeartbeats 4000000 in
set_option maxRecDepth 100000 in
theorem s1_X_sign (l : Launch) (G : zG) (b0 : Nat) (b1 : Int32) (b2 : Nat) (b3 : Nat) (b4 : Nat) (b5 : Nat) (b6 : Int32) (b7 : Int32) (b8 : Nat) (b9 : Nat) (b10 : Nat) (b11 : Nat) (b12 : Nat) (b13 : Nat) (b14 : Nat) (b15 : Nat) (b16 : Nat) (b17 : Nat) (b18 : Nat) (b19 : Nat) (b20 : Nat) (b21 : Nat) (b22 : Int32) (b23 : Nat) (b24 : Nat → Int32) (hb6 : zI b6 0 7) (hb7 : zI b7 0 8) (hb22 : zI b22 0 240) : zM l G y_X_sign prog_1_method_2_code 2 (Option.some Jvm.ClassFile.FieldType.int) m_s1_X_sign [.ref b0, .int b1] [(b0, .inr (0, [.ref b2, .ref b3, .ref b4, .ref b5, .int b6, .int b7, .ref b8, .ref b9, .ref b10, .ref b11, .ref b12, .ref b13, .ref b14, .ref b15, .ref b16, .ref b17, .ref b18, .ref b19, .ref b20, .ref b21])), (b2, .inr (1, [.int b22, .ref b23])), (b23, .inl (G.2 2, 240, .inl b24))] (fun v w => ∃ (e0 : Int32), ∃ (e1 : Int32), ∃ (e2 : Nat → Int32), v = some (.int e0) ∧ w = [(b0, .inr (0, [.ref b2, .ref b3, .ref b4, .ref b5, .int b6, .int b7, .ref b8, .ref b9, .ref b10, .ref b11, .ref b12, .ref b13, .ref b14, .ref b15, .ref b16, .ref b17, .ref b18, .ref b19, .ref b20, .ref b21])), (b2, .inr (1, [.int e1, .ref b23])), (b23, .inl (G.2 2, 240, .inl e2))] ∧ (zI e0 (-1) 240) ∧ (zI e1 0 240)) := by
  refine z_start (by decide +kernel) (Nat.le_of_ble_eq_true rfl) ?_
  intro p e s m below meth c A Z hr hnm hA hP hD hS ls hl
  have Z : zC p s m _ meth c prog_1_method_2_code 2 "TraceMachines" G := Z
  obtain ⟨hx, hb, hml, hown, hts, hK, hN, hlocks⟩ := id Z
  have hl : lv_has ls 2 [(0, .ref b0), (1, .int b1)] := hl
  refine lv_aload_n hx hb d_X_sign_0 rfl (lv_at hl 0 rfl) ?_
  refine va_get (D := G.1) (ci := 0) (v := .ref b2) (C := R_X) (T := F_X) (N := 20) hx hb hts i_X hown hK hP 0 rfl rfl 0 (by decide) (hts _ q417) (fun _ h9 => h9) rfl d_X_sign_1 ?_
  refine lv_iload_n hx hb d_X_sign_4 rfl (lv_at hl 1 rfl) ?_
  refine z_callV (index := 118) (As := [.int b1]) (rest := []) (wr := [(b0, .inr (0, [.ref b2, .ref b3, .ref b4, .ref b5, .int b6, .int b7, .ref b8, .ref b9, .ref b10, .ref b11, .ref b12, .ref b13, .ref b14, .ref b15, .ref b16, .ref b17, .ref b18, .ref b19, .ref b20, .ref b21]))]) Z (s1_Text_put l G (b2) (b1) (b22) (b23) (b24) hb22) hl.1 q482 q483 q484 q2 q485 ⟨by decide, by decide, by show _ = some 1; decide +kernel⟩ ⟨Nat.le_of_ble_eq_true rfl, Nat.le_of_ble_eq_true rfl⟩ ⟨Nat.le_of_ble_eq_true rfl, Nat.le_of_ble_eq_true rfl⟩ rfl (Nat.le_of_ble_eq_true rfl) d_X_sign_5 hP hD hS hA 1 1 rfl rfl rfl [1, 2] [0] rfl rfl rfl rfl (by decide) (fun v w1 H locs hw_1 hP hD hS => ?_)
  obtain ⟨x_2, x_3, f_4, rfl, rfl, hx_2, hx_3, hfx_5, hfx_6⟩ := hw_1
  have hP : va_P G.1 classes [(b0, .inr (0, [.ref b2, .ref b3, .ref b4, .ref b5, .int b6, .int b7, .ref b8, .ref b9, .ref b10, .ref b11, .ref b12, .ref b13, .ref b14, .ref b15, .ref b16, .ref b17, .ref b18, .ref b19, .ref b20, .ref b21])), (b2, .inr (1, [.int x_3, .ref b23])), (b23, .inl (G.2 2, 240, .inl f_4))] H := hP
  have hD := z_tie hP hD rfl
  refine W.widen (k := 0) (n := 0) (Nat.le_of_ble_eq_true rfl) (Nat.le_of_ble_eq_true rfl) ?_
  refine lv_if_eq (tgt := 21) hx hb d_X_sign_8 (by decide) (fun hc_7 => ?_) (fun hc_7 => ?_)
  · have _nhc_7 := hc_7
    have ni_8 := (fa_eq _ _).mp hc_7
    rw [li_0] at ni_8
    have hv_9 : zI x_2 0 0 := zI.eq_l hx_2 zc_0 hc_7
    refine lv_iconst (v := (-1)) hx hb d_X_sign_21 (by decide) ?_
    exact z_iret hx hb hr hlocks hP hD hS (Nat.le_of_ble_eq_true rfl) (Nat.le_of_ble_eq_true rfl) d_X_sign_22 ⟨(-1), x_3, f_4, rfl, rfl, (zI.wk (l' := (-1)) (h' := 240) zc_m1 (by decide)), hx_3⟩
  · have _nhc_7 := hc_7
    have ni_10 : ¬ (x_2 : Int32).toInt = (0 : Int32).toInt := fun z => hc_7 ((fa_eq _ _).mpr z)
    simp only [li_0] at ni_10
    have hv_11 : zI x_2 1 1 := zI.ne_lo hx_2 zc_0 hc_7 (by decide)
    refine lv_aload_n hx hb d_X_sign_11 rfl (lv_at hl 0 rfl) ?_
    refine va_get (D := G.1) (ci := 0) (v := .ref b2) (C := R_X) (T := F_X) (N := 20) hx hb hts i_X hown hK hP 0 rfl rfl 0 (by decide) (hts _ q417) (fun _ h9 => h9) rfl d_X_sign_12 ?_
    refine va_get (D := G.1) (ci := 1) (v := .int x_3) (C := R_Text) (T := F_Text) (N := 2) hx hb hts i_Text hown hK hP 1 rfl rfl 0 (by decide) (hts _ q38) (fun _ h9 => h9) rfl d_X_sign_15 ?_
    refine lv_goto (tgt := 22) hx hb d_X_sign_18 (by decide) ?_
    exact z_iret hx hb hr hlocks hP hD hS (Nat.le_of_ble_eq_true rfl) (Nat.le_of_ble_eq_true rfl) d_X_sign_22 ⟨x_3, x_3, f_4, rfl, rfl, (zI.wk (l' := (-1)) (h' := 240) hx_3 (by decide)), hx_3⟩
theorem d_X_end_0 : decode prog_1_method_3_code 0 = .ok (.aload_n 0, 1) := by decide +kernel
theorem d_X_end_1 : decode prog_1_method_3_code 1 = .ok (.getfield 12, 3) := by decide +kernel
theorem d_X_end_4 : decode prog_1_method_3_code 4 = .ok (.iload_n 1, 1) := by decide +kernel
theorem d_X_end_5 : decode prog_1_method_3_code 5 = .ok (.invokevirtual 126, 3) := by decide +kernel
theorem d_X_end_8 : decode prog_1_method_3_code 8 = .ok (.ireturn, 1) := by decide +kernel
abbrev m_s1_X_end : Room := { frames := 1, cells := 0, slots := 0, locals := 21 }
set_option maxHeartbeats 4000000 in
set_option maxRecDepth 100000 in
theorem s1_X_end (l : Launch) (G : zG) (b0 : Nat) (b1 : Int32) (b2 : Nat) (b3 : Nat) (b4 : Nat) (b5 : Nat) (b6 : Int32) (b7 : Int32) (b8 : Nat) (b9 : Nat) (b10 : Nat) (b11 : Nat) (b12 : Nat) (b13 : Nat) (b14 : Nat) (b15 : Nat) (b16 : Nat) (b17 : Nat) (b18 : Nat) (b19 : Nat) (b20 : Nat) (b21 : Nat) (b22 : Int32) (b23 : Nat) (hb6 : zI b6 0 7) (hb7 : zI b7 0 8) (hb22 : zI b22 0 240) : zM l G y_X_end prog_1_method_3_code 2 (Option.some Jvm.ClassFile.FieldType.boolean) m_s1_X_end [.ref b0, .int b1] [(b0, .inr (0, [.ref b2, .ref b3, .ref b4, .ref b5, .int b6, .int b7, .ref b8, .ref b9, .ref b10, .ref b11, .ref b12, .ref b13, .ref b14, .ref b15, .ref b16, .ref b17, .ref b18, .ref b19, .ref b20, .ref b21])), (b2, .inr (1, [.int b22, .ref b23]))] (fun v w => ∃ (e0 : Int32), ∃ (e1 : Int32), v = some (.int e0) ∧ w = [(b0, .inr (0, [.ref b2, .ref b3, .ref b4, .ref b5, .int b6, .int b7, .ref b8, .ref b9, .ref b10, .ref b11, .ref b12, .ref b13, .ref b14, .ref b15, .ref b16, .ref b17, .ref b18, .ref b19, .ref b20, .ref b21])), (b2, .inr (1, [.int e1, .ref b23]))] ∧ (zI e0 0 1) ∧ (zI e1 0 240)) := by
  refine z_start (by decide +kernel) (Nat.le_of_ble_eq_true rfl) ?_
  intro p e s m below meth c A Z hr hnm hA hP hD hS ls hl
  have Z : zC p s m _ meth c prog_1_method_3_code 2 "TraceMachines" G := Z
  obtain ⟨hx, hb, hml, hown, hts, hK, hN, hlocks⟩ := id Z
  have hl : lv_has ls 2 [(0, .ref b0), (1, .int b1)] := hl
  refine lv_aload_n hx hb d_X_end_0 rfl (lv_at hl 0 rfl) ?_
  refine va_get (D := G.1) (ci := 0) (v := .ref b2) (C := R_X) (T := F_X) (N := 20) hx hb hts i_X hown hK hP 0 rfl rfl 0 (by decide) (hts _ q417) (fun _ h9 => h9) rfl d_X_end_1 ?_
  refine lv_iload_n hx hb d_X_end_4 rfl (lv_at hl 1 rfl) ?_
  refine z_callV (index := 126) (As := [.int b1]) (rest := []) (wr := [(b0, .inr (0, [.ref b2, .ref b3, .ref b4, .ref b5, .int b6, .int b7, .ref b8, .ref b9, .ref b10, .ref b11, .ref b12, .ref b13, .ref b14, .ref b15, .ref b16, .ref b17, .ref b18, .ref b19, .ref b20, .ref b21]))]) Z (s1_Text_cut l G (b2) (b1) (b22) (b23) hb22) hl.1 q490 q491 q492 q2 q493 ⟨by decide, by decide, by show _ = some 1; decide +kernel⟩ ⟨Nat.le_of_ble_eq_true rfl, Nat.le_of_ble_eq_true rfl⟩ ⟨Nat.le_of_ble_eq_true rfl, Nat.le_of_ble_eq_true rfl⟩ rfl (Nat.le_of_ble_eq_true rfl) d_X_end_5 hP hD hS hA 1 1 rfl rfl rfl [1] [0] rfl rfl rfl rfl (by decide) (fun v w1 H locs hw_1 hP hD hS => ?_)
  obtain ⟨x_2, x_3, rfl, rfl, hx_2, hx_3, hfx_4, hfx_5⟩ := hw_1
  have hP : va_P G.1 classes [(b0, .inr (0, [.ref b2, .ref b3, .ref b4, .ref b5, .int b6, .int b7, .ref b8, .ref b9, .ref b10, .ref b11, .ref b12, .ref b13, .ref b14, .ref b15, .ref b16, .ref b17, .ref b18, .ref b19, .ref b20, .ref b21])), (b2, .inr (1, [.int x_3, .ref b23]))] H := hP
  have hD := z_tie hP hD rfl
  refine W.widen (k := 0) (n := 0) (Nat.le_of_ble_eq_true rfl) (Nat.le_of_ble_eq_true rfl) ?_
  exact z_zret hx hb hr hlocks (zi_nb hx_2) hP hD hS (Nat.le_of_ble_eq_true rfl) (Nat.le_of_ble_eq_true rfl) d_X_end_8 ⟨x_2, x_3, rfl, rfl, hx_2, hx_3⟩
theorem d_X_rule_0 : decode prog_1_method_20_code 0 = .ok (.iload_n 1, 1) := by decide +kernel
theorem d_X_rule_1 : decode prog_1_method_20_code 1 = .ok (.invokestatic 305, 3) := by decide +kernel
theorem d_X_rule_4 : decode prog_1_method_20_code 4 = .ok (.ifCond .eq 22, 3) := by decide +kernel
theorem d_X_rule_7 : decode prog_1_method_20_code 7 = .ok (.iload_n 2, 1) := by decide +kernel
theorem d_X_rule_8 : decode prog_1_method_20_code 8 = .ok (.invokestatic 308, 3) := by decide +kernel
theorem d_X_rule_11 : decode prog_1_method_20_code 11 = .ok (.ifCond .eq 15, 3) := by decide +kernel
theorem d_X_rule_14 : decode prog_1_method_20_code 14 = .ok (.iload_n 3, 1) := by decide +kernel
theorem d_X_rule_15 : decode prog_1_method_20_code 15 = .ok (.invokestatic 308, 3) := by decide +kernel
theorem d_X_rule_18 : decode prog_1_method_20_code 18 = .ok (.ifCond .eq 8, 3) := by decide +kernel
theorem d_X_rule_21 : decode prog_1_method_20_code 21 = .ok (.iload_n 2, 1) := by decide +kernel
theorem d_X_rule_22 : decode prog_1_method_20_code 22 = .ok (.iload_n 3, 1) := by decide +kernel
theorem d_X_rule_23 : decode prog_1_method_20_code 23 = .ok (.if_icmp .ne 5, 3) := by decide +kernel
theorem d_X_rule_26 : decode prog_1_method_20_code 26 = .ok (.iconst (-1), 1) := by decide +kernel
theorem d_X_rule_28 : decode prog_1_method_20_code 28 = .ok (.iload 4, 2) := by decide +kernel
theorem d_X_rule_30 : decode prog_1_method_20_code 30 = .ok (.ifCond .eq 11, 3) := by decide +kernel
theorem d_X_rule_33 : decode prog_1_method_20_code 33 = .ok (.iload 4, 2) := by decide +kernel
theorem d_X_rule_35 : decode prog_1_method_20_code 35 = .ok (.iconst 1, 1) := by decide +kernel
theorem d_X_rule_36 : decode prog_1_method_20_code 36 = .ok (.if_icmp .eq 5, 3) := by decide +kernel
theorem d_X_rule_39 : decode prog_1_method_20_code 39 = .ok (.iconst (-1), 1) := by decide +kernel
theorem d_X_rule_41 : decode prog_1_method_20_code 41 = .ok (.aload_n 0, 1) := by decide +kernel
theorem d_X_rule_42 : decode prog_1_method_20_code 42 = .ok (.getfield 98, 3) := by decide +kernel
theorem d_X_rule_45 : decode prog_1_method_20_code 45 = .ok (.aload_n 0, 1) := by decide +kernel
theorem d_X_rule_46 : decode prog_1_method_20_code 46 = .ok (.getfield 19, 3) := by decide +kernel
theorem d_X_rule_49 : decode prog_1_method_20_code 49 = .ok (.iload_n 1, 1) := by decide +kernel
theorem d_X_rule_50 : decode prog_1_method_20_code 50 = .ok (.iload_n 2, 1) := by decide +kernel
theorem d_X_rule_51 : decode prog_1_method_20_code 51 = .ok (.iload_n 3, 1) := by decide +kernel
theorem d_X_rule_52 : decode prog_1_method_20_code 52 = .ok (.invokevirtual 311, 3) := by decide +kernel
theorem d_X_rule_55 : decode prog_1_method_20_code 55 = .ok (.iload 4, 2) := by decide +kernel
theorem d_X_rule_57 : decode prog_1_method_20_code 57 = .ok (.ifCond .ne 13, 3) := by decide +kernel
theorem d_X_rule_60 : decode prog_1_method_20_code 60 = .ok (.aload_n 0, 1) := by decide +kernel
theorem d_X_rule_61 : decode prog_1_method_20_code 61 = .ok (.getfield 98, 3) := by decide +kernel
theorem d_X_rule_64 : decode prog_1_method_20_code 64 = .ok (.getfield 315, 3) := by decide +kernel
theorem d_X_rule_67 : decode prog_1_method_20_code 67 = .ok (.goto 10, 3) := by decide +kernel
theorem d_X_rule_70 : decode prog_1_method_20_code 70 = .ok (.aload_n 0, 1) := by decide +kernel
theorem d_X_rule_71 : decode prog_1_method_20_code 71 = .ok (.getfield 98, 3) := by decide +kernel
theorem d_X_rule_74 : decode prog_1_method_20_code 74 = .ok (.getfield 318, 3) := by decide +kernel
theorem d_X_isKind_0 : decode prog_1_method_31_code 0 = .ok (.iload_n 0, 1) := by decide +kernel
theorem d_X_isKind_1 : decode prog_1_method_31_code 1 = .ok (.ifCond .lt 13, 3) := by decide +kernel
theorem d_X_isKind_4 : decode prog_1_method_31_code 4 = .ok (.iload_n 0, 1) := by decide +kernel
theorem d_X_isKind_5 : decode prog_1_method_31_code 5 = .ok (.bipush 6, 2) := by decide +kernel
theorem d_X_isKind_7 : decode prog_1_method_31_code 7 = .ok (.if_icmp .ge 7, 3) := by decide +kernel
theorem d_X_isKind_10 : decode prog_1_method_31_code 10 = .ok (.iconst 1, 1) := by decide +kernel
theorem d_X_isKind_11 : decode prog_1_method_31_code 11 = .ok (.goto 4, 3) := by decide +kernel
theorem d_X_isKind_14 : decode prog_1_method_31_code 14 = .ok (.iconst 0, 1) := by decide +kernel
theorem d_X_isKind_15 : decode prog_1_method_31_code 15 = .ok (.ireturn, 1) := by decide +kernel
theorem zc_6 : zI 6 6 6 := ⟨by decide +kernel, by decide +kernel⟩
theorem li_6 : (6 : Int32).toInt = 6 := by decide +kernel
abbrev m_s2_X_isKind : Room := { frames := 0, cells := 0, slots := 0, locals := 0 }
set_option maxHeartbeats 4000000 in
set_option maxRecDepth 100000 in
theorem s2_X_isKind (l : Launch) (G : zG) (b0 : Int32)  : zM l G y_X_isKind prog_1_method_31_code 1 (Option.some Jvm.ClassFile.FieldType.boolean) m_s2_X_isKind [.int b0] [] (fun v w => (v = some (.int 0) ∧ w = [] ∧ b0.toInt < 0) ∨ (v = some (.int 0) ∧ w = [] ∧ 0 ≤ b0.toInt ∧ 6 ≤ b0.toInt) ∨ (v = some (.int 1) ∧ w = [] ∧ 0 ≤ b0.toInt ∧ b0.toInt < 6)) := by
  refine z_start (by decide +kernel) (Nat.le_of_ble_eq_true rfl) ?_
  intro p e s m below meth c A Z hr hnm hA hP hD hS ls hl
  have Z : zC p s m _ meth c prog_1_method_31_code 1 "TraceMachines" G := Z
  obtain ⟨hx, hb, hml, hown, hts, hK, hN, hlocks⟩ := id Z
  have hl : lv_has ls 1 [(0, .int b0)] := hl
  refine lv_iload_n hx hb d_X_isKind_0 rfl (lv_at hl 0 rfl) ?_
  refine lv_if_lt (tgt := 14) hx hb d_X_isKind_1 (by decide) (fun hc_1 => ?_) (fun hc_1 => ?_)
  · have _nhc_1 := hc_1
    have ni_2 := (fa_lt _ _).mp hc_1
    rw [li_0] at ni_2
    have hv_3 : zI b0 (-2147483648) (-1) := zI.lt_l (zI_all b0) zc_0 hc_1 (by decide)
    refine lv_iconst (v := 0) hx hb d_X_isKind_14 (by decide) ?_
    exact z_zret hx hb hr hlocks rfl hP hD hS (Nat.le_of_ble_eq_true rfl) (Nat.le_of_ble_eq_true rfl) d_X_isKind_15 (Or.inl ⟨rfl, rfl, by omega⟩)
  · have _nhc_1 := hc_1
    have ni_4 := (fa_le _ _).mp (zi_nlt hc_1)
    rw [li_0] at ni_4
    have hv_5 : zI b0 0 2147483647 := zI.le_r zc_0 (zI_all b0) (zi_nlt hc_1) (by decide)
    refine lv_iload_n hx hb d_X_isKind_4 rfl (lv_at hl 0 rfl) ?_
    refine lv_bipush (v := 6) hx hb d_X_isKind_5 (by decide) ?_
    refine lv_icmp_ge (tgt := 14) hx hb d_X_isKind_7 (by decide) (fun hc_6 => ?_) (fun hc_6 => ?_)
    · have _nhc_6 := hc_6
      have ni_7 := (fa_le _ _).mp hc_6
      rw [li_6] at ni_7
      have hv_8 : zI b0 6 2147483647 := zI.le_r zc_6 hv_5 hc_6 (by decide)
      refine lv_iconst (v := 0) hx hb d_X_isKind_14 (by decide) ?_
      exact z_zret hx hb hr hlocks rfl hP hD hS (Nat.le_of_ble_eq_true rfl) (Nat.le_of_ble_eq_true rfl) d_X_isKind_15 (Or.inr (Or.inl ⟨rfl, rfl, by omega, by omega⟩))
    · have _nhc_6 := hc_6
      have ni_9 := (fa_lt _ _).mp (zi_nle hc_6)
      rw [li_6] at ni_9
      have hv_10 : zI b0 0 5 := zI.lt_l hv_5 zc_6 (zi_nle hc_6) (by decide)
      refine lv_iconst (v := 1) hx hb d_X_isKind_10 (by decide) ?_
      refine lv_goto (tgt := 15) hx hb d_X_isKind_11 (by decide) ?_
      exact z_zret hx hb hr hlocks rfl hP hD hS (Nat.le_of_ble_eq_true rfl) (Nat.le_of_ble_eq_true rfl) d_X_isKind_15 (Or.inr (Or.inr (⟨rfl, rfl, by omega, by omega⟩)))
theorem d_X_rule_27 : decode prog_1_method_20_code 27 = .ok (.ireturn, 1) := by decide +kernel
theorem d_X_rule_40 : decode prog_1_method_20_code 40 = .ok (.ireturn, 1) := by decide +kernel
theorem d_X_rule_77 : decode prog_1_method_20_code 77 = .ok (.ireturn, 1) := by decide +kernel
abbrev m_s1_X_rule : Room := { frames := 3, cells := 0, slots := 0, locals := 74 }
set_option maxHeartbeats 4000000 in
set_option maxRecDepth 100000 in
theorem s1_X_rule (l : Launch) (G : zG) (b0 : Nat) (b1 : Int32) (b2 : Int32) (b3 : Int32) (b4 : Int32) (b5 : Nat) (b6 : Nat) (b7 : Nat) (b8 : Nat) (b9 : Int32) (b10 : Int32) (b11 : Nat) (b12 : Nat) (b13 : Nat) (b14 : Nat) (b15 : Nat) (b16 : Nat) (b17 : Nat) (b18 : Nat) (b19 : Nat) (b20 : Nat) (b21 : Nat) (b22 : Nat) (b23 : Nat) (b24 : Nat) (b25 : Int32) (b26 : Int32) (b27 : Int32) (b28 : Nat) (b29 : Nat) (b30 : Nat) (b31 : Nat → Int32) (b32 : Nat → Int32) (b33 : Int32) (b34 : Int32) (b35 : Int32) (b36 : Int32) (b37 : Int32) (b38 : Int32) (b39 : Int32) (b40 : Int32) (b41 : Int32) (b42 : Int32) (hb9 : zI b9 0 7) (hb10 : zI b10 0 8) (hb25 : zI b25 0 20) (hb26 : zI b26 0 3) (hb27 : zI b27 0 20) (hb41 : zI b41 0 1) (hb42 : zI b42 0 1) (hb31 : zR b31 0 12) (hb32 : zR b32 0 9) : zM l G y_X_rule prog_1_method_20_code 5 (Option.some Jvm.ClassFile.FieldType.int) m_s1_X_rule [.ref b0, .int b1, .int b2, .int b3, .int b4] [(b0, .inr (0, [.ref b5, .ref b6, .ref b7, .ref b8, .int b9, .int b10, .ref b11, .ref b12, .ref b13, .ref b14, .ref b15, .ref b16, .ref b17, .ref b18, .ref b19, .ref b20, .ref b21, .ref b22, .ref b23, .ref b24])), (b6, .inr (2, [.int b25, .int b26, .int b27, .ref b28, .ref b29, .ref b30])), (b28, .inl (G.2 0, 20, .inl b31)), (b29, .inl (G.2 0, 240, .inl b32)), (b22, .inr (10, [.int b33, .int b34, .int b35, .int b36, .int b37, .int b38, .int b39, .int b40, .int b41, .int b42]))] (fun v w => ∃ (e0 : Int32), ∃ (e1 : Int32), ∃ (e2 : Int32), ∃ (e3 : Int32), ∃ (e4 : Int32), ∃ (e5 : Int32), ∃ (e6 : Int32), ∃ (e7 : Int32), ∃ (e8 : Int32), ∃ (e9 : Int32), ∃ (e10 : Int32), v = some (.int e0) ∧ w = [(b0, .inr (0, [.ref b5, .ref b6, .ref b7, .ref b8, .int b9, .int b10, .ref b11, .ref b12, .ref b13, .ref b14, .ref b15, .ref b16, .ref b17, .ref b18, .ref b19, .ref b20, .ref b21, .ref b22, .ref b23, .ref b24])), (b6, .inr (2, [.int b25, .int b26, .int b27, .ref b28, .ref b29, .ref b30])), (b28, .inl (G.2 0, 20, .inl b31)), (b29, .inl (G.2 0, 240, .inl b32)), (b22, .inr (10, [.int e1, .int e2, .int e3, .int e4, .int e5, .int e6, .int e7, .int e8, .int e9, .int e10]))] ∧ (zI e9 0 1) ∧ (zI e10 0 1)) := by
  refine z_start (by decide +kernel) (Nat.le_of_ble_eq_true rfl) ?_
  intro p e s m below meth c A Z hr hnm hA hP hD hS ls hl
  have Z : zC p s m _ meth c prog_1_method_20_code 5 "TraceMachines" G := Z
  obtain ⟨hx, hb, hml, hown, hts, hK, hN, hlocks⟩ := id Z
  have hl : lv_has ls 5 [(0, .ref b0), (1, .int b1), (2, .int b2), (3, .int b3), (4, .int b4)] := hl
  refine lv_iload_n hx hb d_X_rule_0 rfl (lv_at hl 1 rfl) ?_
  refine z_callS (index := 305) (As := [.int b1]) (rest := []) (wr := [(b0, .inr (0, [.ref b5, .ref b6, .ref b7, .ref b8, .int b9, .int b10, .ref b11, .ref b12, .ref b13, .ref b14, .ref b15, .ref b16, .ref b17, .ref b18, .ref b19, .ref b20, .ref b21, .ref b22, .ref b23, .ref b24])), (b6, .inr (2, [.int b25, .int b26, .int b27, .ref b28, .ref b29, .ref b30])), (b28, .inl (G.2 0, 20, .inl b31)), (b29, .inl (G.2 0, 240, .inl b32)), (b22, .inr (10, [.int b33, .int b34, .int b35, .int b36, .int b37, .int b38, .int b39, .int b40, .int b41, .int b42]))]) Z (s2_X_isKind l G (b1)) hl.1 q915 q916 q1 q917 ⟨by decide, by decide, by show _ = some 1; decide +kernel⟩ ⟨Nat.le_of_ble_eq_true rfl, Nat.le_of_ble_eq_true rfl⟩ ⟨Nat.le_of_ble_eq_true rfl, Nat.le_of_ble_eq_true rfl⟩ rfl (Nat.le_of_ble_eq_true rfl) d_X_rule_1 hP hD hS hA [] [0, 1, 2, 3, 4] rfl rfl rfl rfl (by decide) (fun v w1 H locs hw_1 hP hD hS => ?_)
  rcases hw_1 with ⟨rfl, rfl, hq_2⟩ | ⟨rfl, rfl, hq_3, hq_4⟩ | ⟨rfl, rfl, hq_5, hq_6⟩
  · have hP : va_P G.1 classes [(b0, .inr (0, [.ref b5, .ref b6, .ref b7, .ref b8, .int b9, .int b10, .ref b11, .ref b12, .ref b13, .ref b14, .ref b15, .ref b16, .ref b17, .ref b18, .ref b19, .ref b20, .ref b21, .ref b22, .ref b23, .ref b24])), (b6, .inr (2, [.int b25, .int b26, .int b27, .ref b28, .ref b29, .ref b30])), (b28, .inl (G.2 0, 20, .inl b31)), (b29, .inl (G.2 0, 240, .inl b32)), (b22, .inr (10, [.int b33, .int b34, .int b35, .int b36, .int b37, .int b38, .int b39, .int b40, .int b41, .int b42]))] H := hP
    have hD := z_tie hP hD rfl
    have hv_7 : zI b1 (-2147483648) (-1) := by have _a := hq_2; have _b := (zI_all b1); have _c := zc_0; exact ⟨by omega, by omega⟩
    refine W.widen (k := 0) (n := 0) (Nat.le_of_ble_eq_true rfl) (Nat.le_of_ble_eq_true rfl) ?_
    refine lv_if_eq (tgt := 26) hx hb d_X_rule_4 (by decide) (fun _ => ?_) (fun hc => absurd hc (by decide +kernel))
    refine lv_iconst (v := (-1)) hx hb d_X_rule_26 (by decide) ?_
    exact z_iret hx hb hr hlocks hP hD hS (Nat.le_of_ble_eq_true rfl) (Nat.le_of_ble_eq_true rfl) d_X_rule_27 ⟨(-1), b33, b34, b35, b36, b37, b38, b39, b40, b41, b42, rfl, rfl, hb41, hb42⟩
  · have hP : va_P G.1 classes [(b0, .inr (0, [.ref b5, .ref b6, .ref b7, .ref b8, .int b9, .int b10, .ref b11, .ref b12, .ref b13, .ref b14, .ref b15, .ref b16, .ref b17, .ref b18, .ref b19, .ref b20, .ref b21, .ref b22, .ref b23, .ref b24])), (b6, .inr (2, [.int b25, .int b26, .int b27, .ref b28, .ref b29, .ref b30])), (b28, .inl (G.2 0, 20, .inl b31)), (b29, .inl (G.2 0, 240, .inl b32)), (b22, .inr (10, [.int b33, .int b34, .int b35, .int b36, .int b37, .int b38, .int b39, .int b40, .int b41, .int b42]))] H := hP
    have hD := z_tie hP hD rfl
    have hv_8 : zI b1 0 2147483647 := by have _a := hq_3; have _b := (zI_all b1); have _c := zc_0; exact ⟨by omega, by omega⟩
    have hv_9 : zI b1 6 2147483647 := by have _a := hq_4; have _b := hv_8; have _c := zc_6; exact ⟨by omega, by omega⟩
    refine W.widen (k := 0) (n := 0) (Nat.le_of_ble_eq_true rfl) (Nat.le_of_ble_eq_true rfl) ?_
    refine lv_if_eq (tgt := 26) hx hb d_X_rule_4 (by decide) (fun _ => ?_) (fun hc => absurd hc (by decide +kernel))
    refine lv_iconst (v := (-1)) hx hb d_X_rule_26 (by decide) ?_
    exact z_iret hx hb hr hlocks hP hD hS (Nat.le_of_ble_eq_true rfl) (Nat.le_of_ble_eq_true rfl) d_X_rule_27 ⟨(-1), b33, b34, b35, b36, b37, b38, b39, b40, b41, b42, rfl, rfl, hb41, hb42⟩
  · have hP : va_P G.1 classes [(b0, .inr (0, [.ref b5, .ref b6, .ref b7, .ref b8, .int b9, .int b10, .ref b11, .ref b12, .ref b13, .ref b14, .ref b15, .ref b16, .ref b17, .ref b18, .ref b19, .ref b20, .ref b21, .ref b22, .ref b23, .ref b24])), (b6, .inr (2, [.int b25, .int b26, .int b27, .ref b28, .ref b29, .ref b30])), (b28, .inl (G.2 0, 20, .inl b31)), (b29, .inl (G.2 0, 240, .inl b32)), (b22, .inr (10, [.int b33, .int b34, .int b35, .int b36, .int b37, .int b38, .int b39, .int b40, .int b41, .int b42]))] H := hP
    have hD := z_tie hP hD rfl
    have hv_10 : zI b1 0 2147483647 := by have _a := hq_5; have _b := (zI_all b1); have _c := zc_0; exact ⟨by omega, by omega⟩
    have hv_11 : zI b1 0 5 := by have _a := hq_6; have _b := hv_10; have _c := zc_6; exact ⟨by omega, by omega⟩
    refine W.widen (k := 0) (n := 0) (Nat.le_of_ble_eq_true rfl) (Nat.le_of_ble_eq_true rfl) ?_
    refine lv_if_eq (tgt := 26) hx hb d_X_rule_4 (by decide) (fun hc => absurd hc (by decide +kernel)) (fun _ => ?_)
    refine lv_iload_n hx hb d_X_rule_7 rfl (lv_at hl 2 rfl) ?_
    refine z_callS (index := 308) (As := [.int b2]) (rest := []) (wr := [(b0, .inr (0, [.ref b5, .ref b6, .ref b7, .ref b8, .int b9, .int b10, .ref b11, .ref b12, .ref b13, .ref b14, .ref b15, .ref b16, .ref b17, .ref b18, .ref b19, .ref b20, .ref b21, .ref b22, .ref b23, .ref b24])), (b6, .inr (2, [.int b25, .int b26, .int b27, .ref b28, .ref b29, .ref b30])), (b28, .inl (G.2 0, 20, .inl b31)), (b29, .inl (G.2 0, 240, .inl b32)), (b22, .inr (10, [.int b33, .int b34, .int b35, .int b36, .int b37, .int b38, .int b39, .int b40, .int b41, .int b42]))]) Z (s2_X_isLetter l G (b2)) hl.1 q918 q518 q1 q519 ⟨by decide, by decide, by show _ = some 1; decide +kernel⟩ ⟨Nat.le_of_ble_eq_true rfl, Nat.le_of_ble_eq_true rfl⟩ ⟨Nat.le_of_ble_eq_true rfl, Nat.le_of_ble_eq_true rfl⟩ rfl (Nat.le_of_ble_eq_true rfl) d_X_rule_8 hP hD hS hA [] [0, 1, 2, 3, 4] rfl rfl rfl rfl (by decide) (fun v w1 H locs hw_12 hP hD hS => ?_)
    rcases hw_12 with ⟨rfl, rfl, hq_13⟩ | ⟨rfl, rfl, hq_14, hq_15⟩ | ⟨rfl, rfl, hq_16, hq_17⟩
    · have hP : va_P G.1 classes [(b0, .inr (0, [.ref b5, .ref b6, .ref b7, .ref b8, .int b9, .int b10, .ref b11, .ref b12, .ref b13, .ref b14, .ref b15, .ref b16, .ref b17, .ref b18, .ref b19, .ref b20, .ref b21, .ref b22, .ref b23, .ref b24])), (b6, .inr (2, [.int b25, .int b26, .int b27, .ref b28, .ref b29, .ref b30])), (b28, .inl (G.2 0, 20, .inl b31)), (b29, .inl (G.2 0, 240, .inl b32)), (b22, .inr (10, [.int b33, .int b34, .int b35, .int b36, .int b37, .int b38, .int b39, .int b40, .int b41, .int b42]))] H := hP
      have hD := z_tie hP hD rfl
      have hv_18 : zI b2 (-2147483648) (-1) := by have _a := hq_13; have _b := (zI_all b2); have _c := zc_0; exact ⟨by omega, by omega⟩
      refine W.widen (k := 0) (n := 0) (Nat.le_of_ble_eq_true rfl) (Nat.le_of_ble_eq_true rfl) ?_
      refine lv_if_eq (tgt := 26) hx hb d_X_rule_11 (by decide) (fun _ => ?_) (fun hc => absurd hc (by decide +kernel))
      refine lv_iconst (v := (-1)) hx hb d_X_rule_26 (by decide) ?_
      exact z_iret hx hb hr hlocks hP hD hS (Nat.le_of_ble_eq_true rfl) (Nat.le_of_ble_eq_true rfl) d_X_rule_27 ⟨(-1), b33, b34, b35, b36, b37, b38, b39, b40, b41, b42, rfl, rfl, hb41, hb42⟩
    · have hP : va_P G.1 classes [(b0, .inr (0, [.ref b5, .ref b6, .ref b7, .ref b8, .int b9, .int b10, .ref b11, .ref b12, .ref b13, .ref b14, .ref b15, .ref b16, .ref b17, .ref b18, .ref b19, .ref b20, .ref b21, .ref b22, .ref b23, .ref b24])), (b6, .inr (2, [.int b25, .int b26, .int b27, .ref b28, .ref b29, .ref b30])), (b28, .inl (G.2 0, 20, .inl b31)), (b29, .inl (G.2 0, 240, .inl b32)), (b22, .inr (10, [.int b33, .int b34, .int b35, .int b36, .int b37, .int b38, .int b39, .int b40, .int b41, .int b42]))] H := hP
      have hD := z_tie hP hD rfl
      have hv_19 : zI b2 0 2147483647 := by have _a := hq_14; have _b := (zI_all b2); have _c := zc_0; exact ⟨by omega, by omega⟩
      have hv_20 : zI b2 10 2147483647 := by have _a := hq_15; have _b := hv_19; have _c := zc_10; exact ⟨by omega, by omega⟩
      refine W.widen (k := 0) (n := 0) (Nat.le_of_ble_eq_true rfl) (Nat.le_of_ble_eq_true rfl) ?_
      refine lv_if_eq (tgt := 26) hx hb d_X_rule_11 (by decide) (fun _ => ?_) (fun hc => absurd hc (by decide +kernel))
      refine lv_iconst (v := (-1)) hx hb d_X_rule_26 (by decide) ?_
      exact z_iret hx hb hr hlocks hP hD hS (Nat.le_of_ble_eq_true rfl) (Nat.le_of_ble_eq_true rfl) d_X_rule_27 ⟨(-1), b33, b34, b35, b36, b37, b38, b39, b40, b41, b42, rfl, rfl, hb41, hb42⟩
    · have hP : va_P G.1 classes [(b0, .inr (0, [.ref b5, .ref b6, .ref b7, .ref b8, .int b9, .int b10, .ref b11, .ref b12, .ref b13, .ref b14, .ref b15, .ref b16, .ref b17, .ref b18, .ref b19, .ref b20, .ref b21, .ref b22, .ref b23, .ref b24])), (b6, .inr (2, [.int b25, .int b26, .int b27, .ref b28, .ref b29, .ref b30])), (b28, .inl (G.2 0, 20, .inl b31)), (b29, .inl (G.2 0, 240, .inl b32)), (b22, .inr (10, [.int b33, .int b34, .int b35, .int b36, .int b37, .int b38, .int b39, .int b40, .int b41, .int b42]))] H := hP
      have hD := z_tie hP hD rfl
      have hv_21 : zI b2 0 2147483647 := by have _a := hq_16; have _b := (zI_all b2); have _c := zc_0; exact ⟨by omega, by omega⟩
      have hv_22 : zI b2 0 9 := by have _a := hq_17; have _b := hv_21; have _c := zc_10; exact ⟨by omega, by omega⟩
      refine W.widen (k := 0) (n := 0) (Nat.le_of_ble_eq_true rfl) (Nat.le_of_ble_eq_true rfl) ?_
      refine lv_if_eq (tgt := 26) hx hb d_X_rule_11 (by decide) (fun hc => absurd hc (by decide +kernel)) (fun _ => ?_)
      refine lv_iload_n hx hb d_X_rule_14 rfl (lv_at hl 3 rfl) ?_
      refine z_callS (index := 308) (As := [.int b3]) (rest := []) (wr := [(b0, .inr (0, [.ref b5, .ref b6, .ref b7, .ref b8, .int b9, .int b10, .ref b11, .ref b12, .ref b13, .ref b14, .ref b15, .ref b16, .ref b17, .ref b18, .ref b19, .ref b20, .ref b21, .ref b22, .ref b23, .ref b24])), (b6, .inr (2, [.int b25, .int b26, .int b27, .ref b28, .ref b29, .ref b30])), (b28, .inl (G.2 0, 20, .inl b31)), (b29, .inl (G.2 0, 240, .inl b32)), (b22, .inr (10, [.int b33, .int b34, .int b35, .int b36, .int b37, .int b38, .int b39, .int b40, .int b41, .int b42]))]) Z (s2_X_isLetter l G (b3)) hl.1 q918 q518 q1 q519 ⟨by decide, by decide, by show _ = some 1; decide +kernel⟩ ⟨Nat.le_of_ble_eq_true rfl, Nat.le_of_ble_eq_true rfl⟩ ⟨Nat.le_of_ble_eq_true rfl, Nat.le_of_ble_eq_true rfl⟩ rfl (Nat.le_of_ble_eq_true rfl) d_X_rule_15 hP hD hS hA [] [0, 1, 2, 3, 4] rfl rfl rfl rfl (by decide) (fun v w1 H locs hw_23 hP hD hS => ?_)
      rcases hw_23 with ⟨rfl, rfl, hq_24⟩ | ⟨rfl, rfl, hq_25, hq_26⟩ | ⟨rfl, rfl, hq_27, hq_28⟩
      · have hP : va_P G.1 classes [(b0, .inr (0, [.ref b5, .ref b6, .ref b7, .ref b8, .int b9, .int b10, .ref b11, .ref b12, .ref b13, .ref b14, .ref b15, .ref b16, .ref b17, .ref b18, .ref b19, .ref b20, .ref b21, .ref b22, .ref b23, .ref b24])), (b6, .inr (2, [.int b25, .int b26, .int b27, .ref b28, .ref b29, .ref b30])), (b28, .inl (G.2 0, 20, .inl b31)), (b29, .inl (G.2 0, 240, .inl b32)), (b22, .inr (10, [.int b33, .int b34, .int b35, .int b36, .int b37, .int b38, .int b39, .int b40, .int b41, .int b42]))] H := hP
        have hD := z_tie hP hD rfl
        have hv_29 : zI b3 (-2147483648) (-1) := by have _a := hq_24; have _b := (zI_all b3); have _c := zc_0; exact ⟨by omega, by omega⟩
        refine W.widen (k := 0) (n := 0) (Nat.le_of_ble_eq_true rfl) (Nat.le_of_ble_eq_true rfl) ?_
        refine lv_if_eq (tgt := 26) hx hb d_X_rule_18 (by decide) (fun _ => ?_) (fun hc => absurd hc (by decide +kernel))
        refine lv_iconst (v := (-1)) hx hb d_X_rule_26 (by decide) ?_
        exact z_iret hx hb hr hlocks hP hD hS (Nat.le_of_ble_eq_true rfl) (Nat.le_of_ble_eq_true rfl) d_X_rule_27 ⟨(-1), b33, b34, b35, b36, b37, b38, b39, b40, b41, b42, rfl, rfl, hb41, hb42⟩
      · have hP : va_P G.1 classes [(b0, .inr (0, [.ref b5, .ref b6, .ref b7, .ref b8, .int b9, .int b10, .ref b11, .ref b12, .ref b13, .ref b14, .ref b15, .ref b16, .ref b17, .ref b18, .ref b19, .ref b20, .ref b21, .ref b22, .ref b23, .ref b24])), (b6, .inr (2, [.int b25, .int b26, .int b27, .ref b28, .ref b29, .ref b30])), (b28, .inl (G.2 0, 20, .inl b31)), (b29, .inl (G.2 0, 240, .inl b32)), (b22, .inr (10, [.int b33, .int b34, .int b35, .int b36, .int b37, .int b38, .int b39, .int b40, .int b41, .int b42]))] H := hP
        have hD := z_tie hP hD rfl
        have hv_30 : zI b3 0 2147483647 := by have _a := hq_25; have _b := (zI_all b3); have _c := zc_0; exact ⟨by omega, by omega⟩
        have hv_31 : zI b3 10 2147483647 := by have _a := hq_26; have _b := hv_30; have _c := zc_10; exact ⟨by omega, by omega⟩
        refine W.widen (k := 0) (n := 0) (Nat.le_of_ble_eq_true rfl) (Nat.le_of_ble_eq_true rfl) ?_
        refine lv_if_eq (tgt := 26) hx hb d_X_rule_18 (by decide) (fun _ => ?_) (fun hc => absurd hc (by decide +kernel))
        refine lv_iconst (v := (-1)) hx hb d_X_rule_26 (by decide) ?_
        exact z_iret hx hb hr hlocks hP hD hS (Nat.le_of_ble_eq_true rfl) (Nat.le_of_ble_eq_true rfl) d_X_rule_27 ⟨(-1), b33, b34, b35, b36, b37, b38, b39, b40, b41, b42, rfl, rfl, hb41, hb42⟩
      · have hP : va_P G.1 classes [(b0, .inr (0, [.ref b5, .ref b6, .ref b7, .ref b8, .int b9, .int b10, .ref b11, .ref b12, .ref b13, .ref b14, .ref b15, .ref b16, .ref b17, .ref b18, .ref b19, .ref b20, .ref b21, .ref b22, .ref b23, .ref b24])), (b6, .inr (2, [.int b25, .int b26, .int b27, .ref b28, .ref b29, .ref b30])), (b28, .inl (G.2 0, 20, .inl b31)), (b29, .inl (G.2 0, 240, .inl b32)), (b22, .inr (10, [.int b33, .int b34, .int b35, .int b36, .int b37, .int b38, .int b39, .int b40, .int b41, .int b42]))] H := hP
        have hD := z_tie hP hD rfl
        have hv_32 : zI b3 0 2147483647 := by have _a := hq_27; have _b := (zI_all b3); have _c := zc_0; exact ⟨by omega, by omega⟩
        have hv_33 : zI b3 0 9 := by have _a := hq_28; have _b := hv_32; have _c := zc_10; exact ⟨by omega, by omega⟩
        refine W.widen (k := 0) (n := 0) (Nat.le_of_ble_eq_true rfl) (Nat.le_of_ble_eq_true rfl) ?_
        refine lv_if_eq (tgt := 26) hx hb d_X_rule_18 (by decide) (fun hc => absurd hc (by decide +kernel)) (fun _ => ?_)
        refine lv_iload_n hx hb d_X_rule_21 rfl (lv_at hl 2 rfl) ?_
        refine lv_iload_n hx hb d_X_rule_22 rfl (lv_at hl 3 rfl) ?_
        refine lv_icmp_ne (tgt := 28) hx hb d_X_rule_23 (by decide) (fun hc_34 => ?_) (fun hc_34 => ?_)
        · have _nhc_34 := hc_34
          have ni_35 : ¬ (b2 : Int32).toInt = (b3 : Int32).toInt := fun z => hc_34 ((fa_eq _ _).mpr z)
          refine lv_iload hx hb d_X_rule_28 (lv_at hl 4 rfl) ?_
          refine lv_if_eq (tgt := 41) hx hb d_X_rule_30 (by decide) (fun hc_36 => ?_) (fun hc_36 => ?_)
          · have _nhc_36 := hc_36
            have ni_37 := (fa_eq _ _).mp hc_36
            rw [li_0] at ni_37
            have hv_38 : zI b4 0 0 := zI.eq_l (zI_all b4) zc_0 hc_36
            refine lv_aload_n hx hb d_X_rule_41 rfl (lv_at hl 0 rfl) ?_
            refine va_get (D := G.1) (ci := 0) (v := .ref b22) (C := R_X) (T := F_X) (N := 20) hx hb hts i_X hown hK hP 0 rfl rfl 17 (by decide) (hts _ q434) (fun _ h9 => h9) rfl d_X_rule_42 ?_
            refine lv_aload_n hx hb d_X_rule_45 rfl (lv_at hl 0 rfl) ?_
            refine va_get (D := G.1) (ci := 0) (v := .ref b6) (C := R_X) (T := F_X) (N := 20) hx hb hts i_X hown hK hP 0 rfl rfl 1 (by decide) (hts _ q418) (fun _ h9 => h9) rfl d_X_rule_46 ?_
            refine lv_iload_n hx hb d_X_rule_49 rfl (lv_at hl 1 rfl) ?_
            refine lv_iload_n hx hb d_X_rule_50 rfl (lv_at hl 2 rfl) ?_
            refine lv_iload_n hx hb d_X_rule_51 rfl (lv_at hl 3 rfl) ?_
            refine z_callV (index := 311) (As := [.ref b6, .int b1, .int b2, .int b3]) (rest := []) (wr := [(b0, .inr (0, [.ref b5, .ref b6, .ref b7, .ref b8, .int b9, .int b10, .ref b11, .ref b12, .ref b13, .ref b14, .ref b15, .ref b16, .ref b17, .ref b18, .ref b19, .ref b20, .ref b21, .ref b22, .ref b23, .ref b24]))]) Z (s1_Pair_tally l G (b22) (b6) (b1) (b2) (b3) (b33) (b34) (b35) (b36) (b37) (b38) (b39) (b40) (b41) (b42) (b25) (b26) (b27) (b28) (b29) (b30) (b31) (b32) hb41 hb42 hb25 hb26 hb27 hb31 hb32) hl.1 q919 q920 q921 q11 q922 ⟨by decide, by decide, by show _ = some 4; decide +kernel⟩ ⟨Nat.le_of_ble_eq_true rfl, Nat.le_of_ble_eq_true rfl⟩ ⟨Nat.le_of_ble_eq_true rfl, Nat.le_of_ble_eq_true rfl⟩ rfl (Nat.le_of_ble_eq_true rfl) d_X_rule_52 hP hD hS hA 4 10 rfl rfl rfl [4, 1, 2, 3] [0] rfl rfl rfl rfl (by decide) (fun v w1 H locs hw_39 hP hD hS => ?_)
            refine Exists.elim hw_39 (fun x_40 hz_50 => Exists.elim hz_50 (fun x_41 hz_51 => Exists.elim hz_51 (fun x_42 hz_52 => Exists.elim hz_52 (fun x_43 hz_53 => Exists.elim hz_53 (fun x_44 hz_54 => Exists.elim hz_54 (fun x_45 hz_55 => Exists.elim hz_55 (fun x_46 hz_56 => Exists.elim hz_56 (fun x_47 hz_57 => Exists.elim hz_57 (fun x_48 hz_58 => Exists.elim hz_58 (fun x_49 hz_59 => ?_))))))))))
            clear hw_39 hz_50 hz_51 hz_52 hz_53 hz_54 hz_55 hz_56 hz_57 hz_58
            obtain ⟨rfl, rfl, hx_48, hx_49⟩ := hz_59
            have hP : va_P G.1 classes [(b0, .inr (0, [.ref b5, .ref b6, .ref b7, .ref b8, .int b9, .int b10, .ref b11, .ref b12, .ref b13, .ref b14, .ref b15, .ref b16, .ref b17, .ref b18, .ref b19, .ref b20, .ref b21, .ref b22, .ref b23, .ref b24])), (b22, .inr (10, [.int x_40, .int x_41, .int x_42, .int x_43, .int x_44, .int x_45, .int x_46, .int x_47, .int x_48, .int x_49])), (b6, .inr (2, [.int b25, .int b26, .int b27, .ref b28, .ref b29, .ref b30])), (b28, .inl (G.2 0, 20, .inl b31)), (b29, .inl (G.2 0, 240, .inl b32))] H := hP
            have hD := z_tie hP hD rfl
            refine W.widen (k := 0) (n := 0) (Nat.le_of_ble_eq_true rfl) (Nat.le_of_ble_eq_true rfl) ?_
            refine lv_iload hx hb d_X_rule_55 (lv_at hl 4 rfl) ?_
            refine lv_if_ne (tgt := 70) hx hb d_X_rule_57 (by decide) (fun hc => zI.no_ne hv_38 zc_0 hc) (fun _ => ?_)
            refine lv_aload_n hx hb d_X_rule_60 rfl (lv_at hl 0 rfl) ?_
            refine va_get (D := G.1) (ci := 0) (v := .ref b22) (C := R_X) (T := F_X) (N := 20) hx hb hts i_X hown hK hP 0 rfl rfl 17 (by decide) (hts _ q434) (fun _ h9 => h9) rfl d_X_rule_61 ?_
            refine va_get (D := G.1) (ci := 10) (v := .int x_40) (C := R_Pair) (T := F_Pair) (N := 10) hx hb hts i_Pair hown hK hP 1 rfl rfl 0 (by decide) (hts _ q364) (fun _ h9 => h9) rfl d_X_rule_64 ?_
            refine lv_goto (tgt := 77) hx hb d_X_rule_67 (by decide) ?_
            exact z_iret hx hb hr hlocks (hP.sub [0, 2, 3, 4, 1] rfl) (hD.sub [0, 2, 3, 4, 1] (by decide) rfl) hS (Nat.le_of_ble_eq_true rfl) (Nat.le_of_ble_eq_true rfl) d_X_rule_77 ⟨x_40, x_40, x_41, x_42, x_43, x_44, x_45, x_46, x_47, x_48, x_49, rfl, rfl, hx_48, hx_49⟩
          · have _nhc_36 := hc_36
            have ni_60 : ¬ (b4 : Int32).toInt = (0 : Int32).toInt := fun z => hc_36 ((fa_eq _ _).mpr z)
            simp only [li_0] at ni_60
            refine lv_iload hx hb d_X_rule_33 (lv_at hl 4 rfl) ?_
            refine lv_iconst (v := 1) hx hb d_X_rule_35 (by decide) ?_
            refine lv_icmp_eq (tgt := 41) hx hb d_X_rule_36 (by decide) (fun hc_61 => ?_) (fun hc_61 => ?_)
            · have _nhc_61 := hc_61
              have ni_62 := (fa_eq _ _).mp hc_61
              rw [li_1] at ni_62
              have hv_63 : zI b4 1 1 := zI.eq_l (zI_all b4) zc_1 hc_61
              refine lv_aload_n hx hb d_X_rule_41 rfl (lv_at hl 0 rfl) ?_
              refine va_get (D := G.1) (ci := 0) (v := .ref b22) (C := R_X) (T := F_X) (N := 20) hx hb hts i_X hown hK hP 0 rfl rfl 17 (by decide) (hts _ q434) (fun _ h9 => h9) rfl d_X_rule_42 ?_
              refine lv_aload_n hx hb d_X_rule_45 rfl (lv_at hl 0 rfl) ?_
              refine va_get (D := G.1) (ci := 0) (v := .ref b6) (C := R_X) (T := F_X) (N := 20) hx hb hts i_X hown hK hP 0 rfl rfl 1 (by decide) (hts _ q418) (fun _ h9 => h9) rfl d_X_rule_46 ?_
              refine lv_iload_n hx hb d_X_rule_49 rfl (lv_at hl 1 rfl) ?_
              refine lv_iload_n hx hb d_X_rule_50 rfl (lv_at hl 2 rfl) ?_
              refine lv_iload_n hx hb d_X_rule_51 rfl (lv_at hl 3 rfl) ?_
              refine z_callV (index := 311) (As := [.ref b6, .int b1, .int b2, .int b3]) (rest := []) (wr := [(b0, .inr (0, [.ref b5, .ref b6, .ref b7, .ref b8, .int b9, .int b10, .ref b11, .ref b12, .ref b13, .ref b14, .ref b15, .ref b16, .ref b17, .ref b18, .ref b19, .ref b20, .ref b21, .ref b22, .ref b23, .ref b24]))]) Z (s1_Pair_tally l G (b22) (b6) (b1) (b2) (b3) (b33) (b34) (b35) (b36) (b37) (b38) (b39) (b40) (b41) (b42) (b25) (b26) (b27) (b28) (b29) (b30) (b31) (b32) hb41 hb42 hb25 hb26 hb27 hb31 hb32) hl.1 q919 q920 q921 q11 q922 ⟨by decide, by decide, by show _ = some 4; decide +kernel⟩ ⟨Nat.le_of_ble_eq_true rfl, Nat.le_of_ble_eq_true rfl⟩ ⟨Nat.le_of_ble_eq_true rfl, Nat.le_of_ble_eq_true rfl⟩ rfl (Nat.le_of_ble_eq_true rfl) d_X_rule_52 hP hD hS hA 4 10 rfl rfl rfl [4, 1, 2, 3] [0] rfl rfl rfl rfl (by decide) (fun v w1 H locs hw_64 hP hD hS => ?_)
              refine Exists.elim hw_64 (fun x_65 hz_75 => Exists.elim hz_75 (fun x_66 hz_76 => Exists.elim hz_76 (fun x_67 hz_77 => Exists.elim hz_77 (fun x_68 hz_78 => Exists.elim hz_78 (fun x_69 hz_79 => Exists.elim hz_79 (fun x_70 hz_80 => Exists.elim hz_80 (fun x_71 hz_81 => Exists.elim hz_81 (fun x_72 hz_82 => Exists.elim hz_82 (fun x_73 hz_83 => Exists.elim hz_83 (fun x_74 hz_84 => ?_))))))))))
              clear hw_64 hz_75 hz_76 hz_77 hz_78 hz_79 hz_80 hz_81 hz_82 hz_83
              obtain ⟨rfl, rfl, hx_73, hx_74⟩ := hz_84
              have hP : va_P G.1 classes [(b0, .inr (0, [.ref b5, .ref b6, .ref b7, .ref b8, .int b9, .int b10, .ref b11, .ref b12, .ref b13, .ref b14, .ref b15, .ref b16, .ref b17, .ref b18, .ref b19, .ref b20, .ref b21, .ref b22, .ref b23, .ref b24])), (b22, .inr (10, [.int x_65, .int x_66, .int x_67, .int x_68, .int x_69, .int x_70, .int x_71, .int x_72, .int x_73, .int x_74])), (b6, .inr (2, [.int b25, .int b26, .int b27, .ref b28, .ref b29, .ref b30])), (b28, .inl (G.2 0, 20, .inl b31)), (b29, .inl (G.2 0, 240, .inl b32))] H := hP
              have hD := z_tie hP hD rfl
              refine W.widen (k := 0) (n := 0) (Nat.le_of_ble_eq_true rfl) (Nat.le_of_ble_eq_true rfl) ?_
              refine lv_iload hx hb d_X_rule_55 (lv_at hl 4 rfl) ?_
              refine lv_if_ne (tgt := 70) hx hb d_X_rule_57 (by decide) (fun _ => ?_) (fun hc => zI.no_eq hv_63 zc_0 hc (by decide))
              refine lv_aload_n hx hb d_X_rule_70 rfl (lv_at hl 0 rfl) ?_
              refine va_get (D := G.1) (ci := 0) (v := .ref b22) (C := R_X) (T := F_X) (N := 20) hx hb hts i_X hown hK hP 0 rfl rfl 17 (by decide) (hts _ q434) (fun _ h9 => h9) rfl d_X_rule_71 ?_
              refine va_get (D := G.1) (ci := 10) (v := .int x_66) (C := R_Pair) (T := F_Pair) (N := 10) hx hb hts i_Pair hown hK hP 1 rfl rfl 1 (by decide) (hts _ q366) (fun _ h9 => h9) rfl d_X_rule_74 ?_
              exact z_iret hx hb hr hlocks (hP.sub [0, 2, 3, 4, 1] rfl) (hD.sub [0, 2, 3, 4, 1] (by decide) rfl) hS (Nat.le_of_ble_eq_true rfl) (Nat.le_of_ble_eq_true rfl) d_X_rule_77 ⟨x_66, x_65, x_66, x_67, x_68, x_69, x_70, x_71, x_72, x_73, x_74, rfl, rfl, hx_73, hx_74⟩
            · have _nhc_61 := hc_61
              have ni_85 : ¬ (b4 : Int32).toInt = (1 : Int32).toInt := fun z => hc_61 ((fa_eq _ _).mpr z)
              simp only [li_1] at ni_85
              refine lv_iconst (v := (-1)) hx hb d_X_rule_39 (by decide) ?_
              exact z_iret hx hb hr hlocks hP hD hS (Nat.le_of_ble_eq_true rfl) (Nat.le_of_ble_eq_true rfl) d_X_rule_40 ⟨(-1), b33, b34, b35, b36, b37, b38, b39, b40, b41, b42, rfl, rfl, hb41, hb42⟩
        · have _nhc_34 := hc_34
          have ni_86 := (fa_eq _ _).mp hc_34
          refine lv_iconst (v := (-1)) hx hb d_X_rule_26 (by decide) ?_
          exact z_iret hx hb hr hlocks hP hD hS (Nat.le_of_ble_eq_true rfl) (Nat.le_of_ble_eq_true rfl) d_X_rule_27 ⟨(-1), b33, b34, b35, b36, b37, b38, b39, b40, b41, b42, rfl, rfl, hb41, hb42⟩
theorem d_X_rules_0 : decode prog_1_method_21_code 0 = .ok (.iload_n 1, 1) := by decide +kernel
theorem d_X_rules_1 : decode prog_1_method_21_code 1 = .ok (.invokestatic 305, 3) := by decide +kernel
theorem d_X_rules_4 : decode prog_1_method_21_code 4 = .ok (.ifCond .eq 19, 3) := by decide +kernel
theorem d_X_rules_7 : decode prog_1_method_21_code 7 = .ok (.iload_n 2, 1) := by decide +kernel
theorem d_X_rules_8 : decode prog_1_method_21_code 8 = .ok (.iconst 1, 1) := by decide +kernel
theorem d_X_rules_9 : decode prog_1_method_21_code 9 = .ok (.if_icmp .lt 14, 3) := by decide +kernel
theorem d_X_rules_12 : decode prog_1_method_21_code 12 = .ok (.iload_n 2, 1) := by decide +kernel
theorem d_X_rules_13 : decode prog_1_method_21_code 13 = .ok (.bipush 20, 2) := by decide +kernel
theorem d_X_rules_15 : decode prog_1_method_21_code 15 = .ok (.if_icmp .gt 8, 3) := by decide +kernel
theorem d_X_rules_18 : decode prog_1_method_21_code 18 = .ok (.iload_n 3, 1) := by decide +kernel
theorem d_X_rules_19 : decode prog_1_method_21_code 19 = .ok (.iconst (-1), 1) := by decide +kernel
theorem d_X_rules_20 : decode prog_1_method_21_code 20 = .ok (.if_icmp .ge 5, 3) := by decide +kernel
theorem d_X_rules_23 : decode prog_1_method_21_code 23 = .ok (.iconst (-1), 1) := by decide +kernel
theorem d_X_rules_24 : decode prog_1_method_21_code 24 = .ok (.ireturn, 1) := by decide +kernel
theorem d_X_rules_25 : decode prog_1_method_21_code 25 = .ok (.iconst 0, 1) := by decide +kernel
theorem d_X_rules_26 : decode prog_1_method_21_code 26 = .ok (.istore 4, 2) := by decide +kernel
theorem d_X_rules_28 : decode prog_1_method_21_code 28 = .ok (.iconst 0, 1) := by decide +kernel
theorem d_X_rules_29 : decode prog_1_method_21_code 29 = .ok (.istore 5, 2) := by decide +kernel
theorem d_X_rules_31 : decode prog_1_method_21_code 31 = .ok (.iload 5, 2) := by decide +kernel
theorem d_X_rules_33 : decode prog_1_method_21_code 33 = .ok (.bipush 100, 2) := by decide +kernel
theorem d_X_rules_35 : decode prog_1_method_21_code 35 = .ok (.if_icmp .ge 62, 3) := by decide +kernel
theorem d_X_rules_38 : decode prog_1_method_21_code 38 = .ok (.iload 5, 2) := by decide +kernel
theorem d_X_rules_40 : decode prog_1_method_21_code 40 = .ok (.bipush 10, 2) := by decide +kernel
theorem d_X_rules_42 : decode prog_1_method_21_code 42 = .ok (.idiv, 1) := by decide +kernel
theorem d_X_rules_43 : decode prog_1_method_21_code 43 = .ok (.istore 6, 2) := by decide +kernel
theorem d_X_rules_45 : decode prog_1_method_21_code 45 = .ok (.iload 5, 2) := by decide +kernel
theorem d_X_rules_47 : decode prog_1_method_21_code 47 = .ok (.bipush 10, 2) := by decide +kernel
theorem d_X_rules_49 : decode prog_1_method_21_code 49 = .ok (.irem, 1) := by decide +kernel
theorem d_X_rules_50 : decode prog_1_method_21_code 50 = .ok (.istore 7, 2) := by decide +kernel
theorem d_X_rules_52 : decode prog_1_method_21_code 52 = .ok (.iload 6, 2) := by decide +kernel
theorem d_X_rules_54 : decode prog_1_method_21_code 54 = .ok (.iload 7, 2) := by decide +kernel
theorem d_X_rules_56 : decode prog_1_method_21_code 56 = .ok (.if_icmp .eq 35, 3) := by decide +kernel
theorem d_X_rules_59 : decode prog_1_method_21_code 59 = .ok (.aload_n 0, 1) := by decide +kernel
theorem d_X_rules_60 : decode prog_1_method_21_code 60 = .ok (.getfield 98, 3) := by decide +kernel
theorem d_X_rules_63 : decode prog_1_method_21_code 63 = .ok (.aload_n 0, 1) := by decide +kernel
theorem d_X_rules_64 : decode prog_1_method_21_code 64 = .ok (.getfield 19, 3) := by decide +kernel
theorem d_X_rules_67 : decode prog_1_method_21_code 67 = .ok (.iload_n 1, 1) := by decide +kernel
theorem d_X_rules_68 : decode prog_1_method_21_code 68 = .ok (.iload 6, 2) := by decide +kernel
theorem d_X_rules_70 : decode prog_1_method_21_code 70 = .ok (.iload 7, 2) := by decide +kernel
theorem d_X_rules_72 : decode prog_1_method_21_code 72 = .ok (.iload_n 2, 1) := by decide +kernel
theorem d_X_rules_73 : decode prog_1_method_21_code 73 = .ok (.invokevirtual 321, 3) := by decide +kernel
theorem d_X_rules_76 : decode prog_1_method_21_code 76 = .ok (.ifCond .eq 15, 3) := by decide +kernel
theorem d_X_rules_79 : decode prog_1_method_21_code 79 = .ok (.iload 4, 2) := by decide +kernel
theorem d_X_rules_81 : decode prog_1_method_21_code 81 = .ok (.iload_n 3, 1) := by decide +kernel
theorem d_X_rules_82 : decode prog_1_method_21_code 82 = .ok (.if_icmp .ne 6, 3) := by decide +kernel
theorem d_X_rules_85 : decode prog_1_method_21_code 85 = .ok (.iload 5, 2) := by decide +kernel
theorem d_X_rules_87 : decode prog_1_method_21_code 87 = .ok (.ireturn, 1) := by decide +kernel
theorem d_X_rules_88 : decode prog_1_method_21_code 88 = .ok (.iinc 4 1, 3) := by decide +kernel
theorem d_X_rules_91 : decode prog_1_method_21_code 91 = .ok (.iinc 5 1, 3) := by decide +kernel
theorem d_X_rules_94 : decode prog_1_method_21_code 94 = .ok (.goto (-63), 3) := by decide +kernel
theorem d_X_rules_97 : decode prog_1_method_21_code 97 = .ok (.iload_n 3, 1) := by decide +kernel
theorem d_X_rules_98 : decode prog_1_method_21_code 98 = .ok (.iconst (-1), 1) := by decide +kernel
theorem d_X_rules_99 : decode prog_1_method_21_code 99 = .ok (.if_icmp .ne 8, 3) := by decide +kernel
theorem d_X_rules_102 : decode prog_1_method_21_code 102 = .ok (.iload 4, 2) := by decide +kernel
theorem d_X_rules_104 : decode prog_1_method_21_code 104 = .ok (.goto 4, 3) := by decide +kernel
theorem d_X_rules_107 : decode prog_1_method_21_code 107 = .ok (.iconst (-1), 1) := by decide +kernel
theorem d_X_rules_108 : decode prog_1_method_21_code 108 = .ok (.ireturn, 1) := by decide +kernel
theorem zc_100 : zI 100 100 100 := ⟨by decide +kernel, by decide +kernel⟩
theorem li_100 : (100 : Int32).toInt = 100 := by decide +kernel
abbrev m_s1_X_rules : Room := { frames := 4, cells := 0, slots := 0, locals := 99 }
set_option maxHeartbeats 4000000 in
set_option maxRecDepth 100000 in
theorem s1_X_rules (l : Launch) (G : zG) (b0 : Nat) (b1 : Int32) (b2 : Int32) (b3 : Int32) (b4 : Nat) (b5 : Nat) (b6 : Nat) (b7 : Nat) (b8 : Int32) (b9 : Int32) (b10 : Nat) (b11 : Nat) (b12 : Nat) (b13 : Nat) (b14 : Nat) (b15 : Nat) (b16 : Nat) (b17 : Nat) (b18 : Nat) (b19 : Nat) (b20 : Nat) (b21 : Nat) (b22 : Nat) (b23 : Nat) (b24 : Int32) (b25 : Int32) (b26 : Int32) (b27 : Nat) (b28 : Nat) (b29 : Nat) (b30 : Nat → Int32) (b31 : Nat → Int32) (b32 : Int32) (b33 : Int32) (b34 : Int32) (b35 : Int32) (b36 : Int32) (b37 : Int32) (b38 : Int32) (b39 : Int32) (b40 : Int32) (b41 : Int32) (hb8 : zI b8 0 7) (hb9 : zI b9 0 8) (hb24 : zI b24 0 20) (hb25 : zI b25 0 3) (hb26 : zI b26 0 20) (hb40 : zI b40 0 1) (hb41 : zI b41 0 1) (hb30 : zR b30 0 12) (hb31 : zR b31 0 9) : zM l G y_X_rules prog_1_method_21_code 8 (Option.some Jvm.ClassFile.FieldType.int) m_s1_X_rules [.ref b0, .int b1, .int b2, .int b3] [(b0, .inr (0, [.ref b4, .ref b5, .ref b6, .ref b7, .int b8, .int b9, .ref b10, .ref b11, .ref b12, .ref b13, .ref b14, .ref b15, .ref b16, .ref b17, .ref b18, .ref b19, .ref b20, .ref b21, .ref b22, .ref b23])), (b5, .inr (2, [.int b24, .int b25, .int b26, .ref b27, .ref b28, .ref b29])), (b27, .inl (G.2 0, 20, .inl b30)), (b28, .inl (G.2 0, 240, .inl b31)), (b21, .inr (10, [.int b32, .int b33, .int b34, .int b35, .int b36, .int b37, .int b38, .int b39, .int b40, .int b41]))] (fun v w => ∃ (e0 : Int32), ∃ (e1 : Int32), ∃ (e2 : Int32), ∃ (e3 : Int32), ∃ (e4 : Int32), ∃ (e5 : Int32), ∃ (e6 : Int32), ∃ (e7 : Int32), ∃ (e8 : Int32), ∃ (e9 : Int32), ∃ (e10 : Int32), v = some (.int e0) ∧ w = [(b0, .inr (0, [.ref b4, .ref b5, .ref b6, .ref b7, .int b8, .int b9, .ref b10, .ref b11, .ref b12, .ref b13, .ref b14, .ref b15, .ref b16, .ref b17, .ref b18, .ref b19, .ref b20, .ref b21, .ref b22, .ref b23])), (b5, .inr (2, [.int b24, .int b25, .int b26, .ref b27, .ref b28, .ref b29])), (b27, .inl (G.2 0, 20, .inl b30)), (b28, .inl (G.2 0, 240, .inl b31)), (b21, .inr (10, [.int e1, .int e2, .int e3, .int e4, .int e5, .int e6, .int e7, .int e8, .int e9, .int e10]))] ∧ (zI e9 0 1) ∧ (zI e10 0 1)) := by
  refine z_start (by decide +kernel) (Nat.le_of_ble_eq_true rfl) ?_
  intro p e s m below meth c A Z hr hnm hA hP hD hS ls hl
  have Z : zC p s m _ meth c prog_1_method_21_code 8 "TraceMachines" G := Z
  obtain ⟨hx, hb, hml, hown, hts, hK, hN, hlocks⟩ := id Z
  have hl : lv_has ls 8 [(0, .ref b0), (1, .int b1), (2, .int b2), (3, .int b3)] := hl
  refine lv_iload_n hx hb d_X_rules_0 rfl (lv_at hl 1 rfl) ?_
  refine z_callS (index := 305) (As := [.int b1]) (rest := []) (wr := [(b0, .inr (0, [.ref b4, .ref b5, .ref b6, .ref b7, .int b8, .int b9, .ref b10, .ref b11, .ref b12, .ref b13, .ref b14, .ref b15, .ref b16, .ref b17, .ref b18, .ref b19, .ref b20, .ref b21, .ref b22, .ref b23])), (b5, .inr (2, [.int b24, .int b25, .int b26, .ref b27, .ref b28, .ref b29])), (b27, .inl (G.2 0, 20, .inl b30)), (b28, .inl (G.2 0, 240, .inl b31)), (b21, .inr (10, [.int b32, .int b33, .int b34, .int b35, .int b36, .int b37, .int b38, .int b39, .int b40, .int b41]))]) Z (s2_X_isKind l G (b1)) hl.1 q915 q916 q1 q917 ⟨by decide, by decide, by show _ = some 1; decide +kernel⟩ ⟨Nat.le_of_ble_eq_true rfl, Nat.le_of_ble_eq_true rfl⟩ ⟨Nat.le_of_ble_eq_true rfl, Nat.le_of_ble_eq_true rfl⟩ rfl (Nat.le_of_ble_eq_true rfl) d_X_rules_1 hP hD hS hA [] [0, 1, 2, 3, 4] rfl rfl rfl rfl (by decide) (fun v w1 H locs hw_1 hP hD hS => ?_)
  rcases hw_1 with ⟨rfl, rfl, hq_2⟩ | ⟨rfl, rfl, hq_3, hq_4⟩ | ⟨rfl, rfl, hq_5, hq_6⟩
  · have hP : va_P G.1 classes [(b0, .inr (0, [.ref b4, .ref b5, .ref b6, .ref b7, .int b8, .int b9, .ref b10, .ref b11, .ref b12, .ref b13, .ref b14, .ref b15, .ref b16, .ref b17, .ref b18, .ref b19, .ref b20, .ref b21, .ref b22, .ref b23])), (b5, .inr (2, [.int b24, .int b25, .int b26, .ref b27, .ref b28, .ref b29])), (b27, .inl (G.2 0, 20, .inl b30)), (b28, .inl (G.2 0, 240, .inl b31)), (b21, .inr (10, [.int b32, .int b33, .int b34, .int b35, .int b36, .int b37, .int b38, .int b39, .int b40, .int b41]))] H := hP
    have hD := z_tie hP hD rfl
    have hv_7 : zI b1 (-2147483648) (-1) := by have _a := hq_2; have _b := (zI_all b1); have _c := zc_0; exact ⟨by omega, by omega⟩
    refine W.widen (k := 0) (n := 0) (Nat.le_of_ble_eq_true rfl) (Nat.le_of_ble_eq_true rfl) ?_
    refine lv_if_eq (tgt := 23) hx hb d_X_rules_4 (by decide) (fun _ => ?_) (fun hc => absurd hc (by decide +kernel))
    refine lv_iconst (v := (-1)) hx hb d_X_rules_23 (by decide) ?_
    exact z_iret hx hb hr hlocks hP hD hS (Nat.le_of_ble_eq_true rfl) (Nat.le_of_ble_eq_true rfl) d_X_rules_24 ⟨(-1), b32, b33, b34, b35, b36, b37, b38, b39, b40, b41, rfl, rfl, hb40, hb41⟩
  · have hP : va_P G.1 classes [(b0, .inr (0, [.ref b4, .ref b5, .ref b6, .ref b7, .int b8, .int b9, .ref b10, .ref b11, .ref b12, .ref b13, .ref b14, .ref b15, .ref b16, .ref b17, .ref b18, .ref b19, .ref b20, .ref b21, .ref b22, .ref b23])), (b5, .inr (2, [.int b24, .int b25, .int b26, .ref b27, .ref b28, .ref b29])), (b27, .inl (G.2 0, 20, .inl b30)), (b28, .inl (G.2 0, 240, .inl b31)), (b21, .inr (10, [.int b32, .int b33, .int b34, .int b35, .int b36, .int b37, .int b38, .int b39, .int b40, .int b41]))] H := hP
    have hD := z_tie hP hD rfl
    have hv_8 : zI b1 0 2147483647 := by have _a := hq_3; have _b := (zI_all b1); have _c := zc_0; exact ⟨by omega, by omega⟩
    have hv_9 : zI b1 6 2147483647 := by have _a := hq_4; have _b := hv_8; have _c := zc_6; exact ⟨by omega, by omega⟩
    refine W.widen (k := 0) (n := 0) (Nat.le_of_ble_eq_true rfl) (Nat.le_of_ble_eq_true rfl) ?_
    refine lv_if_eq (tgt := 23) hx hb d_X_rules_4 (by decide) (fun _ => ?_) (fun hc => absurd hc (by decide +kernel))
    refine lv_iconst (v := (-1)) hx hb d_X_rules_23 (by decide) ?_
    exact z_iret hx hb hr hlocks hP hD hS (Nat.le_of_ble_eq_true rfl) (Nat.le_of_ble_eq_true rfl) d_X_rules_24 ⟨(-1), b32, b33, b34, b35, b36, b37, b38, b39, b40, b41, rfl, rfl, hb40, hb41⟩
  · have hP : va_P G.1 classes [(b0, .inr (0, [.ref b4, .ref b5, .ref b6, .ref b7, .int b8, .int b9, .ref b10, .ref b11, .ref b12, .ref b13, .ref b14, .ref b15, .ref b16, .ref b17, .ref b18, .ref b19, .ref b20, .ref b21, .ref b22, .ref b23])), (b5, .inr (2, [.int b24, .int b25, .int b26, .ref b27, .ref b28, .ref b29])), (b27, .inl (G.2 0, 20, .inl b30)), (b28, .inl (G.2 0, 240, .inl b31)), (b21, .inr (10, [.int b32, .int b33, .int b34, .int b35, .int b36, .int b37, .int b38, .int b39, .int b40, .int b41]))] H := hP
    have hD := z_tie hP hD rfl
    have hv_10 : zI b1 0 2147483647 := by have _a := hq_5; have _b := (zI_all b1); have _c := zc_0; exact ⟨by omega, by omega⟩
    have hv_11 : zI b1 0 5 := by have _a := hq_6; have _b := hv_10; have _c := zc_6; exact ⟨by omega, by omega⟩
    refine W.widen (k := 0) (n := 0) (Nat.le_of_ble_eq_true rfl) (Nat.le_of_ble_eq_true rfl) ?_
    refine lv_if_eq (tgt := 23) hx hb d_X_rules_4 (by decide) (fun hc => absurd hc (by decide +kernel)) (fun _ => ?_)
    refine lv_iload_n hx hb d_X_rules_7 rfl (lv_at hl 2 rfl) ?_
    refine lv_iconst (v := 1) hx hb d_X_rules_8 (by decide) ?_
    refine lv_icmp_lt (tgt := 23) hx hb d_X_rules_9 (by decide) (fun hc_12 => ?_) (fun hc_12 => ?_)
    · have _nhc_12 := hc_12
      have ni_13 := (fa_lt _ _).mp hc_12
      rw [li_1] at ni_13
      have hv_14 : zI b2 (-2147483648) 0 := zI.lt_l (zI_all b2) zc_1 hc_12 (by decide)
      refine lv_iconst (v := (-1)) hx hb d_X_rules_23 (by decide) ?_
      exact z_iret hx hb hr hlocks hP hD hS (Nat.le_of_ble_eq_true rfl) (Nat.le_of_ble_eq_true rfl) d_X_rules_24 ⟨(-1), b32, b33, b34, b35, b36, b37, b38, b39, b40, b41, rfl, rfl, hb40, hb41⟩
    · have _nhc_12 := hc_12
      have ni_15 := (fa_le _ _).mp (zi_nlt hc_12)
      rw [li_1] at ni_15
      have hv_16 : zI b2 1 2147483647 := zI.le_r zc_1 (zI_all b2) (zi_nlt hc_12) (by decide)
      refine lv_iload_n hx hb d_X_rules_12 rfl (lv_at hl 2 rfl) ?_
      refine lv_bipush (v := 20) hx hb d_X_rules_13 (by decide) ?_
      refine lv_icmp_gt (tgt := 23) hx hb d_X_rules_15 (by decide) (fun hc_17 => ?_) (fun hc_17 => ?_)
      · have _nhc_17 := hc_17
        have ni_18 := (fa_lt _ _).mp hc_17
        rw [li_20] at ni_18
        have hv_19 : zI b2 21 2147483647 := zI.lt_r zc_20 hv_16 hc_17 (by decide)
        refine lv_iconst (v := (-1)) hx hb d_X_rules_23 (by decide) ?_
        exact z_iret hx hb hr hlocks hP hD hS (Nat.le_of_ble_eq_true rfl) (Nat.le_of_ble_eq_true rfl) d_X_rules_24 ⟨(-1), b32, b33, b34, b35, b36, b37, b38, b39, b40, b41, rfl, rfl, hb40, hb41⟩
      · have _nhc_17 := hc_17
        have ni_20 := (fa_le _ _).mp (zi_nlt hc_17)
        rw [li_20] at ni_20
        have hv_21 : zI b2 1 20 := zI.le_l hv_16 zc_20 (zi_nlt hc_17) (by decide)
        refine lv_iload_n hx hb d_X_rules_18 rfl (lv_at hl 3 rfl) ?_
        refine lv_iconst (v := (-1)) hx hb d_X_rules_19 (by decide) ?_
        refine lv_icmp_ge (tgt := 25) hx hb d_X_rules_20 (by decide) (fun hc_22 => ?_) (fun hc_22 => ?_)
        · have _nhc_22 := hc_22
          have ni_23 := (fa_le _ _).mp hc_22
          rw [li_m1] at ni_23
          have hv_24 : zI b3 (-1) 2147483647 := zI.le_r zc_m1 (zI_all b3) hc_22 (by decide)
          refine lv_iconst (v := 0) hx hb d_X_rules_25 (by decide) ?_
          refine lv_istore (lv' := [(4, .int 0), (0, .ref b0), (1, .int b1), (2, .int b2), (3, .int b3)]) hx hb d_X_rules_26 hl (by decide) rfl (fun ls hl => ?_)
          refine lv_iconst (v := 0) hx hb d_X_rules_28 (by decide) ?_
          refine lv_istore (lv' := [(5, .int 0), (4, .int 0), (0, .ref b0), (1, .int b1), (2, .int b2), (3, .int b3)]) hx hb d_X_rules_29 hl (by decide) rfl (fun ls hl => ?_)
          suffices key : ∀ (k_88 : Nat) (y_89 : Int32) (y_90 : Int32) (y_91 : Int32) (y_92 : Int32) (y_93 : Int32) (y_94 : Int32) (y_95 : Int32) (y_96 : Int32) (y_97 : Int32) (y_98 : Int32) (y_99 : Int32) (y_100 : Int32) (H : Heap) (locs : List Loc) (ls : Array Slot), (zI y_89 0 100) → (zI y_98 0 1) → (zI y_99 0 1) → (100 : Int) - y_89.toInt < (k_88 : Int) → va_P G.1 classes [(b0, .inr (0, [.ref b4, .ref b5, .ref b6, .ref b7, .int b8, .int b9, .ref b10, .ref b11, .ref b12, .ref b13, .ref b14, .ref b15, .ref b16, .ref b17, .ref b18, .ref b19, .ref b20, .ref b21, .ref b22, .ref b23])), (b5, .inr (2, [.int b24, .int b25, .int b26, .ref b27, .ref b28, .ref b29])), (b27, .inl (G.2 0, 20, .inl b30)), (b28, .inl (G.2 0, 240, .inl b31)), (b21, .inr (10, [.int y_90, .int y_91, .int y_92, .int y_93, .int y_94, .int y_95, .int y_96, .int y_97, .int y_98, .int y_99]))] H → va_D A [(b0, .inr (0, [.ref b4, .ref b5, .ref b6, .ref b7, .int b8, .int b9, .ref b10, .ref b11, .ref b12, .ref b13, .ref b14, .ref b15, .ref b16, .ref b17, .ref b18, .ref b19, .ref b20, .ref b21, .ref b22, .ref b23])), (b5, .inr (2, [.int b24, .int b25, .int b26, .ref b27, .ref b28, .ref b29])), (b27, .inl (G.2 0, 20, .inl b30)), (b28, .inl (G.2 0, 240, .inl b31)), (b21, .inr (10, [.int y_90, .int y_91, .int y_92, .int y_93, .int y_94, .int y_95, .int y_96, .int y_97, .int y_98, .int y_99]))] → va_S A s.heap H locs → lv_has ls 8 [(5, .int y_89), (4, .int y_100), (0, .ref b0), (1, .int b1), (2, .int b2), (3, .int b3)] → W p l e m_s1_X_rules s m ([.ref b0, .int b1, .int b2, .int b3] : List Value).toArray below meth c H locs 0 0 (MQ below (zQ G (fun v w => ∃ (e0 : Int32), ∃ (e1 : Int32), ∃ (e2 : Int32), ∃ (e3 : Int32), ∃ (e4 : Int32), ∃ (e5 : Int32), ∃ (e6 : Int32), ∃ (e7 : Int32), ∃ (e8 : Int32), ∃ (e9 : Int32), ∃ (e10 : Int32), v = some (.int e0) ∧ w = [(b0, .inr (0, [.ref b4, .ref b5, .ref b6, .ref b7, .int b8, .int b9, .ref b10, .ref b11, .ref b12, .ref b13, .ref b14, .ref b15, .ref b16, .ref b17, .ref b18, .ref b19, .ref b20, .ref b21, .ref b22, .ref b23])), (b5, .inr (2, [.int b24, .int b25, .int b26, .ref b27, .ref b28, .ref b29])), (b27, .inl (G.2 0, 20, .inl b30)), (b28, .inl (G.2 0, 240, .inl b31)), (b21, .inr (10, [.int e1, .int e2, .int e3, .int e4, .int e5, .int e6, .int e7, .int e8, .int e9, .int e10]))] ∧ (zI e9 0 1) ∧ (zI e10 0 1)) A) ([.ref b0, .int b1, .int b2, .int b3] : List Value).toArray s m_s1_X_rules.cells m_s1_X_rules.slots A) (F0 m 31 ls []) by
            exact key 101 (0) (b32) (b33) (b34) (b35) (b36) (b37) (b38) (b39) (b40) (b41) (0) _ _ _ (zI.wk (l' := 0) (h' := 100) zc_0 (by decide)) hb40 hb41 (zm_upi (zI.wk (l' := 0) (h' := 100) zc_0 (by decide)) (by decide)) hP hD hS (lv_sub hl [0, 1, 2, 3, 4, 5] rfl)
          intro k_88
          induction k_88 with
          | zero =>
            intro y_89 y_90 y_91 y_92 y_93 y_94 y_95 y_96 y_97 y_98 y_99 y_100 H locs ls hy_89 hy_98 hy_99 hmk_88 hP hD hS hl
            exact (zm_up0 hy_89 hmk_88).elim
          | succ k_88 ihk_88 =>
            intro y_89 y_90 y_91 y_92 y_93 y_94 y_95 y_96 y_97 y_98 y_99 y_100 H locs ls hy_89 hy_98 hy_99 hmk_88 hP hD hS hl
            refine lv_iload hx hb d_X_rules_31 (lv_at hl 0 rfl) ?_
            refine lv_bipush (v := 100) hx hb d_X_rules_33 (by decide) ?_
            refine lv_icmp_ge (tgt := 97) hx hb d_X_rules_35 (by decide) (fun hc_101 => ?_) (fun hc_101 => ?_)
            · have _nhc_101 := hc_101
              have ni_102 := (fa_le _ _).mp hc_101
              rw [li_100] at ni_102
              have hv_103 : zI y_89 100 100 := zI.le_r zc_100 hy_89 hc_101 (by decide)
              refine lv_iload_n hx hb d_X_rules_97 rfl (lv_at hl 5 rfl) ?_
              refine lv_iconst (v := (-1)) hx hb d_X_rules_98 (by decide) ?_
              refine lv_icmp_ne (tgt := 107) hx hb d_X_rules_99 (by decide) (fun hc_104 => ?_) (fun hc_104 => ?_)
              · have _nhc_104 := hc_104
                have ni_105 : ¬ (b3 : Int32).toInt = ((-1) : Int32).toInt := fun z => hc_104 ((fa_eq _ _).mpr z)
                simp only [li_m1] at ni_105
                have hv_106 : zI b3 0 2147483647 := zI.ne_lo hv_24 zc_m1 hc_104 (by decide)
                refine lv_iconst (v := (-1)) hx hb d_X_rules_107 (by decide) ?_
                exact z_iret hx hb hr hlocks hP hD hS (Nat.le_of_ble_eq_true rfl) (Nat.le_of_ble_eq_true rfl) d_X_rules_108 ⟨(-1), y_90, y_91, y_92, y_93, y_94, y_95, y_96, y_97, y_98, y_99, rfl, rfl, hy_98, hy_99⟩
              · have _nhc_104 := hc_104
                have ni_107 := (fa_eq _ _).mp hc_104
                rw [li_m1] at ni_107
                have hv_108 : zI b3 (-1) (-1) := zI.eq_l hv_24 zc_m1 hc_104
                refine lv_iload hx hb d_X_rules_102 (lv_at hl 1 rfl) ?_
                refine lv_goto (tgt := 108) hx hb d_X_rules_104 (by decide) ?_
                exact z_iret hx hb hr hlocks hP hD hS (Nat.le_of_ble_eq_true rfl) (Nat.le_of_ble_eq_true rfl) d_X_rules_108 ⟨y_100, y_90, y_91, y_92, y_93, y_94, y_95, y_96, y_97, y_98, y_99, rfl, rfl, hy_98, hy_99⟩
            · have _nhc_101 := hc_101
              have ni_109 := (fa_lt _ _).mp (zi_nle hc_101)
              rw [li_100] at ni_109
              have hv_110 : zI y_89 0 99 := zI.lt_l hy_89 zc_100 (zi_nle hc_101) (by decide)
              refine lv_iload hx hb d_X_rules_38 (lv_at hl 0 rfl) ?_
              refine lv_bipush (v := 10) hx hb d_X_rules_40 (by decide) ?_
              refine lv_idiv hx hb d_X_rules_42 (by decide +kernel) ?_
              refine lv_topi (fun v_111 ev_111 => ?_)
              obtain ⟨qv_111, hv_111⟩ := zI_div (l := 0) (h := 9) (d := 10) hv_110 rfl ev_111 (by decide)
              refine lv_istore (lv' := [(6, .int v_111), (5, .int y_89), (4, .int y_100), (0, .ref b0), (1, .int b1), (2, .int b2), (3, .int b3)]) hx hb d_X_rules_43 hl (by decide) rfl (fun ls hl => ?_)
              refine lv_iload hx hb d_X_rules_45 (lv_at hl 1 rfl) ?_
              refine lv_bipush (v := 10) hx hb d_X_rules_47 (by decide) ?_
              refine lv_irem hx hb d_X_rules_49 (by decide +kernel) ?_
              refine lv_topi (fun v_112 ev_112 => ?_)
              obtain ⟨qv_112, hv_112⟩ := zI_rem (h := 9) (d := 10) hv_110 rfl ev_112 (by decide)
              refine lv_istore (lv' := [(7, .int v_112), (6, .int v_111), (5, .int y_89), (4, .int y_100), (0, .ref b0), (1, .int b1), (2, .int b2), (3, .int b3)]) hx hb d_X_rules_50 hl (by decide) rfl (fun ls hl => ?_)
              refine lv_iload hx hb d_X_rules_52 (lv_at hl 1 rfl) ?_
              refine lv_iload hx hb d_X_rules_54 (lv_at hl 0 rfl) ?_
              refine lv_icmp_eq (tgt := 91) hx hb d_X_rules_56 (by decide) (fun hc_113 => ?_) (fun hc_113 => ?_)
              · have _nhc_113 := hc_113
                have ni_114 := (fa_eq _ _).mp hc_113
                obtain ⟨v_115, ev_115⟩ : ∃ z : Int32, z = y_89 + 1 := ⟨_, rfl⟩
                obtain ⟨qv_115, hv_115⟩ := zI_add (l := 1) (h := 100) hv_110 zc_1 ev_115 (by decide)
                rw [li_1] at qv_115
                refine lv_iinc (v := v_115) (lv' := [(5, .int v_115), (7, .int v_112), (6, .int v_111), (4, .int y_100), (0, .ref b0), (1, .int b1), (2, .int b2), (3, .int b3)]) hx hb d_X_rules_91 hl (k := 2) rfl (by rw [ev_115]; rfl) (by decide) rfl (fun ls hl => ?_)
                refine lv_goto (tgt := 31) hx hb d_X_rules_94 (by decide) ?_
                exact ihk_88 (v_115) (y_90) (y_91) (y_92) (y_93) (y_94) (y_95) (y_96) (y_97) (y_98) (y_99) (y_100) _ _ _ (zI.wk (l' := 0) (h' := 100) hv_115 (by decide)) hy_98 hy_99 (zm_up qv_115 hmk_88 (by decide)) hP hD hS (lv_sub hl [0, 3, 4, 5, 6, 7] rfl)
              · have _nhc_113 := hc_113
                have ni_116 : ¬ (v_111 : Int32).toInt = (v_112 : Int32).toInt := fun z => hc_113 ((fa_eq _ _).mpr z)
                refine lv_aload_n hx hb d_X_rules_59 rfl (lv_at hl 4 rfl) ?_
                refine va_get (D := G.1) (ci := 0) (v := .ref b21) (C := R_X) (T := F_X) (N := 20) hx hb hts i_X hown hK hP 0 rfl rfl 17 (by decide) (hts _ q434) (fun _ h9 => h9) rfl d_X_rules_60 ?_
                refine lv_aload_n hx hb d_X_rules_63 rfl (lv_at hl 4 rfl) ?_
                refine va_get (D := G.1) (ci := 0) (v := .ref b5) (C := R_X) (T := F_X) (N := 20) hx hb hts i_X hown hK hP 0 rfl rfl 1 (by decide) (hts _ q418) (fun _ h9 => h9) rfl d_X_rules_64 ?_
                refine lv_iload_n hx hb d_X_rules_67 rfl (lv_at hl 5 rfl) ?_
                refine lv_iload hx hb d_X_rules_68 (lv_at hl 1 rfl) ?_
                refine lv_iload hx hb d_X_rules_70 (lv_at hl 0 rfl) ?_
                refine lv_iload_n hx hb d_X_rules_72 rfl (lv_at hl 6 rfl) ?_
                refine z_callV (index := 321) (As := [.ref b5, .int b1, .int v_111, .int v_112, .int b2]) (rest := []) (wr := [(b0, .inr (0, [.ref b4, .ref b5, .ref b6, .ref b7, .int b8, .int b9, .ref b10, .ref b11, .ref b12, .ref b13, .ref b14, .ref b15, .ref b16, .ref b17, .ref b18, .ref b19, .ref b20, .ref b21, .ref b22, .ref b23]))]) Z (s1_Pair_stands l G (b21) (b5) (b1) (v_111) (v_112) (b2) (y_90) (y_91) (y_92) (y_93) (y_94) (y_95) (y_96) (y_97) (y_98) (y_99) (b24) (b25) (b26) (b27) (b28) (b29) (b30) (b31) hy_98 hy_99 hb24 hb25 hb26 hb30 hb31) hl.1 q952 q953 q954 q11 q955 ⟨by decide, by decide, by show _ = some 5; decide +kernel⟩ ⟨Nat.le_of_ble_eq_true rfl, Nat.le_of_ble_eq_true rfl⟩ ⟨Nat.le_of_ble_eq_true rfl, Nat.le_of_ble_eq_true rfl⟩ rfl (Nat.le_of_ble_eq_true rfl) d_X_rules_73 hP hD hS hA 4 10 rfl rfl rfl [4, 1, 2, 3] [0] rfl rfl rfl rfl (by decide) (fun v w1 H locs hw_117 hP hD hS => ?_)
                refine Exists.elim hw_117 (fun x_118 hz_129 => Exists.elim hz_129 (fun x_119 hz_130 => Exists.elim hz_130 (fun x_120 hz_131 => Exists.elim hz_131 (fun x_121 hz_132 => Exists.elim hz_132 (fun x_122 hz_133 => Exists.elim hz_133 (fun x_123 hz_134 => Exists.elim hz_134 (fun x_124 hz_135 => Exists.elim hz_135 (fun x_125 hz_136 => Exists.elim hz_136 (fun x_126 hz_137 => Exists.elim hz_137 (fun x_127 hz_138 => Exists.elim hz_138 (fun x_128 hz_139 => ?_)))))))))))
                clear hw_117 hz_129 hz_130 hz_131 hz_132 hz_133 hz_134 hz_135 hz_136 hz_137 hz_138
                obtain ⟨rfl, rfl, hx_118, hx_127, hx_128⟩ := hz_139
                have hP : va_P G.1 classes [(b0, .inr (0, [.ref b4, .ref b5, .ref b6, .ref b7, .int b8, .int b9, .ref b10, .ref b11, .ref b12, .ref b13, .ref b14, .ref b15, .ref b16, .ref b17, .ref b18, .ref b19, .ref b20, .ref b21, .ref b22, .ref b23])), (b21, .inr (10, [.int x_119, .int x_120, .int x_121, .int x_122, .int x_123, .int x_124, .int x_125, .int x_126, .int x_127, .int x_128])), (b5, .inr (2, [.int b24, .int b25, .int b26, .ref b27, .ref b28, .ref b29])), (b27, .inl (G.2 0, 20, .inl b30)), (b28, .inl (G.2 0, 240, .inl b31))] H := hP
                have hD := z_tie hP hD rfl
                refine W.widen (k := 0) (n := 0) (Nat.le_of_ble_eq_true rfl) (Nat.le_of_ble_eq_true rfl) ?_
                refine lv_if_eq (tgt := 91) hx hb d_X_rules_76 (by decide) (fun hc_140 => ?_) (fun hc_140 => ?_)
                · have _nhc_140 := hc_140
                  have ni_141 := (fa_eq _ _).mp hc_140
                  rw [li_0] at ni_141
                  have hv_142 : zI x_118 0 0 := zI.eq_l hx_118 zc_0 hc_140
                  obtain ⟨v_143, ev_143⟩ : ∃ z : Int32, z = y_89 + 1 := ⟨_, rfl⟩
                  obtain ⟨qv_143, hv_143⟩ := zI_add (l := 1) (h := 100) hv_110 zc_1 ev_143 (by decide)
                  rw [li_1] at qv_143
                  refine lv_iinc (v := v_143) (lv' := [(5, .int v_143), (7, .int v_112), (6, .int v_111), (4, .int y_100), (0, .ref b0), (1, .int b1), (2, .int b2), (3, .int b3)]) hx hb d_X_rules_91 hl (k := 2) rfl (by rw [ev_143]; rfl) (by decide) rfl (fun ls hl => ?_)
                  refine lv_goto (tgt := 31) hx hb d_X_rules_94 (by decide) ?_
                  exact ihk_88 (v_143) (x_119) (x_120) (x_121) (x_122) (x_123) (x_124) (x_125) (x_126) (x_127) (x_128) (y_100) _ _ _ (zI.wk (l' := 0) (h' := 100) hv_143 (by decide)) hx_127 hx_128 (zm_up qv_143 hmk_88 (by decide)) (hP.sub [0, 2, 3, 4, 1] rfl) (hD.sub [0, 2, 3, 4, 1] (by decide) rfl) hS (lv_sub hl [0, 3, 4, 5, 6, 7] rfl)
                · have _nhc_140 := hc_140
                  have ni_144 : ¬ (x_118 : Int32).toInt = (0 : Int32).toInt := fun z => hc_140 ((fa_eq _ _).mpr z)
                  simp only [li_0] at ni_144
                  have hv_145 : zI x_118 1 1 := zI.ne_lo hx_118 zc_0 hc_140 (by decide)
                  refine lv_iload hx hb d_X_rules_79 (lv_at hl 3 rfl) ?_
                  refine lv_iload_n hx hb d_X_rules_81 rfl (lv_at hl 7 rfl) ?_
                  refine lv_icmp_ne (tgt := 88) hx hb d_X_rules_82 (by decide) (fun hc_146 => ?_) (fun hc_146 => ?_)
                  · have _nhc_146 := hc_146
                    have ni_147 : ¬ (y_100 : Int32).toInt = (b3 : Int32).toInt := fun z => hc_146 ((fa_eq _ _).mpr z)
                    obtain ⟨v_148, ev_148⟩ : ∃ z : Int32, z = y_100 + 1 := ⟨_, rfl⟩
                    refine lv_iinc (v := v_148) (lv' := [(4, .int v_148), (7, .int v_112), (6, .int v_111), (5, .int y_89), (0, .ref b0), (1, .int b1), (2, .int b2), (3, .int b3)]) hx hb d_X_rules_88 hl (k := 3) rfl (by rw [ev_148]; rfl) (by decide) rfl (fun ls hl => ?_)
                    obtain ⟨v_149, ev_149⟩ : ∃ z : Int32, z = y_89 + 1 := ⟨_, rfl⟩
                    obtain ⟨qv_149, hv_149⟩ := zI_add (l := 1) (h := 100) hv_110 zc_1 ev_149 (by decide)
                    rw [li_1] at qv_149
                    refine lv_iinc (v := v_149) (lv' := [(5, .int v_149), (4, .int v_148), (7, .int v_112), (6, .int v_111), (0, .ref b0), (1, .int b1), (2, .int b2), (3, .int b3)]) hx hb d_X_rules_91 hl (k := 3) rfl (by rw [ev_149]; rfl) (by decide) rfl (fun ls hl => ?_)
                    refine lv_goto (tgt := 31) hx hb d_X_rules_94 (by decide) ?_
                    exact ihk_88 (v_149) (x_119) (x_120) (x_121) (x_122) (x_123) (x_124) (x_125) (x_126) (x_127) (x_128) (v_148) _ _ _ (zI.wk (l' := 0) (h' := 100) hv_149 (by decide)) hx_127 hx_128 (zm_up qv_149 hmk_88 (by decide)) (hP.sub [0, 2, 3, 4, 1] rfl) (hD.sub [0, 2, 3, 4, 1] (by decide) rfl) hS (lv_sub hl [0, 1, 4, 5, 6, 7] rfl)
                  · have _nhc_146 := hc_146
                    have ni_150 := (fa_eq _ _).mp hc_146
                    have hv_151 : zI y_100 (-1) 2147483647 := zI.eq_l (zI_all y_100) hv_24 hc_146
                    refine lv_iload hx hb d_X_rules_85 (lv_at hl 2 rfl) ?_
                    exact z_iret hx hb hr hlocks (hP.sub [0, 2, 3, 4, 1] rfl) (hD.sub [0, 2, 3, 4, 1] (by decide) rfl) hS (Nat.le_of_ble_eq_true rfl) (Nat.le_of_ble_eq_true rfl) d_X_rules_87 ⟨y_89, x_119, x_120, x_121, x_122, x_123, x_124, x_125, x_126, x_127, x_128, rfl, rfl, hx_127, hx_128⟩
        · have _nhc_22 := hc_22
          have ni_152 := (fa_lt _ _).mp (zi_nle hc_22)
          rw [li_m1] at ni_152
          have hv_153 : zI b3 (-2147483648) (-2) := zI.lt_l (zI_all b3) zc_m1 (zi_nle hc_22) (by decide)
          refine lv_iconst (v := (-1)) hx hb d_X_rules_23 (by decide) ?_
          exact z_iret hx hb hr hlocks hP hD hS (Nat.le_of_ble_eq_true rfl) (Nat.le_of_ble_eq_true rfl) d_X_rules_24 ⟨(-1), b32, b33, b34, b35, b36, b37, b38, b39, b40, b41, rfl, rfl, hb40, hb41⟩
