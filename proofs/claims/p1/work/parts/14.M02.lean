theorem d_Model_sign_0 : decode prog_14_method_9_code 0 = .ok (.aload_n 0, 1) := by decide +kernel
theorem d_Model_sign_1 : decode prog_14_method_9_code 1 = .ok (.iconst 0, 1) := by decide +kernel
theorem d_Model_sign_2 : decode prog_14_method_9_code 2 = .ok (.putfield 1, 3) := by decide +kernel
theorem d_Model_sign_5 : decode prog_14_method_9_code 5 = .ok (.aload_n 0, 1) := by decide +kernel
theorem d_Model_sign_6 : decode prog_14_method_9_code 6 = .ok (.getfield 142, 3) := by decide +kernel
theorem d_Model_sign_9 : decode prog_14_method_9_code 9 = .ok (.iconst 4, 1) := by decide +kernel
theorem d_Model_sign_10 : decode prog_14_method_9_code 10 = .ok (.iadd, 1) := by decide +kernel
theorem d_Model_sign_11 : decode prog_14_method_9_code 11 = .ok (.sipush 240, 3) := by decide +kernel
theorem d_Model_sign_14 : decode prog_14_method_9_code 14 = .ok (.if_icmp .le 5, 3) := by decide +kernel
theorem d_Model_sign_19 : decode prog_14_method_9_code 19 = .ok (.bipush 24, 2) := by decide +kernel
theorem d_Model_sign_21 : decode prog_14_method_9_code 21 = .ok (.istore_n 2, 1) := by decide +kernel
theorem d_Model_sign_22 : decode prog_14_method_9_code 22 = .ok (.iload_n 2, 1) := by decide +kernel
theorem d_Model_sign_23 : decode prog_14_method_9_code 23 = .ok (.ifCond .lt 32, 3) := by decide +kernel
theorem d_Model_sign_26 : decode prog_14_method_9_code 26 = .ok (.aload_n 0, 1) := by decide +kernel
theorem d_Model_sign_27 : decode prog_14_method_9_code 27 = .ok (.getfield 27, 3) := by decide +kernel
theorem d_Model_sign_30 : decode prog_14_method_9_code 30 = .ok (.aload_n 0, 1) := by decide +kernel
theorem d_Model_sign_31 : decode prog_14_method_9_code 31 = .ok (.getfield 142, 3) := by decide +kernel
theorem d_Model_sign_34 : decode prog_14_method_9_code 34 = .ok (.iload_n 1, 1) := by decide +kernel
theorem d_Model_sign_35 : decode prog_14_method_9_code 35 = .ok (.iload_n 2, 1) := by decide +kernel
theorem d_Model_sign_36 : decode prog_14_method_9_code 36 = .ok (.iushr, 1) := by decide +kernel
theorem d_Model_sign_37 : decode prog_14_method_9_code 37 = .ok (.i2b, 1) := by decide +kernel
theorem d_Model_sign_38 : decode prog_14_method_9_code 38 = .ok (.bastore, 1) := by decide +kernel
theorem d_Model_sign_39 : decode prog_14_method_9_code 39 = .ok (.aload_n 0, 1) := by decide +kernel
theorem d_Model_sign_40 : decode prog_14_method_9_code 40 = .ok (.dup, 1) := by decide +kernel
theorem d_Model_sign_41 : decode prog_14_method_9_code 41 = .ok (.getfield 142, 3) := by decide +kernel
theorem d_Model_sign_44 : decode prog_14_method_9_code 44 = .ok (.iconst 1, 1) := by decide +kernel
theorem d_Model_sign_45 : decode prog_14_method_9_code 45 = .ok (.iadd, 1) := by decide +kernel
theorem d_Model_sign_46 : decode prog_14_method_9_code 46 = .ok (.putfield 142, 3) := by decide +kernel
theorem d_Model_sign_49 : decode prog_14_method_9_code 49 = .ok (.iinc 2 (-8), 3) := by decide +kernel
theorem d_Model_sign_52 : decode prog_14_method_9_code 52 = .ok (.goto (-30), 3) := by decide +kernel
theorem d_Model_sign_55 : decode prog_14_method_9_code 55 = .ok (.aload_n 0, 1) := by decide +kernel
theorem d_Model_sign_56 : decode prog_14_method_9_code 56 = .ok (.getfield 142, 3) := by decide +kernel
theorem d_Model_sign_59 : decode prog_14_method_9_code 59 = .ok (.ireturn, 1) := by decide +kernel
abbrev m_t_Model_sign : Room := { frames := 0, cells := 0, slots := 0, locals := 0 }
set_option maxHeartbeats 4000000 in
set_option maxRecDepth 100000 in
theorem t_Model_sign (l : Launch) (G : zG) (b0 : Nat) (p0 : Int32) (b2 : Nat) (b3 : Nat) (b4 : Nat) (b5 : Nat) (b6 : Nat) (b7 : Nat) (b8 : Nat) (b9 : Nat) (b10 : Nat) (b11 : Nat) (b12 : Nat) (b13 : Nat) (b14 : Nat) (b15 : Nat) (b16 : Nat) (b17 : Nat) (b18 : Nat) (b19 : Nat) (b20 : Nat) (b21 : Nat) (b22 : Nat) (b23 : Nat) (b24 : Nat) (b25 : Nat) (b26 : Nat) (b27 : Nat) (b28 : Nat) (b29 : Nat) (b30 : Nat) (b31 : Nat) (b32 : Nat) (b33 : Nat) (b34 : Nat) (b35 : Nat) (b36 : Nat) (b37 : Nat) (b38 : Nat) (b39 : Nat) (b40 : Nat)  : zM l G y_Model_sign prog_14_method_9_code 3 (Option.some Jvm.ClassFile.FieldType.int) m_t_Model_sign [.ref b0, .int p0] [(b0, .inr (12, [.int 0, .ref b2, .ref b3, .ref b4, .ref b5, .int 0, .ref b6, .int 0, .int 0, .int 0, .int 0, .ref b7, .ref b8, .ref b9, .int 0, .ref b10, .ref b11, .ref b12, .ref b13, .ref b14, .ref b15, .ref b16, .ref b17, .ref b18, .ref b19, .ref b20, .ref b21, .int 0, .ref b22, .ref b23, .int 0, .int 0, .int 0, .int 0, .ref b24, .ref b25, .ref b26, .ref b27, .ref b28, .ref b29, .ref b30, .int 0, .ref b31, .ref b32, .int 0, .ref b33, .ref b34, .ref b35, .ref b36, .ref b37, .int 0, .ref b38, .ref b39, .ref b40])), (b6, .inl (G.2 3, 240, .inl (fun _ => 0)))] (fun v _ => v = some (.int (a_sign p0))) := by
  refine z_start (by decide +kernel) (Nat.le_of_ble_eq_true rfl) ?_
  intro p e s m below meth c A Z hr hnm hA hP hD hS ls hl
  have Z : zC p s m _ meth c prog_14_method_9_code 3 "TraceMachinesModel" G := Z
  obtain ⟨hx, hb, hml, hown, hts, hK, hN, hlocks⟩ := id Z
  have hl : lv_has ls 3 [(0, .ref b0), (1, .int p0)] := hl
  refine lv_aload_n hx hb d_Model_sign_0 rfl (lv_at hl 0 rfl) ?_
  refine lv_iconst (v := 0) hx hb d_Model_sign_1 (by decide) ?_
  refine va_put (D := G.1) (ci := 12) (v := .int 0) (ty := .int) (C := R_Model) (T := F_Model) (N := 54) hx hb hts i_Model t_Model t_Model_ok n_Model hown hK hP hD hS 0 rfl rfl 0 (by decide) (hts _ q1113) (fun _ h9 => h9) rfl (by decide +kernel) rfl rfl (Nat.le_of_ble_eq_true rfl) d_Model_sign_2 (fun H locs hP hD hS => ?_)
  have hP : va_P G.1 classes [(b0, .inr (12, [.int 0, .ref b2, .ref b3, .ref b4, .ref b5, .int 0, .ref b6, .int 0, .int 0, .int 0, .int 0, .ref b7, .ref b8, .ref b9, .int 0, .ref b10, .ref b11, .ref b12, .ref b13, .ref b14, .ref b15, .ref b16, .ref b17, .ref b18, .ref b19, .ref b20, .ref b21, .int 0, .ref b22, .ref b23, .int 0, .int 0, .int 0, .int 0, .ref b24, .ref b25, .ref b26, .ref b27, .ref b28, .ref b29, .ref b30, .int 0, .ref b31, .ref b32, .int 0, .ref b33, .ref b34, .ref b35, .ref b36, .ref b37, .int 0, .ref b38, .ref b39, .ref b40])), (b6, .inl (G.2 3, 240, .inl (fun _ => 0)))] H := hP
  have hD := z_tie hP hD rfl
  refine lv_aload_n hx hb d_Model_sign_5 rfl (lv_at hl 0 rfl) ?_
  refine va_get (D := G.1) (ci := 12) (v := .int 0) (C := R_Model) (T := F_Model) (N := 54) hx hb hts i_Model hown hK hP 0 rfl rfl 7 (by decide) (hts _ q1120) (fun _ h9 => h9) rfl d_Model_sign_6 ?_
  refine lv_iconst (v := 4) hx hb d_Model_sign_9 (by decide) ?_
  refine lv_iadd hx hb d_Model_sign_10 ?_
  refine z_topi (y := 4) (by decide +kernel) ?_
  refine lv_sipush (v := 240) hx hb d_Model_sign_11 (by decide) ?_
  refine lv_icmp_le (tgt := 19) hx hb d_Model_sign_14 (by decide) (fun _ => ?_) (fun hc => absurd hc (by decide +kernel))
  refine lv_bipush (v := 24) hx hb d_Model_sign_19 (by decide) ?_
  refine lv_istore_n (lv' := [(2, .int 24), (0, .ref b0), (1, .int p0)]) hx hb d_Model_sign_21 rfl hl (by decide) rfl (fun ls hl => ?_)
  refine lv_iload_n hx hb d_Model_sign_22 rfl (lv_at hl 0 rfl) ?_
  refine lv_if_lt (tgt := 55) hx hb d_Model_sign_23 (by decide) (fun hc => absurd hc (by decide +kernel)) (fun _ => ?_)
  refine lv_aload_n hx hb d_Model_sign_26 rfl (lv_at hl 1 rfl) ?_
  refine va_get (D := G.1) (ci := 12) (v := .ref b6) (C := R_Model) (T := F_Model) (N := 54) hx hb hts i_Model hown hK hP 0 rfl rfl 6 (by decide) (hts _ q1119) (fun _ h9 => h9) rfl d_Model_sign_27 ?_
  refine lv_aload_n hx hb d_Model_sign_30 rfl (lv_at hl 1 rfl) ?_
  refine va_get (D := G.1) (ci := 12) (v := .int 0) (C := R_Model) (T := F_Model) (N := 54) hx hb hts i_Model hown hK hP 0 rfl rfl 7 (by decide) (hts _ q1120) (fun _ h9 => h9) rfl d_Model_sign_31 ?_
  refine lv_iload_n hx hb d_Model_sign_34 rfl (lv_at hl 2 rfl) ?_
  refine lv_iload_n hx hb d_Model_sign_35 rfl (lv_at hl 0 rfl) ?_
  obtain ⟨v_1, ev_1⟩ : ∃ z : Int32, z = ((p0).toUInt32 >>> ((24 : Int32).toUInt32 &&& Int32.toUInt32 31)).toInt32 := ⟨_, rfl⟩
  refine lv_iushr (v := v_1) hx hb d_Model_sign_36 ev_1.symm ?_
  obtain ⟨v_2, ev_2⟩ : ∃ z : Int32, z = (v_1).toInt8.toInt32 := ⟨_, rfl⟩
  refine lv_i2b (v := v_2) hx hb d_Model_sign_37 ev_2.symm ?_
  refine va_bast hx hb hK hP hD hS 1 3 rfl rfl (i := 0) (z_in rfl) d_Model_sign_38 (fun H locs hP hD hS => ?_)
  have hP : va_P G.1 classes [(b0, .inr (12, [.int 0, .ref b2, .ref b3, .ref b4, .ref b5, .int 0, .ref b6, .int 0, .int 0, .int 0, .int 0, .ref b7, .ref b8, .ref b9, .int 0, .ref b10, .ref b11, .ref b12, .ref b13, .ref b14, .ref b15, .ref b16, .ref b17, .ref b18, .ref b19, .ref b20, .ref b21, .int 0, .ref b22, .ref b23, .int 0, .int 0, .int 0, .int 0, .ref b24, .ref b25, .ref b26, .ref b27, .ref b28, .ref b29, .ref b30, .int 0, .ref b31, .ref b32, .int 0, .ref b33, .ref b34, .ref b35, .ref b36, .ref b37, .int 0, .ref b38, .ref b39, .ref b40])), (b6, .inl (G.2 3, 240, .inl (upd (fun _ => 0) 0 (vp_nar .byte v_2))))] H := hP
  have hD := z_tie hP hD rfl
  refine lv_aload_n hx hb d_Model_sign_39 rfl (lv_at hl 1 rfl) ?_
  refine lv_dup hx hb d_Model_sign_40 rfl ?_
  refine va_get (D := G.1) (ci := 12) (v := .int 0) (C := R_Model) (T := F_Model) (N := 54) hx hb hts i_Model hown hK hP 0 rfl rfl 7 (by decide) (hts _ q1120) (fun _ h9 => h9) rfl d_Model_sign_41 ?_
  refine lv_iconst (v := 1) hx hb d_Model_sign_44 (by decide) ?_
  refine lv_iadd hx hb d_Model_sign_45 ?_
  refine z_topi (y := 1) (by decide +kernel) ?_
  refine va_put (D := G.1) (ci := 12) (v := .int 1) (ty := .int) (C := R_Model) (T := F_Model) (N := 54) hx hb hts i_Model t_Model t_Model_ok n_Model hown hK hP hD hS 0 rfl rfl 7 (by decide) (hts _ q1120) (fun _ h9 => h9) rfl (by decide +kernel) rfl rfl (Nat.le_of_ble_eq_true rfl) d_Model_sign_46 (fun H locs hP hD hS => ?_)
  have hP : va_P G.1 classes [(b0, .inr (12, [.int 0, .ref b2, .ref b3, .ref b4, .ref b5, .int 0, .ref b6, .int 1, .int 0, .int 0, .int 0, .ref b7, .ref b8, .ref b9, .int 0, .ref b10, .ref b11, .ref b12, .ref b13, .ref b14, .ref b15, .ref b16, .ref b17, .ref b18, .ref b19, .ref b20, .ref b21, .int 0, .ref b22, .ref b23, .int 0, .int 0, .int 0, .int 0, .ref b24, .ref b25, .ref b26, .ref b27, .ref b28, .ref b29, .ref b30, .int 0, .ref b31, .ref b32, .int 0, .ref b33, .ref b34, .ref b35, .ref b36, .ref b37, .int 0, .ref b38, .ref b39, .ref b40])), (b6, .inl (G.2 3, 240, .inl (upd (fun _ => 0) 0 (vp_nar .byte v_2))))] H := hP
  have hD := z_tie hP hD rfl
  refine lv_iinc (v := 16) (lv' := [(2, .int 16), (0, .ref b0), (1, .int p0)]) hx hb d_Model_sign_49 hl (k := 0) rfl (by decide +kernel) (by decide) rfl (fun ls hl => ?_)
  refine lv_goto (tgt := 22) hx hb d_Model_sign_52 (by decide) ?_
  refine lv_iload_n hx hb d_Model_sign_22 rfl (lv_at hl 0 rfl) ?_
  refine lv_if_lt (tgt := 55) hx hb d_Model_sign_23 (by decide) (fun hc => absurd hc (by decide +kernel)) (fun _ => ?_)
  refine lv_aload_n hx hb d_Model_sign_26 rfl (lv_at hl 1 rfl) ?_
  refine va_get (D := G.1) (ci := 12) (v := .ref b6) (C := R_Model) (T := F_Model) (N := 54) hx hb hts i_Model hown hK hP 0 rfl rfl 6 (by decide) (hts _ q1119) (fun _ h9 => h9) rfl d_Model_sign_27 ?_
  refine lv_aload_n hx hb d_Model_sign_30 rfl (lv_at hl 1 rfl) ?_
  refine va_get (D := G.1) (ci := 12) (v := .int 1) (C := R_Model) (T := F_Model) (N := 54) hx hb hts i_Model hown hK hP 0 rfl rfl 7 (by decide) (hts _ q1120) (fun _ h9 => h9) rfl d_Model_sign_31 ?_
  refine lv_iload_n hx hb d_Model_sign_34 rfl (lv_at hl 2 rfl) ?_
  refine lv_iload_n hx hb d_Model_sign_35 rfl (lv_at hl 0 rfl) ?_
  obtain ⟨v_3, ev_3⟩ : ∃ z : Int32, z = ((p0).toUInt32 >>> ((16 : Int32).toUInt32 &&& Int32.toUInt32 31)).toInt32 := ⟨_, rfl⟩
  refine lv_iushr (v := v_3) hx hb d_Model_sign_36 ev_3.symm ?_
  obtain ⟨v_4, ev_4⟩ : ∃ z : Int32, z = (v_3).toInt8.toInt32 := ⟨_, rfl⟩
  refine lv_i2b (v := v_4) hx hb d_Model_sign_37 ev_4.symm ?_
  refine va_bast hx hb hK hP hD hS 1 3 rfl rfl (i := 1) (z_in rfl) d_Model_sign_38 (fun H locs hP hD hS => ?_)
  have hP : va_P G.1 classes [(b0, .inr (12, [.int 0, .ref b2, .ref b3, .ref b4, .ref b5, .int 0, .ref b6, .int 1, .int 0, .int 0, .int 0, .ref b7, .ref b8, .ref b9, .int 0, .ref b10, .ref b11, .ref b12, .ref b13, .ref b14, .ref b15, .ref b16, .ref b17, .ref b18, .ref b19, .ref b20, .ref b21, .int 0, .ref b22, .ref b23, .int 0, .int 0, .int 0, .int 0, .ref b24, .ref b25, .ref b26, .ref b27, .ref b28, .ref b29, .ref b30, .int 0, .ref b31, .ref b32, .int 0, .ref b33, .ref b34, .ref b35, .ref b36, .ref b37, .int 0, .ref b38, .ref b39, .ref b40])), (b6, .inl (G.2 3, 240, .inl (upd (upd (fun _ => 0) 0 (vp_nar .byte v_2)) 1 (vp_nar .byte v_4))))] H := hP
  have hD := z_tie hP hD rfl
  refine lv_aload_n hx hb d_Model_sign_39 rfl (lv_at hl 1 rfl) ?_
  refine lv_dup hx hb d_Model_sign_40 rfl ?_
  refine va_get (D := G.1) (ci := 12) (v := .int 1) (C := R_Model) (T := F_Model) (N := 54) hx hb hts i_Model hown hK hP 0 rfl rfl 7 (by decide) (hts _ q1120) (fun _ h9 => h9) rfl d_Model_sign_41 ?_
  refine lv_iconst (v := 1) hx hb d_Model_sign_44 (by decide) ?_
  refine lv_iadd hx hb d_Model_sign_45 ?_
  refine z_topi (y := 2) (by decide +kernel) ?_
  refine va_put (D := G.1) (ci := 12) (v := .int 2) (ty := .int) (C := R_Model) (T := F_Model) (N := 54) hx hb hts i_Model t_Model t_Model_ok n_Model hown hK hP hD hS 0 rfl rfl 7 (by decide) (hts _ q1120) (fun _ h9 => h9) rfl (by decide +kernel) rfl rfl (Nat.le_of_ble_eq_true rfl) d_Model_sign_46 (fun H locs hP hD hS => ?_)
  have hP : va_P G.1 classes [(b0, .inr (12, [.int 0, .ref b2, .ref b3, .ref b4, .ref b5, .int 0, .ref b6, .int 2, .int 0, .int 0, .int 0, .ref b7, .ref b8, .ref b9, .int 0, .ref b10, .ref b11, .ref b12, .ref b13, .ref b14, .ref b15, .ref b16, .ref b17, .ref b18, .ref b19, .ref b20, .ref b21, .int 0, .ref b22, .ref b23, .int 0, .int 0, .int 0, .int 0, .ref b24, .ref b25, .ref b26, .ref b27, .ref b28, .ref b29, .ref b30, .int 0, .ref b31, .ref b32, .int 0, .ref b33, .ref b34, .ref b35, .ref b36, .ref b37, .int 0, .ref b38, .ref b39, .ref b40])), (b6, .inl (G.2 3, 240, .inl (upd (upd (fun _ => 0) 0 (vp_nar .byte v_2)) 1 (vp_nar .byte v_4))))] H := hP
  have hD := z_tie hP hD rfl
  refine lv_iinc (v := 8) (lv' := [(2, .int 8), (0, .ref b0), (1, .int p0)]) hx hb d_Model_sign_49 hl (k := 0) rfl (by decide +kernel) (by decide) rfl (fun ls hl => ?_)
  refine lv_goto (tgt := 22) hx hb d_Model_sign_52 (by decide) ?_
  refine lv_iload_n hx hb d_Model_sign_22 rfl (lv_at hl 0 rfl) ?_
  refine lv_if_lt (tgt := 55) hx hb d_Model_sign_23 (by decide) (fun hc => absurd hc (by decide +kernel)) (fun _ => ?_)
  refine lv_aload_n hx hb d_Model_sign_26 rfl (lv_at hl 1 rfl) ?_
  refine va_get (D := G.1) (ci := 12) (v := .ref b6) (C := R_Model) (T := F_Model) (N := 54) hx hb hts i_Model hown hK hP 0 rfl rfl 6 (by decide) (hts _ q1119) (fun _ h9 => h9) rfl d_Model_sign_27 ?_
  refine lv_aload_n hx hb d_Model_sign_30 rfl (lv_at hl 1 rfl) ?_
  refine va_get (D := G.1) (ci := 12) (v := .int 2) (C := R_Model) (T := F_Model) (N := 54) hx hb hts i_Model hown hK hP 0 rfl rfl 7 (by decide) (hts _ q1120) (fun _ h9 => h9) rfl d_Model_sign_31 ?_
  refine lv_iload_n hx hb d_Model_sign_34 rfl (lv_at hl 2 rfl) ?_
  refine lv_iload_n hx hb d_Model_sign_35 rfl (lv_at hl 0 rfl) ?_
  obtain ⟨v_5, ev_5⟩ : ∃ z : Int32, z = ((p0).toUInt32 >>> ((8 : Int32).toUInt32 &&& Int32.toUInt32 31)).toInt32 := ⟨_, rfl⟩
  refine lv_iushr (v := v_5) hx hb d_Model_sign_36 ev_5.symm ?_
  obtain ⟨v_6, ev_6⟩ : ∃ z : Int32, z = (v_5).toInt8.toInt32 := ⟨_, rfl⟩
  refine lv_i2b (v := v_6) hx hb d_Model_sign_37 ev_6.symm ?_
  refine va_bast hx hb hK hP hD hS 1 3 rfl rfl (i := 2) (z_in rfl) d_Model_sign_38 (fun H locs hP hD hS => ?_)
  have hP : va_P G.1 classes [(b0, .inr (12, [.int 0, .ref b2, .ref b3, .ref b4, .ref b5, .int 0, .ref b6, .int 2, .int 0, .int 0, .int 0, .ref b7, .ref b8, .ref b9, .int 0, .ref b10, .ref b11, .ref b12, .ref b13, .ref b14, .ref b15, .ref b16, .ref b17, .ref b18, .ref b19, .ref b20, .ref b21, .int 0, .ref b22, .ref b23, .int 0, .int 0, .int 0, .int 0, .ref b24, .ref b25, .ref b26, .ref b27, .ref b28, .ref b29, .ref b30, .int 0, .ref b31, .ref b32, .int 0, .ref b33, .ref b34, .ref b35, .ref b36, .ref b37, .int 0, .ref b38, .ref b39, .ref b40])), (b6, .inl (G.2 3, 240, .inl (upd (upd (upd (fun _ => 0) 0 (vp_nar .byte v_2)) 1 (vp_nar .byte v_4)) 2 (vp_nar .byte v_6))))] H := hP
  have hD := z_tie hP hD rfl
  refine lv_aload_n hx hb d_Model_sign_39 rfl (lv_at hl 1 rfl) ?_
  refine lv_dup hx hb d_Model_sign_40 rfl ?_
  refine va_get (D := G.1) (ci := 12) (v := .int 2) (C := R_Model) (T := F_Model) (N := 54) hx hb hts i_Model hown hK hP 0 rfl rfl 7 (by decide) (hts _ q1120) (fun _ h9 => h9) rfl d_Model_sign_41 ?_
  refine lv_iconst (v := 1) hx hb d_Model_sign_44 (by decide) ?_
  refine lv_iadd hx hb d_Model_sign_45 ?_
  refine z_topi (y := 3) (by decide +kernel) ?_
  refine va_put (D := G.1) (ci := 12) (v := .int 3) (ty := .int) (C := R_Model) (T := F_Model) (N := 54) hx hb hts i_Model t_Model t_Model_ok n_Model hown hK hP hD hS 0 rfl rfl 7 (by decide) (hts _ q1120) (fun _ h9 => h9) rfl (by decide +kernel) rfl rfl (Nat.le_of_ble_eq_true rfl) d_Model_sign_46 (fun H locs hP hD hS => ?_)
  have hP : va_P G.1 classes [(b0, .inr (12, [.int 0, .ref b2, .ref b3, .ref b4, .ref b5, .int 0, .ref b6, .int 3, .int 0, .int 0, .int 0, .ref b7, .ref b8, .ref b9, .int 0, .ref b10, .ref b11, .ref b12, .ref b13, .ref b14, .ref b15, .ref b16, .ref b17, .ref b18, .ref b19, .ref b20, .ref b21, .int 0, .ref b22, .ref b23, .int 0, .int 0, .int 0, .int 0, .ref b24, .ref b25, .ref b26, .ref b27, .ref b28, .ref b29, .ref b30, .int 0, .ref b31, .ref b32, .int 0, .ref b33, .ref b34, .ref b35, .ref b36, .ref b37, .int 0, .ref b38, .ref b39, .ref b40])), (b6, .inl (G.2 3, 240, .inl (upd (upd (upd (fun _ => 0) 0 (vp_nar .byte v_2)) 1 (vp_nar .byte v_4)) 2 (vp_nar .byte v_6))))] H := hP
  have hD := z_tie hP hD rfl
  refine lv_iinc (v := 0) (lv' := [(2, .int 0), (0, .ref b0), (1, .int p0)]) hx hb d_Model_sign_49 hl (k := 0) rfl (by decide +kernel) (by decide) rfl (fun ls hl => ?_)
  refine lv_goto (tgt := 22) hx hb d_Model_sign_52 (by decide) ?_
  refine lv_iload_n hx hb d_Model_sign_22 rfl (lv_at hl 0 rfl) ?_
  refine lv_if_lt (tgt := 55) hx hb d_Model_sign_23 (by decide) (fun hc => absurd hc (by decide +kernel)) (fun _ => ?_)
  refine lv_aload_n hx hb d_Model_sign_26 rfl (lv_at hl 1 rfl) ?_
  refine va_get (D := G.1) (ci := 12) (v := .ref b6) (C := R_Model) (T := F_Model) (N := 54) hx hb hts i_Model hown hK hP 0 rfl rfl 6 (by decide) (hts _ q1119) (fun _ h9 => h9) rfl d_Model_sign_27 ?_
  refine lv_aload_n hx hb d_Model_sign_30 rfl (lv_at hl 1 rfl) ?_
  refine va_get (D := G.1) (ci := 12) (v := .int 3) (C := R_Model) (T := F_Model) (N := 54) hx hb hts i_Model hown hK hP 0 rfl rfl 7 (by decide) (hts _ q1120) (fun _ h9 => h9) rfl d_Model_sign_31 ?_
  refine lv_iload_n hx hb d_Model_sign_34 rfl (lv_at hl 2 rfl) ?_
  refine lv_iload_n hx hb d_Model_sign_35 rfl (lv_at hl 0 rfl) ?_
  obtain ⟨v_7, ev_7⟩ : ∃ z : Int32, z = ((p0).toUInt32 >>> ((0 : Int32).toUInt32 &&& Int32.toUInt32 31)).toInt32 := ⟨_, rfl⟩
  refine lv_iushr (v := v_7) hx hb d_Model_sign_36 ev_7.symm ?_
  obtain ⟨v_8, ev_8⟩ : ∃ z : Int32, z = (v_7).toInt8.toInt32 := ⟨_, rfl⟩
  refine lv_i2b (v := v_8) hx hb d_Model_sign_37 ev_8.symm ?_
  refine va_bast hx hb hK hP hD hS 1 3 rfl rfl (i := 3) (z_in rfl) d_Model_sign_38 (fun H locs hP hD hS => ?_)
  have hP : va_P G.1 classes [(b0, .inr (12, [.int 0, .ref b2, .ref b3, .ref b4, .ref b5, .int 0, .ref b6, .int 3, .int 0, .int 0, .int 0, .ref b7, .ref b8, .ref b9, .int 0, .ref b10, .ref b11, .ref b12, .ref b13, .ref b14, .ref b15, .ref b16, .ref b17, .ref b18, .ref b19, .ref b20, .ref b21, .int 0, .ref b22, .ref b23, .int 0, .int 0, .int 0, .int 0, .ref b24, .ref b25, .ref b26, .ref b27, .ref b28, .ref b29, .ref b30, .int 0, .ref b31, .ref b32, .int 0, .ref b33, .ref b34, .ref b35, .ref b36, .ref b37, .int 0, .ref b38, .ref b39, .ref b40])), (b6, .inl (G.2 3, 240, .inl (upd (upd (upd (upd (fun _ => 0) 0 (vp_nar .byte v_2)) 1 (vp_nar .byte v_4)) 2 (vp_nar .byte v_6)) 3 (vp_nar .byte v_8))))] H := hP
  have hD := z_tie hP hD rfl
  refine lv_aload_n hx hb d_Model_sign_39 rfl (lv_at hl 1 rfl) ?_
  refine lv_dup hx hb d_Model_sign_40 rfl ?_
  refine va_get (D := G.1) (ci := 12) (v := .int 3) (C := R_Model) (T := F_Model) (N := 54) hx hb hts i_Model hown hK hP 0 rfl rfl 7 (by decide) (hts _ q1120) (fun _ h9 => h9) rfl d_Model_sign_41 ?_
  refine lv_iconst (v := 1) hx hb d_Model_sign_44 (by decide) ?_
  refine lv_iadd hx hb d_Model_sign_45 ?_
  refine z_topi (y := 4) (by decide +kernel) ?_
  refine va_put (D := G.1) (ci := 12) (v := .int 4) (ty := .int) (C := R_Model) (T := F_Model) (N := 54) hx hb hts i_Model t_Model t_Model_ok n_Model hown hK hP hD hS 0 rfl rfl 7 (by decide) (hts _ q1120) (fun _ h9 => h9) rfl (by decide +kernel) rfl rfl (Nat.le_of_ble_eq_true rfl) d_Model_sign_46 (fun H locs hP hD hS => ?_)
  have hP : va_P G.1 classes [(b0, .inr (12, [.int 0, .ref b2, .ref b3, .ref b4, .ref b5, .int 0, .ref b6, .int 4, .int 0, .int 0, .int 0, .ref b7, .ref b8, .ref b9, .int 0, .ref b10, .ref b11, .ref b12, .ref b13, .ref b14, .ref b15, .ref b16, .ref b17, .ref b18, .ref b19, .ref b20, .ref b21, .int 0, .ref b22, .ref b23, .int 0, .int 0, .int 0, .int 0, .ref b24, .ref b25, .ref b26, .ref b27, .ref b28, .ref b29, .ref b30, .int 0, .ref b31, .ref b32, .int 0, .ref b33, .ref b34, .ref b35, .ref b36, .ref b37, .int 0, .ref b38, .ref b39, .ref b40])), (b6, .inl (G.2 3, 240, .inl (upd (upd (upd (upd (fun _ => 0) 0 (vp_nar .byte v_2)) 1 (vp_nar .byte v_4)) 2 (vp_nar .byte v_6)) 3 (vp_nar .byte v_8))))] H := hP
  have hD := z_tie hP hD rfl
  refine lv_iinc (v := (-8)) (lv' := [(2, .int (-8)), (0, .ref b0), (1, .int p0)]) hx hb d_Model_sign_49 hl (k := 0) rfl (by decide +kernel) (by decide) rfl (fun ls hl => ?_)
  refine lv_goto (tgt := 22) hx hb d_Model_sign_52 (by decide) ?_
  refine lv_iload_n hx hb d_Model_sign_22 rfl (lv_at hl 0 rfl) ?_
  refine lv_if_lt (tgt := 55) hx hb d_Model_sign_23 (by decide) (fun _ => ?_) (fun hc => absurd hc (by decide +kernel))
  refine lv_aload_n hx hb d_Model_sign_55 rfl (lv_at hl 1 rfl) ?_
  refine va_get (D := G.1) (ci := 12) (v := .int 4) (C := R_Model) (T := F_Model) (N := 54) hx hb hts i_Model hown hK hP 0 rfl rfl 7 (by decide) (hts _ q1120) (fun _ h9 => h9) rfl d_Model_sign_56 ?_
  exact z_iret hx hb hr hlocks hP hD hS (Nat.le_of_ble_eq_true rfl) (Nat.le_of_ble_eq_true rfl) d_Model_sign_59 (congrArg (fun z => some (Value.int z)) (by unfold a_sign; (first | rfl | (repeat (first | rw [if_pos (by omega)] | rw [if_neg (by omega)])))))
theorem d_Model_end_0 : decode prog_14_method_10_code 0 = .ok (.aload_n 0, 1) := by decide +kernel
theorem d_Model_end_1 : decode prog_14_method_10_code 1 = .ok (.iconst 0, 1) := by decide +kernel
theorem d_Model_end_2 : decode prog_14_method_10_code 2 = .ok (.putfield 1, 3) := by decide +kernel
theorem d_Model_end_5 : decode prog_14_method_10_code 5 = .ok (.iload_n 1, 1) := by decide +kernel
theorem d_Model_end_6 : decode prog_14_method_10_code 6 = .ok (.i2l, 1) := by decide +kernel
theorem d_Model_end_7 : decode prog_14_method_10_code 7 = .ok (.lconst 0, 1) := by decide +kernel
theorem d_Model_end_8 : decode prog_14_method_10_code 8 = .ok (.aload_n 0, 1) := by decide +kernel
theorem d_Model_end_9 : decode prog_14_method_10_code 9 = .ok (.getfield 142, 3) := by decide +kernel
theorem d_Model_end_12 : decode prog_14_method_10_code 12 = .ok (.i2l, 1) := by decide +kernel
theorem d_Model_end_13 : decode prog_14_method_10_code 13 = .ok (.invokestatic 138, 3) := by decide +kernel
theorem d_Model_in_0 : decode prog_14_method_3_code 0 = .ok (.lload_n 0, 1) := by decide +kernel
theorem d_Model_in_1 : decode prog_14_method_3_code 1 = .ok (.lload_n 2, 1) := by decide +kernel
theorem d_Model_in_2 : decode prog_14_method_3_code 2 = .ok (.lcmp, 1) := by decide +kernel
theorem d_Model_in_3 : decode prog_14_method_3_code 3 = .ok (.ifCond .lt 14, 3) := by decide +kernel
theorem d_Model_in_6 : decode prog_14_method_3_code 6 = .ok (.lload_n 0, 1) := by decide +kernel
theorem d_Model_in_7 : decode prog_14_method_3_code 7 = .ok (.lload 4, 2) := by decide +kernel
theorem d_Model_in_9 : decode prog_14_method_3_code 9 = .ok (.lcmp, 1) := by decide +kernel
theorem d_Model_in_10 : decode prog_14_method_3_code 10 = .ok (.ifCond .gt 7, 3) := by decide +kernel
theorem d_Model_in_13 : decode prog_14_method_3_code 13 = .ok (.iconst 1, 1) := by decide +kernel
theorem d_Model_in_14 : decode prog_14_method_3_code 14 = .ok (.goto 4, 3) := by decide +kernel
theorem d_Model_in_17 : decode prog_14_method_3_code 17 = .ok (.iconst 0, 1) := by decide +kernel
theorem d_Model_in_18 : decode prog_14_method_3_code 18 = .ok (.ireturn, 1) := by decide +kernel
theorem ll_0 : (0 : Int64).toInt = 0 := by decide +kernel
abbrev m_c1_Model_in : Room := { frames := 0, cells := 0, slots := 0, locals := 0 }
set_option maxHeartbeats 4000000 in
set_option maxRecDepth 100000 in
theorem c1_Model_in (l : Launch) (G : zG) (b0 : Int64)  : zM l G y_Model_in prog_14_method_3_code 6 (Option.some Jvm.ClassFile.FieldType.boolean) m_c1_Model_in [.long b0, .long 0, .long 0] [] (fun v w => (v = some (.int 0) ∧ w = [] ∧ b0.toInt < 0) ∨ (v = some (.int 0) ∧ w = [] ∧ 0 ≤ b0.toInt ∧ 0 < b0.toInt) ∨ (v = some (.int 1) ∧ w = [] ∧ 0 ≤ b0.toInt ∧ b0.toInt ≤ 0)) := by
  refine z_start (by decide +kernel) (Nat.le_of_ble_eq_true rfl) ?_
  intro p e s m below meth c A Z hr hnm hA hP hD hS ls hl
  have Z : zC p s m _ meth c prog_14_method_3_code 6 "TraceMachinesModel" G := Z
  obtain ⟨hx, hb, hml, hown, hts, hK, hN, hlocks⟩ := id Z
  have hl : lv_has ls 6 [(0, .long b0), (2, .long 0), (4, .long 0)] := hl
  refine lv_lload_n hx hb d_Model_in_0 rfl (lv_at hl 0 rfl) ?_
  refine lv_lload_n hx hb d_Model_in_1 rfl (lv_at hl 1 rfl) ?_
  refine W.lcmp hx hb d_Model_in_2 ?_
  refine lv_topi (fun v_1 ev_1 => ?_)
  refine lv_if_lt (tgt := 17) hx hb d_Model_in_3 (by decide) (fun hc_2 => ?_) (fun hc_2 => ?_)
  · rw [ev_1] at hc_2; simp only [lg_cmp_lt, lg_cmp_le, lg_cmp_gt, lg_cmp_ge, lg_cmp_eq] at hc_2; simp only [fa_lt64, fa_le64, fa_eq64, Int32.toInt_toInt64, ll_0] at hc_2
    refine lv_iconst (v := 0) hx hb d_Model_in_17 (by decide) ?_
    exact z_zret hx hb hr hlocks rfl hP hD hS (Nat.le_of_ble_eq_true rfl) (Nat.le_of_ble_eq_true rfl) d_Model_in_18 (Or.inl ⟨rfl, rfl, by omega⟩)
  · rw [ev_1] at hc_2; simp only [lg_cmp_lt, lg_cmp_le, lg_cmp_gt, lg_cmp_ge, lg_cmp_eq] at hc_2; simp only [fa_lt64, fa_le64, fa_eq64, Int32.toInt_toInt64, ll_0] at hc_2
    refine lv_lload_n hx hb d_Model_in_6 rfl (lv_at hl 0 rfl) ?_
    refine lv_lload hx hb d_Model_in_7 (lv_at hl 2 rfl) ?_
    refine W.lcmp hx hb d_Model_in_9 ?_
    refine lv_topi (fun v_3 ev_3 => ?_)
    refine lv_if_gt (tgt := 17) hx hb d_Model_in_10 (by decide) (fun hc_4 => ?_) (fun hc_4 => ?_)
    · rw [ev_3] at hc_4; simp only [lg_cmp_lt, lg_cmp_le, lg_cmp_gt, lg_cmp_ge, lg_cmp_eq] at hc_4; simp only [fa_lt64, fa_le64, fa_eq64, Int32.toInt_toInt64, ll_0] at hc_4
      refine lv_iconst (v := 0) hx hb d_Model_in_17 (by decide) ?_
      exact z_zret hx hb hr hlocks rfl hP hD hS (Nat.le_of_ble_eq_true rfl) (Nat.le_of_ble_eq_true rfl) d_Model_in_18 (Or.inr (Or.inl ⟨rfl, rfl, by omega, by omega⟩))
    · rw [ev_3] at hc_4; simp only [lg_cmp_lt, lg_cmp_le, lg_cmp_gt, lg_cmp_ge, lg_cmp_eq] at hc_4; simp only [fa_lt64, fa_le64, fa_eq64, Int32.toInt_toInt64, ll_0] at hc_4
      refine lv_iconst (v := 1) hx hb d_Model_in_13 (by decide) ?_
      refine lv_goto (tgt := 18) hx hb d_Model_in_14 (by decide) ?_
      exact z_zret hx hb hr hlocks rfl hP hD hS (Nat.le_of_ble_eq_true rfl) (Nat.le_of_ble_eq_true rfl) d_Model_in_18 (Or.inr (Or.inr (⟨rfl, rfl, by omega, by omega⟩)))
theorem d_Model_end_16 : decode prog_14_method_10_code 16 = .ok (.ifCond .ne 5, 3) := by decide +kernel
theorem d_Model_end_19 : decode prog_14_method_10_code 19 = .ok (.iconst 0, 1) := by decide +kernel
theorem d_Model_end_20 : decode prog_14_method_10_code 20 = .ok (.ireturn, 1) := by decide +kernel
theorem d_Model_end_21 : decode prog_14_method_10_code 21 = .ok (.aload_n 0, 1) := by decide +kernel
theorem d_Model_end_22 : decode prog_14_method_10_code 22 = .ok (.iload_n 1, 1) := by decide +kernel
theorem d_Model_end_23 : decode prog_14_method_10_code 23 = .ok (.putfield 142, 3) := by decide +kernel
theorem d_Model_end_26 : decode prog_14_method_10_code 26 = .ok (.iconst 1, 1) := by decide +kernel
theorem d_Model_end_27 : decode prog_14_method_10_code 27 = .ok (.ireturn, 1) := by decide +kernel
abbrev m_t_Model_end : Room := { frames := 1, cells := 0, slots := 0, locals := 25 }
set_option maxHeartbeats 4000000 in
set_option maxRecDepth 100000 in
theorem t_Model_end (l : Launch) (G : zG) (b0 : Nat) (p0 : Int32) (b2 : Nat) (b3 : Nat) (b4 : Nat) (b5 : Nat) (b6 : Nat) (b7 : Nat) (b8 : Nat) (b9 : Nat) (b10 : Nat) (b11 : Nat) (b12 : Nat) (b13 : Nat) (b14 : Nat) (b15 : Nat) (b16 : Nat) (b17 : Nat) (b18 : Nat) (b19 : Nat) (b20 : Nat) (b21 : Nat) (b22 : Nat) (b23 : Nat) (b24 : Nat) (b25 : Nat) (b26 : Nat) (b27 : Nat) (b28 : Nat) (b29 : Nat) (b30 : Nat) (b31 : Nat) (b32 : Nat) (b33 : Nat) (b34 : Nat) (b35 : Nat) (b36 : Nat) (b37 : Nat) (b38 : Nat) (b39 : Nat) (b40 : Nat)  : zM l G y_Model_end prog_14_method_10_code 2 (Option.some Jvm.ClassFile.FieldType.boolean) m_t_Model_end [.ref b0, .int p0] [(b0, .inr (12, [.int 0, .ref b2, .ref b3, .ref b4, .ref b5, .int 0, .ref b6, .int 0, .int 0, .int 0, .int 0, .ref b7, .ref b8, .ref b9, .int 0, .ref b10, .ref b11, .ref b12, .ref b13, .ref b14, .ref b15, .ref b16, .ref b17, .ref b18, .ref b19, .ref b20, .ref b21, .int 0, .ref b22, .ref b23, .int 0, .int 0, .int 0, .int 0, .ref b24, .ref b25, .ref b26, .ref b27, .ref b28, .ref b29, .ref b30, .int 0, .ref b31, .ref b32, .int 0, .ref b33, .ref b34, .ref b35, .ref b36, .ref b37, .int 0, .ref b38, .ref b39, .ref b40]))] (fun v _ => v = some (.int (a_end p0))) := by
  refine z_start (by decide +kernel) (Nat.le_of_ble_eq_true rfl) ?_
  intro p e s m below meth c A Z hr hnm hA hP hD hS ls hl
  have Z : zC p s m _ meth c prog_14_method_10_code 2 "TraceMachinesModel" G := Z
  obtain ⟨hx, hb, hml, hown, hts, hK, hN, hlocks⟩ := id Z
  have hl : lv_has ls 2 [(0, .ref b0), (1, .int p0)] := hl
  refine lv_aload_n hx hb d_Model_end_0 rfl (lv_at hl 0 rfl) ?_
  refine lv_iconst (v := 0) hx hb d_Model_end_1 (by decide) ?_
  refine va_put (D := G.1) (ci := 12) (v := .int 0) (ty := .int) (C := R_Model) (T := F_Model) (N := 54) hx hb hts i_Model t_Model t_Model_ok n_Model hown hK hP hD hS 0 rfl rfl 0 (by decide) (hts _ q1113) (fun _ h9 => h9) rfl (by decide +kernel) rfl rfl (Nat.le_of_ble_eq_true rfl) d_Model_end_2 (fun H locs hP hD hS => ?_)
  have hP : va_P G.1 classes [(b0, .inr (12, [.int 0, .ref b2, .ref b3, .ref b4, .ref b5, .int 0, .ref b6, .int 0, .int 0, .int 0, .int 0, .ref b7, .ref b8, .ref b9, .int 0, .ref b10, .ref b11, .ref b12, .ref b13, .ref b14, .ref b15, .ref b16, .ref b17, .ref b18, .ref b19, .ref b20, .ref b21, .int 0, .ref b22, .ref b23, .int 0, .int 0, .int 0, .int 0, .ref b24, .ref b25, .ref b26, .ref b27, .ref b28, .ref b29, .ref b30, .int 0, .ref b31, .ref b32, .int 0, .ref b33, .ref b34, .ref b35, .ref b36, .ref b37, .int 0, .ref b38, .ref b39, .ref b40]))] H := hP
  have hD := z_tie hP hD rfl
  refine lv_iload_n hx hb d_Model_end_5 rfl (lv_at hl 1 rfl) ?_
  refine lv_i2l (v := p0.toInt64) hx hb d_Model_end_6 rfl ?_
  refine lv_lconst (v := 0) hx hb d_Model_end_7 (by decide) ?_
  refine lv_aload_n hx hb d_Model_end_8 rfl (lv_at hl 0 rfl) ?_
  refine va_get (D := G.1) (ci := 12) (v := .int 0) (C := R_Model) (T := F_Model) (N := 54) hx hb hts i_Model hown hK hP 0 rfl rfl 7 (by decide) (hts _ q1120) (fun _ h9 => h9) rfl d_Model_end_9 ?_
  refine lv_i2l (v := 0) hx hb d_Model_end_12 (by decide +kernel) ?_
  refine z_callS (index := 138) (As := [.long p0.toInt64, .long 0, .long 0]) (rest := []) (wr := [(b0, .inr (12, [.int 0, .ref b2, .ref b3, .ref b4, .ref b5, .int 0, .ref b6, .int 0, .int 0, .int 0, .int 0, .ref b7, .ref b8, .ref b9, .int 0, .ref b10, .ref b11, .ref b12, .ref b13, .ref b14, .ref b15, .ref b16, .ref b17, .ref b18, .ref b19, .ref b20, .ref b21, .int 0, .ref b22, .ref b23, .int 0, .int 0, .int 0, .int 0, .ref b24, .ref b25, .ref b26, .ref b27, .ref b28, .ref b29, .ref b30, .int 0, .ref b31, .ref b32, .int 0, .ref b33, .ref b34, .ref b35, .ref b36, .ref b37, .int 0, .ref b38, .ref b39, .ref b40]))]) Z (c1_Model_in l G (p0.toInt64)) hl.1 q1285 q1286 q14 q1287 ⟨by decide, by decide, by show _ = some 3; decide +kernel⟩ ⟨Nat.le_of_ble_eq_true rfl, Nat.le_of_ble_eq_true rfl⟩ ⟨Nat.le_of_ble_eq_true rfl, Nat.le_of_ble_eq_true rfl⟩ rfl (Nat.le_of_ble_eq_true rfl) d_Model_end_13 hP hD hS hA [] [0] rfl rfl rfl rfl (by decide) (fun v w1 H locs hw_1 hP hD hS => ?_)
  rcases hw_1 with ⟨rfl, rfl, hq_2⟩ | ⟨rfl, rfl, hq_3, hq_4⟩ | ⟨rfl, rfl, hq_5, hq_6⟩
  · try simp only [Int32.toInt_toInt64, ll_0] at hq_2
    have hP : va_P G.1 classes [(b0, .inr (12, [.int 0, .ref b2, .ref b3, .ref b4, .ref b5, .int 0, .ref b6, .int 0, .int 0, .int 0, .int 0, .ref b7, .ref b8, .ref b9, .int 0, .ref b10, .ref b11, .ref b12, .ref b13, .ref b14, .ref b15, .ref b16, .ref b17, .ref b18, .ref b19, .ref b20, .ref b21, .int 0, .ref b22, .ref b23, .int 0, .int 0, .int 0, .int 0, .ref b24, .ref b25, .ref b26, .ref b27, .ref b28, .ref b29, .ref b30, .int 0, .ref b31, .ref b32, .int 0, .ref b33, .ref b34, .ref b35, .ref b36, .ref b37, .int 0, .ref b38, .ref b39, .ref b40]))] H := hP
    have hD := z_tie hP hD rfl
    refine W.widen (k := 0) (n := 0) (Nat.le_of_ble_eq_true rfl) (Nat.le_of_ble_eq_true rfl) ?_
    refine lv_if_ne (tgt := 21) hx hb d_Model_end_16 (by decide) (fun hc => absurd hc (by decide +kernel)) (fun _ => ?_)
    refine lv_iconst (v := 0) hx hb d_Model_end_19 (by decide) ?_
    exact z_zret hx hb hr hlocks rfl hP hD hS (Nat.le_of_ble_eq_true rfl) (Nat.le_of_ble_eq_true rfl) d_Model_end_20 (congrArg (fun z => some (Value.int z)) (by unfold a_end; (first | rfl | (repeat (first | rw [if_pos (by omega)] | rw [if_neg (by omega)])))))
  · try simp only [Int32.toInt_toInt64, ll_0] at hq_3
    try simp only [Int32.toInt_toInt64, ll_0] at hq_4
    have hP : va_P G.1 classes [(b0, .inr (12, [.int 0, .ref b2, .ref b3, .ref b4, .ref b5, .int 0, .ref b6, .int 0, .int 0, .int 0, .int 0, .ref b7, .ref b8, .ref b9, .int 0, .ref b10, .ref b11, .ref b12, .ref b13, .ref b14, .ref b15, .ref b16, .ref b17, .ref b18, .ref b19, .ref b20, .ref b21, .int 0, .ref b22, .ref b23, .int 0, .int 0, .int 0, .int 0, .ref b24, .ref b25, .ref b26, .ref b27, .ref b28, .ref b29, .ref b30, .int 0, .ref b31, .ref b32, .int 0, .ref b33, .ref b34, .ref b35, .ref b36, .ref b37, .int 0, .ref b38, .ref b39, .ref b40]))] H := hP
    have hD := z_tie hP hD rfl
    refine W.widen (k := 0) (n := 0) (Nat.le_of_ble_eq_true rfl) (Nat.le_of_ble_eq_true rfl) ?_
    refine lv_if_ne (tgt := 21) hx hb d_Model_end_16 (by decide) (fun hc => absurd hc (by decide +kernel)) (fun _ => ?_)
    refine lv_iconst (v := 0) hx hb d_Model_end_19 (by decide) ?_
    exact z_zret hx hb hr hlocks rfl hP hD hS (Nat.le_of_ble_eq_true rfl) (Nat.le_of_ble_eq_true rfl) d_Model_end_20 (congrArg (fun z => some (Value.int z)) (by unfold a_end; (first | rfl | (repeat (first | rw [if_pos (by omega)] | rw [if_neg (by omega)])))))
  · try simp only [Int32.toInt_toInt64, ll_0] at hq_5
    try simp only [Int32.toInt_toInt64, ll_0] at hq_6
    have hP : va_P G.1 classes [(b0, .inr (12, [.int 0, .ref b2, .ref b3, .ref b4, .ref b5, .int 0, .ref b6, .int 0, .int 0, .int 0, .int 0, .ref b7, .ref b8, .ref b9, .int 0, .ref b10, .ref b11, .ref b12, .ref b13, .ref b14, .ref b15, .ref b16, .ref b17, .ref b18, .ref b19, .ref b20, .ref b21, .int 0, .ref b22, .ref b23, .int 0, .int 0, .int 0, .int 0, .ref b24, .ref b25, .ref b26, .ref b27, .ref b28, .ref b29, .ref b30, .int 0, .ref b31, .ref b32, .int 0, .ref b33, .ref b34, .ref b35, .ref b36, .ref b37, .int 0, .ref b38, .ref b39, .ref b40]))] H := hP
    have hD := z_tie hP hD rfl
    refine W.widen (k := 0) (n := 0) (Nat.le_of_ble_eq_true rfl) (Nat.le_of_ble_eq_true rfl) ?_
    refine lv_if_ne (tgt := 21) hx hb d_Model_end_16 (by decide) (fun _ => ?_) (fun hc => absurd hc (by decide +kernel))
    refine lv_aload_n hx hb d_Model_end_21 rfl (lv_at hl 0 rfl) ?_
    refine lv_iload_n hx hb d_Model_end_22 rfl (lv_at hl 1 rfl) ?_
    refine va_put (D := G.1) (ci := 12) (v := .int p0) (ty := .int) (C := R_Model) (T := F_Model) (N := 54) hx hb hts i_Model t_Model t_Model_ok n_Model hown hK hP hD hS 0 rfl rfl 7 (by decide) (hts _ q1120) (fun _ h9 => h9) rfl (by decide +kernel) rfl rfl (Nat.le_of_ble_eq_true rfl) d_Model_end_23 (fun H locs hP hD hS => ?_)
    have hP : va_P G.1 classes [(b0, .inr (12, [.int 0, .ref b2, .ref b3, .ref b4, .ref b5, .int 0, .ref b6, .int p0, .int 0, .int 0, .int 0, .ref b7, .ref b8, .ref b9, .int 0, .ref b10, .ref b11, .ref b12, .ref b13, .ref b14, .ref b15, .ref b16, .ref b17, .ref b18, .ref b19, .ref b20, .ref b21, .int 0, .ref b22, .ref b23, .int 0, .int 0, .int 0, .int 0, .ref b24, .ref b25, .ref b26, .ref b27, .ref b28, .ref b29, .ref b30, .int 0, .ref b31, .ref b32, .int 0, .ref b33, .ref b34, .ref b35, .ref b36, .ref b37, .int 0, .ref b38, .ref b39, .ref b40]))] H := hP
    have hD := z_tie hP hD rfl
    refine lv_iconst (v := 1) hx hb d_Model_end_26 (by decide) ?_
    exact z_zret hx hb hr hlocks rfl hP hD hS (Nat.le_of_ble_eq_true rfl) (Nat.le_of_ble_eq_true rfl) d_Model_end_27 (congrArg (fun z => some (Value.int z)) (by unfold a_end; (first | rfl | (repeat (first | rw [if_pos (by omega)] | rw [if_neg (by omega)])))))
theorem d_Model_traces_0 : decode prog_14_method_18_code 0 = .ok (.aload_n 0, 1) := by decide +kernel
theorem d_Model_traces_1 : decode prog_14_method_18_code 1 = .ok (.iconst 0, 1) := by decide +kernel
theorem d_Model_traces_2 : decode prog_14_method_18_code 2 = .ok (.putfield 1, 3) := by decide +kernel
theorem d_Model_traces_5 : decode prog_14_method_18_code 5 = .ok (.iconst 0, 1) := by decide +kernel
theorem d_Model_traces_6 : decode prog_14_method_18_code 6 = .ok (.istore_n 1, 1) := by decide +kernel
theorem d_Model_traces_7 : decode prog_14_method_18_code 7 = .ok (.iload_n 1, 1) := by decide +kernel
theorem d_Model_traces_8 : decode prog_14_method_18_code 8 = .ok (.sipush 503, 3) := by decide +kernel
theorem d_Model_traces_11 : decode prog_14_method_18_code 11 = .ok (.if_icmp .ge 21, 3) := by decide +kernel
theorem d_Model_traces_32 : decode prog_14_method_18_code 32 = .ok (.aload_n 0, 1) := by decide +kernel
theorem d_Model_traces_33 : decode prog_14_method_18_code 33 = .ok (.iconst 0, 1) := by decide +kernel
theorem d_Model_traces_34 : decode prog_14_method_18_code 34 = .ok (.putfield 149, 3) := by decide +kernel
theorem d_Model_traces_37 : decode prog_14_method_18_code 37 = .ok (.aload_n 0, 1) := by decide +kernel
theorem d_Model_traces_38 : decode prog_14_method_18_code 38 = .ok (.iconst 1, 1) := by decide +kernel
theorem d_Model_traces_39 : decode prog_14_method_18_code 39 = .ok (.putfield 145, 3) := by decide +kernel
theorem d_Model_traces_42 : decode prog_14_method_18_code 42 = .ok (.aload_n 0, 1) := by decide +kernel
theorem d_Model_traces_43 : decode prog_14_method_18_code 43 = .ok (.invokevirtual 182, 3) := by decide +kernel
theorem d_Model_readTrace_0 : decode prog_14_method_15_code 0 = .ok (.aload_n 0, 1) := by decide +kernel
theorem d_Model_readTrace_1 : decode prog_14_method_15_code 1 = .ok (.invokevirtual 162, 3) := by decide +kernel
theorem d_Model_next_0 : decode prog_14_method_12_code 0 = .ok (.aload_n 0, 1) := by decide +kernel
theorem d_Model_next_1 : decode prog_14_method_12_code 1 = .ok (.getfield 149, 3) := by decide +kernel
theorem d_Model_next_4 : decode prog_14_method_12_code 4 = .ok (.aload_n 0, 1) := by decide +kernel
theorem d_Model_next_5 : decode prog_14_method_12_code 5 = .ok (.getfield 142, 3) := by decide +kernel
theorem d_Model_next_8 : decode prog_14_method_12_code 8 = .ok (.if_icmp .ge 30, 3) := by decide +kernel
theorem d_Model_next_38 : decode prog_14_method_12_code 38 = .ok (.aload_n 0, 1) := by decide +kernel
theorem d_Model_next_39 : decode prog_14_method_12_code 39 = .ok (.getfield 149, 3) := by decide +kernel
theorem d_Model_next_42 : decode prog_14_method_12_code 42 = .ok (.aload_n 0, 1) := by decide +kernel
theorem d_Model_next_43 : decode prog_14_method_12_code 43 = .ok (.getfield 142, 3) := by decide +kernel
theorem d_Model_next_46 : decode prog_14_method_12_code 46 = .ok (.if_icmp .ge 15, 3) := by decide +kernel
theorem d_Model_next_61 : decode prog_14_method_12_code 61 = .ok (.iconst 0, 1) := by decide +kernel
theorem d_Model_next_62 : decode prog_14_method_12_code 62 = .ok (.ireturn, 1) := by decide +kernel
abbrev m_c1_Model_next : Room := { frames := 0, cells := 0, slots := 0, locals := 0 }
set_option maxHeartbeats 4000000 in
set_option maxRecDepth 100000 in
theorem c1_Model_next (l : Launch) (G : zG) (b0 : Nat) (b1 : Nat) (b2 : Nat) (b3 : Nat) (b4 : Nat) (b5 : Nat) (b6 : Nat) (b7 : Nat) (b8 : Nat) (b9 : Nat) (b10 : Nat) (b11 : Nat) (b12 : Nat) (b13 : Nat) (b14 : Nat) (b15 : Nat) (b16 : Nat) (b17 : Nat) (b18 : Nat) (b19 : Nat) (b20 : Nat) (b21 : Nat) (b22 : Nat) (b23 : Nat) (b24 : Nat) (b25 : Nat) (b26 : Nat) (b27 : Nat) (b28 : Nat) (b29 : Nat) (b30 : Nat) (b31 : Nat) (b32 : Nat) (b33 : Nat) (b34 : Nat) (b35 : Nat) (b36 : Nat) (b37 : Nat) (b38 : Nat) (b39 : Nat)  : zM l G y_Model_next prog_14_method_12_code 1 (Option.some Jvm.ClassFile.FieldType.int) m_c1_Model_next [.ref b0] [(b0, .inr (12, [.int 0, .ref b1, .ref b2, .ref b3, .ref b4, .int 0, .ref b5, .int 0, .int 0, .int 0, .int 1, .ref b6, .ref b7, .ref b8, .int 0, .ref b9, .ref b10, .ref b11, .ref b12, .ref b13, .ref b14, .ref b15, .ref b16, .ref b17, .ref b18, .ref b19, .ref b20, .int 0, .ref b21, .ref b22, .int 0, .int 0, .int 0, .int 0, .ref b23, .ref b24, .ref b25, .ref b26, .ref b27, .ref b28, .ref b29, .int 0, .ref b30, .ref b31, .int 0, .ref b32, .ref b33, .ref b34, .ref b35, .ref b36, .int 0, .ref b37, .ref b38, .ref b39]))] (fun v w => (v = some (.int 0) ∧ w = [(b0, .inr (12, [.int 0, .ref b1, .ref b2, .ref b3, .ref b4, .int 0, .ref b5, .int 0, .int 0, .int 0, .int 1, .ref b6, .ref b7, .ref b8, .int 0, .ref b9, .ref b10, .ref b11, .ref b12, .ref b13, .ref b14, .ref b15, .ref b16, .ref b17, .ref b18, .ref b19, .ref b20, .int 0, .ref b21, .ref b22, .int 0, .int 0, .int 0, .int 0, .ref b23, .ref b24, .ref b25, .ref b26, .ref b27, .ref b28, .ref b29, .int 0, .ref b30, .ref b31, .int 0, .ref b32, .ref b33, .ref b34, .ref b35, .ref b36, .int 0, .ref b37, .ref b38, .ref b39]))])) := by
  refine z_start (by decide +kernel) (Nat.le_of_ble_eq_true rfl) ?_
  intro p e s m below meth c A Z hr hnm hA hP hD hS ls hl
  have Z : zC p s m _ meth c prog_14_method_12_code 1 "TraceMachinesModel" G := Z
  obtain ⟨hx, hb, hml, hown, hts, hK, hN, hlocks⟩ := id Z
  have hl : lv_has ls 1 [(0, .ref b0)] := hl
  refine lv_aload_n hx hb d_Model_next_0 rfl (lv_at hl 0 rfl) ?_
  refine va_get (D := G.1) (ci := 12) (v := .int 0) (C := R_Model) (T := F_Model) (N := 54) hx hb hts i_Model hown hK hP 0 rfl rfl 8 (by decide) (hts _ q1121) (fun _ h9 => h9) rfl d_Model_next_1 ?_
  refine lv_aload_n hx hb d_Model_next_4 rfl (lv_at hl 0 rfl) ?_
  refine va_get (D := G.1) (ci := 12) (v := .int 0) (C := R_Model) (T := F_Model) (N := 54) hx hb hts i_Model hown hK hP 0 rfl rfl 7 (by decide) (hts _ q1120) (fun _ h9 => h9) rfl d_Model_next_5 ?_
  refine lv_icmp_ge (tgt := 38) hx hb d_Model_next_8 (by decide) (fun _ => ?_) (fun hc => absurd hc (by decide +kernel))
  refine lv_aload_n hx hb d_Model_next_38 rfl (lv_at hl 0 rfl) ?_
  refine va_get (D := G.1) (ci := 12) (v := .int 0) (C := R_Model) (T := F_Model) (N := 54) hx hb hts i_Model hown hK hP 0 rfl rfl 8 (by decide) (hts _ q1121) (fun _ h9 => h9) rfl d_Model_next_39 ?_
  refine lv_aload_n hx hb d_Model_next_42 rfl (lv_at hl 0 rfl) ?_
  refine va_get (D := G.1) (ci := 12) (v := .int 0) (C := R_Model) (T := F_Model) (N := 54) hx hb hts i_Model hown hK hP 0 rfl rfl 7 (by decide) (hts _ q1120) (fun _ h9 => h9) rfl d_Model_next_43 ?_
  refine lv_icmp_ge (tgt := 61) hx hb d_Model_next_46 (by decide) (fun _ => ?_) (fun hc => absurd hc (by decide +kernel))
  refine lv_iconst (v := 0) hx hb d_Model_next_61 (by decide) ?_
  exact z_iret hx hb hr hlocks hP hD hS (Nat.le_of_ble_eq_true rfl) (Nat.le_of_ble_eq_true rfl) d_Model_next_62 ⟨rfl, rfl⟩
theorem d_Model_readTrace_4 : decode prog_14_method_15_code 4 = .ok (.pop, 1) := by decide +kernel
theorem d_Model_readTrace_5 : decode prog_14_method_15_code 5 = .ok (.aload_n 0, 1) := by decide +kernel
theorem d_Model_readTrace_6 : decode prog_14_method_15_code 6 = .ok (.getfield 31, 3) := by decide +kernel
theorem d_Model_readTrace_9 : decode prog_14_method_15_code 9 = .ok (.iconst 0, 1) := by decide +kernel
theorem d_Model_readTrace_10 : decode prog_14_method_15_code 10 = .ok (.iaload, 1) := by decide +kernel
theorem d_Model_readTrace_11 : decode prog_14_method_15_code 11 = .ok (.bipush 20, 2) := by decide +kernel
theorem d_Model_readTrace_13 : decode prog_14_method_15_code 13 = .ok (.if_icmp .ne 8, 3) := by decide +kernel
theorem d_Model_readTrace_21 : decode prog_14_method_15_code 21 = .ok (.aload_n 0, 1) := by decide +kernel
theorem d_Model_readTrace_22 : decode prog_14_method_15_code 22 = .ok (.invokevirtual 176, 3) := by decide +kernel
theorem d_Model_readCalls_0 : decode prog_14_method_14_code 0 = .ok (.aload_n 0, 1) := by decide +kernel
theorem d_Model_readCalls_1 : decode prog_14_method_14_code 1 = .ok (.iconst 0, 1) := by decide +kernel
theorem d_Model_readCalls_2 : decode prog_14_method_14_code 2 = .ok (.putfield 159, 3) := by decide +kernel
theorem d_Model_readCalls_5 : decode prog_14_method_14_code 5 = .ok (.aload_n 0, 1) := by decide +kernel
theorem d_Model_readCalls_6 : decode prog_14_method_14_code 6 = .ok (.getfield 145, 3) := by decide +kernel
theorem d_Model_readCalls_9 : decode prog_14_method_14_code 9 = .ok (.ifCond .eq 149, 3) := by decide +kernel
theorem d_Model_readCalls_12 : decode prog_14_method_14_code 12 = .ok (.aload_n 0, 1) := by decide +kernel
theorem d_Model_readCalls_13 : decode prog_14_method_14_code 13 = .ok (.invokevirtual 162, 3) := by decide +kernel
theorem d_Model_readCalls_16 : decode prog_14_method_14_code 16 = .ok (.i2l, 1) := by decide +kernel
theorem d_Model_readCalls_17 : decode prog_14_method_14_code 17 = .ok (.ldc2_w 165, 3) := by decide +kernel
theorem d_Model_readCalls_20 : decode prog_14_method_14_code 20 = .ok (.ldc2_w 167, 3) := by decide +kernel
theorem d_Model_readCalls_23 : decode prog_14_method_14_code 23 = .ok (.invokestatic 138, 3) := by decide +kernel
abbrev m_c2_Model_in : Room := { frames := 0, cells := 0, slots := 0, locals := 0 }
set_option maxHeartbeats 4000000 in
set_option maxRecDepth 100000 in
theorem c2_Model_in (l : Launch) (G : zG)   : zM l G y_Model_in prog_14_method_3_code 6 (Option.some Jvm.ClassFile.FieldType.boolean) m_c2_Model_in [.long 0, .long 97, .long 106] [] (fun v w => (v = some (.int 0) ∧ w = [])) := by
  refine z_start (by decide +kernel) (Nat.le_of_ble_eq_true rfl) ?_
  intro p e s m below meth c A Z hr hnm hA hP hD hS ls hl
  have Z : zC p s m _ meth c prog_14_method_3_code 6 "TraceMachinesModel" G := Z
  obtain ⟨hx, hb, hml, hown, hts, hK, hN, hlocks⟩ := id Z
  have hl : lv_has ls 6 [(0, .long 0), (2, .long 97), (4, .long 106)] := hl
  refine lv_lload_n hx hb d_Model_in_0 rfl (lv_at hl 0 rfl) ?_
  refine lv_lload_n hx hb d_Model_in_1 rfl (lv_at hl 1 rfl) ?_
  refine W.lcmp hx hb d_Model_in_2 ?_
  refine z_topi (y := (-1)) (by decide +kernel) ?_
  refine lv_if_lt (tgt := 17) hx hb d_Model_in_3 (by decide) (fun _ => ?_) (fun hc => absurd hc (by decide +kernel))
  refine lv_iconst (v := 0) hx hb d_Model_in_17 (by decide) ?_
  exact z_zret hx hb hr hlocks rfl hP hD hS (Nat.le_of_ble_eq_true rfl) (Nat.le_of_ble_eq_true rfl) d_Model_in_18 ⟨rfl, rfl⟩
theorem d_Model_readCalls_26 : decode prog_14_method_14_code 26 = .ok (.ifCond .eq 132, 3) := by decide +kernel
theorem d_Model_readCalls_158 : decode prog_14_method_14_code 158 = .ok (.return_, 1) := by decide +kernel
abbrev m_c1_Model_readCalls : Room := { frames := 1, cells := 0, slots := 0, locals := 25 }
set_option maxHeartbeats 4000000 in
set_option maxRecDepth 100000 in
theorem c1_Model_readCalls (l : Launch) (G : zG) (b0 : Nat) (b1 : Nat) (b2 : Nat) (b3 : Nat) (b4 : Nat) (b5 : Nat) (b6 : Nat) (b7 : Nat) (b8 : Nat) (b9 : Nat) (b10 : Nat) (b11 : Nat) (b12 : Nat) (b13 : Nat) (b14 : Nat) (b15 : Nat) (b16 : Nat) (b17 : Nat) (b18 : Nat) (b19 : Nat) (b20 : Nat) (b21 : Nat) (b22 : Nat) (b23 : Nat) (b24 : Nat) (b25 : Nat) (b26 : Nat) (b27 : Nat) (b28 : Nat) (b29 : Nat) (b30 : Nat) (b31 : Nat) (b32 : Nat) (b33 : Nat) (b34 : Nat) (b35 : Nat) (b36 : Nat) (b37 : Nat) (b38 : Nat) (b39 : Nat)  : zM l G y_Model_readCalls prog_14_method_14_code 3 (Option.none : Option Jvm.ClassFile.FieldType) m_c1_Model_readCalls [.ref b0] [(b0, .inr (12, [.int 0, .ref b1, .ref b2, .ref b3, .ref b4, .int 0, .ref b5, .int 0, .int 0, .int 0, .int 1, .ref b6, .ref b7, .ref b8, .int 0, .ref b9, .ref b10, .ref b11, .ref b12, .ref b13, .ref b14, .ref b15, .ref b16, .ref b17, .ref b18, .ref b19, .ref b20, .int 0, .ref b21, .ref b22, .int 0, .int 0, .int 0, .int 0, .ref b23, .ref b24, .ref b25, .ref b26, .ref b27, .ref b28, .ref b29, .int 0, .ref b30, .ref b31, .int 0, .ref b32, .ref b33, .ref b34, .ref b35, .ref b36, .int 0, .ref b37, .ref b38, .ref b39]))] (fun v w => (v = none ∧ w = [(b0, .inr (12, [.int 0, .ref b1, .ref b2, .ref b3, .ref b4, .int 0, .ref b5, .int 0, .int 0, .int 0, .int 1, .ref b6, .ref b7, .ref b8, .int 0, .ref b9, .ref b10, .ref b11, .ref b12, .ref b13, .ref b14, .ref b15, .ref b16, .ref b17, .ref b18, .ref b19, .ref b20, .int 0, .ref b21, .ref b22, .int 0, .int 0, .int 0, .int 0, .ref b23, .ref b24, .ref b25, .ref b26, .ref b27, .ref b28, .ref b29, .int 0, .ref b30, .ref b31, .int 0, .ref b32, .ref b33, .ref b34, .ref b35, .ref b36, .int 0, .ref b37, .ref b38, .ref b39]))])) := by
  refine z_start (by decide +kernel) (Nat.le_of_ble_eq_true rfl) ?_
  intro p e s m below meth c A Z hr hnm hA hP hD hS ls hl
  have Z : zC p s m _ meth c prog_14_method_14_code 3 "TraceMachinesModel" G := Z
  obtain ⟨hx, hb, hml, hown, hts, hK, hN, hlocks⟩ := id Z
  have hl : lv_has ls 3 [(0, .ref b0)] := hl
  refine lv_aload_n hx hb d_Model_readCalls_0 rfl (lv_at hl 0 rfl) ?_
  refine lv_iconst (v := 0) hx hb d_Model_readCalls_1 (by decide) ?_
  refine va_put (D := G.1) (ci := 12) (v := .int 0) (ty := .int) (C := R_Model) (T := F_Model) (N := 54) hx hb hts i_Model t_Model t_Model_ok n_Model hown hK hP hD hS 0 rfl rfl 14 (by decide) (hts _ q1127) (fun _ h9 => h9) rfl (by decide +kernel) rfl rfl (Nat.le_of_ble_eq_true rfl) d_Model_readCalls_2 (fun H locs hP hD hS => ?_)
  have hP : va_P G.1 classes [(b0, .inr (12, [.int 0, .ref b1, .ref b2, .ref b3, .ref b4, .int 0, .ref b5, .int 0, .int 0, .int 0, .int 1, .ref b6, .ref b7, .ref b8, .int 0, .ref b9, .ref b10, .ref b11, .ref b12, .ref b13, .ref b14, .ref b15, .ref b16, .ref b17, .ref b18, .ref b19, .ref b20, .int 0, .ref b21, .ref b22, .int 0, .int 0, .int 0, .int 0, .ref b23, .ref b24, .ref b25, .ref b26, .ref b27, .ref b28, .ref b29, .int 0, .ref b30, .ref b31, .int 0, .ref b32, .ref b33, .ref b34, .ref b35, .ref b36, .int 0, .ref b37, .ref b38, .ref b39]))] H := hP
  have hD := z_tie hP hD rfl
  refine lv_aload_n hx hb d_Model_readCalls_5 rfl (lv_at hl 0 rfl) ?_
  refine va_get (D := G.1) (ci := 12) (v := .int 1) (C := R_Model) (T := F_Model) (N := 54) hx hb hts i_Model hown hK hP 0 rfl rfl 10 (by decide) (hts _ q1123) (fun _ h9 => h9) rfl d_Model_readCalls_6 ?_
  refine lv_if_eq (tgt := 158) hx hb d_Model_readCalls_9 (by decide) (fun hc => absurd hc (by decide +kernel)) (fun _ => ?_)
  refine lv_aload_n hx hb d_Model_readCalls_12 rfl (lv_at hl 0 rfl) ?_
  refine z_callV (index := 162) (As := []) (rest := []) (wr := []) Z (c1_Model_next l G (b0) (b1) (b2) (b3) (b4) (b5) (b6) (b7) (b8) (b9) (b10) (b11) (b12) (b13) (b14) (b15) (b16) (b17) (b18) (b19) (b20) (b21) (b22) (b23) (b24) (b25) (b26) (b27) (b28) (b29) (b30) (b31) (b32) (b33) (b34) (b35) (b36) (b37) (b38) (b39)) hl.1 q1296 q1298 qs45 q14 q1299 ⟨by decide, by decide, by show _ = some 0; decide +kernel⟩ ⟨Nat.le_of_ble_eq_true rfl, Nat.le_of_ble_eq_true rfl⟩ ⟨Nat.le_of_ble_eq_true rfl, Nat.le_of_ble_eq_true rfl⟩ rfl (Nat.le_of_ble_eq_true rfl) d_Model_readCalls_13 hP hD hS hA 0 12 rfl rfl rfl [0] [] rfl rfl rfl rfl (by decide) (fun v w1 H locs hw_1 hP hD hS => ?_)
  obtain ⟨rfl, rfl⟩ := hw_1
  have hP : va_P G.1 classes [(b0, .inr (12, [.int 0, .ref b1, .ref b2, .ref b3, .ref b4, .int 0, .ref b5, .int 0, .int 0, .int 0, .int 1, .ref b6, .ref b7, .ref b8, .int 0, .ref b9, .ref b10, .ref b11, .ref b12, .ref b13, .ref b14, .ref b15, .ref b16, .ref b17, .ref b18, .ref b19, .ref b20, .int 0, .ref b21, .ref b22, .int 0, .int 0, .int 0, .int 0, .ref b23, .ref b24, .ref b25, .ref b26, .ref b27, .ref b28, .ref b29, .int 0, .ref b30, .ref b31, .int 0, .ref b32, .ref b33, .ref b34, .ref b35, .ref b36, .int 0, .ref b37, .ref b38, .ref b39]))] H := hP
  have hD := z_tie hP hD rfl
  refine W.widen (k := 0) (n := 0) (Nat.le_of_ble_eq_true rfl) (Nat.le_of_ble_eq_true rfl) ?_
  refine lv_i2l (v := 0) hx hb d_Model_readCalls_16 (by decide +kernel) ?_
  refine lv_ldc2 hx hb hown (hts _ q1308) d_Model_readCalls_17 ?_
  refine lv_ldc2 hx hb hown (hts _ q1309) d_Model_readCalls_20 ?_
  refine z_callS (index := 138) (As := [.long 0, .long 97, .long 106]) (rest := []) (wr := [(b0, .inr (12, [.int 0, .ref b1, .ref b2, .ref b3, .ref b4, .int 0, .ref b5, .int 0, .int 0, .int 0, .int 1, .ref b6, .ref b7, .ref b8, .int 0, .ref b9, .ref b10, .ref b11, .ref b12, .ref b13, .ref b14, .ref b15, .ref b16, .ref b17, .ref b18, .ref b19, .ref b20, .int 0, .ref b21, .ref b22, .int 0, .int 0, .int 0, .int 0, .ref b23, .ref b24, .ref b25, .ref b26, .ref b27, .ref b28, .ref b29, .int 0, .ref b30, .ref b31, .int 0, .ref b32, .ref b33, .ref b34, .ref b35, .ref b36, .int 0, .ref b37, .ref b38, .ref b39]))]) Z (c2_Model_in l G ) hl.1 q1285 q1286 q14 q1287 ⟨by decide, by decide, by show _ = some 3; decide +kernel⟩ ⟨Nat.le_of_ble_eq_true rfl, Nat.le_of_ble_eq_true rfl⟩ ⟨Nat.le_of_ble_eq_true rfl, Nat.le_of_ble_eq_true rfl⟩ rfl (Nat.le_of_ble_eq_true rfl) d_Model_readCalls_23 hP hD hS hA [] [0] rfl rfl rfl rfl (by decide) (fun v w1 H locs hw_2 hP hD hS => ?_)
  obtain ⟨rfl, rfl⟩ := hw_2
  have hP : va_P G.1 classes [(b0, .inr (12, [.int 0, .ref b1, .ref b2, .ref b3, .ref b4, .int 0, .ref b5, .int 0, .int 0, .int 0, .int 1, .ref b6, .ref b7, .ref b8, .int 0, .ref b9, .ref b10, .ref b11, .ref b12, .ref b13, .ref b14, .ref b15, .ref b16, .ref b17, .ref b18, .ref b19, .ref b20, .int 0, .ref b21, .ref b22, .int 0, .int 0, .int 0, .int 0, .ref b23, .ref b24, .ref b25, .ref b26, .ref b27, .ref b28, .ref b29, .int 0, .ref b30, .ref b31, .int 0, .ref b32, .ref b33, .ref b34, .ref b35, .ref b36, .int 0, .ref b37, .ref b38, .ref b39]))] H := hP
  have hD := z_tie hP hD rfl
  refine W.widen (k := 0) (n := 0) (Nat.le_of_ble_eq_true rfl) (Nat.le_of_ble_eq_true rfl) ?_
  refine lv_if_eq (tgt := 158) hx hb d_Model_readCalls_26 (by decide) (fun _ => ?_) (fun hc => absurd hc (by decide +kernel))
  exact z_vret hx hb hr hlocks hP hD hS (Nat.le_of_ble_eq_true rfl) (Nat.le_of_ble_eq_true rfl) d_Model_readCalls_158 ⟨rfl, rfl⟩
theorem d_Model_readTrace_25 : decode prog_14_method_15_code 25 = .ok (.aload_n 0, 1) := by decide +kernel
theorem d_Model_readTrace_26 : decode prog_14_method_15_code 26 = .ok (.getfield 145, 3) := by decide +kernel
theorem d_Model_readTrace_29 : decode prog_14_method_15_code 29 = .ok (.ifCond .eq 111, 3) := by decide +kernel
theorem d_Model_readTrace_32 : decode prog_14_method_15_code 32 = .ok (.aload_n 0, 1) := by decide +kernel
theorem d_Model_readTrace_33 : decode prog_14_method_15_code 33 = .ok (.getfield 31, 3) := by decide +kernel
theorem d_Model_readTrace_36 : decode prog_14_method_15_code 36 = .ok (.iconst 0, 1) := by decide +kernel
theorem d_Model_readTrace_37 : decode prog_14_method_15_code 37 = .ok (.iaload, 1) := by decide +kernel
theorem d_Model_readTrace_38 : decode prog_14_method_15_code 38 = .ok (.istore_n 1, 1) := by decide +kernel
theorem d_Model_readTrace_39 : decode prog_14_method_15_code 39 = .ok (.aload_n 0, 1) := by decide +kernel
theorem d_Model_readTrace_40 : decode prog_14_method_15_code 40 = .ok (.getfield 31, 3) := by decide +kernel
theorem d_Model_readTrace_43 : decode prog_14_method_15_code 43 = .ok (.iconst 1, 1) := by decide +kernel
theorem d_Model_readTrace_44 : decode prog_14_method_15_code 44 = .ok (.iload_n 1, 1) := by decide +kernel
theorem d_Model_readTrace_45 : decode prog_14_method_15_code 45 = .ok (.iadd, 1) := by decide +kernel
theorem d_Model_readTrace_46 : decode prog_14_method_15_code 46 = .ok (.aload_n 0, 1) := by decide +kernel
theorem d_Model_readTrace_47 : decode prog_14_method_15_code 47 = .ok (.getfield 159, 3) := by decide +kernel
theorem d_Model_readTrace_50 : decode prog_14_method_15_code 50 = .ok (.iastore, 1) := by decide +kernel
theorem d_Model_readTrace_51 : decode prog_14_method_15_code 51 = .ok (.iconst 0, 1) := by decide +kernel
theorem d_Model_readTrace_52 : decode prog_14_method_15_code 52 = .ok (.istore_n 2, 1) := by decide +kernel
theorem d_Model_readTrace_53 : decode prog_14_method_15_code 53 = .ok (.iload_n 2, 1) := by decide +kernel
theorem d_Model_readTrace_54 : decode prog_14_method_15_code 54 = .ok (.bipush 12, 2) := by decide +kernel
theorem d_Model_readTrace_56 : decode prog_14_method_15_code 56 = .ok (.if_icmp .ge 74, 3) := by decide +kernel
theorem d_Model_readTrace_59 : decode prog_14_method_15_code 59 = .ok (.aload_n 0, 1) := by decide +kernel
theorem d_Model_readTrace_60 : decode prog_14_method_15_code 60 = .ok (.getfield 31, 3) := by decide +kernel
theorem d_Model_readTrace_63 : decode prog_14_method_15_code 63 = .ok (.bipush 21, 2) := by decide +kernel
theorem d_Model_readTrace_65 : decode prog_14_method_15_code 65 = .ok (.bipush 12, 2) := by decide +kernel
theorem d_Model_readTrace_67 : decode prog_14_method_15_code 67 = .ok (.iload_n 1, 1) := by decide +kernel
theorem d_Model_readTrace_68 : decode prog_14_method_15_code 68 = .ok (.imul, 1) := by decide +kernel
theorem d_Model_readTrace_69 : decode prog_14_method_15_code 69 = .ok (.iadd, 1) := by decide +kernel
theorem d_Model_readTrace_70 : decode prog_14_method_15_code 70 = .ok (.iload_n 2, 1) := by decide +kernel
theorem d_Model_readTrace_71 : decode prog_14_method_15_code 71 = .ok (.iadd, 1) := by decide +kernel
theorem d_Model_readTrace_72 : decode prog_14_method_15_code 72 = .ok (.iload_n 2, 1) := by decide +kernel
theorem d_Model_readTrace_73 : decode prog_14_method_15_code 73 = .ok (.aload_n 0, 1) := by decide +kernel
theorem d_Model_readTrace_74 : decode prog_14_method_15_code 74 = .ok (.getfield 159, 3) := by decide +kernel
theorem d_Model_readTrace_77 : decode prog_14_method_15_code 77 = .ok (.if_icmp .ge 12, 3) := by decide +kernel
theorem d_Model_readTrace_89 : decode prog_14_method_15_code 89 = .ok (.iconst 0, 1) := by decide +kernel
theorem d_Model_readTrace_90 : decode prog_14_method_15_code 90 = .ok (.iastore, 1) := by decide +kernel
theorem d_Model_readTrace_91 : decode prog_14_method_15_code 91 = .ok (.aload_n 0, 1) := by decide +kernel
theorem d_Model_readTrace_92 : decode prog_14_method_15_code 92 = .ok (.getfield 31, 3) := by decide +kernel
theorem d_Model_readTrace_95 : decode prog_14_method_15_code 95 = .ok (.sipush 261, 3) := by decide +kernel
theorem d_Model_readTrace_98 : decode prog_14_method_15_code 98 = .ok (.bipush 12, 2) := by decide +kernel
theorem d_Model_readTrace_100 : decode prog_14_method_15_code 100 = .ok (.iload_n 1, 1) := by decide +kernel
theorem d_Model_readTrace_101 : decode prog_14_method_15_code 101 = .ok (.imul, 1) := by decide +kernel
theorem d_Model_readTrace_102 : decode prog_14_method_15_code 102 = .ok (.iadd, 1) := by decide +kernel
theorem d_Model_readTrace_103 : decode prog_14_method_15_code 103 = .ok (.iload_n 2, 1) := by decide +kernel
theorem d_Model_readTrace_104 : decode prog_14_method_15_code 104 = .ok (.iadd, 1) := by decide +kernel
theorem d_Model_readTrace_105 : decode prog_14_method_15_code 105 = .ok (.iload_n 2, 1) := by decide +kernel
theorem d_Model_readTrace_106 : decode prog_14_method_15_code 106 = .ok (.aload_n 0, 1) := by decide +kernel
theorem d_Model_readTrace_107 : decode prog_14_method_15_code 107 = .ok (.getfield 159, 3) := by decide +kernel
theorem d_Model_readTrace_110 : decode prog_14_method_15_code 110 = .ok (.if_icmp .ge 12, 3) := by decide +kernel
theorem d_Model_readTrace_122 : decode prog_14_method_15_code 122 = .ok (.iconst 0, 1) := by decide +kernel
theorem d_Model_readTrace_123 : decode prog_14_method_15_code 123 = .ok (.iastore, 1) := by decide +kernel
theorem d_Model_readTrace_124 : decode prog_14_method_15_code 124 = .ok (.iinc 2 1, 3) := by decide +kernel
theorem d_Model_readTrace_127 : decode prog_14_method_15_code 127 = .ok (.goto (-74), 3) := by decide +kernel
theorem d_Model_readTrace_130 : decode prog_14_method_15_code 130 = .ok (.aload_n 0, 1) := by decide +kernel
theorem d_Model_readTrace_131 : decode prog_14_method_15_code 131 = .ok (.getfield 31, 3) := by decide +kernel
theorem d_Model_readTrace_134 : decode prog_14_method_15_code 134 = .ok (.iconst 0, 1) := by decide +kernel
theorem d_Model_readTrace_135 : decode prog_14_method_15_code 135 = .ok (.dup2, 1) := by decide +kernel
theorem d_Model_readTrace_136 : decode prog_14_method_15_code 136 = .ok (.iaload, 1) := by decide +kernel
theorem d_Model_readTrace_137 : decode prog_14_method_15_code 137 = .ok (.iconst 1, 1) := by decide +kernel
theorem d_Model_readTrace_138 : decode prog_14_method_15_code 138 = .ok (.iadd, 1) := by decide +kernel
theorem d_Model_readTrace_139 : decode prog_14_method_15_code 139 = .ok (.iastore, 1) := by decide +kernel
theorem d_Model_readTrace_140 : decode prog_14_method_15_code 140 = .ok (.return_, 1) := by decide +kernel
abbrev m_c1_Model_readTrace : Room := { frames := 2, cells := 0, slots := 0, locals := 47 }
set_option maxHeartbeats 4000000 in
set_option maxRecDepth 100000 in
theorem c1_Model_readTrace (l : Launch) (G : zG) (b0 : Nat) (b1 : Nat) (b2 : Nat) (b3 : Nat) (b4 : Nat) (b5 : Nat) (b6 : Nat) (b7 : Nat) (b8 : Nat) (b9 : Nat) (b10 : Nat) (b11 : Nat) (b12 : Nat) (b13 : Nat) (b14 : Nat) (b15 : Nat) (b16 : Nat) (b17 : Nat) (b18 : Nat) (b19 : Nat) (b20 : Nat) (b21 : Nat) (b22 : Nat) (b23 : Nat) (b24 : Nat) (b25 : Nat) (b26 : Nat) (b27 : Nat) (b28 : Nat) (b29 : Nat) (b30 : Nat) (b31 : Nat) (b32 : Nat) (b33 : Nat) (b34 : Nat) (b35 : Nat) (b36 : Nat) (b37 : Nat) (b38 : Nat) (b39 : Nat)  : zM l G y_Model_readTrace prog_14_method_15_code 3 (Option.none : Option Jvm.ClassFile.FieldType) m_c1_Model_readTrace [.ref b0] [(b0, .inr (12, [.int 0, .ref b1, .ref b2, .ref b3, .ref b4, .int 0, .ref b5, .int 0, .int 0, .int 0, .int 1, .ref b6, .ref b7, .ref b8, .int 0, .ref b9, .ref b10, .ref b11, .ref b12, .ref b13, .ref b14, .ref b15, .ref b16, .ref b17, .ref b18, .ref b19, .ref b20, .int 0, .ref b21, .ref b22, .int 0, .int 0, .int 0, .int 0, .ref b23, .ref b24, .ref b25, .ref b26, .ref b27, .ref b28, .ref b29, .int 0, .ref b30, .ref b31, .int 0, .ref b32, .ref b33, .ref b34, .ref b35, .ref b36, .int 0, .ref b37, .ref b38, .ref b39])), (b6, .inl (G.2 0, 503, .inl (upd (fun _ => 0) 501 1)))] (fun v w => (v = none ∧ w = [(b6, .inl (G.2 0, 503, .inl (upd (upd (upd (upd (upd (upd (upd (upd (upd (upd (upd (upd (upd (upd (upd (upd (upd (upd (upd (upd (upd (upd (upd (upd (upd (upd (upd (fun _ => 0) 501 1) 1 0) 21 0) 261 0) 22 0) 262 0) 23 0) 263 0) 24 0) 264 0) 25 0) 265 0) 26 0) 266 0) 27 0) 267 0) 28 0) 268 0) 29 0) 269 0) 30 0) 270 0) 31 0) 271 0) 32 0) 272 0) 0 1))), (b0, .inr (12, [.int 0, .ref b1, .ref b2, .ref b3, .ref b4, .int 0, .ref b5, .int 0, .int 0, .int 0, .int 1, .ref b6, .ref b7, .ref b8, .int 0, .ref b9, .ref b10, .ref b11, .ref b12, .ref b13, .ref b14, .ref b15, .ref b16, .ref b17, .ref b18, .ref b19, .ref b20, .int 0, .ref b21, .ref b22, .int 0, .int 0, .int 0, .int 0, .ref b23, .ref b24, .ref b25, .ref b26, .ref b27, .ref b28, .ref b29, .int 0, .ref b30, .ref b31, .int 0, .ref b32, .ref b33, .ref b34, .ref b35, .ref b36, .int 0, .ref b37, .ref b38, .ref b39]))])) := by
  refine z_start (by decide +kernel) (Nat.le_of_ble_eq_true rfl) ?_
  intro p e s m below meth c A Z hr hnm hA hP hD hS ls hl
  have Z : zC p s m _ meth c prog_14_method_15_code 3 "TraceMachinesModel" G := Z
  obtain ⟨hx, hb, hml, hown, hts, hK, hN, hlocks⟩ := id Z
  have hl : lv_has ls 3 [(0, .ref b0)] := hl
  refine lv_aload_n hx hb d_Model_readTrace_0 rfl (lv_at hl 0 rfl) ?_
  refine z_callV (index := 162) (As := []) (rest := []) (wr := [(b6, .inl (G.2 0, 503, .inl (upd (fun _ => 0) 501 1)))]) Z (c1_Model_next l G (b0) (b1) (b2) (b3) (b4) (b5) (b6) (b7) (b8) (b9) (b10) (b11) (b12) (b13) (b14) (b15) (b16) (b17) (b18) (b19) (b20) (b21) (b22) (b23) (b24) (b25) (b26) (b27) (b28) (b29) (b30) (b31) (b32) (b33) (b34) (b35) (b36) (b37) (b38) (b39)) hl.1 q1296 q1298 qs45 q14 q1299 ⟨by decide, by decide, by show _ = some 0; decide +kernel⟩ ⟨Nat.le_of_ble_eq_true rfl, Nat.le_of_ble_eq_true rfl⟩ ⟨Nat.le_of_ble_eq_true rfl, Nat.le_of_ble_eq_true rfl⟩ rfl (Nat.le_of_ble_eq_true rfl) d_Model_readTrace_1 hP hD hS hA 0 12 rfl rfl rfl [0] [1] rfl rfl rfl rfl (by decide) (fun v w1 H locs hw_1 hP hD hS => ?_)
  obtain ⟨rfl, rfl⟩ := hw_1
  have hP : va_P G.1 classes [(b6, .inl (G.2 0, 503, .inl (upd (fun _ => 0) 501 1))), (b0, .inr (12, [.int 0, .ref b1, .ref b2, .ref b3, .ref b4, .int 0, .ref b5, .int 0, .int 0, .int 0, .int 1, .ref b6, .ref b7, .ref b8, .int 0, .ref b9, .ref b10, .ref b11, .ref b12, .ref b13, .ref b14, .ref b15, .ref b16, .ref b17, .ref b18, .ref b19, .ref b20, .int 0, .ref b21, .ref b22, .int 0, .int 0, .int 0, .int 0, .ref b23, .ref b24, .ref b25, .ref b26, .ref b27, .ref b28, .ref b29, .int 0, .ref b30, .ref b31, .int 0, .ref b32, .ref b33, .ref b34, .ref b35, .ref b36, .int 0, .ref b37, .ref b38, .ref b39]))] H := hP
  have hD := z_tie hP hD rfl
  refine W.widen (k := 0) (n := 0) (Nat.le_of_ble_eq_true rfl) (Nat.le_of_ble_eq_true rfl) ?_
  refine lv_pop hx hb d_Model_readTrace_4 rfl ?_
  refine lv_aload_n hx hb d_Model_readTrace_5 rfl (lv_at hl 0 rfl) ?_
  refine va_get (D := G.1) (ci := 12) (v := .ref b6) (C := R_Model) (T := F_Model) (N := 54) hx hb hts i_Model hown hK hP 1 rfl rfl 11 (by decide) (hts _ q1124) (fun _ h9 => h9) rfl d_Model_readTrace_6 ?_
  refine lv_iconst (v := 0) hx hb d_Model_readTrace_9 (by decide) ?_
  refine va_iald hx hb hK hP 0 0 rfl rfl (i := 0) (z_in rfl) d_Model_readTrace_10 ?_
  refine z_topi (y := 0) rfl ?_
  refine lv_bipush (v := 20) hx hb d_Model_readTrace_11 (by decide) ?_
  refine lv_icmp_ne (tgt := 21) hx hb d_Model_readTrace_13 (by decide) (fun _ => ?_) (fun hc => absurd hc (by decide +kernel))
  refine lv_aload_n hx hb d_Model_readTrace_21 rfl (lv_at hl 0 rfl) ?_
  refine z_callV (index := 176) (As := []) (rest := []) (wr := [(b6, .inl (G.2 0, 503, .inl (upd (fun _ => 0) 501 1)))]) Z (c1_Model_readCalls l G (b0) (b1) (b2) (b3) (b4) (b5) (b6) (b7) (b8) (b9) (b10) (b11) (b12) (b13) (b14) (b15) (b16) (b17) (b18) (b19) (b20) (b21) (b22) (b23) (b24) (b25) (b26) (b27) (b28) (b29) (b30) (b31) (b32) (b33) (b34) (b35) (b36) (b37) (b38) (b39)) hl.1 q1304 q1306 qs47 q14 q1307 ⟨by decide, by decide, by show _ = some 0; decide +kernel⟩ ⟨Nat.le_of_ble_eq_true rfl, Nat.le_of_ble_eq_true rfl⟩ ⟨Nat.le_of_ble_eq_true rfl, Nat.le_of_ble_eq_true rfl⟩ rfl (Nat.le_of_ble_eq_true rfl) d_Model_readTrace_22 hP hD hS hA 1 12 rfl rfl rfl [1] [0] rfl rfl rfl rfl (by decide) (fun v w1 H locs hw_2 hP hD hS => ?_)
  obtain ⟨rfl, rfl⟩ := hw_2
  have hP : va_P G.1 classes [(b6, .inl (G.2 0, 503, .inl (upd (fun _ => 0) 501 1))), (b0, .inr (12, [.int 0, .ref b1, .ref b2, .ref b3, .ref b4, .int 0, .ref b5, .int 0, .int 0, .int 0, .int 1, .ref b6, .ref b7, .ref b8, .int 0, .ref b9, .ref b10, .ref b11, .ref b12, .ref b13, .ref b14, .ref b15, .ref b16, .ref b17, .ref b18, .ref b19, .ref b20, .int 0, .ref b21, .ref b22, .int 0, .int 0, .int 0, .int 0, .ref b23, .ref b24, .ref b25, .ref b26, .ref b27, .ref b28, .ref b29, .int 0, .ref b30, .ref b31, .int 0, .ref b32, .ref b33, .ref b34, .ref b35, .ref b36, .int 0, .ref b37, .ref b38, .ref b39]))] H := hP
  have hD := z_tie hP hD rfl
  refine W.widen (k := 0) (n := 0) (Nat.le_of_ble_eq_true rfl) (Nat.le_of_ble_eq_true rfl) ?_
  refine lv_aload_n hx hb d_Model_readTrace_25 rfl (lv_at hl 0 rfl) ?_
  refine va_get (D := G.1) (ci := 12) (v := .int 1) (C := R_Model) (T := F_Model) (N := 54) hx hb hts i_Model hown hK hP 1 rfl rfl 10 (by decide) (hts _ q1123) (fun _ h9 => h9) rfl d_Model_readTrace_26 ?_
  refine lv_if_eq (tgt := 140) hx hb d_Model_readTrace_29 (by decide) (fun hc => absurd hc (by decide +kernel)) (fun _ => ?_)
  refine lv_aload_n hx hb d_Model_readTrace_32 rfl (lv_at hl 0 rfl) ?_
  refine va_get (D := G.1) (ci := 12) (v := .ref b6) (C := R_Model) (T := F_Model) (N := 54) hx hb hts i_Model hown hK hP 1 rfl rfl 11 (by decide) (hts _ q1124) (fun _ h9 => h9) rfl d_Model_readTrace_33 ?_
  refine lv_iconst (v := 0) hx hb d_Model_readTrace_36 (by decide) ?_
  refine va_iald hx hb hK hP 0 0 rfl rfl (i := 0) (z_in rfl) d_Model_readTrace_37 ?_
  refine z_topi (y := 0) rfl ?_
  refine lv_istore_n (lv' := [(1, .int 0), (0, .ref b0)]) hx hb d_Model_readTrace_38 rfl hl (by decide) rfl (fun ls hl => ?_)
  refine lv_aload_n hx hb d_Model_readTrace_39 rfl (lv_at hl 1 rfl) ?_
  refine va_get (D := G.1) (ci := 12) (v := .ref b6) (C := R_Model) (T := F_Model) (N := 54) hx hb hts i_Model hown hK hP 1 rfl rfl 11 (by decide) (hts _ q1124) (fun _ h9 => h9) rfl d_Model_readTrace_40 ?_
  refine lv_iconst (v := 1) hx hb d_Model_readTrace_43 (by decide) ?_
  refine lv_iload_n hx hb d_Model_readTrace_44 rfl (lv_at hl 0 rfl) ?_
  refine lv_iadd hx hb d_Model_readTrace_45 ?_
  refine z_topi (y := 1) (by decide +kernel) ?_
  refine lv_aload_n hx hb d_Model_readTrace_46 rfl (lv_at hl 1 rfl) ?_
  refine va_get (D := G.1) (ci := 12) (v := .int 0) (C := R_Model) (T := F_Model) (N := 54) hx hb hts i_Model hown hK hP 1 rfl rfl 14 (by decide) (hts _ q1127) (fun _ h9 => h9) rfl d_Model_readTrace_47 ?_
  refine va_iast hx hb hK hP hD hS 0 0 rfl rfl (i := 1) (z_in rfl) d_Model_readTrace_50 (fun H locs hP hD hS => ?_)
  have hP : va_P G.1 classes [(b6, .inl (G.2 0, 503, .inl (upd (upd (fun _ => 0) 501 1) 1 0))), (b0, .inr (12, [.int 0, .ref b1, .ref b2, .ref b3, .ref b4, .int 0, .ref b5, .int 0, .int 0, .int 0, .int 1, .ref b6, .ref b7, .ref b8, .int 0, .ref b9, .ref b10, .ref b11, .ref b12, .ref b13, .ref b14, .ref b15, .ref b16, .ref b17, .ref b18, .ref b19, .ref b20, .int 0, .ref b21, .ref b22, .int 0, .int 0, .int 0, .int 0, .ref b23, .ref b24, .ref b25, .ref b26, .ref b27, .ref b28, .ref b29, .int 0, .ref b30, .ref b31, .int 0, .ref b32, .ref b33, .ref b34, .ref b35, .ref b36, .int 0, .ref b37, .ref b38, .ref b39]))] H := hP
  have hD := z_tie hP hD rfl
  refine lv_iconst (v := 0) hx hb d_Model_readTrace_51 (by decide) ?_
  refine lv_istore_n (lv' := [(2, .int 0), (1, .int 0), (0, .ref b0)]) hx hb d_Model_readTrace_52 rfl hl (by decide) rfl (fun ls hl => ?_)
  refine lv_iload_n hx hb d_Model_readTrace_53 rfl (lv_at hl 0 rfl) ?_
  refine lv_bipush (v := 12) hx hb d_Model_readTrace_54 (by decide) ?_
  refine lv_icmp_ge (tgt := 130) hx hb d_Model_readTrace_56 (by decide) (fun hc => absurd hc (by decide +kernel)) (fun _ => ?_)
  refine lv_aload_n hx hb d_Model_readTrace_59 rfl (lv_at hl 2 rfl) ?_
  refine va_get (D := G.1) (ci := 12) (v := .ref b6) (C := R_Model) (T := F_Model) (N := 54) hx hb hts i_Model hown hK hP 1 rfl rfl 11 (by decide) (hts _ q1124) (fun _ h9 => h9) rfl d_Model_readTrace_60 ?_
  refine lv_bipush (v := 21) hx hb d_Model_readTrace_63 (by decide) ?_
  refine lv_bipush (v := 12) hx hb d_Model_readTrace_65 (by decide) ?_
  refine lv_iload_n hx hb d_Model_readTrace_67 rfl (lv_at hl 1 rfl) ?_
  refine lv_imul hx hb d_Model_readTrace_68 ?_
  refine z_topi (y := 0) (by decide +kernel) ?_
  refine lv_iadd hx hb d_Model_readTrace_69 ?_
  refine z_topi (y := 21) (by decide +kernel) ?_
  refine lv_iload_n hx hb d_Model_readTrace_70 rfl (lv_at hl 0 rfl) ?_
  refine lv_iadd hx hb d_Model_readTrace_71 ?_
  refine z_topi (y := 21) (by decide +kernel) ?_
  refine lv_iload_n hx hb d_Model_readTrace_72 rfl (lv_at hl 0 rfl) ?_
  refine lv_aload_n hx hb d_Model_readTrace_73 rfl (lv_at hl 2 rfl) ?_
  refine va_get (D := G.1) (ci := 12) (v := .int 0) (C := R_Model) (T := F_Model) (N := 54) hx hb hts i_Model hown hK hP 1 rfl rfl 14 (by decide) (hts _ q1127) (fun _ h9 => h9) rfl d_Model_readTrace_74 ?_
  refine lv_icmp_ge (tgt := 89) hx hb d_Model_readTrace_77 (by decide) (fun _ => ?_) (fun hc => absurd hc (by decide +kernel))
  refine lv_iconst (v := 0) hx hb d_Model_readTrace_89 (by decide) ?_
  refine va_iast hx hb hK hP hD hS 0 0 rfl rfl (i := 21) (z_in rfl) d_Model_readTrace_90 (fun H locs hP hD hS => ?_)
  have hP : va_P G.1 classes [(b6, .inl (G.2 0, 503, .inl (upd (upd (upd (fun _ => 0) 501 1) 1 0) 21 0))), (b0, .inr (12, [.int 0, .ref b1, .ref b2, .ref b3, .ref b4, .int 0, .ref b5, .int 0, .int 0, .int 0, .int 1, .ref b6, .ref b7, .ref b8, .int 0, .ref b9, .ref b10, .ref b11, .ref b12, .ref b13, .ref b14, .ref b15, .ref b16, .ref b17, .ref b18, .ref b19, .ref b20, .int 0, .ref b21, .ref b22, .int 0, .int 0, .int 0, .int 0, .ref b23, .ref b24, .ref b25, .ref b26, .ref b27, .ref b28, .ref b29, .int 0, .ref b30, .ref b31, .int 0, .ref b32, .ref b33, .ref b34, .ref b35, .ref b36, .int 0, .ref b37, .ref b38, .ref b39]))] H := hP
  have hD := z_tie hP hD rfl
  refine lv_aload_n hx hb d_Model_readTrace_91 rfl (lv_at hl 2 rfl) ?_
  refine va_get (D := G.1) (ci := 12) (v := .ref b6) (C := R_Model) (T := F_Model) (N := 54) hx hb hts i_Model hown hK hP 1 rfl rfl 11 (by decide) (hts _ q1124) (fun _ h9 => h9) rfl d_Model_readTrace_92 ?_
  refine lv_sipush (v := 261) hx hb d_Model_readTrace_95 (by decide) ?_
  refine lv_bipush (v := 12) hx hb d_Model_readTrace_98 (by decide) ?_
  refine lv_iload_n hx hb d_Model_readTrace_100 rfl (lv_at hl 1 rfl) ?_
  refine lv_imul hx hb d_Model_readTrace_101 ?_
  refine z_topi (y := 0) (by decide +kernel) ?_
  refine lv_iadd hx hb d_Model_readTrace_102 ?_
  refine z_topi (y := 261) (by decide +kernel) ?_
  refine lv_iload_n hx hb d_Model_readTrace_103 rfl (lv_at hl 0 rfl) ?_
  refine lv_iadd hx hb d_Model_readTrace_104 ?_
  refine z_topi (y := 261) (by decide +kernel) ?_
  refine lv_iload_n hx hb d_Model_readTrace_105 rfl (lv_at hl 0 rfl) ?_
  refine lv_aload_n hx hb d_Model_readTrace_106 rfl (lv_at hl 2 rfl) ?_
  refine va_get (D := G.1) (ci := 12) (v := .int 0) (C := R_Model) (T := F_Model) (N := 54) hx hb hts i_Model hown hK hP 1 rfl rfl 14 (by decide) (hts _ q1127) (fun _ h9 => h9) rfl d_Model_readTrace_107 ?_
  refine lv_icmp_ge (tgt := 122) hx hb d_Model_readTrace_110 (by decide) (fun _ => ?_) (fun hc => absurd hc (by decide +kernel))
  refine lv_iconst (v := 0) hx hb d_Model_readTrace_122 (by decide) ?_
  refine va_iast hx hb hK hP hD hS 0 0 rfl rfl (i := 261) (z_in rfl) d_Model_readTrace_123 (fun H locs hP hD hS => ?_)
  have hP : va_P G.1 classes [(b6, .inl (G.2 0, 503, .inl (upd (upd (upd (upd (fun _ => 0) 501 1) 1 0) 21 0) 261 0))), (b0, .inr (12, [.int 0, .ref b1, .ref b2, .ref b3, .ref b4, .int 0, .ref b5, .int 0, .int 0, .int 0, .int 1, .ref b6, .ref b7, .ref b8, .int 0, .ref b9, .ref b10, .ref b11, .ref b12, .ref b13, .ref b14, .ref b15, .ref b16, .ref b17, .ref b18, .ref b19, .ref b20, .int 0, .ref b21, .ref b22, .int 0, .int 0, .int 0, .int 0, .ref b23, .ref b24, .ref b25, .ref b26, .ref b27, .ref b28, .ref b29, .int 0, .ref b30, .ref b31, .int 0, .ref b32, .ref b33, .ref b34, .ref b35, .ref b36, .int 0, .ref b37, .ref b38, .ref b39]))] H := hP
  have hD := z_tie hP hD rfl
  refine lv_iinc (v := 1) (lv' := [(2, .int 1), (1, .int 0), (0, .ref b0)]) hx hb d_Model_readTrace_124 hl (k := 0) rfl (by decide +kernel) (by decide) rfl (fun ls hl => ?_)
  refine lv_goto (tgt := 53) hx hb d_Model_readTrace_127 (by decide) ?_
  refine lv_iload_n hx hb d_Model_readTrace_53 rfl (lv_at hl 0 rfl) ?_
  refine lv_bipush (v := 12) hx hb d_Model_readTrace_54 (by decide) ?_
  refine lv_icmp_ge (tgt := 130) hx hb d_Model_readTrace_56 (by decide) (fun hc => absurd hc (by decide +kernel)) (fun _ => ?_)
  refine lv_aload_n hx hb d_Model_readTrace_59 rfl (lv_at hl 2 rfl) ?_
  refine va_get (D := G.1) (ci := 12) (v := .ref b6) (C := R_Model) (T := F_Model) (N := 54) hx hb hts i_Model hown hK hP 1 rfl rfl 11 (by decide) (hts _ q1124) (fun _ h9 => h9) rfl d_Model_readTrace_60 ?_
  refine lv_bipush (v := 21) hx hb d_Model_readTrace_63 (by decide) ?_
  refine lv_bipush (v := 12) hx hb d_Model_readTrace_65 (by decide) ?_
  refine lv_iload_n hx hb d_Model_readTrace_67 rfl (lv_at hl 1 rfl) ?_
  refine lv_imul hx hb d_Model_readTrace_68 ?_
  refine z_topi (y := 0) (by decide +kernel) ?_
  refine lv_iadd hx hb d_Model_readTrace_69 ?_
  refine z_topi (y := 21) (by decide +kernel) ?_
  refine lv_iload_n hx hb d_Model_readTrace_70 rfl (lv_at hl 0 rfl) ?_
  refine lv_iadd hx hb d_Model_readTrace_71 ?_
  refine z_topi (y := 22) (by decide +kernel) ?_
  refine lv_iload_n hx hb d_Model_readTrace_72 rfl (lv_at hl 0 rfl) ?_
  refine lv_aload_n hx hb d_Model_readTrace_73 rfl (lv_at hl 2 rfl) ?_
  refine va_get (D := G.1) (ci := 12) (v := .int 0) (C := R_Model) (T := F_Model) (N := 54) hx hb hts i_Model hown hK hP 1 rfl rfl 14 (by decide) (hts _ q1127) (fun _ h9 => h9) rfl d_Model_readTrace_74 ?_
  refine lv_icmp_ge (tgt := 89) hx hb d_Model_readTrace_77 (by decide) (fun _ => ?_) (fun hc => absurd hc (by decide +kernel))
  refine lv_iconst (v := 0) hx hb d_Model_readTrace_89 (by decide) ?_
  refine va_iast hx hb hK hP hD hS 0 0 rfl rfl (i := 22) (z_in rfl) d_Model_readTrace_90 (fun H locs hP hD hS => ?_)
  have hP : va_P G.1 classes [(b6, .inl (G.2 0, 503, .inl (upd (upd (upd (upd (upd (fun _ => 0) 501 1) 1 0) 21 0) 261 0) 22 0))), (b0, .inr (12, [.int 0, .ref b1, .ref b2, .ref b3, .ref b4, .int 0, .ref b5, .int 0, .int 0, .int 0, .int 1, .ref b6, .ref b7, .ref b8, .int 0, .ref b9, .ref b10, .ref b11, .ref b12, .ref b13, .ref b14, .ref b15, .ref b16, .ref b17, .ref b18, .ref b19, .ref b20, .int 0, .ref b21, .ref b22, .int 0, .int 0, .int 0, .int 0, .ref b23, .ref b24, .ref b25, .ref b26, .ref b27, .ref b28, .ref b29, .int 0, .ref b30, .ref b31, .int 0, .ref b32, .ref b33, .ref b34, .ref b35, .ref b36, .int 0, .ref b37, .ref b38, .ref b39]))] H := hP
  have hD := z_tie hP hD rfl
  refine lv_aload_n hx hb d_Model_readTrace_91 rfl (lv_at hl 2 rfl) ?_
  refine va_get (D := G.1) (ci := 12) (v := .ref b6) (C := R_Model) (T := F_Model) (N := 54) hx hb hts i_Model hown hK hP 1 rfl rfl 11 (by decide) (hts _ q1124) (fun _ h9 => h9) rfl d_Model_readTrace_92 ?_
  refine lv_sipush (v := 261) hx hb d_Model_readTrace_95 (by decide) ?_
  refine lv_bipush (v := 12) hx hb d_Model_readTrace_98 (by decide) ?_
  refine lv_iload_n hx hb d_Model_readTrace_100 rfl (lv_at hl 1 rfl) ?_
  refine lv_imul hx hb d_Model_readTrace_101 ?_
  refine z_topi (y := 0) (by decide +kernel) ?_
  refine lv_iadd hx hb d_Model_readTrace_102 ?_
  refine z_topi (y := 261) (by decide +kernel) ?_
  refine lv_iload_n hx hb d_Model_readTrace_103 rfl (lv_at hl 0 rfl) ?_
  refine lv_iadd hx hb d_Model_readTrace_104 ?_
  refine z_topi (y := 262) (by decide +kernel) ?_
  refine lv_iload_n hx hb d_Model_readTrace_105 rfl (lv_at hl 0 rfl) ?_
  refine lv_aload_n hx hb d_Model_readTrace_106 rfl (lv_at hl 2 rfl) ?_
  refine va_get (D := G.1) (ci := 12) (v := .int 0) (C := R_Model) (T := F_Model) (N := 54) hx hb hts i_Model hown hK hP 1 rfl rfl 14 (by decide) (hts _ q1127) (fun _ h9 => h9) rfl d_Model_readTrace_107 ?_
  refine lv_icmp_ge (tgt := 122) hx hb d_Model_readTrace_110 (by decide) (fun _ => ?_) (fun hc => absurd hc (by decide +kernel))
  refine lv_iconst (v := 0) hx hb d_Model_readTrace_122 (by decide) ?_
  refine va_iast hx hb hK hP hD hS 0 0 rfl rfl (i := 262) (z_in rfl) d_Model_readTrace_123 (fun H locs hP hD hS => ?_)
  have hP : va_P G.1 classes [(b6, .inl (G.2 0, 503, .inl (upd (upd (upd (upd (upd (upd (fun _ => 0) 501 1) 1 0) 21 0) 261 0) 22 0) 262 0))), (b0, .inr (12, [.int 0, .ref b1, .ref b2, .ref b3, .ref b4, .int 0, .ref b5, .int 0, .int 0, .int 0, .int 1, .ref b6, .ref b7, .ref b8, .int 0, .ref b9, .ref b10, .ref b11, .ref b12, .ref b13, .ref b14, .ref b15, .ref b16, .ref b17, .ref b18, .ref b19, .ref b20, .int 0, .ref b21, .ref b22, .int 0, .int 0, .int 0, .int 0, .ref b23, .ref b24, .ref b25, .ref b26, .ref b27, .ref b28, .ref b29, .int 0, .ref b30, .ref b31, .int 0, .ref b32, .ref b33, .ref b34, .ref b35, .ref b36, .int 0, .ref b37, .ref b38, .ref b39]))] H := hP
  have hD := z_tie hP hD rfl
  refine lv_iinc (v := 2) (lv' := [(2, .int 2), (1, .int 0), (0, .ref b0)]) hx hb d_Model_readTrace_124 hl (k := 0) rfl (by decide +kernel) (by decide) rfl (fun ls hl => ?_)
  refine lv_goto (tgt := 53) hx hb d_Model_readTrace_127 (by decide) ?_
  refine lv_iload_n hx hb d_Model_readTrace_53 rfl (lv_at hl 0 rfl) ?_
  refine lv_bipush (v := 12) hx hb d_Model_readTrace_54 (by decide) ?_
  refine lv_icmp_ge (tgt := 130) hx hb d_Model_readTrace_56 (by decide) (fun hc => absurd hc (by decide +kernel)) (fun _ => ?_)
  refine lv_aload_n hx hb d_Model_readTrace_59 rfl (lv_at hl 2 rfl) ?_
  refine va_get (D := G.1) (ci := 12) (v := .ref b6) (C := R_Model) (T := F_Model) (N := 54) hx hb hts i_Model hown hK hP 1 rfl rfl 11 (by decide) (hts _ q1124) (fun _ h9 => h9) rfl d_Model_readTrace_60 ?_
  refine lv_bipush (v := 21) hx hb d_Model_readTrace_63 (by decide) ?_
  refine lv_bipush (v := 12) hx hb d_Model_readTrace_65 (by decide) ?_
  refine lv_iload_n hx hb d_Model_readTrace_67 rfl (lv_at hl 1 rfl) ?_
  refine lv_imul hx hb d_Model_readTrace_68 ?_
  refine z_topi (y := 0) (by decide +kernel) ?_
  refine lv_iadd hx hb d_Model_readTrace_69 ?_
  refine z_topi (y := 21) (by decide +kernel) ?_
  refine lv_iload_n hx hb d_Model_readTrace_70 rfl (lv_at hl 0 rfl) ?_
  refine lv_iadd hx hb d_Model_readTrace_71 ?_
  refine z_topi (y := 23) (by decide +kernel) ?_
  refine lv_iload_n hx hb d_Model_readTrace_72 rfl (lv_at hl 0 rfl) ?_
  refine lv_aload_n hx hb d_Model_readTrace_73 rfl (lv_at hl 2 rfl) ?_
  refine va_get (D := G.1) (ci := 12) (v := .int 0) (C := R_Model) (T := F_Model) (N := 54) hx hb hts i_Model hown hK hP 1 rfl rfl 14 (by decide) (hts _ q1127) (fun _ h9 => h9) rfl d_Model_readTrace_74 ?_
  refine lv_icmp_ge (tgt := 89) hx hb d_Model_readTrace_77 (by decide) (fun _ => ?_) (fun hc => absurd hc (by decide +kernel))
  refine lv_iconst (v := 0) hx hb d_Model_readTrace_89 (by decide) ?_
  refine va_iast hx hb hK hP hD hS 0 0 rfl rfl (i := 23) (z_in rfl) d_Model_readTrace_90 (fun H locs hP hD hS => ?_)
  have hP : va_P G.1 classes [(b6, .inl (G.2 0, 503, .inl (upd (upd (upd (upd (upd (upd (upd (fun _ => 0) 501 1) 1 0) 21 0) 261 0) 22 0) 262 0) 23 0))), (b0, .inr (12, [.int 0, .ref b1, .ref b2, .ref b3, .ref b4, .int 0, .ref b5, .int 0, .int 0, .int 0, .int 1, .ref b6, .ref b7, .ref b8, .int 0, .ref b9, .ref b10, .ref b11, .ref b12, .ref b13, .ref b14, .ref b15, .ref b16, .ref b17, .ref b18, .ref b19, .ref b20, .int 0, .ref b21, .ref b22, .int 0, .int 0, .int 0, .int 0, .ref b23, .ref b24, .ref b25, .ref b26, .ref b27, .ref b28, .ref b29, .int 0, .ref b30, .ref b31, .int 0, .ref b32, .ref b33, .ref b34, .ref b35, .ref b36, .int 0, .ref b37, .ref b38, .ref b39]))] H := hP
  have hD := z_tie hP hD rfl
  refine lv_aload_n hx hb d_Model_readTrace_91 rfl (lv_at hl 2 rfl) ?_
  refine va_get (D := G.1) (ci := 12) (v := .ref b6) (C := R_Model) (T := F_Model) (N := 54) hx hb hts i_Model hown hK hP 1 rfl rfl 11 (by decide) (hts _ q1124) (fun _ h9 => h9) rfl d_Model_readTrace_92 ?_
  refine lv_sipush (v := 261) hx hb d_Model_readTrace_95 (by decide) ?_
  refine lv_bipush (v := 12) hx hb d_Model_readTrace_98 (by decide) ?_
  refine lv_iload_n hx hb d_Model_readTrace_100 rfl (lv_at hl 1 rfl) ?_
  refine lv_imul hx hb d_Model_readTrace_101 ?_
  refine z_topi (y := 0) (by decide +kernel) ?_
  refine lv_iadd hx hb d_Model_readTrace_102 ?_
  refine z_topi (y := 261) (by decide +kernel) ?_
  refine lv_iload_n hx hb d_Model_readTrace_103 rfl (lv_at hl 0 rfl) ?_
  refine lv_iadd hx hb d_Model_readTrace_104 ?_
  refine z_topi (y := 263) (by decide +kernel) ?_
  refine lv_iload_n hx hb d_Model_readTrace_105 rfl (lv_at hl 0 rfl) ?_
  refine lv_aload_n hx hb d_Model_readTrace_106 rfl (lv_at hl 2 rfl) ?_
  refine va_get (D := G.1) (ci := 12) (v := .int 0) (C := R_Model) (T := F_Model) (N := 54) hx hb hts i_Model hown hK hP 1 rfl rfl 14 (by decide) (hts _ q1127) (fun _ h9 => h9) rfl d_Model_readTrace_107 ?_
  refine lv_icmp_ge (tgt := 122) hx hb d_Model_readTrace_110 (by decide) (fun _ => ?_) (fun hc => absurd hc (by decide +kernel))
  refine lv_iconst (v := 0) hx hb d_Model_readTrace_122 (by decide) ?_
  refine va_iast hx hb hK hP hD hS 0 0 rfl rfl (i := 263) (z_in rfl) d_Model_readTrace_123 (fun H locs hP hD hS => ?_)
  have hP : va_P G.1 classes [(b6, .inl (G.2 0, 503, .inl (upd (upd (upd (upd (upd (upd (upd (upd (fun _ => 0) 501 1) 1 0) 21 0) 261 0) 22 0) 262 0) 23 0) 263 0))), (b0, .inr (12, [.int 0, .ref b1, .ref b2, .ref b3, .ref b4, .int 0, .ref b5, .int 0, .int 0, .int 0, .int 1, .ref b6, .ref b7, .ref b8, .int 0, .ref b9, .ref b10, .ref b11, .ref b12, .ref b13, .ref b14, .ref b15, .ref b16, .ref b17, .ref b18, .ref b19, .ref b20, .int 0, .ref b21, .ref b22, .int 0, .int 0, .int 0, .int 0, .ref b23, .ref b24, .ref b25, .ref b26, .ref b27, .ref b28, .ref b29, .int 0, .ref b30, .ref b31, .int 0, .ref b32, .ref b33, .ref b34, .ref b35, .ref b36, .int 0, .ref b37, .ref b38, .ref b39]))] H := hP
  have hD := z_tie hP hD rfl
  refine lv_iinc (v := 3) (lv' := [(2, .int 3), (1, .int 0), (0, .ref b0)]) hx hb d_Model_readTrace_124 hl (k := 0) rfl (by decide +kernel) (by decide) rfl (fun ls hl => ?_)
  refine lv_goto (tgt := 53) hx hb d_Model_readTrace_127 (by decide) ?_
  refine lv_iload_n hx hb d_Model_readTrace_53 rfl (lv_at hl 0 rfl) ?_
  refine lv_bipush (v := 12) hx hb d_Model_readTrace_54 (by decide) ?_
  refine lv_icmp_ge (tgt := 130) hx hb d_Model_readTrace_56 (by decide) (fun hc => absurd hc (by decide +kernel)) (fun _ => ?_)
  refine lv_aload_n hx hb d_Model_readTrace_59 rfl (lv_at hl 2 rfl) ?_
  refine va_get (D := G.1) (ci := 12) (v := .ref b6) (C := R_Model) (T := F_Model) (N := 54) hx hb hts i_Model hown hK hP 1 rfl rfl 11 (by decide) (hts _ q1124) (fun _ h9 => h9) rfl d_Model_readTrace_60 ?_
  refine lv_bipush (v := 21) hx hb d_Model_readTrace_63 (by decide) ?_
  refine lv_bipush (v := 12) hx hb d_Model_readTrace_65 (by decide) ?_
  refine lv_iload_n hx hb d_Model_readTrace_67 rfl (lv_at hl 1 rfl) ?_
  refine lv_imul hx hb d_Model_readTrace_68 ?_
  refine z_topi (y := 0) (by decide +kernel) ?_
  refine lv_iadd hx hb d_Model_readTrace_69 ?_
  refine z_topi (y := 21) (by decide +kernel) ?_
  refine lv_iload_n hx hb d_Model_readTrace_70 rfl (lv_at hl 0 rfl) ?_
  refine lv_iadd hx hb d_Model_readTrace_71 ?_
  refine z_topi (y := 24) (by decide +kernel) ?_
  refine lv_iload_n hx hb d_Model_readTrace_72 rfl (lv_at hl 0 rfl) ?_
  refine lv_aload_n hx hb d_Model_readTrace_73 rfl (lv_at hl 2 rfl) ?_
  refine va_get (D := G.1) (ci := 12) (v := .int 0) (C := R_Model) (T := F_Model) (N := 54) hx hb hts i_Model hown hK hP 1 rfl rfl 14 (by decide) (hts _ q1127) (fun _ h9 => h9) rfl d_Model_readTrace_74 ?_
  refine lv_icmp_ge (tgt := 89) hx hb d_Model_readTrace_77 (by decide) (fun _ => ?_) (fun hc => absurd hc (by decide +kernel))
  refine lv_iconst (v := 0) hx hb d_Model_readTrace_89 (by decide) ?_
  refine va_iast hx hb hK hP hD hS 0 0 rfl rfl (i := 24) (z_in rfl) d_Model_readTrace_90 (fun H locs hP hD hS => ?_)
  have hP : va_P G.1 classes [(b6, .inl (G.2 0, 503, .inl (upd (upd (upd (upd (upd (upd (upd (upd (upd (fun _ => 0) 501 1) 1 0) 21 0) 261 0) 22 0) 262 0) 23 0) 263 0) 24 0))), (b0, .inr (12, [.int 0, .ref b1, .ref b2, .ref b3, .ref b4, .int 0, .ref b5, .int 0, .int 0, .int 0, .int 1, .ref b6, .ref b7, .ref b8, .int 0, .ref b9, .ref b10, .ref b11, .ref b12, .ref b13, .ref b14, .ref b15, .ref b16, .ref b17, .ref b18, .ref b19, .ref b20, .int 0, .ref b21, .ref b22, .int 0, .int 0, .int 0, .int 0, .ref b23, .ref b24, .ref b25, .ref b26, .ref b27, .ref b28, .ref b29, .int 0, .ref b30, .ref b31, .int 0, .ref b32, .ref b33, .ref b34, .ref b35, .ref b36, .int 0, .ref b37, .ref b38, .ref b39]))] H := hP
  have hD := z_tie hP hD rfl
  refine lv_aload_n hx hb d_Model_readTrace_91 rfl (lv_at hl 2 rfl) ?_
  refine va_get (D := G.1) (ci := 12) (v := .ref b6) (C := R_Model) (T := F_Model) (N := 54) hx hb hts i_Model hown hK hP 1 rfl rfl 11 (by decide) (hts _ q1124) (fun _ h9 => h9) rfl d_Model_readTrace_92 ?_
  refine lv_sipush (v := 261) hx hb d_Model_readTrace_95 (by decide) ?_
  refine lv_bipush (v := 12) hx hb d_Model_readTrace_98 (by decide) ?_
  refine lv_iload_n hx hb d_Model_readTrace_100 rfl (lv_at hl 1 rfl) ?_
  refine lv_imul hx hb d_Model_readTrace_101 ?_
  refine z_topi (y := 0) (by decide +kernel) ?_
  refine lv_iadd hx hb d_Model_readTrace_102 ?_
  refine z_topi (y := 261) (by decide +kernel) ?_
  refine lv_iload_n hx hb d_Model_readTrace_103 rfl (lv_at hl 0 rfl) ?_
  refine lv_iadd hx hb d_Model_readTrace_104 ?_
  refine z_topi (y := 264) (by decide +kernel) ?_
  refine lv_iload_n hx hb d_Model_readTrace_105 rfl (lv_at hl 0 rfl) ?_
  refine lv_aload_n hx hb d_Model_readTrace_106 rfl (lv_at hl 2 rfl) ?_
  refine va_get (D := G.1) (ci := 12) (v := .int 0) (C := R_Model) (T := F_Model) (N := 54) hx hb hts i_Model hown hK hP 1 rfl rfl 14 (by decide) (hts _ q1127) (fun _ h9 => h9) rfl d_Model_readTrace_107 ?_
  refine lv_icmp_ge (tgt := 122) hx hb d_Model_readTrace_110 (by decide) (fun _ => ?_) (fun hc => absurd hc (by decide +kernel))
  refine lv_iconst (v := 0) hx hb d_Model_readTrace_122 (by decide) ?_
  refine va_iast hx hb hK hP hD hS 0 0 rfl rfl (i := 264) (z_in rfl) d_Model_readTrace_123 (fun H locs hP hD hS => ?_)
  have hP : va_P G.1 classes [(b6, .inl (G.2 0, 503, .inl (upd (upd (upd (upd (upd (upd (upd (upd (upd (upd (fun _ => 0) 501 1) 1 0) 21 0) 261 0) 22 0) 262 0) 23 0) 263 0) 24 0) 264 0))), (b0, .inr (12, [.int 0, .ref b1, .ref b2, .ref b3, .ref b4, .int 0, .ref b5, .int 0, .int 0, .int 0, .int 1, .ref b6, .ref b7, .ref b8, .int 0, .ref b9, .ref b10, .ref b11, .ref b12, .ref b13, .ref b14, .ref b15, .ref b16, .ref b17, .ref b18, .ref b19, .ref b20, .int 0, .ref b21, .ref b22, .int 0, .int 0, .int 0, .int 0, .ref b23, .ref b24, .ref b25, .ref b26, .ref b27, .ref b28, .ref b29, .int 0, .ref b30, .ref b31, .int 0, .ref b32, .ref b33, .ref b34, .ref b35, .ref b36, .int 0, .ref b37, .ref b38, .ref b39]))] H := hP
  have hD := z_tie hP hD rfl
  refine lv_iinc (v := 4) (lv' := [(2, .int 4), (1, .int 0), (0, .ref b0)]) hx hb d_Model_readTrace_124 hl (k := 0) rfl (by decide +kernel) (by decide) rfl (fun ls hl => ?_)
  refine lv_goto (tgt := 53) hx hb d_Model_readTrace_127 (by decide) ?_
  refine lv_iload_n hx hb d_Model_readTrace_53 rfl (lv_at hl 0 rfl) ?_
  refine lv_bipush (v := 12) hx hb d_Model_readTrace_54 (by decide) ?_
  refine lv_icmp_ge (tgt := 130) hx hb d_Model_readTrace_56 (by decide) (fun hc => absurd hc (by decide +kernel)) (fun _ => ?_)
  refine lv_aload_n hx hb d_Model_readTrace_59 rfl (lv_at hl 2 rfl) ?_
  refine va_get (D := G.1) (ci := 12) (v := .ref b6) (C := R_Model) (T := F_Model) (N := 54) hx hb hts i_Model hown hK hP 1 rfl rfl 11 (by decide) (hts _ q1124) (fun _ h9 => h9) rfl d_Model_readTrace_60 ?_
  refine lv_bipush (v := 21) hx hb d_Model_readTrace_63 (by decide) ?_
  refine lv_bipush (v := 12) hx hb d_Model_readTrace_65 (by decide) ?_
  refine lv_iload_n hx hb d_Model_readTrace_67 rfl (lv_at hl 1 rfl) ?_
  refine lv_imul hx hb d_Model_readTrace_68 ?_
  refine z_topi (y := 0) (by decide +kernel) ?_
  refine lv_iadd hx hb d_Model_readTrace_69 ?_
  refine z_topi (y := 21) (by decide +kernel) ?_
  refine lv_iload_n hx hb d_Model_readTrace_70 rfl (lv_at hl 0 rfl) ?_
  refine lv_iadd hx hb d_Model_readTrace_71 ?_
  refine z_topi (y := 25) (by decide +kernel) ?_
  refine lv_iload_n hx hb d_Model_readTrace_72 rfl (lv_at hl 0 rfl) ?_
  refine lv_aload_n hx hb d_Model_readTrace_73 rfl (lv_at hl 2 rfl) ?_
  refine va_get (D := G.1) (ci := 12) (v := .int 0) (C := R_Model) (T := F_Model) (N := 54) hx hb hts i_Model hown hK hP 1 rfl rfl 14 (by decide) (hts _ q1127) (fun _ h9 => h9) rfl d_Model_readTrace_74 ?_
  refine lv_icmp_ge (tgt := 89) hx hb d_Model_readTrace_77 (by decide) (fun _ => ?_) (fun hc => absurd hc (by decide +kernel))
  refine lv_iconst (v := 0) hx hb d_Model_readTrace_89 (by decide) ?_
  refine va_iast hx hb hK hP hD hS 0 0 rfl rfl (i := 25) (z_in rfl) d_Model_readTrace_90 (fun H locs hP hD hS => ?_)
  have hP : va_P G.1 classes [(b6, .inl (G.2 0, 503, .inl (upd (upd (upd (upd (upd (upd (upd (upd (upd (upd (upd (fun _ => 0) 501 1) 1 0) 21 0) 261 0) 22 0) 262 0) 23 0) 263 0) 24 0) 264 0) 25 0))), (b0, .inr (12, [.int 0, .ref b1, .ref b2, .ref b3, .ref b4, .int 0, .ref b5, .int 0, .int 0, .int 0, .int 1, .ref b6, .ref b7, .ref b8, .int 0, .ref b9, .ref b10, .ref b11, .ref b12, .ref b13, .ref b14, .ref b15, .ref b16, .ref b17, .ref b18, .ref b19, .ref b20, .int 0, .ref b21, .ref b22, .int 0, .int 0, .int 0, .int 0, .ref b23, .ref b24, .ref b25, .ref b26, .ref b27, .ref b28, .ref b29, .int 0, .ref b30, .ref b31, .int 0, .ref b32, .ref b33, .ref b34, .ref b35, .ref b36, .int 0, .ref b37, .ref b38, .ref b39]))] H := hP
  have hD := z_tie hP hD rfl
  refine lv_aload_n hx hb d_Model_readTrace_91 rfl (lv_at hl 2 rfl) ?_
  refine va_get (D := G.1) (ci := 12) (v := .ref b6) (C := R_Model) (T := F_Model) (N := 54) hx hb hts i_Model hown hK hP 1 rfl rfl 11 (by decide) (hts _ q1124) (fun _ h9 => h9) rfl d_Model_readTrace_92 ?_
  refine lv_sipush (v := 261) hx hb d_Model_readTrace_95 (by decide) ?_
  refine lv_bipush (v := 12) hx hb d_Model_readTrace_98 (by decide) ?_
  refine lv_iload_n hx hb d_Model_readTrace_100 rfl (lv_at hl 1 rfl) ?_
  refine lv_imul hx hb d_Model_readTrace_101 ?_
  refine z_topi (y := 0) (by decide +kernel) ?_
  refine lv_iadd hx hb d_Model_readTrace_102 ?_
  refine z_topi (y := 261) (by decide +kernel) ?_
  refine lv_iload_n hx hb d_Model_readTrace_103 rfl (lv_at hl 0 rfl) ?_
  refine lv_iadd hx hb d_Model_readTrace_104 ?_
  refine z_topi (y := 265) (by decide +kernel) ?_
  refine lv_iload_n hx hb d_Model_readTrace_105 rfl (lv_at hl 0 rfl) ?_
  refine lv_aload_n hx hb d_Model_readTrace_106 rfl (lv_at hl 2 rfl) ?_
  refine va_get (D := G.1) (ci := 12) (v := .int 0) (C := R_Model) (T := F_Model) (N := 54) hx hb hts i_Model hown hK hP 1 rfl rfl 14 (by decide) (hts _ q1127) (fun _ h9 => h9) rfl d_Model_readTrace_107 ?_
  refine lv_icmp_ge (tgt := 122) hx hb d_Model_readTrace_110 (by decide) (fun _ => ?_) (fun hc => absurd hc (by decide +kernel))
  refine lv_iconst (v := 0) hx hb d_Model_readTrace_122 (by decide) ?_
  refine va_iast hx hb hK hP hD hS 0 0 rfl rfl (i := 265) (z_in rfl) d_Model_readTrace_123 (fun H locs hP hD hS => ?_)
  have hP : va_P G.1 classes [(b6, .inl (G.2 0, 503, .inl (upd (upd (upd (upd (upd (upd (upd (upd (upd (upd (upd (upd (fun _ => 0) 501 1) 1 0) 21 0) 261 0) 22 0) 262 0) 23 0) 263 0) 24 0) 264 0) 25 0) 265 0))), (b0, .inr (12, [.int 0, .ref b1, .ref b2, .ref b3, .ref b4, .int 0, .ref b5, .int 0, .int 0, .int 0, .int 1, .ref b6, .ref b7, .ref b8, .int 0, .ref b9, .ref b10, .ref b11, .ref b12, .ref b13, .ref b14, .ref b15, .ref b16, .ref b17, .ref b18, .ref b19, .ref b20, .int 0, .ref b21, .ref b22, .int 0, .int 0, .int 0, .int 0, .ref b23, .ref b24, .ref b25, .ref b26, .ref b27, .ref b28, .ref b29, .int 0, .ref b30, .ref b31, .int 0, .ref b32, .ref b33, .ref b34, .ref b35, .ref b36, .int 0, .ref b37, .ref b38, .ref b39]))] H := hP
  have hD := z_tie hP hD rfl
  refine lv_iinc (v := 5) (lv' := [(2, .int 5), (1, .int 0), (0, .ref b0)]) hx hb d_Model_readTrace_124 hl (k := 0) rfl (by decide +kernel) (by decide) rfl (fun ls hl => ?_)
  refine lv_goto (tgt := 53) hx hb d_Model_readTrace_127 (by decide) ?_
  refine lv_iload_n hx hb d_Model_readTrace_53 rfl (lv_at hl 0 rfl) ?_
  refine lv_bipush (v := 12) hx hb d_Model_readTrace_54 (by decide) ?_
  refine lv_icmp_ge (tgt := 130) hx hb d_Model_readTrace_56 (by decide) (fun hc => absurd hc (by decide +kernel)) (fun _ => ?_)
  refine lv_aload_n hx hb d_Model_readTrace_59 rfl (lv_at hl 2 rfl) ?_
  refine va_get (D := G.1) (ci := 12) (v := .ref b6) (C := R_Model) (T := F_Model) (N := 54) hx hb hts i_Model hown hK hP 1 rfl rfl 11 (by decide) (hts _ q1124) (fun _ h9 => h9) rfl d_Model_readTrace_60 ?_
  refine lv_bipush (v := 21) hx hb d_Model_readTrace_63 (by decide) ?_
  refine lv_bipush (v := 12) hx hb d_Model_readTrace_65 (by decide) ?_
  refine lv_iload_n hx hb d_Model_readTrace_67 rfl (lv_at hl 1 rfl) ?_
  refine lv_imul hx hb d_Model_readTrace_68 ?_
  refine z_topi (y := 0) (by decide +kernel) ?_
  refine lv_iadd hx hb d_Model_readTrace_69 ?_
  refine z_topi (y := 21) (by decide +kernel) ?_
  refine lv_iload_n hx hb d_Model_readTrace_70 rfl (lv_at hl 0 rfl) ?_
  refine lv_iadd hx hb d_Model_readTrace_71 ?_
  refine z_topi (y := 26) (by decide +kernel) ?_
  refine lv_iload_n hx hb d_Model_readTrace_72 rfl (lv_at hl 0 rfl) ?_
  refine lv_aload_n hx hb d_Model_readTrace_73 rfl (lv_at hl 2 rfl) ?_
  refine va_get (D := G.1) (ci := 12) (v := .int 0) (C := R_Model) (T := F_Model) (N := 54) hx hb hts i_Model hown hK hP 1 rfl rfl 14 (by decide) (hts _ q1127) (fun _ h9 => h9) rfl d_Model_readTrace_74 ?_
  refine lv_icmp_ge (tgt := 89) hx hb d_Model_readTrace_77 (by decide) (fun _ => ?_) (fun hc => absurd hc (by decide +kernel))
  refine lv_iconst (v := 0) hx hb d_Model_readTrace_89 (by decide) ?_
  refine va_iast hx hb hK hP hD hS 0 0 rfl rfl (i := 26) (z_in rfl) d_Model_readTrace_90 (fun H locs hP hD hS => ?_)
  have hP : va_P G.1 classes [(b6, .inl (G.2 0, 503, .inl (upd (upd (upd (upd (upd (upd (upd (upd (upd (upd (upd (upd (upd (fun _ => 0) 501 1) 1 0) 21 0) 261 0) 22 0) 262 0) 23 0) 263 0) 24 0) 264 0) 25 0) 265 0) 26 0))), (b0, .inr (12, [.int 0, .ref b1, .ref b2, .ref b3, .ref b4, .int 0, .ref b5, .int 0, .int 0, .int 0, .int 1, .ref b6, .ref b7, .ref b8, .int 0, .ref b9, .ref b10, .ref b11, .ref b12, .ref b13, .ref b14, .ref b15, .ref b16, .ref b17, .ref b18, .ref b19, .ref b20, .int 0, .ref b21, .ref b22, .int 0, .int 0, .int 0, .int 0, .ref b23, .ref b24, .ref b25, .ref b26, .ref b27, .ref b28, .ref b29, .int 0, .ref b30, .ref b31, .int 0, .ref b32, .ref b33, .ref b34, .ref b35, .ref b36, .int 0, .ref b37, .ref b38, .ref b39]))] H := hP
  have hD := z_tie hP hD rfl
  refine lv_aload_n hx hb d_Model_readTrace_91 rfl (lv_at hl 2 rfl) ?_
  refine va_get (D := G.1) (ci := 12) (v := .ref b6) (C := R_Model) (T := F_Model) (N := 54) hx hb hts i_Model hown hK hP 1 rfl rfl 11 (by decide) (hts _ q1124) (fun _ h9 => h9) rfl d_Model_readTrace_92 ?_
  refine lv_sipush (v := 261) hx hb d_Model_readTrace_95 (by decide) ?_
  refine lv_bipush (v := 12) hx hb d_Model_readTrace_98 (by decide) ?_
  refine lv_iload_n hx hb d_Model_readTrace_100 rfl (lv_at hl 1 rfl) ?_
  refine lv_imul hx hb d_Model_readTrace_101 ?_
  refine z_topi (y := 0) (by decide +kernel) ?_
  refine lv_iadd hx hb d_Model_readTrace_102 ?_
  refine z_topi (y := 261) (by decide +kernel) ?_
  refine lv_iload_n hx hb d_Model_readTrace_103 rfl (lv_at hl 0 rfl) ?_
  refine lv_iadd hx hb d_Model_readTrace_104 ?_
  refine z_topi (y := 266) (by decide +kernel) ?_
  refine lv_iload_n hx hb d_Model_readTrace_105 rfl (lv_at hl 0 rfl) ?_
  refine lv_aload_n hx hb d_Model_readTrace_106 rfl (lv_at hl 2 rfl) ?_
  refine va_get (D := G.1) (ci := 12) (v := .int 0) (C := R_Model) (T := F_Model) (N := 54) hx hb hts i_Model hown hK hP 1 rfl rfl 14 (by decide) (hts _ q1127) (fun _ h9 => h9) rfl d_Model_readTrace_107 ?_
  refine lv_icmp_ge (tgt := 122) hx hb d_Model_readTrace_110 (by decide) (fun _ => ?_) (fun hc => absurd hc (by decide +kernel))
  refine lv_iconst (v := 0) hx hb d_Model_readTrace_122 (by decide) ?_
  refine va_iast hx hb hK hP hD hS 0 0 rfl rfl (i := 266) (z_in rfl) d_Model_readTrace_123 (fun H locs hP hD hS => ?_)
  have hP : va_P G.1 classes [(b6, .inl (G.2 0, 503, .inl (upd (upd (upd (upd (upd (upd (upd (upd (upd (upd (upd (upd (upd (upd (fun _ => 0) 501 1) 1 0) 21 0) 261 0) 22 0) 262 0) 23 0) 263 0) 24 0) 264 0) 25 0) 265 0) 26 0) 266 0))), (b0, .inr (12, [.int 0, .ref b1, .ref b2, .ref b3, .ref b4, .int 0, .ref b5, .int 0, .int 0, .int 0, .int 1, .ref b6, .ref b7, .ref b8, .int 0, .ref b9, .ref b10, .ref b11, .ref b12, .ref b13, .ref b14, .ref b15, .ref b16, .ref b17, .ref b18, .ref b19, .ref b20, .int 0, .ref b21, .ref b22, .int 0, .int 0, .int 0, .int 0, .ref b23, .ref b24, .ref b25, .ref b26, .ref b27, .ref b28, .ref b29, .int 0, .ref b30, .ref b31, .int 0, .ref b32, .ref b33, .ref b34, .ref b35, .ref b36, .int 0, .ref b37, .ref b38, .ref b39]))] H := hP
  have hD := z_tie hP hD rfl
  refine lv_iinc (v := 6) (lv' := [(2, .int 6), (1, .int 0), (0, .ref b0)]) hx hb d_Model_readTrace_124 hl (k := 0) rfl (by decide +kernel) (by decide) rfl (fun ls hl => ?_)
  refine lv_goto (tgt := 53) hx hb d_Model_readTrace_127 (by decide) ?_
  refine lv_iload_n hx hb d_Model_readTrace_53 rfl (lv_at hl 0 rfl) ?_
  refine lv_bipush (v := 12) hx hb d_Model_readTrace_54 (by decide) ?_
  refine lv_icmp_ge (tgt := 130) hx hb d_Model_readTrace_56 (by decide) (fun hc => absurd hc (by decide +kernel)) (fun _ => ?_)
  refine lv_aload_n hx hb d_Model_readTrace_59 rfl (lv_at hl 2 rfl) ?_
  refine va_get (D := G.1) (ci := 12) (v := .ref b6) (C := R_Model) (T := F_Model) (N := 54) hx hb hts i_Model hown hK hP 1 rfl rfl 11 (by decide) (hts _ q1124) (fun _ h9 => h9) rfl d_Model_readTrace_60 ?_
  refine lv_bipush (v := 21) hx hb d_Model_readTrace_63 (by decide) ?_
  refine lv_bipush (v := 12) hx hb d_Model_readTrace_65 (by decide) ?_
  refine lv_iload_n hx hb d_Model_readTrace_67 rfl (lv_at hl 1 rfl) ?_
  refine lv_imul hx hb d_Model_readTrace_68 ?_
  refine z_topi (y := 0) (by decide +kernel) ?_
  refine lv_iadd hx hb d_Model_readTrace_69 ?_
  refine z_topi (y := 21) (by decide +kernel) ?_
  refine lv_iload_n hx hb d_Model_readTrace_70 rfl (lv_at hl 0 rfl) ?_
  refine lv_iadd hx hb d_Model_readTrace_71 ?_
  refine z_topi (y := 27) (by decide +kernel) ?_
  refine lv_iload_n hx hb d_Model_readTrace_72 rfl (lv_at hl 0 rfl) ?_
  refine lv_aload_n hx hb d_Model_readTrace_73 rfl (lv_at hl 2 rfl) ?_
  refine va_get (D := G.1) (ci := 12) (v := .int 0) (C := R_Model) (T := F_Model) (N := 54) hx hb hts i_Model hown hK hP 1 rfl rfl 14 (by decide) (hts _ q1127) (fun _ h9 => h9) rfl d_Model_readTrace_74 ?_
  refine lv_icmp_ge (tgt := 89) hx hb d_Model_readTrace_77 (by decide) (fun _ => ?_) (fun hc => absurd hc (by decide +kernel))
  refine lv_iconst (v := 0) hx hb d_Model_readTrace_89 (by decide) ?_
  refine va_iast hx hb hK hP hD hS 0 0 rfl rfl (i := 27) (z_in rfl) d_Model_readTrace_90 (fun H locs hP hD hS => ?_)
  have hP : va_P G.1 classes [(b6, .inl (G.2 0, 503, .inl (upd (upd (upd (upd (upd (upd (upd (upd (upd (upd (upd (upd (upd (upd (upd (fun _ => 0) 501 1) 1 0) 21 0) 261 0) 22 0) 262 0) 23 0) 263 0) 24 0) 264 0) 25 0) 265 0) 26 0) 266 0) 27 0))), (b0, .inr (12, [.int 0, .ref b1, .ref b2, .ref b3, .ref b4, .int 0, .ref b5, .int 0, .int 0, .int 0, .int 1, .ref b6, .ref b7, .ref b8, .int 0, .ref b9, .ref b10, .ref b11, .ref b12, .ref b13, .ref b14, .ref b15, .ref b16, .ref b17, .ref b18, .ref b19, .ref b20, .int 0, .ref b21, .ref b22, .int 0, .int 0, .int 0, .int 0, .ref b23, .ref b24, .ref b25, .ref b26, .ref b27, .ref b28, .ref b29, .int 0, .ref b30, .ref b31, .int 0, .ref b32, .ref b33, .ref b34, .ref b35, .ref b36, .int 0, .ref b37, .ref b38, .ref b39]))] H := hP
  have hD := z_tie hP hD rfl
  refine lv_aload_n hx hb d_Model_readTrace_91 rfl (lv_at hl 2 rfl) ?_
  refine va_get (D := G.1) (ci := 12) (v := .ref b6) (C := R_Model) (T := F_Model) (N := 54) hx hb hts i_Model hown hK hP 1 rfl rfl 11 (by decide) (hts _ q1124) (fun _ h9 => h9) rfl d_Model_readTrace_92 ?_
  refine lv_sipush (v := 261) hx hb d_Model_readTrace_95 (by decide) ?_
  refine lv_bipush (v := 12) hx hb d_Model_readTrace_98 (by decide) ?_
  refine lv_iload_n hx hb d_Model_readTrace_100 rfl (lv_at hl 1 rfl) ?_
  refine lv_imul hx hb d_Model_readTrace_101 ?_
  refine z_topi (y := 0) (by decide +kernel) ?_
  refine lv_iadd hx hb d_Model_readTrace_102 ?_
  refine z_topi (y := 261) (by decide +kernel) ?_
  refine lv_iload_n hx hb d_Model_readTrace_103 rfl (lv_at hl 0 rfl) ?_
  refine lv_iadd hx hb d_Model_readTrace_104 ?_
  refine z_topi (y := 267) (by decide +kernel) ?_
  refine lv_iload_n hx hb d_Model_readTrace_105 rfl (lv_at hl 0 rfl) ?_
  refine lv_aload_n hx hb d_Model_readTrace_106 rfl (lv_at hl 2 rfl) ?_
  refine va_get (D := G.1) (ci := 12) (v := .int 0) (C := R_Model) (T := F_Model) (N := 54) hx hb hts i_Model hown hK hP 1 rfl rfl 14 (by decide) (hts _ q1127) (fun _ h9 => h9) rfl d_Model_readTrace_107 ?_
  refine lv_icmp_ge (tgt := 122) hx hb d_Model_readTrace_110 (by decide) (fun _ => ?_) (fun hc => absurd hc (by decide +kernel))
  refine lv_iconst (v := 0) hx hb d_Model_readTrace_122 (by decide) ?_
  refine va_iast hx hb hK hP hD hS 0 0 rfl rfl (i := 267) (z_in rfl) d_Model_readTrace_123 (fun H locs hP hD hS => ?_)
  have hP : va_P G.1 classes [(b6, .inl (G.2 0, 503, .inl (upd (upd (upd (upd (upd (upd (upd (upd (upd (upd (upd (upd (upd (upd (upd (upd (fun _ => 0) 501 1) 1 0) 21 0) 261 0) 22 0) 262 0) 23 0) 263 0) 24 0) 264 0) 25 0) 265 0) 26 0) 266 0) 27 0) 267 0))), (b0, .inr (12, [.int 0, .ref b1, .ref b2, .ref b3, .ref b4, .int 0, .ref b5, .int 0, .int 0, .int 0, .int 1, .ref b6, .ref b7, .ref b8, .int 0, .ref b9, .ref b10, .ref b11, .ref b12, .ref b13, .ref b14, .ref b15, .ref b16, .ref b17, .ref b18, .ref b19, .ref b20, .int 0, .ref b21, .ref b22, .int 0, .int 0, .int 0, .int 0, .ref b23, .ref b24, .ref b25, .ref b26, .ref b27, .ref b28, .ref b29, .int 0, .ref b30, .ref b31, .int 0, .ref b32, .ref b33, .ref b34, .ref b35, .ref b36, .int 0, .ref b37, .ref b38, .ref b39]))] H := hP
  have hD := z_tie hP hD rfl
  refine lv_iinc (v := 7) (lv' := [(2, .int 7), (1, .int 0), (0, .ref b0)]) hx hb d_Model_readTrace_124 hl (k := 0) rfl (by decide +kernel) (by decide) rfl (fun ls hl => ?_)
  refine lv_goto (tgt := 53) hx hb d_Model_readTrace_127 (by decide) ?_
  refine lv_iload_n hx hb d_Model_readTrace_53 rfl (lv_at hl 0 rfl) ?_
  refine lv_bipush (v := 12) hx hb d_Model_readTrace_54 (by decide) ?_
  refine lv_icmp_ge (tgt := 130) hx hb d_Model_readTrace_56 (by decide) (fun hc => absurd hc (by decide +kernel)) (fun _ => ?_)
  refine lv_aload_n hx hb d_Model_readTrace_59 rfl (lv_at hl 2 rfl) ?_
  refine va_get (D := G.1) (ci := 12) (v := .ref b6) (C := R_Model) (T := F_Model) (N := 54) hx hb hts i_Model hown hK hP 1 rfl rfl 11 (by decide) (hts _ q1124) (fun _ h9 => h9) rfl d_Model_readTrace_60 ?_
  refine lv_bipush (v := 21) hx hb d_Model_readTrace_63 (by decide) ?_
  refine lv_bipush (v := 12) hx hb d_Model_readTrace_65 (by decide) ?_
  refine lv_iload_n hx hb d_Model_readTrace_67 rfl (lv_at hl 1 rfl) ?_
  refine lv_imul hx hb d_Model_readTrace_68 ?_
  refine z_topi (y := 0) (by decide +kernel) ?_
  refine lv_iadd hx hb d_Model_readTrace_69 ?_
  refine z_topi (y := 21) (by decide +kernel) ?_
  refine lv_iload_n hx hb d_Model_readTrace_70 rfl (lv_at hl 0 rfl) ?_
  refine lv_iadd hx hb d_Model_readTrace_71 ?_
  refine z_topi (y := 28) (by decide +kernel) ?_
  refine lv_iload_n hx hb d_Model_readTrace_72 rfl (lv_at hl 0 rfl) ?_
  refine lv_aload_n hx hb d_Model_readTrace_73 rfl (lv_at hl 2 rfl) ?_
  refine va_get (D := G.1) (ci := 12) (v := .int 0) (C := R_Model) (T := F_Model) (N := 54) hx hb hts i_Model hown hK hP 1 rfl rfl 14 (by decide) (hts _ q1127) (fun _ h9 => h9) rfl d_Model_readTrace_74 ?_
  refine lv_icmp_ge (tgt := 89) hx hb d_Model_readTrace_77 (by decide) (fun _ => ?_) (fun hc => absurd hc (by decide +kernel))
  refine lv_iconst (v := 0) hx hb d_Model_readTrace_89 (by decide) ?_
  refine va_iast hx hb hK hP hD hS 0 0 rfl rfl (i := 28) (z_in rfl) d_Model_readTrace_90 (fun H locs hP hD hS => ?_)
  have hP : va_P G.1 classes [(b6, .inl (G.2 0, 503, .inl (upd (upd (upd (upd (upd (upd (upd (upd (upd (upd (upd (upd (upd (upd (upd (upd (upd (fun _ => 0) 501 1) 1 0) 21 0) 261 0) 22 0) 262 0) 23 0) 263 0) 24 0) 264 0) 25 0) 265 0) 26 0) 266 0) 27 0) 267 0) 28 0))), (b0, .inr (12, [.int 0, .ref b1, .ref b2, .ref b3, .ref b4, .int 0, .ref b5, .int 0, .int 0, .int 0, .int 1, .ref b6, .ref b7, .ref b8, .int 0, .ref b9, .ref b10, .ref b11, .ref b12, .ref b13, .ref b14, .ref b15, .ref b16, .ref b17, .ref b18, .ref b19, .ref b20, .int 0, .ref b21, .ref b22, .int 0, .int 0, .int 0, .int 0, .ref b23, .ref b24, .ref b25, .ref b26, .ref b27, .ref b28, .ref b29, .int 0, .ref b30, .ref b31, .int 0, .ref b32, .ref b33, .ref b34, .ref b35, .ref b36, .int 0, .ref b37, .ref b38, .ref b39]))] H := hP
  have hD := z_tie hP hD rfl
  refine lv_aload_n hx hb d_Model_readTrace_91 rfl (lv_at hl 2 rfl) ?_
  refine va_get (D := G.1) (ci := 12) (v := .ref b6) (C := R_Model) (T := F_Model) (N := 54) hx hb hts i_Model hown hK hP 1 rfl rfl 11 (by decide) (hts _ q1124) (fun _ h9 => h9) rfl d_Model_readTrace_92 ?_
  refine lv_sipush (v := 261) hx hb d_Model_readTrace_95 (by decide) ?_
  refine lv_bipush (v := 12) hx hb d_Model_readTrace_98 (by decide) ?_
  refine lv_iload_n hx hb d_Model_readTrace_100 rfl (lv_at hl 1 rfl) ?_
  refine lv_imul hx hb d_Model_readTrace_101 ?_
  refine z_topi (y := 0) (by decide +kernel) ?_
  refine lv_iadd hx hb d_Model_readTrace_102 ?_
  refine z_topi (y := 261) (by decide +kernel) ?_
  refine lv_iload_n hx hb d_Model_readTrace_103 rfl (lv_at hl 0 rfl) ?_
  refine lv_iadd hx hb d_Model_readTrace_104 ?_
  refine z_topi (y := 268) (by decide +kernel) ?_
  refine lv_iload_n hx hb d_Model_readTrace_105 rfl (lv_at hl 0 rfl) ?_
  refine lv_aload_n hx hb d_Model_readTrace_106 rfl (lv_at hl 2 rfl) ?_
  refine va_get (D := G.1) (ci := 12) (v := .int 0) (C := R_Model) (T := F_Model) (N := 54) hx hb hts i_Model hown hK hP 1 rfl rfl 14 (by decide) (hts _ q1127) (fun _ h9 => h9) rfl d_Model_readTrace_107 ?_
  refine lv_icmp_ge (tgt := 122) hx hb d_Model_readTrace_110 (by decide) (fun _ => ?_) (fun hc => absurd hc (by decide +kernel))
  refine lv_iconst (v := 0) hx hb d_Model_readTrace_122 (by decide) ?_
  refine va_iast hx hb hK hP hD hS 0 0 rfl rfl (i := 268) (z_in rfl) d_Model_readTrace_123 (fun H locs hP hD hS => ?_)
  have hP : va_P G.1 classes [(b6, .inl (G.2 0, 503, .inl (upd (upd (upd (upd (upd (upd (upd (upd (upd (upd (upd (upd (upd (upd (upd (upd (upd (upd (fun _ => 0) 501 1) 1 0) 21 0) 261 0) 22 0) 262 0) 23 0) 263 0) 24 0) 264 0) 25 0) 265 0) 26 0) 266 0) 27 0) 267 0) 28 0) 268 0))), (b0, .inr (12, [.int 0, .ref b1, .ref b2, .ref b3, .ref b4, .int 0, .ref b5, .int 0, .int 0, .int 0, .int 1, .ref b6, .ref b7, .ref b8, .int 0, .ref b9, .ref b10, .ref b11, .ref b12, .ref b13, .ref b14, .ref b15, .ref b16, .ref b17, .ref b18, .ref b19, .ref b20, .int 0, .ref b21, .ref b22, .int 0, .int 0, .int 0, .int 0, .ref b23, .ref b24, .ref b25, .ref b26, .ref b27, .ref b28, .ref b29, .int 0, .ref b30, .ref b31, .int 0, .ref b32, .ref b33, .ref b34, .ref b35, .ref b36, .int 0, .ref b37, .ref b38, .ref b39]))] H := hP
  have hD := z_tie hP hD rfl
  refine lv_iinc (v := 8) (lv' := [(2, .int 8), (1, .int 0), (0, .ref b0)]) hx hb d_Model_readTrace_124 hl (k := 0) rfl (by decide +kernel) (by decide) rfl (fun ls hl => ?_)
  refine lv_goto (tgt := 53) hx hb d_Model_readTrace_127 (by decide) ?_
  refine lv_iload_n hx hb d_Model_readTrace_53 rfl (lv_at hl 0 rfl) ?_
  refine lv_bipush (v := 12) hx hb d_Model_readTrace_54 (by decide) ?_
  refine lv_icmp_ge (tgt := 130) hx hb d_Model_readTrace_56 (by decide) (fun hc => absurd hc (by decide +kernel)) (fun _ => ?_)
  refine lv_aload_n hx hb d_Model_readTrace_59 rfl (lv_at hl 2 rfl) ?_
  refine va_get (D := G.1) (ci := 12) (v := .ref b6) (C := R_Model) (T := F_Model) (N := 54) hx hb hts i_Model hown hK hP 1 rfl rfl 11 (by decide) (hts _ q1124) (fun _ h9 => h9) rfl d_Model_readTrace_60 ?_
  refine lv_bipush (v := 21) hx hb d_Model_readTrace_63 (by decide) ?_
  refine lv_bipush (v := 12) hx hb d_Model_readTrace_65 (by decide) ?_
  refine lv_iload_n hx hb d_Model_readTrace_67 rfl (lv_at hl 1 rfl) ?_
  refine lv_imul hx hb d_Model_readTrace_68 ?_
  refine z_topi (y := 0) (by decide +kernel) ?_
  refine lv_iadd hx hb d_Model_readTrace_69 ?_
  refine z_topi (y := 21) (by decide +kernel) ?_
  refine lv_iload_n hx hb d_Model_readTrace_70 rfl (lv_at hl 0 rfl) ?_
  refine lv_iadd hx hb d_Model_readTrace_71 ?_
  refine z_topi (y := 29) (by decide +kernel) ?_
  refine lv_iload_n hx hb d_Model_readTrace_72 rfl (lv_at hl 0 rfl) ?_
  refine lv_aload_n hx hb d_Model_readTrace_73 rfl (lv_at hl 2 rfl) ?_
  refine va_get (D := G.1) (ci := 12) (v := .int 0) (C := R_Model) (T := F_Model) (N := 54) hx hb hts i_Model hown hK hP 1 rfl rfl 14 (by decide) (hts _ q1127) (fun _ h9 => h9) rfl d_Model_readTrace_74 ?_
  refine lv_icmp_ge (tgt := 89) hx hb d_Model_readTrace_77 (by decide) (fun _ => ?_) (fun hc => absurd hc (by decide +kernel))
  refine lv_iconst (v := 0) hx hb d_Model_readTrace_89 (by decide) ?_
  refine va_iast hx hb hK hP hD hS 0 0 rfl rfl (i := 29) (z_in rfl) d_Model_readTrace_90 (fun H locs hP hD hS => ?_)
  have hP : va_P G.1 classes [(b6, .inl (G.2 0, 503, .inl (upd (upd (upd (upd (upd (upd (upd (upd (upd (upd (upd (upd (upd (upd (upd (upd (upd (upd (upd (fun _ => 0) 501 1) 1 0) 21 0) 261 0) 22 0) 262 0) 23 0) 263 0) 24 0) 264 0) 25 0) 265 0) 26 0) 266 0) 27 0) 267 0) 28 0) 268 0) 29 0))), (b0, .inr (12, [.int 0, .ref b1, .ref b2, .ref b3, .ref b4, .int 0, .ref b5, .int 0, .int 0, .int 0, .int 1, .ref b6, .ref b7, .ref b8, .int 0, .ref b9, .ref b10, .ref b11, .ref b12, .ref b13, .ref b14, .ref b15, .ref b16, .ref b17, .ref b18, .ref b19, .ref b20, .int 0, .ref b21, .ref b22, .int 0, .int 0, .int 0, .int 0, .ref b23, .ref b24, .ref b25, .ref b26, .ref b27, .ref b28, .ref b29, .int 0, .ref b30, .ref b31, .int 0, .ref b32, .ref b33, .ref b34, .ref b35, .ref b36, .int 0, .ref b37, .ref b38, .ref b39]))] H := hP
  have hD := z_tie hP hD rfl
  refine lv_aload_n hx hb d_Model_readTrace_91 rfl (lv_at hl 2 rfl) ?_
  refine va_get (D := G.1) (ci := 12) (v := .ref b6) (C := R_Model) (T := F_Model) (N := 54) hx hb hts i_Model hown hK hP 1 rfl rfl 11 (by decide) (hts _ q1124) (fun _ h9 => h9) rfl d_Model_readTrace_92 ?_
  refine lv_sipush (v := 261) hx hb d_Model_readTrace_95 (by decide) ?_
  refine lv_bipush (v := 12) hx hb d_Model_readTrace_98 (by decide) ?_
  refine lv_iload_n hx hb d_Model_readTrace_100 rfl (lv_at hl 1 rfl) ?_
  refine lv_imul hx hb d_Model_readTrace_101 ?_
  refine z_topi (y := 0) (by decide +kernel) ?_
  refine lv_iadd hx hb d_Model_readTrace_102 ?_
  refine z_topi (y := 261) (by decide +kernel) ?_
  refine lv_iload_n hx hb d_Model_readTrace_103 rfl (lv_at hl 0 rfl) ?_
  refine lv_iadd hx hb d_Model_readTrace_104 ?_
  refine z_topi (y := 269) (by decide +kernel) ?_
  refine lv_iload_n hx hb d_Model_readTrace_105 rfl (lv_at hl 0 rfl) ?_
  refine lv_aload_n hx hb d_Model_readTrace_106 rfl (lv_at hl 2 rfl) ?_
  refine va_get (D := G.1) (ci := 12) (v := .int 0) (C := R_Model) (T := F_Model) (N := 54) hx hb hts i_Model hown hK hP 1 rfl rfl 14 (by decide) (hts _ q1127) (fun _ h9 => h9) rfl d_Model_readTrace_107 ?_
  refine lv_icmp_ge (tgt := 122) hx hb d_Model_readTrace_110 (by decide) (fun _ => ?_) (fun hc => absurd hc (by decide +kernel))
  refine lv_iconst (v := 0) hx hb d_Model_readTrace_122 (by decide) ?_
  refine va_iast hx hb hK hP hD hS 0 0 rfl rfl (i := 269) (z_in rfl) d_Model_readTrace_123 (fun H locs hP hD hS => ?_)
  have hP : va_P G.1 classes [(b6, .inl (G.2 0, 503, .inl (upd (upd (upd (upd (upd (upd (upd (upd (upd (upd (upd (upd (upd (upd (upd (upd (upd (upd (upd (upd (fun _ => 0) 501 1) 1 0) 21 0) 261 0) 22 0) 262 0) 23 0) 263 0) 24 0) 264 0) 25 0) 265 0) 26 0) 266 0) 27 0) 267 0) 28 0) 268 0) 29 0) 269 0))), (b0, .inr (12, [.int 0, .ref b1, .ref b2, .ref b3, .ref b4, .int 0, .ref b5, .int 0, .int 0, .int 0, .int 1, .ref b6, .ref b7, .ref b8, .int 0, .ref b9, .ref b10, .ref b11, .ref b12, .ref b13, .ref b14, .ref b15, .ref b16, .ref b17, .ref b18, .ref b19, .ref b20, .int 0, .ref b21, .ref b22, .int 0, .int 0, .int 0, .int 0, .ref b23, .ref b24, .ref b25, .ref b26, .ref b27, .ref b28, .ref b29, .int 0, .ref b30, .ref b31, .int 0, .ref b32, .ref b33, .ref b34, .ref b35, .ref b36, .int 0, .ref b37, .ref b38, .ref b39]))] H := hP
  have hD := z_tie hP hD rfl
  refine lv_iinc (v := 9) (lv' := [(2, .int 9), (1, .int 0), (0, .ref b0)]) hx hb d_Model_readTrace_124 hl (k := 0) rfl (by decide +kernel) (by decide) rfl (fun ls hl => ?_)
  refine lv_goto (tgt := 53) hx hb d_Model_readTrace_127 (by decide) ?_
  refine lv_iload_n hx hb d_Model_readTrace_53 rfl (lv_at hl 0 rfl) ?_
  refine lv_bipush (v := 12) hx hb d_Model_readTrace_54 (by decide) ?_
  refine lv_icmp_ge (tgt := 130) hx hb d_Model_readTrace_56 (by decide) (fun hc => absurd hc (by decide +kernel)) (fun _ => ?_)
  refine lv_aload_n hx hb d_Model_readTrace_59 rfl (lv_at hl 2 rfl) ?_
  refine va_get (D := G.1) (ci := 12) (v := .ref b6) (C := R_Model) (T := F_Model) (N := 54) hx hb hts i_Model hown hK hP 1 rfl rfl 11 (by decide) (hts _ q1124) (fun _ h9 => h9) rfl d_Model_readTrace_60 ?_
  refine lv_bipush (v := 21) hx hb d_Model_readTrace_63 (by decide) ?_
  refine lv_bipush (v := 12) hx hb d_Model_readTrace_65 (by decide) ?_
  refine lv_iload_n hx hb d_Model_readTrace_67 rfl (lv_at hl 1 rfl) ?_
  refine lv_imul hx hb d_Model_readTrace_68 ?_
  refine z_topi (y := 0) (by decide +kernel) ?_
  refine lv_iadd hx hb d_Model_readTrace_69 ?_
  refine z_topi (y := 21) (by decide +kernel) ?_
  refine lv_iload_n hx hb d_Model_readTrace_70 rfl (lv_at hl 0 rfl) ?_
  refine lv_iadd hx hb d_Model_readTrace_71 ?_
  refine z_topi (y := 30) (by decide +kernel) ?_
  refine lv_iload_n hx hb d_Model_readTrace_72 rfl (lv_at hl 0 rfl) ?_
  refine lv_aload_n hx hb d_Model_readTrace_73 rfl (lv_at hl 2 rfl) ?_
  refine va_get (D := G.1) (ci := 12) (v := .int 0) (C := R_Model) (T := F_Model) (N := 54) hx hb hts i_Model hown hK hP 1 rfl rfl 14 (by decide) (hts _ q1127) (fun _ h9 => h9) rfl d_Model_readTrace_74 ?_
  refine lv_icmp_ge (tgt := 89) hx hb d_Model_readTrace_77 (by decide) (fun _ => ?_) (fun hc => absurd hc (by decide +kernel))
  refine lv_iconst (v := 0) hx hb d_Model_readTrace_89 (by decide) ?_
  refine va_iast hx hb hK hP hD hS 0 0 rfl rfl (i := 30) (z_in rfl) d_Model_readTrace_90 (fun H locs hP hD hS => ?_)
  have hP : va_P G.1 classes [(b6, .inl (G.2 0, 503, .inl (upd (upd (upd (upd (upd (upd (upd (upd (upd (upd (upd (upd (upd (upd (upd (upd (upd (upd (upd (upd (upd (fun _ => 0) 501 1) 1 0) 21 0) 261 0) 22 0) 262 0) 23 0) 263 0) 24 0) 264 0) 25 0) 265 0) 26 0) 266 0) 27 0) 267 0) 28 0) 268 0) 29 0) 269 0) 30 0))), (b0, .inr (12, [.int 0, .ref b1, .ref b2, .ref b3, .ref b4, .int 0, .ref b5, .int 0, .int 0, .int 0, .int 1, .ref b6, .ref b7, .ref b8, .int 0, .ref b9, .ref b10, .ref b11, .ref b12, .ref b13, .ref b14, .ref b15, .ref b16, .ref b17, .ref b18, .ref b19, .ref b20, .int 0, .ref b21, .ref b22, .int 0, .int 0, .int 0, .int 0, .ref b23, .ref b24, .ref b25, .ref b26, .ref b27, .ref b28, .ref b29, .int 0, .ref b30, .ref b31, .int 0, .ref b32, .ref b33, .ref b34, .ref b35, .ref b36, .int 0, .ref b37, .ref b38, .ref b39]))] H := hP
  have hD := z_tie hP hD rfl
  refine lv_aload_n hx hb d_Model_readTrace_91 rfl (lv_at hl 2 rfl) ?_
  refine va_get (D := G.1) (ci := 12) (v := .ref b6) (C := R_Model) (T := F_Model) (N := 54) hx hb hts i_Model hown hK hP 1 rfl rfl 11 (by decide) (hts _ q1124) (fun _ h9 => h9) rfl d_Model_readTrace_92 ?_
  refine lv_sipush (v := 261) hx hb d_Model_readTrace_95 (by decide) ?_
  refine lv_bipush (v := 12) hx hb d_Model_readTrace_98 (by decide) ?_
  refine lv_iload_n hx hb d_Model_readTrace_100 rfl (lv_at hl 1 rfl) ?_
  refine lv_imul hx hb d_Model_readTrace_101 ?_
  refine z_topi (y := 0) (by decide +kernel) ?_
  refine lv_iadd hx hb d_Model_readTrace_102 ?_
  refine z_topi (y := 261) (by decide +kernel) ?_
  refine lv_iload_n hx hb d_Model_readTrace_103 rfl (lv_at hl 0 rfl) ?_
  refine lv_iadd hx hb d_Model_readTrace_104 ?_
  refine z_topi (y := 270) (by decide +kernel) ?_
  refine lv_iload_n hx hb d_Model_readTrace_105 rfl (lv_at hl 0 rfl) ?_
  refine lv_aload_n hx hb d_Model_readTrace_106 rfl (lv_at hl 2 rfl) ?_
  refine va_get (D := G.1) (ci := 12) (v := .int 0) (C := R_Model) (T := F_Model) (N := 54) hx hb hts i_Model hown hK hP 1 rfl rfl 14 (by decide) (hts _ q1127) (fun _ h9 => h9) rfl d_Model_readTrace_107 ?_
  refine lv_icmp_ge (tgt := 122) hx hb d_Model_readTrace_110 (by decide) (fun _ => ?_) (fun hc => absurd hc (by decide +kernel))
  refine lv_iconst (v := 0) hx hb d_Model_readTrace_122 (by decide) ?_
  refine va_iast hx hb hK hP hD hS 0 0 rfl rfl (i := 270) (z_in rfl) d_Model_readTrace_123 (fun H locs hP hD hS => ?_)
  have hP : va_P G.1 classes [(b6, .inl (G.2 0, 503, .inl (upd (upd (upd (upd (upd (upd (upd (upd (upd (upd (upd (upd (upd (upd (upd (upd (upd (upd (upd (upd (upd (upd (fun _ => 0) 501 1) 1 0) 21 0) 261 0) 22 0) 262 0) 23 0) 263 0) 24 0) 264 0) 25 0) 265 0) 26 0) 266 0) 27 0) 267 0) 28 0) 268 0) 29 0) 269 0) 30 0) 270 0))), (b0, .inr (12, [.int 0, .ref b1, .ref b2, .ref b3, .ref b4, .int 0, .ref b5, .int 0, .int 0, .int 0, .int 1, .ref b6, .ref b7, .ref b8, .int 0, .ref b9, .ref b10, .ref b11, .ref b12, .ref b13, .ref b14, .ref b15, .ref b16, .ref b17, .ref b18, .ref b19, .ref b20, .int 0, .ref b21, .ref b22, .int 0, .int 0, .int 0, .int 0, .ref b23, .ref b24, .ref b25, .ref b26, .ref b27, .ref b28, .ref b29, .int 0, .ref b30, .ref b31, .int 0, .ref b32, .ref b33, .ref b34, .ref b35, .ref b36, .int 0, .ref b37, .ref b38, .ref b39]))] H := hP
  have hD := z_tie hP hD rfl
  refine lv_iinc (v := 10) (lv' := [(2, .int 10), (1, .int 0), (0, .ref b0)]) hx hb d_Model_readTrace_124 hl (k := 0) rfl (by decide +kernel) (by decide) rfl (fun ls hl => ?_)
  refine lv_goto (tgt := 53) hx hb d_Model_readTrace_127 (by decide) ?_
  refine lv_iload_n hx hb d_Model_readTrace_53 rfl (lv_at hl 0 rfl) ?_
  refine lv_bipush (v := 12) hx hb d_Model_readTrace_54 (by decide) ?_
  refine lv_icmp_ge (tgt := 130) hx hb d_Model_readTrace_56 (by decide) (fun hc => absurd hc (by decide +kernel)) (fun _ => ?_)
  refine lv_aload_n hx hb d_Model_readTrace_59 rfl (lv_at hl 2 rfl) ?_
  refine va_get (D := G.1) (ci := 12) (v := .ref b6) (C := R_Model) (T := F_Model) (N := 54) hx hb hts i_Model hown hK hP 1 rfl rfl 11 (by decide) (hts _ q1124) (fun _ h9 => h9) rfl d_Model_readTrace_60 ?_
  refine lv_bipush (v := 21) hx hb d_Model_readTrace_63 (by decide) ?_
  refine lv_bipush (v := 12) hx hb d_Model_readTrace_65 (by decide) ?_
  refine lv_iload_n hx hb d_Model_readTrace_67 rfl (lv_at hl 1 rfl) ?_
  refine lv_imul hx hb d_Model_readTrace_68 ?_
  refine z_topi (y := 0) (by decide +kernel) ?_
  refine lv_iadd hx hb d_Model_readTrace_69 ?_
  refine z_topi (y := 21) (by decide +kernel) ?_
  refine lv_iload_n hx hb d_Model_readTrace_70 rfl (lv_at hl 0 rfl) ?_
  refine lv_iadd hx hb d_Model_readTrace_71 ?_
  refine z_topi (y := 31) (by decide +kernel) ?_
  refine lv_iload_n hx hb d_Model_readTrace_72 rfl (lv_at hl 0 rfl) ?_
  refine lv_aload_n hx hb d_Model_readTrace_73 rfl (lv_at hl 2 rfl) ?_
  refine va_get (D := G.1) (ci := 12) (v := .int 0) (C := R_Model) (T := F_Model) (N := 54) hx hb hts i_Model hown hK hP 1 rfl rfl 14 (by decide) (hts _ q1127) (fun _ h9 => h9) rfl d_Model_readTrace_74 ?_
  refine lv_icmp_ge (tgt := 89) hx hb d_Model_readTrace_77 (by decide) (fun _ => ?_) (fun hc => absurd hc (by decide +kernel))
  refine lv_iconst (v := 0) hx hb d_Model_readTrace_89 (by decide) ?_
  refine va_iast hx hb hK hP hD hS 0 0 rfl rfl (i := 31) (z_in rfl) d_Model_readTrace_90 (fun H locs hP hD hS => ?_)
  have hP : va_P G.1 classes [(b6, .inl (G.2 0, 503, .inl (upd (upd (upd (upd (upd (upd (upd (upd (upd (upd (upd (upd (upd (upd (upd (upd (upd (upd (upd (upd (upd (upd (upd (fun _ => 0) 501 1) 1 0) 21 0) 261 0) 22 0) 262 0) 23 0) 263 0) 24 0) 264 0) 25 0) 265 0) 26 0) 266 0) 27 0) 267 0) 28 0) 268 0) 29 0) 269 0) 30 0) 270 0) 31 0))), (b0, .inr (12, [.int 0, .ref b1, .ref b2, .ref b3, .ref b4, .int 0, .ref b5, .int 0, .int 0, .int 0, .int 1, .ref b6, .ref b7, .ref b8, .int 0, .ref b9, .ref b10, .ref b11, .ref b12, .ref b13, .ref b14, .ref b15, .ref b16, .ref b17, .ref b18, .ref b19, .ref b20, .int 0, .ref b21, .ref b22, .int 0, .int 0, .int 0, .int 0, .ref b23, .ref b24, .ref b25, .ref b26, .ref b27, .ref b28, .ref b29, .int 0, .ref b30, .ref b31, .int 0, .ref b32, .ref b33, .ref b34, .ref b35, .ref b36, .int 0, .ref b37, .ref b38, .ref b39]))] H := hP
  have hD := z_tie hP hD rfl
  refine lv_aload_n hx hb d_Model_readTrace_91 rfl (lv_at hl 2 rfl) ?_
  refine va_get (D := G.1) (ci := 12) (v := .ref b6) (C := R_Model) (T := F_Model) (N := 54) hx hb hts i_Model hown hK hP 1 rfl rfl 11 (by decide) (hts _ q1124) (fun _ h9 => h9) rfl d_Model_readTrace_92 ?_
  refine lv_sipush (v := 261) hx hb d_Model_readTrace_95 (by decide) ?_
  refine lv_bipush (v := 12) hx hb d_Model_readTrace_98 (by decide) ?_
  refine lv_iload_n hx hb d_Model_readTrace_100 rfl (lv_at hl 1 rfl) ?_
  refine lv_imul hx hb d_Model_readTrace_101 ?_
  refine z_topi (y := 0) (by decide +kernel) ?_
  refine lv_iadd hx hb d_Model_readTrace_102 ?_
  refine z_topi (y := 261) (by decide +kernel) ?_
  refine lv_iload_n hx hb d_Model_readTrace_103 rfl (lv_at hl 0 rfl) ?_
  refine lv_iadd hx hb d_Model_readTrace_104 ?_
  refine z_topi (y := 271) (by decide +kernel) ?_
  refine lv_iload_n hx hb d_Model_readTrace_105 rfl (lv_at hl 0 rfl) ?_
  refine lv_aload_n hx hb d_Model_readTrace_106 rfl (lv_at hl 2 rfl) ?_
  refine va_get (D := G.1) (ci := 12) (v := .int 0) (C := R_Model) (T := F_Model) (N := 54) hx hb hts i_Model hown hK hP 1 rfl rfl 14 (by decide) (hts _ q1127) (fun _ h9 => h9) rfl d_Model_readTrace_107 ?_
  refine lv_icmp_ge (tgt := 122) hx hb d_Model_readTrace_110 (by decide) (fun _ => ?_) (fun hc => absurd hc (by decide +kernel))
  refine lv_iconst (v := 0) hx hb d_Model_readTrace_122 (by decide) ?_
  refine va_iast hx hb hK hP hD hS 0 0 rfl rfl (i := 271) (z_in rfl) d_Model_readTrace_123 (fun H locs hP hD hS => ?_)
  have hP : va_P G.1 classes [(b6, .inl (G.2 0, 503, .inl (upd (upd (upd (upd (upd (upd (upd (upd (upd (upd (upd (upd (upd (upd (upd (upd (upd (upd (upd (upd (upd (upd (upd (upd (fun _ => 0) 501 1) 1 0) 21 0) 261 0) 22 0) 262 0) 23 0) 263 0) 24 0) 264 0) 25 0) 265 0) 26 0) 266 0) 27 0) 267 0) 28 0) 268 0) 29 0) 269 0) 30 0) 270 0) 31 0) 271 0))), (b0, .inr (12, [.int 0, .ref b1, .ref b2, .ref b3, .ref b4, .int 0, .ref b5, .int 0, .int 0, .int 0, .int 1, .ref b6, .ref b7, .ref b8, .int 0, .ref b9, .ref b10, .ref b11, .ref b12, .ref b13, .ref b14, .ref b15, .ref b16, .ref b17, .ref b18, .ref b19, .ref b20, .int 0, .ref b21, .ref b22, .int 0, .int 0, .int 0, .int 0, .ref b23, .ref b24, .ref b25, .ref b26, .ref b27, .ref b28, .ref b29, .int 0, .ref b30, .ref b31, .int 0, .ref b32, .ref b33, .ref b34, .ref b35, .ref b36, .int 0, .ref b37, .ref b38, .ref b39]))] H := hP
  have hD := z_tie hP hD rfl
  refine lv_iinc (v := 11) (lv' := [(2, .int 11), (1, .int 0), (0, .ref b0)]) hx hb d_Model_readTrace_124 hl (k := 0) rfl (by decide +kernel) (by decide) rfl (fun ls hl => ?_)
  refine lv_goto (tgt := 53) hx hb d_Model_readTrace_127 (by decide) ?_
  refine lv_iload_n hx hb d_Model_readTrace_53 rfl (lv_at hl 0 rfl) ?_
  refine lv_bipush (v := 12) hx hb d_Model_readTrace_54 (by decide) ?_
  refine lv_icmp_ge (tgt := 130) hx hb d_Model_readTrace_56 (by decide) (fun hc => absurd hc (by decide +kernel)) (fun _ => ?_)
  refine lv_aload_n hx hb d_Model_readTrace_59 rfl (lv_at hl 2 rfl) ?_
  refine va_get (D := G.1) (ci := 12) (v := .ref b6) (C := R_Model) (T := F_Model) (N := 54) hx hb hts i_Model hown hK hP 1 rfl rfl 11 (by decide) (hts _ q1124) (fun _ h9 => h9) rfl d_Model_readTrace_60 ?_
  refine lv_bipush (v := 21) hx hb d_Model_readTrace_63 (by decide) ?_
  refine lv_bipush (v := 12) hx hb d_Model_readTrace_65 (by decide) ?_
  refine lv_iload_n hx hb d_Model_readTrace_67 rfl (lv_at hl 1 rfl) ?_
  refine lv_imul hx hb d_Model_readTrace_68 ?_
  refine z_topi (y := 0) (by decide +kernel) ?_
  refine lv_iadd hx hb d_Model_readTrace_69 ?_
  refine z_topi (y := 21) (by decide +kernel) ?_
  refine lv_iload_n hx hb d_Model_readTrace_70 rfl (lv_at hl 0 rfl) ?_
  refine lv_iadd hx hb d_Model_readTrace_71 ?_
  refine z_topi (y := 32) (by decide +kernel) ?_
  refine lv_iload_n hx hb d_Model_readTrace_72 rfl (lv_at hl 0 rfl) ?_
  refine lv_aload_n hx hb d_Model_readTrace_73 rfl (lv_at hl 2 rfl) ?_
  refine va_get (D := G.1) (ci := 12) (v := .int 0) (C := R_Model) (T := F_Model) (N := 54) hx hb hts i_Model hown hK hP 1 rfl rfl 14 (by decide) (hts _ q1127) (fun _ h9 => h9) rfl d_Model_readTrace_74 ?_
  refine lv_icmp_ge (tgt := 89) hx hb d_Model_readTrace_77 (by decide) (fun _ => ?_) (fun hc => absurd hc (by decide +kernel))
  refine lv_iconst (v := 0) hx hb d_Model_readTrace_89 (by decide) ?_
  refine va_iast hx hb hK hP hD hS 0 0 rfl rfl (i := 32) (z_in rfl) d_Model_readTrace_90 (fun H locs hP hD hS => ?_)
  have hP : va_P G.1 classes [(b6, .inl (G.2 0, 503, .inl (upd (upd (upd (upd (upd (upd (upd (upd (upd (upd (upd (upd (upd (upd (upd (upd (upd (upd (upd (upd (upd (upd (upd (upd (upd (fun _ => 0) 501 1) 1 0) 21 0) 261 0) 22 0) 262 0) 23 0) 263 0) 24 0) 264 0) 25 0) 265 0) 26 0) 266 0) 27 0) 267 0) 28 0) 268 0) 29 0) 269 0) 30 0) 270 0) 31 0) 271 0) 32 0))), (b0, .inr (12, [.int 0, .ref b1, .ref b2, .ref b3, .ref b4, .int 0, .ref b5, .int 0, .int 0, .int 0, .int 1, .ref b6, .ref b7, .ref b8, .int 0, .ref b9, .ref b10, .ref b11, .ref b12, .ref b13, .ref b14, .ref b15, .ref b16, .ref b17, .ref b18, .ref b19, .ref b20, .int 0, .ref b21, .ref b22, .int 0, .int 0, .int 0, .int 0, .ref b23, .ref b24, .ref b25, .ref b26, .ref b27, .ref b28, .ref b29, .int 0, .ref b30, .ref b31, .int 0, .ref b32, .ref b33, .ref b34, .ref b35, .ref b36, .int 0, .ref b37, .ref b38, .ref b39]))] H := hP
  have hD := z_tie hP hD rfl
  refine lv_aload_n hx hb d_Model_readTrace_91 rfl (lv_at hl 2 rfl) ?_
  refine va_get (D := G.1) (ci := 12) (v := .ref b6) (C := R_Model) (T := F_Model) (N := 54) hx hb hts i_Model hown hK hP 1 rfl rfl 11 (by decide) (hts _ q1124) (fun _ h9 => h9) rfl d_Model_readTrace_92 ?_
  refine lv_sipush (v := 261) hx hb d_Model_readTrace_95 (by decide) ?_
  refine lv_bipush (v := 12) hx hb d_Model_readTrace_98 (by decide) ?_
  refine lv_iload_n hx hb d_Model_readTrace_100 rfl (lv_at hl 1 rfl) ?_
  refine lv_imul hx hb d_Model_readTrace_101 ?_
  refine z_topi (y := 0) (by decide +kernel) ?_
  refine lv_iadd hx hb d_Model_readTrace_102 ?_
  refine z_topi (y := 261) (by decide +kernel) ?_
  refine lv_iload_n hx hb d_Model_readTrace_103 rfl (lv_at hl 0 rfl) ?_
  refine lv_iadd hx hb d_Model_readTrace_104 ?_
  refine z_topi (y := 272) (by decide +kernel) ?_
  refine lv_iload_n hx hb d_Model_readTrace_105 rfl (lv_at hl 0 rfl) ?_
  refine lv_aload_n hx hb d_Model_readTrace_106 rfl (lv_at hl 2 rfl) ?_
  refine va_get (D := G.1) (ci := 12) (v := .int 0) (C := R_Model) (T := F_Model) (N := 54) hx hb hts i_Model hown hK hP 1 rfl rfl 14 (by decide) (hts _ q1127) (fun _ h9 => h9) rfl d_Model_readTrace_107 ?_
  refine lv_icmp_ge (tgt := 122) hx hb d_Model_readTrace_110 (by decide) (fun _ => ?_) (fun hc => absurd hc (by decide +kernel))
  refine lv_iconst (v := 0) hx hb d_Model_readTrace_122 (by decide) ?_
  refine va_iast hx hb hK hP hD hS 0 0 rfl rfl (i := 272) (z_in rfl) d_Model_readTrace_123 (fun H locs hP hD hS => ?_)
  have hP : va_P G.1 classes [(b6, .inl (G.2 0, 503, .inl (upd (upd (upd (upd (upd (upd (upd (upd (upd (upd (upd (upd (upd (upd (upd (upd (upd (upd (upd (upd (upd (upd (upd (upd (upd (upd (fun _ => 0) 501 1) 1 0) 21 0) 261 0) 22 0) 262 0) 23 0) 263 0) 24 0) 264 0) 25 0) 265 0) 26 0) 266 0) 27 0) 267 0) 28 0) 268 0) 29 0) 269 0) 30 0) 270 0) 31 0) 271 0) 32 0) 272 0))), (b0, .inr (12, [.int 0, .ref b1, .ref b2, .ref b3, .ref b4, .int 0, .ref b5, .int 0, .int 0, .int 0, .int 1, .ref b6, .ref b7, .ref b8, .int 0, .ref b9, .ref b10, .ref b11, .ref b12, .ref b13, .ref b14, .ref b15, .ref b16, .ref b17, .ref b18, .ref b19, .ref b20, .int 0, .ref b21, .ref b22, .int 0, .int 0, .int 0, .int 0, .ref b23, .ref b24, .ref b25, .ref b26, .ref b27, .ref b28, .ref b29, .int 0, .ref b30, .ref b31, .int 0, .ref b32, .ref b33, .ref b34, .ref b35, .ref b36, .int 0, .ref b37, .ref b38, .ref b39]))] H := hP
  have hD := z_tie hP hD rfl
  refine lv_iinc (v := 12) (lv' := [(2, .int 12), (1, .int 0), (0, .ref b0)]) hx hb d_Model_readTrace_124 hl (k := 0) rfl (by decide +kernel) (by decide) rfl (fun ls hl => ?_)
  refine lv_goto (tgt := 53) hx hb d_Model_readTrace_127 (by decide) ?_
  refine lv_iload_n hx hb d_Model_readTrace_53 rfl (lv_at hl 0 rfl) ?_
  refine lv_bipush (v := 12) hx hb d_Model_readTrace_54 (by decide) ?_
  refine lv_icmp_ge (tgt := 130) hx hb d_Model_readTrace_56 (by decide) (fun _ => ?_) (fun hc => absurd hc (by decide +kernel))
  refine lv_aload_n hx hb d_Model_readTrace_130 rfl (lv_at hl 2 rfl) ?_
  refine va_get (D := G.1) (ci := 12) (v := .ref b6) (C := R_Model) (T := F_Model) (N := 54) hx hb hts i_Model hown hK hP 1 rfl rfl 11 (by decide) (hts _ q1124) (fun _ h9 => h9) rfl d_Model_readTrace_131 ?_
  refine lv_iconst (v := 0) hx hb d_Model_readTrace_134 (by decide) ?_
  refine lv_dup2_11 hx hb d_Model_readTrace_135 rfl rfl ?_
  refine va_iald hx hb hK hP 0 0 rfl rfl (i := 0) (z_in rfl) d_Model_readTrace_136 ?_
  refine z_topi (y := 0) rfl ?_
  refine lv_iconst (v := 1) hx hb d_Model_readTrace_137 (by decide) ?_
  refine lv_iadd hx hb d_Model_readTrace_138 ?_
  refine z_topi (y := 1) (by decide +kernel) ?_
  refine va_iast hx hb hK hP hD hS 0 0 rfl rfl (i := 0) (z_in rfl) d_Model_readTrace_139 (fun H locs hP hD hS => ?_)
  have hP : va_P G.1 classes [(b6, .inl (G.2 0, 503, .inl (upd (upd (upd (upd (upd (upd (upd (upd (upd (upd (upd (upd (upd (upd (upd (upd (upd (upd (upd (upd (upd (upd (upd (upd (upd (upd (upd (fun _ => 0) 501 1) 1 0) 21 0) 261 0) 22 0) 262 0) 23 0) 263 0) 24 0) 264 0) 25 0) 265 0) 26 0) 266 0) 27 0) 267 0) 28 0) 268 0) 29 0) 269 0) 30 0) 270 0) 31 0) 271 0) 32 0) 272 0) 0 1))), (b0, .inr (12, [.int 0, .ref b1, .ref b2, .ref b3, .ref b4, .int 0, .ref b5, .int 0, .int 0, .int 0, .int 1, .ref b6, .ref b7, .ref b8, .int 0, .ref b9, .ref b10, .ref b11, .ref b12, .ref b13, .ref b14, .ref b15, .ref b16, .ref b17, .ref b18, .ref b19, .ref b20, .int 0, .ref b21, .ref b22, .int 0, .int 0, .int 0, .int 0, .ref b23, .ref b24, .ref b25, .ref b26, .ref b27, .ref b28, .ref b29, .int 0, .ref b30, .ref b31, .int 0, .ref b32, .ref b33, .ref b34, .ref b35, .ref b36, .int 0, .ref b37, .ref b38, .ref b39]))] H := hP
  have hD := z_tie hP hD rfl
  exact z_vret hx hb hr hlocks hP hD hS (Nat.le_of_ble_eq_true rfl) (Nat.le_of_ble_eq_true rfl) d_Model_readTrace_140 ⟨rfl, rfl⟩
theorem d_Model_traces_46 : decode prog_14_method_18_code 46 = .ok (.aload_n 0, 1) := by decide +kernel
theorem d_Model_traces_47 : decode prog_14_method_18_code 47 = .ok (.getfield 145, 3) := by decide +kernel
theorem d_Model_traces_50 : decode prog_14_method_18_code 50 = .ok (.ifCond .eq 29, 3) := by decide +kernel
theorem d_Model_traces_53 : decode prog_14_method_18_code 53 = .ok (.aload_n 0, 1) := by decide +kernel
theorem d_Model_traces_54 : decode prog_14_method_18_code 54 = .ok (.invokevirtual 162, 3) := by decide +kernel
theorem d_Model_traces_57 : decode prog_14_method_18_code 57 = .ok (.bipush 59, 2) := by decide +kernel
theorem d_Model_traces_59 : decode prog_14_method_18_code 59 = .ok (.if_icmp .ne 20, 3) := by decide +kernel
theorem d_Model_traces_79 : decode prog_14_method_18_code 79 = .ok (.aload_n 0, 1) := by decide +kernel
theorem d_Model_traces_80 : decode prog_14_method_18_code 80 = .ok (.invokevirtual 185, 3) := by decide +kernel
theorem d_Model_endsReading_0 : decode prog_14_method_17_code 0 = .ok (.aload_n 0, 1) := by decide +kernel
theorem d_Model_endsReading_1 : decode prog_14_method_17_code 1 = .ok (.getfield 145, 3) := by decide +kernel
theorem d_Model_endsReading_4 : decode prog_14_method_17_code 4 = .ok (.ifCond .eq 25, 3) := by decide +kernel
theorem d_Model_endsReading_7 : decode prog_14_method_17_code 7 = .ok (.aload_n 0, 1) := by decide +kernel
theorem d_Model_endsReading_8 : decode prog_14_method_17_code 8 = .ok (.invokevirtual 162, 3) := by decide +kernel
theorem d_Model_endsReading_11 : decode prog_14_method_17_code 11 = .ok (.ifCond .ne 14, 3) := by decide +kernel
theorem d_Model_endsReading_14 : decode prog_14_method_17_code 14 = .ok (.aload_n 0, 1) := by decide +kernel
theorem d_Model_endsReading_15 : decode prog_14_method_17_code 15 = .ok (.getfield 149, 3) := by decide +kernel
theorem d_Model_endsReading_18 : decode prog_14_method_17_code 18 = .ok (.aload_n 0, 1) := by decide +kernel
theorem d_Model_endsReading_19 : decode prog_14_method_17_code 19 = .ok (.getfield 142, 3) := by decide +kernel
theorem d_Model_endsReading_22 : decode prog_14_method_17_code 22 = .ok (.if_icmp .ge 7, 3) := by decide +kernel
theorem d_Model_endsReading_29 : decode prog_14_method_17_code 29 = .ok (.aload_n 0, 1) := by decide +kernel
theorem d_Model_endsReading_30 : decode prog_14_method_17_code 30 = .ok (.iconst 0, 1) := by decide +kernel
theorem d_Model_endsReading_31 : decode prog_14_method_17_code 31 = .ok (.putfield 142, 3) := by decide +kernel
theorem d_Model_endsReading_34 : decode prog_14_method_17_code 34 = .ok (.return_, 1) := by decide +kernel
abbrev m_c1_Model_endsReading : Room := { frames := 1, cells := 0, slots := 0, locals := 20 }
set_option maxHeartbeats 4000000 in
set_option maxRecDepth 100000 in
theorem c1_Model_endsReading (l : Launch) (G : zG) (b0 : Nat) (b1 : Nat) (b2 : Nat) (b3 : Nat) (b4 : Nat) (b5 : Nat) (b6 : Nat) (b7 : Nat) (b8 : Nat) (b9 : Nat) (b10 : Nat) (b11 : Nat) (b12 : Nat) (b13 : Nat) (b14 : Nat) (b15 : Nat) (b16 : Nat) (b17 : Nat) (b18 : Nat) (b19 : Nat) (b20 : Nat) (b21 : Nat) (b22 : Nat) (b23 : Nat) (b24 : Nat) (b25 : Nat) (b26 : Nat) (b27 : Nat) (b28 : Nat) (b29 : Nat) (b30 : Nat) (b31 : Nat) (b32 : Nat) (b33 : Nat) (b34 : Nat) (b35 : Nat) (b36 : Nat) (b37 : Nat) (b38 : Nat) (b39 : Nat)  : zM l G y_Model_endsReading prog_14_method_17_code 1 (Option.none : Option Jvm.ClassFile.FieldType) m_c1_Model_endsReading [.ref b0] [(b0, .inr (12, [.int 0, .ref b1, .ref b2, .ref b3, .ref b4, .int 0, .ref b5, .int 0, .int 0, .int 0, .int 1, .ref b6, .ref b7, .ref b8, .int 0, .ref b9, .ref b10, .ref b11, .ref b12, .ref b13, .ref b14, .ref b15, .ref b16, .ref b17, .ref b18, .ref b19, .ref b20, .int 0, .ref b21, .ref b22, .int 0, .int 0, .int 0, .int 0, .ref b23, .ref b24, .ref b25, .ref b26, .ref b27, .ref b28, .ref b29, .int 0, .ref b30, .ref b31, .int 0, .ref b32, .ref b33, .ref b34, .ref b35, .ref b36, .int 0, .ref b37, .ref b38, .ref b39]))] (fun v w => (v = none ∧ w = [(b0, .inr (12, [.int 0, .ref b1, .ref b2, .ref b3, .ref b4, .int 0, .ref b5, .int 0, .int 0, .int 0, .int 1, .ref b6, .ref b7, .ref b8, .int 0, .ref b9, .ref b10, .ref b11, .ref b12, .ref b13, .ref b14, .ref b15, .ref b16, .ref b17, .ref b18, .ref b19, .ref b20, .int 0, .ref b21, .ref b22, .int 0, .int 0, .int 0, .int 0, .ref b23, .ref b24, .ref b25, .ref b26, .ref b27, .ref b28, .ref b29, .int 0, .ref b30, .ref b31, .int 0, .ref b32, .ref b33, .ref b34, .ref b35, .ref b36, .int 0, .ref b37, .ref b38, .ref b39]))])) := by
  refine z_start (by decide +kernel) (Nat.le_of_ble_eq_true rfl) ?_
  intro p e s m below meth c A Z hr hnm hA hP hD hS ls hl
  have Z : zC p s m _ meth c prog_14_method_17_code 1 "TraceMachinesModel" G := Z
  obtain ⟨hx, hb, hml, hown, hts, hK, hN, hlocks⟩ := id Z
  have hl : lv_has ls 1 [(0, .ref b0)] := hl
  refine lv_aload_n hx hb d_Model_endsReading_0 rfl (lv_at hl 0 rfl) ?_
  refine va_get (D := G.1) (ci := 12) (v := .int 1) (C := R_Model) (T := F_Model) (N := 54) hx hb hts i_Model hown hK hP 0 rfl rfl 10 (by decide) (hts _ q1123) (fun _ h9 => h9) rfl d_Model_endsReading_1 ?_
  refine lv_if_eq (tgt := 29) hx hb d_Model_endsReading_4 (by decide) (fun hc => absurd hc (by decide +kernel)) (fun _ => ?_)
  refine lv_aload_n hx hb d_Model_endsReading_7 rfl (lv_at hl 0 rfl) ?_
  refine z_callV (index := 162) (As := []) (rest := []) (wr := []) Z (c1_Model_next l G (b0) (b1) (b2) (b3) (b4) (b5) (b6) (b7) (b8) (b9) (b10) (b11) (b12) (b13) (b14) (b15) (b16) (b17) (b18) (b19) (b20) (b21) (b22) (b23) (b24) (b25) (b26) (b27) (b28) (b29) (b30) (b31) (b32) (b33) (b34) (b35) (b36) (b37) (b38) (b39)) hl.1 q1296 q1298 qs45 q14 q1299 ⟨by decide, by decide, by show _ = some 0; decide +kernel⟩ ⟨Nat.le_of_ble_eq_true rfl, Nat.le_of_ble_eq_true rfl⟩ ⟨Nat.le_of_ble_eq_true rfl, Nat.le_of_ble_eq_true rfl⟩ rfl (Nat.le_of_ble_eq_true rfl) d_Model_endsReading_8 hP hD hS hA 0 12 rfl rfl rfl [0] [] rfl rfl rfl rfl (by decide) (fun v w1 H locs hw_1 hP hD hS => ?_)
  obtain ⟨rfl, rfl⟩ := hw_1
  have hP : va_P G.1 classes [(b0, .inr (12, [.int 0, .ref b1, .ref b2, .ref b3, .ref b4, .int 0, .ref b5, .int 0, .int 0, .int 0, .int 1, .ref b6, .ref b7, .ref b8, .int 0, .ref b9, .ref b10, .ref b11, .ref b12, .ref b13, .ref b14, .ref b15, .ref b16, .ref b17, .ref b18, .ref b19, .ref b20, .int 0, .ref b21, .ref b22, .int 0, .int 0, .int 0, .int 0, .ref b23, .ref b24, .ref b25, .ref b26, .ref b27, .ref b28, .ref b29, .int 0, .ref b30, .ref b31, .int 0, .ref b32, .ref b33, .ref b34, .ref b35, .ref b36, .int 0, .ref b37, .ref b38, .ref b39]))] H := hP
  have hD := z_tie hP hD rfl
  refine W.widen (k := 0) (n := 0) (Nat.le_of_ble_eq_true rfl) (Nat.le_of_ble_eq_true rfl) ?_
  refine lv_if_ne (tgt := 25) hx hb d_Model_endsReading_11 (by decide) (fun hc => absurd hc (by decide +kernel)) (fun _ => ?_)
  refine lv_aload_n hx hb d_Model_endsReading_14 rfl (lv_at hl 0 rfl) ?_
  refine va_get (D := G.1) (ci := 12) (v := .int 0) (C := R_Model) (T := F_Model) (N := 54) hx hb hts i_Model hown hK hP 0 rfl rfl 8 (by decide) (hts _ q1121) (fun _ h9 => h9) rfl d_Model_endsReading_15 ?_
  refine lv_aload_n hx hb d_Model_endsReading_18 rfl (lv_at hl 0 rfl) ?_
  refine va_get (D := G.1) (ci := 12) (v := .int 0) (C := R_Model) (T := F_Model) (N := 54) hx hb hts i_Model hown hK hP 0 rfl rfl 7 (by decide) (hts _ q1120) (fun _ h9 => h9) rfl d_Model_endsReading_19 ?_
  refine lv_icmp_ge (tgt := 29) hx hb d_Model_endsReading_22 (by decide) (fun _ => ?_) (fun hc => absurd hc (by decide +kernel))
  refine lv_aload_n hx hb d_Model_endsReading_29 rfl (lv_at hl 0 rfl) ?_
  refine lv_iconst (v := 0) hx hb d_Model_endsReading_30 (by decide) ?_
  refine va_put (D := G.1) (ci := 12) (v := .int 0) (ty := .int) (C := R_Model) (T := F_Model) (N := 54) hx hb hts i_Model t_Model t_Model_ok n_Model hown hK hP hD hS 0 rfl rfl 7 (by decide) (hts _ q1120) (fun _ h9 => h9) rfl (by decide +kernel) rfl rfl (Nat.le_of_ble_eq_true rfl) d_Model_endsReading_31 (fun H locs hP hD hS => ?_)
  have hP : va_P G.1 classes [(b0, .inr (12, [.int 0, .ref b1, .ref b2, .ref b3, .ref b4, .int 0, .ref b5, .int 0, .int 0, .int 0, .int 1, .ref b6, .ref b7, .ref b8, .int 0, .ref b9, .ref b10, .ref b11, .ref b12, .ref b13, .ref b14, .ref b15, .ref b16, .ref b17, .ref b18, .ref b19, .ref b20, .int 0, .ref b21, .ref b22, .int 0, .int 0, .int 0, .int 0, .ref b23, .ref b24, .ref b25, .ref b26, .ref b27, .ref b28, .ref b29, .int 0, .ref b30, .ref b31, .int 0, .ref b32, .ref b33, .ref b34, .ref b35, .ref b36, .int 0, .ref b37, .ref b38, .ref b39]))] H := hP
  have hD := z_tie hP hD rfl
  exact z_vret hx hb hr hlocks hP hD hS (Nat.le_of_ble_eq_true rfl) (Nat.le_of_ble_eq_true rfl) d_Model_endsReading_34 ⟨rfl, rfl⟩
theorem d_Model_traces_83 : decode prog_14_method_18_code 83 = .ok (.aload_n 0, 1) := by decide +kernel
theorem d_Model_traces_84 : decode prog_14_method_18_code 84 = .ok (.getfield 145, 3) := by decide +kernel
theorem d_Model_traces_87 : decode prog_14_method_18_code 87 = .ok (.ifCond .ne 12, 3) := by decide +kernel
theorem d_Model_traces_99 : decode prog_14_method_18_code 99 = .ok (.aload_n 0, 1) := by decide +kernel
theorem d_Model_traces_100 : decode prog_14_method_18_code 100 = .ok (.invokevirtual 188, 3) := by decide +kernel
theorem d_Model_remember_0 : decode prog_14_method_16_code 0 = .ok (.aload_n 0, 1) := by decide +kernel
theorem d_Model_remember_1 : decode prog_14_method_16_code 1 = .ok (.getfield 179, 3) := by decide +kernel
theorem d_Model_remember_4 : decode prog_14_method_16_code 4 = .ok (.bipush 8, 2) := by decide +kernel
theorem d_Model_remember_6 : decode prog_14_method_16_code 6 = .ok (.if_icmp .ne 49, 3) := by decide +kernel
theorem d_Model_remember_55 : decode prog_14_method_16_code 55 = .ok (.iconst 0, 1) := by decide +kernel
theorem d_Model_remember_56 : decode prog_14_method_16_code 56 = .ok (.istore_n 1, 1) := by decide +kernel
theorem d_Model_remember_57 : decode prog_14_method_16_code 57 = .ok (.iload_n 1, 1) := by decide +kernel
theorem d_Model_remember_58 : decode prog_14_method_16_code 58 = .ok (.sipush 503, 3) := by decide +kernel
theorem d_Model_remember_61 : decode prog_14_method_16_code 61 = .ok (.if_icmp .ge 30, 3) := by decide +kernel
theorem d_Model_remember_64 : decode prog_14_method_16_code 64 = .ok (.aload_n 0, 1) := by decide +kernel
theorem d_Model_remember_65 : decode prog_14_method_16_code 65 = .ok (.getfield 24, 3) := by decide +kernel
theorem d_Model_remember_68 : decode prog_14_method_16_code 68 = .ok (.sipush 503, 3) := by decide +kernel
theorem d_Model_remember_71 : decode prog_14_method_16_code 71 = .ok (.aload_n 0, 1) := by decide +kernel
theorem d_Model_remember_72 : decode prog_14_method_16_code 72 = .ok (.getfield 179, 3) := by decide +kernel
theorem d_Model_remember_75 : decode prog_14_method_16_code 75 = .ok (.imul, 1) := by decide +kernel
theorem d_Model_remember_76 : decode prog_14_method_16_code 76 = .ok (.iload_n 1, 1) := by decide +kernel
theorem d_Model_remember_77 : decode prog_14_method_16_code 77 = .ok (.iadd, 1) := by decide +kernel
theorem d_Model_remember_78 : decode prog_14_method_16_code 78 = .ok (.aload_n 0, 1) := by decide +kernel
theorem d_Model_remember_79 : decode prog_14_method_16_code 79 = .ok (.getfield 13, 3) := by decide +kernel
theorem d_Model_remember_82 : decode prog_14_method_16_code 82 = .ok (.iload_n 1, 1) := by decide +kernel
theorem d_Model_remember_83 : decode prog_14_method_16_code 83 = .ok (.iaload, 1) := by decide +kernel
theorem d_Model_remember_84 : decode prog_14_method_16_code 84 = .ok (.iastore, 1) := by decide +kernel
theorem d_Model_remember_85 : decode prog_14_method_16_code 85 = .ok (.iinc 1 1, 3) := by decide +kernel
theorem d_Model_remember_88 : decode prog_14_method_16_code 88 = .ok (.goto (-31), 3) := by decide +kernel
theorem d_Model_remember_91 : decode prog_14_method_16_code 91 = .ok (.aload_n 0, 1) := by decide +kernel
theorem d_Model_remember_92 : decode prog_14_method_16_code 92 = .ok (.dup, 1) := by decide +kernel
theorem d_Model_remember_93 : decode prog_14_method_16_code 93 = .ok (.getfield 179, 3) := by decide +kernel
theorem d_Model_remember_96 : decode prog_14_method_16_code 96 = .ok (.iconst 1, 1) := by decide +kernel
theorem d_Model_remember_97 : decode prog_14_method_16_code 97 = .ok (.iadd, 1) := by decide +kernel
theorem d_Model_remember_98 : decode prog_14_method_16_code 98 = .ok (.putfield 179, 3) := by decide +kernel
theorem d_Model_remember_101 : decode prog_14_method_16_code 101 = .ok (.return_, 1) := by decide +kernel
abbrev m_c1_Model_remember : Room := { frames := 0, cells := 0, slots := 0, locals := 0 }
set_option maxHeartbeats 4000000 in
set_option maxRecDepth 100000 in
theorem c1_Model_remember (l : Launch) (G : zG) (b0 : Nat) (b1 : Nat) (b2 : Nat) (b3 : Nat) (b4 : Nat) (b5 : Nat) (b6 : Nat) (b7 : Nat) (b8 : Nat) (b9 : Nat) (b10 : Nat) (b11 : Nat) (b12 : Nat) (b13 : Nat) (b14 : Nat) (b15 : Nat) (b16 : Nat) (b17 : Nat) (b18 : Nat) (b19 : Nat) (b20 : Nat) (b21 : Nat) (b22 : Nat) (b23 : Nat) (b24 : Nat) (b25 : Nat) (b26 : Nat) (b27 : Nat) (b28 : Nat) (b29 : Nat) (b30 : Nat) (b31 : Nat) (b32 : Nat) (b33 : Nat) (b34 : Nat) (b35 : Nat) (b36 : Nat) (b37 : Nat) (b38 : Nat) (b39 : Nat)  : zM l G y_Model_remember prog_14_method_16_code 2 (Option.none : Option Jvm.ClassFile.FieldType) m_c1_Model_remember [.ref b0] [(b0, .inr (12, [.int 0, .ref b1, .ref b2, .ref b3, .ref b4, .int 0, .ref b5, .int 0, .int 0, .int 0, .int 1, .ref b6, .ref b7, .ref b8, .int 0, .ref b9, .ref b10, .ref b11, .ref b12, .ref b13, .ref b14, .ref b15, .ref b16, .ref b17, .ref b18, .ref b19, .ref b20, .int 0, .ref b21, .ref b22, .int 0, .int 0, .int 0, .int 0, .ref b23, .ref b24, .ref b25, .ref b26, .ref b27, .ref b28, .ref b29, .int 0, .ref b30, .ref b31, .int 0, .ref b32, .ref b33, .ref b34, .ref b35, .ref b36, .int 0, .ref b37, .ref b38, .ref b39])), (b1, .inl (G.2 0, 503, .inl (upd (fun _ => 0) 501 1))), (b4, .inl (G.2 0, 4024, .inl (fun _ => 0)))] (fun v w => (∃ (e0 : Nat → Int32), v = none ∧ w = [(b0, .inr (12, [.int 0, .ref b1, .ref b2, .ref b3, .ref b4, .int 1, .ref b5, .int 0, .int 0, .int 0, .int 1, .ref b6, .ref b7, .ref b8, .int 0, .ref b9, .ref b10, .ref b11, .ref b12, .ref b13, .ref b14, .ref b15, .ref b16, .ref b17, .ref b18, .ref b19, .ref b20, .int 0, .ref b21, .ref b22, .int 0, .int 0, .int 0, .int 0, .ref b23, .ref b24, .ref b25, .ref b26, .ref b27, .ref b28, .ref b29, .int 0, .ref b30, .ref b31, .int 0, .ref b32, .ref b33, .ref b34, .ref b35, .ref b36, .int 0, .ref b37, .ref b38, .ref b39])), (b1, .inl (G.2 0, 503, .inl (upd (fun _ => 0) 501 1))), (b4, .inl (G.2 0, 4024, .inl e0))])) := by
  refine z_start (by decide +kernel) (Nat.le_of_ble_eq_true rfl) ?_
  intro p e s m below meth c A Z hr hnm hA hP hD hS ls hl
  have Z : zC p s m _ meth c prog_14_method_16_code 2 "TraceMachinesModel" G := Z
  obtain ⟨hx, hb, hml, hown, hts, hK, hN, hlocks⟩ := id Z
  have hl : lv_has ls 2 [(0, .ref b0)] := hl
  refine lv_aload_n hx hb d_Model_remember_0 rfl (lv_at hl 0 rfl) ?_
  refine va_get (D := G.1) (ci := 12) (v := .int 0) (C := R_Model) (T := F_Model) (N := 54) hx hb hts i_Model hown hK hP 0 rfl rfl 5 (by decide) (hts _ q1118) (fun _ h9 => h9) rfl d_Model_remember_1 ?_
  refine lv_bipush (v := 8) hx hb d_Model_remember_4 (by decide) ?_
  refine lv_icmp_ne (tgt := 55) hx hb d_Model_remember_6 (by decide) (fun _ => ?_) (fun hc => absurd hc (by decide +kernel))
  refine lv_iconst (v := 0) hx hb d_Model_remember_55 (by decide) ?_
  refine lv_istore_n (lv' := [(1, .int 0), (0, .ref b0)]) hx hb d_Model_remember_56 rfl hl (by decide) rfl (fun ls hl => ?_)
  suffices key : ∀ (k_2 i_1 : Nat) (g_3 : Nat → Int32) (H : Heap) (locs : List Loc) (ls : Array Slot), i_1 + k_2 = 503 → va_P G.1 classes [(b0, .inr (12, [.int 0, .ref b1, .ref b2, .ref b3, .ref b4, .int 0, .ref b5, .int 0, .int 0, .int 0, .int 1, .ref b6, .ref b7, .ref b8, .int 0, .ref b9, .ref b10, .ref b11, .ref b12, .ref b13, .ref b14, .ref b15, .ref b16, .ref b17, .ref b18, .ref b19, .ref b20, .int 0, .ref b21, .ref b22, .int 0, .int 0, .int 0, .int 0, .ref b23, .ref b24, .ref b25, .ref b26, .ref b27, .ref b28, .ref b29, .int 0, .ref b30, .ref b31, .int 0, .ref b32, .ref b33, .ref b34, .ref b35, .ref b36, .int 0, .ref b37, .ref b38, .ref b39])), (b1, .inl (G.2 0, 503, .inl (upd (fun _ => 0) 501 1))), (b4, .inl (G.2 0, 4024, .inl g_3))] H → va_D A [(b0, .inr (12, [.int 0, .ref b1, .ref b2, .ref b3, .ref b4, .int 0, .ref b5, .int 0, .int 0, .int 0, .int 1, .ref b6, .ref b7, .ref b8, .int 0, .ref b9, .ref b10, .ref b11, .ref b12, .ref b13, .ref b14, .ref b15, .ref b16, .ref b17, .ref b18, .ref b19, .ref b20, .int 0, .ref b21, .ref b22, .int 0, .int 0, .int 0, .int 0, .ref b23, .ref b24, .ref b25, .ref b26, .ref b27, .ref b28, .ref b29, .int 0, .ref b30, .ref b31, .int 0, .ref b32, .ref b33, .ref b34, .ref b35, .ref b36, .int 0, .ref b37, .ref b38, .ref b39])), (b1, .inl (G.2 0, 503, .inl (upd (fun _ => 0) 501 1))), (b4, .inl (G.2 0, 4024, .inl g_3))] → va_S A s.heap H locs → lv_has ls 2 [(1, .int (nI i_1)), (0, .ref b0)] → W p l e m_c1_Model_remember s m ([.ref b0] : List Value).toArray below meth c H locs 0 0 (MQ below (zQ G (fun v w => (∃ (e0 : Nat → Int32), v = none ∧ w = [(b0, .inr (12, [.int 0, .ref b1, .ref b2, .ref b3, .ref b4, .int 1, .ref b5, .int 0, .int 0, .int 0, .int 1, .ref b6, .ref b7, .ref b8, .int 0, .ref b9, .ref b10, .ref b11, .ref b12, .ref b13, .ref b14, .ref b15, .ref b16, .ref b17, .ref b18, .ref b19, .ref b20, .int 0, .ref b21, .ref b22, .int 0, .int 0, .int 0, .int 0, .ref b23, .ref b24, .ref b25, .ref b26, .ref b27, .ref b28, .ref b29, .int 0, .ref b30, .ref b31, .int 0, .ref b32, .ref b33, .ref b34, .ref b35, .ref b36, .int 0, .ref b37, .ref b38, .ref b39])), (b1, .inl (G.2 0, 503, .inl (upd (fun _ => 0) 501 1))), (b4, .inl (G.2 0, 4024, .inl e0))])) A) ([.ref b0] : List Value).toArray s m_c1_Model_remember.cells m_c1_Model_remember.slots A) (F0 m 57 ls []) by
    exact key (503) 0 ((fun _ => 0)) _ _ _ (by omega) hP hD hS (lv_sub hl [0, 1] rfl)
  intro k_2
  induction k_2 with
  | zero =>
    intro i_1 g_3 H locs ls hik hP hD hS hl
    obtain rfl : i_1 = 503 := by omega
    have hl : lv_has ls 2 [(1, .int (nI 503)), (0, .ref b0)] := hl
    refine lv_iload_n hx hb d_Model_remember_57 rfl (lv_at hl 0 rfl) ?_
    refine lv_sipush (v := 503) hx hb d_Model_remember_58 (by decide) ?_
    refine lv_icmp_ge (tgt := 91) hx hb d_Model_remember_61 (by decide) (fun _ => ?_) (fun hc => absurd hc (by decide +kernel))
    refine lv_aload_n hx hb d_Model_remember_91 rfl (lv_at hl 1 rfl) ?_
    refine lv_dup hx hb d_Model_remember_92 rfl ?_
    refine va_get (D := G.1) (ci := 12) (v := .int 0) (C := R_Model) (T := F_Model) (N := 54) hx hb hts i_Model hown hK hP 0 rfl rfl 5 (by decide) (hts _ q1118) (fun _ h9 => h9) rfl d_Model_remember_93 ?_
    refine lv_iconst (v := 1) hx hb d_Model_remember_96 (by decide) ?_
    refine lv_iadd hx hb d_Model_remember_97 ?_
    refine z_topi (y := 1) (by decide +kernel) ?_
    refine va_put (D := G.1) (ci := 12) (v := .int 1) (ty := .int) (C := R_Model) (T := F_Model) (N := 54) hx hb hts i_Model t_Model t_Model_ok n_Model hown hK hP hD hS 0 rfl rfl 5 (by decide) (hts _ q1118) (fun _ h9 => h9) rfl (by decide +kernel) rfl rfl (Nat.le_of_ble_eq_true rfl) d_Model_remember_98 (fun H locs hP hD hS => ?_)
    have hP : va_P G.1 classes [(b0, .inr (12, [.int 0, .ref b1, .ref b2, .ref b3, .ref b4, .int 1, .ref b5, .int 0, .int 0, .int 0, .int 1, .ref b6, .ref b7, .ref b8, .int 0, .ref b9, .ref b10, .ref b11, .ref b12, .ref b13, .ref b14, .ref b15, .ref b16, .ref b17, .ref b18, .ref b19, .ref b20, .int 0, .ref b21, .ref b22, .int 0, .int 0, .int 0, .int 0, .ref b23, .ref b24, .ref b25, .ref b26, .ref b27, .ref b28, .ref b29, .int 0, .ref b30, .ref b31, .int 0, .ref b32, .ref b33, .ref b34, .ref b35, .ref b36, .int 0, .ref b37, .ref b38, .ref b39])), (b1, .inl (G.2 0, 503, .inl (upd (fun _ => 0) 501 1))), (b4, .inl (G.2 0, 4024, .inl g_3))] H := hP
    have hD := z_tie hP hD rfl
    exact z_vret hx hb hr hlocks hP hD hS (Nat.le_of_ble_eq_true rfl) (Nat.le_of_ble_eq_true rfl) d_Model_remember_101 ⟨g_3, rfl, rfl⟩
  | succ k_2 ih =>
    intro i_1 g_3 H locs ls hik hP hD hS hl
    have hilt : i_1 < 503 := by omega
    refine lv_iload_n hx hb d_Model_remember_57 rfl (lv_at hl 0 rfl) ?_
    refine lv_sipush (v := 503) hx hb d_Model_remember_58 (by decide) ?_
    refine lv_icmp_ge (tgt := 91) hx hb d_Model_remember_61 (by decide) (fun hc => absurd hc (nI_ge hilt (by decide))) (fun _ => ?_)
    refine lv_aload_n hx hb d_Model_remember_64 rfl (lv_at hl 1 rfl) ?_
    refine va_get (D := G.1) (ci := 12) (v := .ref b4) (C := R_Model) (T := F_Model) (N := 54) hx hb hts i_Model hown hK hP 0 rfl rfl 4 (by decide) (hts _ q1117) (fun _ h9 => h9) rfl d_Model_remember_65 ?_
    refine lv_sipush (v := 503) hx hb d_Model_remember_68 (by decide) ?_
    refine lv_aload_n hx hb d_Model_remember_71 rfl (lv_at hl 1 rfl) ?_
    refine va_get (D := G.1) (ci := 12) (v := .int 0) (C := R_Model) (T := F_Model) (N := 54) hx hb hts i_Model hown hK hP 0 rfl rfl 5 (by decide) (hts _ q1118) (fun _ h9 => h9) rfl d_Model_remember_72 ?_
    refine lv_imul hx hb d_Model_remember_75 ?_
    refine z_topi (y := 0) (by decide +kernel) ?_
    refine lv_iload_n hx hb d_Model_remember_76 rfl (lv_at hl 0 rfl) ?_
    refine lv_iadd hx hb d_Model_remember_77 ?_
    refine lv_topi (fun v_4 ev_4 => ?_)
    obtain rfl : v_4 = (nI (0 + i_1)) := (by rw [ev_4]; exact nI_add (0) (i_1))
    refine lv_aload_n hx hb d_Model_remember_78 rfl (lv_at hl 1 rfl) ?_
    refine va_get (D := G.1) (ci := 12) (v := .ref b1) (C := R_Model) (T := F_Model) (N := 54) hx hb hts i_Model hown hK hP 0 rfl rfl 1 (by decide) (hts _ q1114) (fun _ h9 => h9) rfl d_Model_remember_79 ?_
    refine lv_iload_n hx hb d_Model_remember_82 rfl (lv_at hl 0 rfl) ?_
    refine va_iald hx hb hK hP 1 0 rfl rfl (z_inN (by omega) (by decide)) d_Model_remember_83 ?_
    refine z_topi (y := ((upd (fun _ => 0) 501 1) (i_1))) (by rw [nI_clamp (by omega)]) ?_
    refine va_iast hx hb hK hP hD hS 2 0 rfl rfl (z_inN (by omega) (by decide)) d_Model_remember_84 (fun H locs hP hD hS => ?_)
    rw [nI_clamp (by omega)] at hP hD
    have hP : va_P G.1 classes [(b0, .inr (12, [.int 0, .ref b1, .ref b2, .ref b3, .ref b4, .int 0, .ref b5, .int 0, .int 0, .int 0, .int 1, .ref b6, .ref b7, .ref b8, .int 0, .ref b9, .ref b10, .ref b11, .ref b12, .ref b13, .ref b14, .ref b15, .ref b16, .ref b17, .ref b18, .ref b19, .ref b20, .int 0, .ref b21, .ref b22, .int 0, .int 0, .int 0, .int 0, .ref b23, .ref b24, .ref b25, .ref b26, .ref b27, .ref b28, .ref b29, .int 0, .ref b30, .ref b31, .int 0, .ref b32, .ref b33, .ref b34, .ref b35, .ref b36, .int 0, .ref b37, .ref b38, .ref b39])), (b1, .inl (G.2 0, 503, .inl (upd (fun _ => 0) 501 1))), (b4, .inl (G.2 0, 4024, .inl (upd g_3 ((0 + i_1)) ((upd (fun _ => 0) 501 1) (i_1)))))] H := hP
    have hD := z_tie hP hD rfl
    refine lv_iinc (v := (nI (i_1 + 1))) (lv' := [(1, .int (nI (i_1 + 1))), (0, .ref b0)]) hx hb d_Model_remember_85 hl (k := 0) rfl (nI_1 i_1) (by decide) rfl (fun ls hl => ?_)
    refine lv_goto (tgt := 57) hx hb d_Model_remember_88 (by decide) ?_
    exact ih (i_1 + 1) ((upd g_3 ((0 + i_1)) ((upd (fun _ => 0) 501 1) (i_1)))) _ _ _ (by omega)  hP hD hS (lv_sub hl [0, 1] rfl)
theorem d_Model_traces_103 : decode prog_14_method_18_code 103 = .ok (.iconst 0, 1) := by decide +kernel
theorem d_Model_traces_104 : decode prog_14_method_18_code 104 = .ok (.istore_n 1, 1) := by decide +kernel
theorem d_Model_traces_105 : decode prog_14_method_18_code 105 = .ok (.iload_n 1, 1) := by decide +kernel
theorem d_Model_traces_106 : decode prog_14_method_18_code 106 = .ok (.sipush 503, 3) := by decide +kernel
theorem d_Model_traces_109 : decode prog_14_method_18_code 109 = .ok (.if_icmp .ge 21, 3) := by decide +kernel
theorem d_Model_traces_130 : decode prog_14_method_18_code 130 = .ok (.aload_n 0, 1) := by decide +kernel
theorem d_Model_traces_131 : decode prog_14_method_18_code 131 = .ok (.invokevirtual 134, 3) := by decide +kernel
theorem d_Model_many_0 : decode prog_14_method_4_code 0 = .ok (.aload_n 0, 1) := by decide +kernel
theorem d_Model_many_1 : decode prog_14_method_4_code 1 = .ok (.getfield 13, 3) := by decide +kernel
theorem d_Model_many_4 : decode prog_14_method_4_code 4 = .ok (.iconst 0, 1) := by decide +kernel
theorem d_Model_many_5 : decode prog_14_method_4_code 5 = .ok (.iaload, 1) := by decide +kernel
theorem d_Model_many_6 : decode prog_14_method_4_code 6 = .ok (.ireturn, 1) := by decide +kernel
abbrev m_c1_Model_many : Room := { frames := 0, cells := 0, slots := 0, locals := 0 }
set_option maxHeartbeats 4000000 in
set_option maxRecDepth 100000 in
theorem c1_Model_many (l : Launch) (G : zG) (b0 : Nat) (b1 : Nat) (b2 : Nat) (b3 : Nat) (b4 : Nat) (b5 : Nat) (b6 : Nat) (b7 : Nat) (b8 : Nat) (b9 : Nat) (b10 : Nat) (b11 : Nat) (b12 : Nat) (b13 : Nat) (b14 : Nat) (b15 : Nat) (b16 : Nat) (b17 : Nat) (b18 : Nat) (b19 : Nat) (b20 : Nat) (b21 : Nat) (b22 : Nat) (b23 : Nat) (b24 : Nat) (b25 : Nat) (b26 : Nat) (b27 : Nat) (b28 : Nat) (b29 : Nat) (b30 : Nat) (b31 : Nat) (b32 : Nat) (b33 : Nat) (b34 : Nat) (b35 : Nat) (b36 : Nat) (b37 : Nat) (b38 : Nat) (b39 : Nat)  : zM l G y_Model_many prog_14_method_4_code 1 (Option.some Jvm.ClassFile.FieldType.int) m_c1_Model_many [.ref b0] [(b0, .inr (12, [.int 0, .ref b1, .ref b2, .ref b3, .ref b4, .int 1, .ref b5, .int 0, .int 0, .int 0, .int 1, .ref b6, .ref b7, .ref b8, .int 0, .ref b9, .ref b10, .ref b11, .ref b12, .ref b13, .ref b14, .ref b15, .ref b16, .ref b17, .ref b18, .ref b19, .ref b20, .int 0, .ref b21, .ref b22, .int 0, .int 0, .int 0, .int 0, .ref b23, .ref b24, .ref b25, .ref b26, .ref b27, .ref b28, .ref b29, .int 0, .ref b30, .ref b31, .int 0, .ref b32, .ref b33, .ref b34, .ref b35, .ref b36, .int 0, .ref b37, .ref b38, .ref b39])), (b1, .inl (G.2 0, 503, .inl (upd (upd (upd (upd (upd (upd (upd (upd (upd (upd (upd (upd (upd (upd (upd (upd (upd (upd (upd (upd (upd (upd (upd (upd (upd (upd (upd (fun _ => 0) 501 1) 1 0) 21 0) 261 0) 22 0) 262 0) 23 0) 263 0) 24 0) 264 0) 25 0) 265 0) 26 0) 266 0) 27 0) 267 0) 28 0) 268 0) 29 0) 269 0) 30 0) 270 0) 31 0) 271 0) 32 0) 272 0) 0 1)))] (fun v w => (v = some (.int 1) ∧ w = [(b0, .inr (12, [.int 0, .ref b1, .ref b2, .ref b3, .ref b4, .int 1, .ref b5, .int 0, .int 0, .int 0, .int 1, .ref b6, .ref b7, .ref b8, .int 0, .ref b9, .ref b10, .ref b11, .ref b12, .ref b13, .ref b14, .ref b15, .ref b16, .ref b17, .ref b18, .ref b19, .ref b20, .int 0, .ref b21, .ref b22, .int 0, .int 0, .int 0, .int 0, .ref b23, .ref b24, .ref b25, .ref b26, .ref b27, .ref b28, .ref b29, .int 0, .ref b30, .ref b31, .int 0, .ref b32, .ref b33, .ref b34, .ref b35, .ref b36, .int 0, .ref b37, .ref b38, .ref b39])), (b1, .inl (G.2 0, 503, .inl (upd (upd (upd (upd (upd (upd (upd (upd (upd (upd (upd (upd (upd (upd (upd (upd (upd (upd (upd (upd (upd (upd (upd (upd (upd (upd (upd (fun _ => 0) 501 1) 1 0) 21 0) 261 0) 22 0) 262 0) 23 0) 263 0) 24 0) 264 0) 25 0) 265 0) 26 0) 266 0) 27 0) 267 0) 28 0) 268 0) 29 0) 269 0) 30 0) 270 0) 31 0) 271 0) 32 0) 272 0) 0 1)))])) := by
  refine z_start (by decide +kernel) (Nat.le_of_ble_eq_true rfl) ?_
  intro p e s m below meth c A Z hr hnm hA hP hD hS ls hl
  have Z : zC p s m _ meth c prog_14_method_4_code 1 "TraceMachinesModel" G := Z
  obtain ⟨hx, hb, hml, hown, hts, hK, hN, hlocks⟩ := id Z
  have hl : lv_has ls 1 [(0, .ref b0)] := hl
  refine lv_aload_n hx hb d_Model_many_0 rfl (lv_at hl 0 rfl) ?_
  refine va_get (D := G.1) (ci := 12) (v := .ref b1) (C := R_Model) (T := F_Model) (N := 54) hx hb hts i_Model hown hK hP 0 rfl rfl 1 (by decide) (hts _ q1114) (fun _ h9 => h9) rfl d_Model_many_1 ?_
  refine lv_iconst (v := 0) hx hb d_Model_many_4 (by decide) ?_
  refine va_iald hx hb hK hP 1 0 rfl rfl (i := 0) (z_in rfl) d_Model_many_5 ?_
  refine z_topi (y := 1) rfl ?_
  exact z_iret hx hb hr hlocks hP hD hS (Nat.le_of_ble_eq_true rfl) (Nat.le_of_ble_eq_true rfl) d_Model_many_6 ⟨rfl, rfl⟩
theorem d_Model_traces_14 : decode prog_14_method_18_code 14 = .ok (.aload_n 0, 1) := by decide +kernel
theorem d_Model_traces_15 : decode prog_14_method_18_code 15 = .ok (.getfield 31, 3) := by decide +kernel
theorem d_Model_traces_18 : decode prog_14_method_18_code 18 = .ok (.iload_n 1, 1) := by decide +kernel
theorem d_Model_traces_19 : decode prog_14_method_18_code 19 = .ok (.aload_n 0, 1) := by decide +kernel
theorem d_Model_traces_20 : decode prog_14_method_18_code 20 = .ok (.getfield 13, 3) := by decide +kernel
theorem d_Model_traces_23 : decode prog_14_method_18_code 23 = .ok (.iload_n 1, 1) := by decide +kernel
theorem d_Model_traces_24 : decode prog_14_method_18_code 24 = .ok (.iaload, 1) := by decide +kernel
theorem d_Model_traces_25 : decode prog_14_method_18_code 25 = .ok (.iastore, 1) := by decide +kernel
theorem d_Model_traces_26 : decode prog_14_method_18_code 26 = .ok (.iinc 1 1, 3) := by decide +kernel
theorem d_Model_traces_29 : decode prog_14_method_18_code 29 = .ok (.goto (-22), 3) := by decide +kernel
theorem d_Model_traces_112 : decode prog_14_method_18_code 112 = .ok (.aload_n 0, 1) := by decide +kernel
theorem d_Model_traces_113 : decode prog_14_method_18_code 113 = .ok (.getfield 13, 3) := by decide +kernel
theorem d_Model_traces_116 : decode prog_14_method_18_code 116 = .ok (.iload_n 1, 1) := by decide +kernel
theorem d_Model_traces_117 : decode prog_14_method_18_code 117 = .ok (.aload_n 0, 1) := by decide +kernel
theorem d_Model_traces_118 : decode prog_14_method_18_code 118 = .ok (.getfield 31, 3) := by decide +kernel
theorem d_Model_traces_121 : decode prog_14_method_18_code 121 = .ok (.iload_n 1, 1) := by decide +kernel
theorem d_Model_traces_122 : decode prog_14_method_18_code 122 = .ok (.iaload, 1) := by decide +kernel
theorem d_Model_traces_123 : decode prog_14_method_18_code 123 = .ok (.iastore, 1) := by decide +kernel
theorem d_Model_traces_124 : decode prog_14_method_18_code 124 = .ok (.iinc 1 1, 3) := by decide +kernel
theorem d_Model_traces_127 : decode prog_14_method_18_code 127 = .ok (.goto (-22), 3) := by decide +kernel
theorem d_Model_traces_134 : decode prog_14_method_18_code 134 = .ok (.ireturn, 1) := by decide +kernel
abbrev m_t_Model_traces : Room := { frames := 3, cells := 0, slots := 0, locals := 69 }
set_option maxHeartbeats 4000000 in
set_option maxRecDepth 100000 in
theorem t_Model_traces (l : Launch) (G : zG) (b0 : Nat) (b1 : Nat) (b2 : Nat) (b3 : Nat) (b4 : Nat) (b5 : Nat) (b6 : Nat) (b7 : Nat) (b8 : Nat) (b9 : Nat) (b10 : Nat) (b11 : Nat) (b12 : Nat) (b13 : Nat) (b14 : Nat) (b15 : Nat) (b16 : Nat) (b17 : Nat) (b18 : Nat) (b19 : Nat) (b20 : Nat) (b21 : Nat) (b22 : Nat) (b23 : Nat) (b24 : Nat) (b25 : Nat) (b26 : Nat) (b27 : Nat) (b28 : Nat) (b29 : Nat) (b30 : Nat) (b31 : Nat) (b32 : Nat) (b33 : Nat) (b34 : Nat) (b35 : Nat) (b36 : Nat) (b37 : Nat) (b38 : Nat) (b39 : Nat)  : zM l G y_Model_traces prog_14_method_18_code 2 (Option.some Jvm.ClassFile.FieldType.int) m_t_Model_traces [.ref b0] [(b0, .inr (12, [.int 0, .ref b1, .ref b2, .ref b3, .ref b4, .int 0, .ref b5, .int 0, .int 0, .int 0, .int 0, .ref b6, .ref b7, .ref b8, .int 0, .ref b9, .ref b10, .ref b11, .ref b12, .ref b13, .ref b14, .ref b15, .ref b16, .ref b17, .ref b18, .ref b19, .ref b20, .int 0, .ref b21, .ref b22, .int 0, .int 0, .int 0, .int 0, .ref b23, .ref b24, .ref b25, .ref b26, .ref b27, .ref b28, .ref b29, .int 0, .ref b30, .ref b31, .int 0, .ref b32, .ref b33, .ref b34, .ref b35, .ref b36, .int 0, .ref b37, .ref b38, .ref b39])), (b6, .inl (G.2 0, 503, .inl (fun _ => 0))), (b1, .inl (G.2 0, 503, .inl (upd (fun _ => 0) 501 1))), (b4, .inl (G.2 0, 4024, .inl (fun _ => 0)))] (fun v _ => v = some (.int (a_traces))) := by
  refine z_start (by decide +kernel) (Nat.le_of_ble_eq_true rfl) ?_
  intro p e s m below meth c A Z hr hnm hA hP hD hS ls hl
  have Z : zC p s m _ meth c prog_14_method_18_code 2 "TraceMachinesModel" G := Z
  obtain ⟨hx, hb, hml, hown, hts, hK, hN, hlocks⟩ := id Z
  have hl : lv_has ls 2 [(0, .ref b0)] := hl
  refine lv_aload_n hx hb d_Model_traces_0 rfl (lv_at hl 0 rfl) ?_
  refine lv_iconst (v := 0) hx hb d_Model_traces_1 (by decide) ?_
  refine va_put (D := G.1) (ci := 12) (v := .int 0) (ty := .int) (C := R_Model) (T := F_Model) (N := 54) hx hb hts i_Model t_Model t_Model_ok n_Model hown hK hP hD hS 0 rfl rfl 0 (by decide) (hts _ q1113) (fun _ h9 => h9) rfl (by decide +kernel) rfl rfl (Nat.le_of_ble_eq_true rfl) d_Model_traces_2 (fun H locs hP hD hS => ?_)
  have hP : va_P G.1 classes [(b0, .inr (12, [.int 0, .ref b1, .ref b2, .ref b3, .ref b4, .int 0, .ref b5, .int 0, .int 0, .int 0, .int 0, .ref b6, .ref b7, .ref b8, .int 0, .ref b9, .ref b10, .ref b11, .ref b12, .ref b13, .ref b14, .ref b15, .ref b16, .ref b17, .ref b18, .ref b19, .ref b20, .int 0, .ref b21, .ref b22, .int 0, .int 0, .int 0, .int 0, .ref b23, .ref b24, .ref b25, .ref b26, .ref b27, .ref b28, .ref b29, .int 0, .ref b30, .ref b31, .int 0, .ref b32, .ref b33, .ref b34, .ref b35, .ref b36, .int 0, .ref b37, .ref b38, .ref b39])), (b6, .inl (G.2 0, 503, .inl (fun _ => 0))), (b1, .inl (G.2 0, 503, .inl (upd (fun _ => 0) 501 1))), (b4, .inl (G.2 0, 4024, .inl (fun _ => 0)))] H := hP
  have hD := z_tie hP hD rfl
  refine lv_iconst (v := 0) hx hb d_Model_traces_5 (by decide) ?_
  refine lv_istore_n (lv' := [(1, .int 0), (0, .ref b0)]) hx hb d_Model_traces_6 rfl hl (by decide) rfl (fun ls hl => ?_)
  suffices key : ∀ (k_2 i_1 : Nat) (g_3 : Nat → Int32) (H : Heap) (locs : List Loc) (ls : Array Slot), i_1 + k_2 = 503 → (∀ j, j < i_1 → g_3 j = (upd (fun _ => 0) 501 1) j) → va_P G.1 classes [(b0, .inr (12, [.int 0, .ref b1, .ref b2, .ref b3, .ref b4, .int 0, .ref b5, .int 0, .int 0, .int 0, .int 0, .ref b6, .ref b7, .ref b8, .int 0, .ref b9, .ref b10, .ref b11, .ref b12, .ref b13, .ref b14, .ref b15, .ref b16, .ref b17, .ref b18, .ref b19, .ref b20, .int 0, .ref b21, .ref b22, .int 0, .int 0, .int 0, .int 0, .ref b23, .ref b24, .ref b25, .ref b26, .ref b27, .ref b28, .ref b29, .int 0, .ref b30, .ref b31, .int 0, .ref b32, .ref b33, .ref b34, .ref b35, .ref b36, .int 0, .ref b37, .ref b38, .ref b39])), (b6, .inl (G.2 0, 503, .inl g_3)), (b1, .inl (G.2 0, 503, .inl (upd (fun _ => 0) 501 1))), (b4, .inl (G.2 0, 4024, .inl (fun _ => 0)))] H → va_D A [(b0, .inr (12, [.int 0, .ref b1, .ref b2, .ref b3, .ref b4, .int 0, .ref b5, .int 0, .int 0, .int 0, .int 0, .ref b6, .ref b7, .ref b8, .int 0, .ref b9, .ref b10, .ref b11, .ref b12, .ref b13, .ref b14, .ref b15, .ref b16, .ref b17, .ref b18, .ref b19, .ref b20, .int 0, .ref b21, .ref b22, .int 0, .int 0, .int 0, .int 0, .ref b23, .ref b24, .ref b25, .ref b26, .ref b27, .ref b28, .ref b29, .int 0, .ref b30, .ref b31, .int 0, .ref b32, .ref b33, .ref b34, .ref b35, .ref b36, .int 0, .ref b37, .ref b38, .ref b39])), (b6, .inl (G.2 0, 503, .inl g_3)), (b1, .inl (G.2 0, 503, .inl (upd (fun _ => 0) 501 1))), (b4, .inl (G.2 0, 4024, .inl (fun _ => 0)))] → va_S A s.heap H locs → lv_has ls 2 [(1, .int (nI i_1)), (0, .ref b0)] → W p l e m_t_Model_traces s m ([.ref b0] : List Value).toArray below meth c H locs 0 0 (MQ below (zQ G (fun v _ => v = some (.int (a_traces))) A) ([.ref b0] : List Value).toArray s m_t_Model_traces.cells m_t_Model_traces.slots A) (F0 m 7 ls []) by
    exact key (503) 0 ((fun _ => 0)) _ _ _ (by omega) (fun j h => absurd h (Nat.not_lt_zero j)) hP hD hS (lv_sub hl [0, 1] rfl)
  intro k_2
  induction k_2 with
  | zero =>
    intro i_1 g_3 H locs ls hik hg_4 hP hD hS hl
    obtain rfl : i_1 = 503 := by omega
    have hl : lv_has ls 2 [(1, .int (nI 503)), (0, .ref b0)] := hl
    obtain ⟨hP, hD⟩ := z_exti (g := (upd (fun _ => 0) 501 1)) 1 hP hD rfl hg_4
    have hP : va_P G.1 classes [(b0, .inr (12, [.int 0, .ref b1, .ref b2, .ref b3, .ref b4, .int 0, .ref b5, .int 0, .int 0, .int 0, .int 0, .ref b6, .ref b7, .ref b8, .int 0, .ref b9, .ref b10, .ref b11, .ref b12, .ref b13, .ref b14, .ref b15, .ref b16, .ref b17, .ref b18, .ref b19, .ref b20, .int 0, .ref b21, .ref b22, .int 0, .int 0, .int 0, .int 0, .ref b23, .ref b24, .ref b25, .ref b26, .ref b27, .ref b28, .ref b29, .int 0, .ref b30, .ref b31, .int 0, .ref b32, .ref b33, .ref b34, .ref b35, .ref b36, .int 0, .ref b37, .ref b38, .ref b39])), (b6, .inl (G.2 0, 503, .inl (upd (fun _ => 0) 501 1))), (b1, .inl (G.2 0, 503, .inl (upd (fun _ => 0) 501 1))), (b4, .inl (G.2 0, 4024, .inl (fun _ => 0)))] H := hP
    have hD := z_tie hP hD rfl
    refine lv_iload_n hx hb d_Model_traces_7 rfl (lv_at hl 0 rfl) ?_
    refine lv_sipush (v := 503) hx hb d_Model_traces_8 (by decide) ?_
    refine lv_icmp_ge (tgt := 32) hx hb d_Model_traces_11 (by decide) (fun _ => ?_) (fun hc => absurd hc (by decide +kernel))
    refine lv_aload_n hx hb d_Model_traces_32 rfl (lv_at hl 1 rfl) ?_
    refine lv_iconst (v := 0) hx hb d_Model_traces_33 (by decide) ?_
    refine va_put (D := G.1) (ci := 12) (v := .int 0) (ty := .int) (C := R_Model) (T := F_Model) (N := 54) hx hb hts i_Model t_Model t_Model_ok n_Model hown hK hP hD hS 0 rfl rfl 8 (by decide) (hts _ q1121) (fun _ h9 => h9) rfl (by decide +kernel) rfl rfl (Nat.le_of_ble_eq_true rfl) d_Model_traces_34 (fun H locs hP hD hS => ?_)
    have hP : va_P G.1 classes [(b0, .inr (12, [.int 0, .ref b1, .ref b2, .ref b3, .ref b4, .int 0, .ref b5, .int 0, .int 0, .int 0, .int 0, .ref b6, .ref b7, .ref b8, .int 0, .ref b9, .ref b10, .ref b11, .ref b12, .ref b13, .ref b14, .ref b15, .ref b16, .ref b17, .ref b18, .ref b19, .ref b20, .int 0, .ref b21, .ref b22, .int 0, .int 0, .int 0, .int 0, .ref b23, .ref b24, .ref b25, .ref b26, .ref b27, .ref b28, .ref b29, .int 0, .ref b30, .ref b31, .int 0, .ref b32, .ref b33, .ref b34, .ref b35, .ref b36, .int 0, .ref b37, .ref b38, .ref b39])), (b6, .inl (G.2 0, 503, .inl (upd (fun _ => 0) 501 1))), (b1, .inl (G.2 0, 503, .inl (upd (fun _ => 0) 501 1))), (b4, .inl (G.2 0, 4024, .inl (fun _ => 0)))] H := hP
    have hD := z_tie hP hD rfl
    refine lv_aload_n hx hb d_Model_traces_37 rfl (lv_at hl 1 rfl) ?_
    refine lv_iconst (v := 1) hx hb d_Model_traces_38 (by decide) ?_
    refine va_put (D := G.1) (ci := 12) (v := .int 1) (ty := .boolean) (C := R_Model) (T := F_Model) (N := 54) hx hb hts i_Model t_Model t_Model_ok n_Model hown hK hP hD hS 0 rfl rfl 10 (by decide) (hts _ q1123) (fun _ h9 => h9) rfl (by decide +kernel) rfl rfl (Nat.le_of_ble_eq_true rfl) d_Model_traces_39 (fun H locs hP hD hS => ?_)
    have hP : va_P G.1 classes [(b0, .inr (12, [.int 0, .ref b1, .ref b2, .ref b3, .ref b4, .int 0, .ref b5, .int 0, .int 0, .int 0, .int 1, .ref b6, .ref b7, .ref b8, .int 0, .ref b9, .ref b10, .ref b11, .ref b12, .ref b13, .ref b14, .ref b15, .ref b16, .ref b17, .ref b18, .ref b19, .ref b20, .int 0, .ref b21, .ref b22, .int 0, .int 0, .int 0, .int 0, .ref b23, .ref b24, .ref b25, .ref b26, .ref b27, .ref b28, .ref b29, .int 0, .ref b30, .ref b31, .int 0, .ref b32, .ref b33, .ref b34, .ref b35, .ref b36, .int 0, .ref b37, .ref b38, .ref b39])), (b6, .inl (G.2 0, 503, .inl (upd (fun _ => 0) 501 1))), (b1, .inl (G.2 0, 503, .inl (upd (fun _ => 0) 501 1))), (b4, .inl (G.2 0, 4024, .inl (fun _ => 0)))] H := hP
    have hD := z_tie hP hD rfl
    refine lv_aload_n hx hb d_Model_traces_42 rfl (lv_at hl 1 rfl) ?_
    refine z_callV (index := 182) (As := []) (rest := []) (wr := [(b1, .inl (G.2 0, 503, .inl (upd (fun _ => 0) 501 1))), (b4, .inl (G.2 0, 4024, .inl (fun _ => 0)))]) Z (c1_Model_readTrace l G (b0) (b1) (b2) (b3) (b4) (b5) (b6) (b7) (b8) (b9) (b10) (b11) (b12) (b13) (b14) (b15) (b16) (b17) (b18) (b19) (b20) (b21) (b22) (b23) (b24) (b25) (b26) (b27) (b28) (b29) (b30) (b31) (b32) (b33) (b34) (b35) (b36) (b37) (b38) (b39)) hl.1 q1292 q1294 qs44 q14 q1295 ⟨by decide, by decide, by show _ = some 0; decide +kernel⟩ ⟨Nat.le_of_ble_eq_true rfl, Nat.le_of_ble_eq_true rfl⟩ ⟨Nat.le_of_ble_eq_true rfl, Nat.le_of_ble_eq_true rfl⟩ rfl (Nat.le_of_ble_eq_true rfl) d_Model_traces_43 hP hD hS hA 0 12 rfl rfl rfl [0, 1] [2, 3] rfl rfl rfl rfl (by decide) (fun v w1 H locs hw_5 hP hD hS => ?_)
    obtain ⟨rfl, rfl⟩ := hw_5
    have hP : va_P G.1 classes [(b1, .inl (G.2 0, 503, .inl (upd (fun _ => 0) 501 1))), (b4, .inl (G.2 0, 4024, .inl (fun _ => 0))), (b6, .inl (G.2 0, 503, .inl (upd (upd (upd (upd (upd (upd (upd (upd (upd (upd (upd (upd (upd (upd (upd (upd (upd (upd (upd (upd (upd (upd (upd (upd (upd (upd (upd (fun _ => 0) 501 1) 1 0) 21 0) 261 0) 22 0) 262 0) 23 0) 263 0) 24 0) 264 0) 25 0) 265 0) 26 0) 266 0) 27 0) 267 0) 28 0) 268 0) 29 0) 269 0) 30 0) 270 0) 31 0) 271 0) 32 0) 272 0) 0 1))), (b0, .inr (12, [.int 0, .ref b1, .ref b2, .ref b3, .ref b4, .int 0, .ref b5, .int 0, .int 0, .int 0, .int 1, .ref b6, .ref b7, .ref b8, .int 0, .ref b9, .ref b10, .ref b11, .ref b12, .ref b13, .ref b14, .ref b15, .ref b16, .ref b17, .ref b18, .ref b19, .ref b20, .int 0, .ref b21, .ref b22, .int 0, .int 0, .int 0, .int 0, .ref b23, .ref b24, .ref b25, .ref b26, .ref b27, .ref b28, .ref b29, .int 0, .ref b30, .ref b31, .int 0, .ref b32, .ref b33, .ref b34, .ref b35, .ref b36, .int 0, .ref b37, .ref b38, .ref b39]))] H := hP
    have hD := z_tie hP hD rfl
    refine W.widen (k := 0) (n := 0) (Nat.le_of_ble_eq_true rfl) (Nat.le_of_ble_eq_true rfl) ?_
    refine lv_aload_n hx hb d_Model_traces_46 rfl (lv_at hl 1 rfl) ?_
    refine va_get (D := G.1) (ci := 12) (v := .int 1) (C := R_Model) (T := F_Model) (N := 54) hx hb hts i_Model hown hK hP 3 rfl rfl 10 (by decide) (hts _ q1123) (fun _ h9 => h9) rfl d_Model_traces_47 ?_
    refine lv_if_eq (tgt := 79) hx hb d_Model_traces_50 (by decide) (fun hc => absurd hc (by decide +kernel)) (fun _ => ?_)
    refine lv_aload_n hx hb d_Model_traces_53 rfl (lv_at hl 1 rfl) ?_
    refine z_callV (index := 162) (As := []) (rest := []) (wr := [(b1, .inl (G.2 0, 503, .inl (upd (fun _ => 0) 501 1))), (b4, .inl (G.2 0, 4024, .inl (fun _ => 0))), (b6, .inl (G.2 0, 503, .inl (upd (upd (upd (upd (upd (upd (upd (upd (upd (upd (upd (upd (upd (upd (upd (upd (upd (upd (upd (upd (upd (upd (upd (upd (upd (upd (upd (fun _ => 0) 501 1) 1 0) 21 0) 261 0) 22 0) 262 0) 23 0) 263 0) 24 0) 264 0) 25 0) 265 0) 26 0) 266 0) 27 0) 267 0) 28 0) 268 0) 29 0) 269 0) 30 0) 270 0) 31 0) 271 0) 32 0) 272 0) 0 1)))]) Z (c1_Model_next l G (b0) (b1) (b2) (b3) (b4) (b5) (b6) (b7) (b8) (b9) (b10) (b11) (b12) (b13) (b14) (b15) (b16) (b17) (b18) (b19) (b20) (b21) (b22) (b23) (b24) (b25) (b26) (b27) (b28) (b29) (b30) (b31) (b32) (b33) (b34) (b35) (b36) (b37) (b38) (b39)) hl.1 q1296 q1298 qs45 q14 q1299 ⟨by decide, by decide, by show _ = some 0; decide +kernel⟩ ⟨Nat.le_of_ble_eq_true rfl, Nat.le_of_ble_eq_true rfl⟩ ⟨Nat.le_of_ble_eq_true rfl, Nat.le_of_ble_eq_true rfl⟩ rfl (Nat.le_of_ble_eq_true rfl) d_Model_traces_54 hP hD hS hA 3 12 rfl rfl rfl [3] [0, 1, 2] rfl rfl rfl rfl (by decide) (fun v w1 H locs hw_6 hP hD hS => ?_)
    obtain ⟨rfl, rfl⟩ := hw_6
    have hP : va_P G.1 classes [(b1, .inl (G.2 0, 503, .inl (upd (fun _ => 0) 501 1))), (b4, .inl (G.2 0, 4024, .inl (fun _ => 0))), (b6, .inl (G.2 0, 503, .inl (upd (upd (upd (upd (upd (upd (upd (upd (upd (upd (upd (upd (upd (upd (upd (upd (upd (upd (upd (upd (upd (upd (upd (upd (upd (upd (upd (fun _ => 0) 501 1) 1 0) 21 0) 261 0) 22 0) 262 0) 23 0) 263 0) 24 0) 264 0) 25 0) 265 0) 26 0) 266 0) 27 0) 267 0) 28 0) 268 0) 29 0) 269 0) 30 0) 270 0) 31 0) 271 0) 32 0) 272 0) 0 1))), (b0, .inr (12, [.int 0, .ref b1, .ref b2, .ref b3, .ref b4, .int 0, .ref b5, .int 0, .int 0, .int 0, .int 1, .ref b6, .ref b7, .ref b8, .int 0, .ref b9, .ref b10, .ref b11, .ref b12, .ref b13, .ref b14, .ref b15, .ref b16, .ref b17, .ref b18, .ref b19, .ref b20, .int 0, .ref b21, .ref b22, .int 0, .int 0, .int 0, .int 0, .ref b23, .ref b24, .ref b25, .ref b26, .ref b27, .ref b28, .ref b29, .int 0, .ref b30, .ref b31, .int 0, .ref b32, .ref b33, .ref b34, .ref b35, .ref b36, .int 0, .ref b37, .ref b38, .ref b39]))] H := hP
    have hD := z_tie hP hD rfl
    refine W.widen (k := 0) (n := 0) (Nat.le_of_ble_eq_true rfl) (Nat.le_of_ble_eq_true rfl) ?_
    refine lv_bipush (v := 59) hx hb d_Model_traces_57 (by decide) ?_
    refine lv_icmp_ne (tgt := 79) hx hb d_Model_traces_59 (by decide) (fun _ => ?_) (fun hc => absurd hc (by decide +kernel))
    refine lv_aload_n hx hb d_Model_traces_79 rfl (lv_at hl 1 rfl) ?_
    refine z_callV (index := 185) (As := []) (rest := []) (wr := [(b1, .inl (G.2 0, 503, .inl (upd (fun _ => 0) 501 1))), (b4, .inl (G.2 0, 4024, .inl (fun _ => 0))), (b6, .inl (G.2 0, 503, .inl (upd (upd (upd (upd (upd (upd (upd (upd (upd (upd (upd (upd (upd (upd (upd (upd (upd (upd (upd (upd (upd (upd (upd (upd (upd (upd (upd (fun _ => 0) 501 1) 1 0) 21 0) 261 0) 22 0) 262 0) 23 0) 263 0) 24 0) 264 0) 25 0) 265 0) 26 0) 266 0) 27 0) 267 0) 28 0) 268 0) 29 0) 269 0) 30 0) 270 0) 31 0) 271 0) 32 0) 272 0) 0 1)))]) Z (c1_Model_endsReading l G (b0) (b1) (b2) (b3) (b4) (b5) (b6) (b7) (b8) (b9) (b10) (b11) (b12) (b13) (b14) (b15) (b16) (b17) (b18) (b19) (b20) (b21) (b22) (b23) (b24) (b25) (b26) (b27) (b28) (b29) (b30) (b31) (b32) (b33) (b34) (b35) (b36) (b37) (b38) (b39)) hl.1 q1316 q1318 qs49 q14 q1319 ⟨by decide, by decide, by show _ = some 0; decide +kernel⟩ ⟨Nat.le_of_ble_eq_true rfl, Nat.le_of_ble_eq_true rfl⟩ ⟨Nat.le_of_ble_eq_true rfl, Nat.le_of_ble_eq_true rfl⟩ rfl (Nat.le_of_ble_eq_true rfl) d_Model_traces_80 hP hD hS hA 3 12 rfl rfl rfl [3] [0, 1, 2] rfl rfl rfl rfl (by decide) (fun v w1 H locs hw_7 hP hD hS => ?_)
    obtain ⟨rfl, rfl⟩ := hw_7
    have hP : va_P G.1 classes [(b1, .inl (G.2 0, 503, .inl (upd (fun _ => 0) 501 1))), (b4, .inl (G.2 0, 4024, .inl (fun _ => 0))), (b6, .inl (G.2 0, 503, .inl (upd (upd (upd (upd (upd (upd (upd (upd (upd (upd (upd (upd (upd (upd (upd (upd (upd (upd (upd (upd (upd (upd (upd (upd (upd (upd (upd (fun _ => 0) 501 1) 1 0) 21 0) 261 0) 22 0) 262 0) 23 0) 263 0) 24 0) 264 0) 25 0) 265 0) 26 0) 266 0) 27 0) 267 0) 28 0) 268 0) 29 0) 269 0) 30 0) 270 0) 31 0) 271 0) 32 0) 272 0) 0 1))), (b0, .inr (12, [.int 0, .ref b1, .ref b2, .ref b3, .ref b4, .int 0, .ref b5, .int 0, .int 0, .int 0, .int 1, .ref b6, .ref b7, .ref b8, .int 0, .ref b9, .ref b10, .ref b11, .ref b12, .ref b13, .ref b14, .ref b15, .ref b16, .ref b17, .ref b18, .ref b19, .ref b20, .int 0, .ref b21, .ref b22, .int 0, .int 0, .int 0, .int 0, .ref b23, .ref b24, .ref b25, .ref b26, .ref b27, .ref b28, .ref b29, .int 0, .ref b30, .ref b31, .int 0, .ref b32, .ref b33, .ref b34, .ref b35, .ref b36, .int 0, .ref b37, .ref b38, .ref b39]))] H := hP
    have hD := z_tie hP hD rfl
    refine W.widen (k := 0) (n := 0) (Nat.le_of_ble_eq_true rfl) (Nat.le_of_ble_eq_true rfl) ?_
    refine lv_aload_n hx hb d_Model_traces_83 rfl (lv_at hl 1 rfl) ?_
    refine va_get (D := G.1) (ci := 12) (v := .int 1) (C := R_Model) (T := F_Model) (N := 54) hx hb hts i_Model hown hK hP 3 rfl rfl 10 (by decide) (hts _ q1123) (fun _ h9 => h9) rfl d_Model_traces_84 ?_
    refine lv_if_ne (tgt := 99) hx hb d_Model_traces_87 (by decide) (fun _ => ?_) (fun hc => absurd hc (by decide +kernel))
    refine lv_aload_n hx hb d_Model_traces_99 rfl (lv_at hl 1 rfl) ?_
    refine z_callV (index := 188) (As := []) (rest := []) (wr := [(b6, .inl (G.2 0, 503, .inl (upd (upd (upd (upd (upd (upd (upd (upd (upd (upd (upd (upd (upd (upd (upd (upd (upd (upd (upd (upd (upd (upd (upd (upd (upd (upd (upd (fun _ => 0) 501 1) 1 0) 21 0) 261 0) 22 0) 262 0) 23 0) 263 0) 24 0) 264 0) 25 0) 265 0) 26 0) 266 0) 27 0) 267 0) 28 0) 268 0) 29 0) 269 0) 30 0) 270 0) 31 0) 271 0) 32 0) 272 0) 0 1)))]) Z (c1_Model_remember l G (b0) (b1) (b2) (b3) (b4) (b5) (b6) (b7) (b8) (b9) (b10) (b11) (b12) (b13) (b14) (b15) (b16) (b17) (b18) (b19) (b20) (b21) (b22) (b23) (b24) (b25) (b26) (b27) (b28) (b29) (b30) (b31) (b32) (b33) (b34) (b35) (b36) (b37) (b38) (b39)) hl.1 q1320 q1322 qs50 q14 q1323 ⟨by decide, by decide, by show _ = some 0; decide +kernel⟩ ⟨Nat.le_of_ble_eq_true rfl, Nat.le_of_ble_eq_true rfl⟩ ⟨Nat.le_of_ble_eq_true rfl, Nat.le_of_ble_eq_true rfl⟩ rfl (Nat.le_of_ble_eq_true rfl) d_Model_traces_100 hP hD hS hA 3 12 rfl rfl rfl [3, 0, 1] [2] rfl rfl rfl rfl (by decide) (fun v w1 H locs hw_8 hP hD hS => ?_)
    obtain ⟨x_9, rfl, rfl⟩ := hw_8
    have hP : va_P G.1 classes [(b6, .inl (G.2 0, 503, .inl (upd (upd (upd (upd (upd (upd (upd (upd (upd (upd (upd (upd (upd (upd (upd (upd (upd (upd (upd (upd (upd (upd (upd (upd (upd (upd (upd (fun _ => 0) 501 1) 1 0) 21 0) 261 0) 22 0) 262 0) 23 0) 263 0) 24 0) 264 0) 25 0) 265 0) 26 0) 266 0) 27 0) 267 0) 28 0) 268 0) 29 0) 269 0) 30 0) 270 0) 31 0) 271 0) 32 0) 272 0) 0 1))), (b0, .inr (12, [.int 0, .ref b1, .ref b2, .ref b3, .ref b4, .int 1, .ref b5, .int 0, .int 0, .int 0, .int 1, .ref b6, .ref b7, .ref b8, .int 0, .ref b9, .ref b10, .ref b11, .ref b12, .ref b13, .ref b14, .ref b15, .ref b16, .ref b17, .ref b18, .ref b19, .ref b20, .int 0, .ref b21, .ref b22, .int 0, .int 0, .int 0, .int 0, .ref b23, .ref b24, .ref b25, .ref b26, .ref b27, .ref b28, .ref b29, .int 0, .ref b30, .ref b31, .int 0, .ref b32, .ref b33, .ref b34, .ref b35, .ref b36, .int 0, .ref b37, .ref b38, .ref b39])), (b1, .inl (G.2 0, 503, .inl (upd (fun _ => 0) 501 1))), (b4, .inl (G.2 0, 4024, .inl x_9))] H := hP
    have hD := z_tie hP hD rfl
    refine W.widen (k := 0) (n := 0) (Nat.le_of_ble_eq_true rfl) (Nat.le_of_ble_eq_true rfl) ?_
    refine lv_iconst (v := 0) hx hb d_Model_traces_103 (by decide) ?_
    refine lv_istore_n (lv' := [(1, .int 0), (0, .ref b0)]) hx hb d_Model_traces_104 rfl hl (by decide) rfl (fun ls hl => ?_)
    suffices key : ∀ (k_11 i_10 : Nat) (g_12 : Nat → Int32) (H : Heap) (locs : List Loc) (ls : Array Slot), i_10 + k_11 = 503 → (∀ j, j < i_10 → g_12 j = (upd (upd (upd (upd (upd (upd (upd (upd (upd (upd (upd (upd (upd (upd (upd (upd (upd (upd (upd (upd (upd (upd (upd (upd (upd (upd (upd (fun _ => 0) 501 1) 1 0) 21 0) 261 0) 22 0) 262 0) 23 0) 263 0) 24 0) 264 0) 25 0) 265 0) 26 0) 266 0) 27 0) 267 0) 28 0) 268 0) 29 0) 269 0) 30 0) 270 0) 31 0) 271 0) 32 0) 272 0) 0 1) j) → va_P G.1 classes [(b6, .inl (G.2 0, 503, .inl (upd (upd (upd (upd (upd (upd (upd (upd (upd (upd (upd (upd (upd (upd (upd (upd (upd (upd (upd (upd (upd (upd (upd (upd (upd (upd (upd (fun _ => 0) 501 1) 1 0) 21 0) 261 0) 22 0) 262 0) 23 0) 263 0) 24 0) 264 0) 25 0) 265 0) 26 0) 266 0) 27 0) 267 0) 28 0) 268 0) 29 0) 269 0) 30 0) 270 0) 31 0) 271 0) 32 0) 272 0) 0 1))), (b0, .inr (12, [.int 0, .ref b1, .ref b2, .ref b3, .ref b4, .int 1, .ref b5, .int 0, .int 0, .int 0, .int 1, .ref b6, .ref b7, .ref b8, .int 0, .ref b9, .ref b10, .ref b11, .ref b12, .ref b13, .ref b14, .ref b15, .ref b16, .ref b17, .ref b18, .ref b19, .ref b20, .int 0, .ref b21, .ref b22, .int 0, .int 0, .int 0, .int 0, .ref b23, .ref b24, .ref b25, .ref b26, .ref b27, .ref b28, .ref b29, .int 0, .ref b30, .ref b31, .int 0, .ref b32, .ref b33, .ref b34, .ref b35, .ref b36, .int 0, .ref b37, .ref b38, .ref b39])), (b1, .inl (G.2 0, 503, .inl g_12)), (b4, .inl (G.2 0, 4024, .inl x_9))] H → va_D A [(b6, .inl (G.2 0, 503, .inl (upd (upd (upd (upd (upd (upd (upd (upd (upd (upd (upd (upd (upd (upd (upd (upd (upd (upd (upd (upd (upd (upd (upd (upd (upd (upd (upd (fun _ => 0) 501 1) 1 0) 21 0) 261 0) 22 0) 262 0) 23 0) 263 0) 24 0) 264 0) 25 0) 265 0) 26 0) 266 0) 27 0) 267 0) 28 0) 268 0) 29 0) 269 0) 30 0) 270 0) 31 0) 271 0) 32 0) 272 0) 0 1))), (b0, .inr (12, [.int 0, .ref b1, .ref b2, .ref b3, .ref b4, .int 1, .ref b5, .int 0, .int 0, .int 0, .int 1, .ref b6, .ref b7, .ref b8, .int 0, .ref b9, .ref b10, .ref b11, .ref b12, .ref b13, .ref b14, .ref b15, .ref b16, .ref b17, .ref b18, .ref b19, .ref b20, .int 0, .ref b21, .ref b22, .int 0, .int 0, .int 0, .int 0, .ref b23, .ref b24, .ref b25, .ref b26, .ref b27, .ref b28, .ref b29, .int 0, .ref b30, .ref b31, .int 0, .ref b32, .ref b33, .ref b34, .ref b35, .ref b36, .int 0, .ref b37, .ref b38, .ref b39])), (b1, .inl (G.2 0, 503, .inl g_12)), (b4, .inl (G.2 0, 4024, .inl x_9))] → va_S A s.heap H locs → lv_has ls 2 [(1, .int (nI i_10)), (0, .ref b0)] → W p l e m_t_Model_traces s m ([.ref b0] : List Value).toArray below meth c H locs 0 0 (MQ below (zQ G (fun v _ => v = some (.int (a_traces))) A) ([.ref b0] : List Value).toArray s m_t_Model_traces.cells m_t_Model_traces.slots A) (F0 m 105 ls []) by
      exact key (503) 0 ((upd (fun _ => 0) 501 1)) _ _ _ (by omega) (fun j h => absurd h (Nat.not_lt_zero j)) hP hD hS (lv_sub hl [0, 1] rfl)
    intro k_11
    induction k_11 with
    | zero =>
      intro i_10 g_12 H locs ls hik hg_13 hP hD hS hl
      obtain rfl : i_10 = 503 := by omega
      have hl : lv_has ls 2 [(1, .int (nI 503)), (0, .ref b0)] := hl
      obtain ⟨hP, hD⟩ := z_exti (g := (upd (upd (upd (upd (upd (upd (upd (upd (upd (upd (upd (upd (upd (upd (upd (upd (upd (upd (upd (upd (upd (upd (upd (upd (upd (upd (upd (fun _ => 0) 501 1) 1 0) 21 0) 261 0) 22 0) 262 0) 23 0) 263 0) 24 0) 264 0) 25 0) 265 0) 26 0) 266 0) 27 0) 267 0) 28 0) 268 0) 29 0) 269 0) 30 0) 270 0) 31 0) 271 0) 32 0) 272 0) 0 1)) 2 hP hD rfl hg_13
      have hP : va_P G.1 classes [(b6, .inl (G.2 0, 503, .inl (upd (upd (upd (upd (upd (upd (upd (upd (upd (upd (upd (upd (upd (upd (upd (upd (upd (upd (upd (upd (upd (upd (upd (upd (upd (upd (upd (fun _ => 0) 501 1) 1 0) 21 0) 261 0) 22 0) 262 0) 23 0) 263 0) 24 0) 264 0) 25 0) 265 0) 26 0) 266 0) 27 0) 267 0) 28 0) 268 0) 29 0) 269 0) 30 0) 270 0) 31 0) 271 0) 32 0) 272 0) 0 1))), (b0, .inr (12, [.int 0, .ref b1, .ref b2, .ref b3, .ref b4, .int 1, .ref b5, .int 0, .int 0, .int 0, .int 1, .ref b6, .ref b7, .ref b8, .int 0, .ref b9, .ref b10, .ref b11, .ref b12, .ref b13, .ref b14, .ref b15, .ref b16, .ref b17, .ref b18, .ref b19, .ref b20, .int 0, .ref b21, .ref b22, .int 0, .int 0, .int 0, .int 0, .ref b23, .ref b24, .ref b25, .ref b26, .ref b27, .ref b28, .ref b29, .int 0, .ref b30, .ref b31, .int 0, .ref b32, .ref b33, .ref b34, .ref b35, .ref b36, .int 0, .ref b37, .ref b38, .ref b39])), (b1, .inl (G.2 0, 503, .inl (upd (upd (upd (upd (upd (upd (upd (upd (upd (upd (upd (upd (upd (upd (upd (upd (upd (upd (upd (upd (upd (upd (upd (upd (upd (upd (upd (fun _ => 0) 501 1) 1 0) 21 0) 261 0) 22 0) 262 0) 23 0) 263 0) 24 0) 264 0) 25 0) 265 0) 26 0) 266 0) 27 0) 267 0) 28 0) 268 0) 29 0) 269 0) 30 0) 270 0) 31 0) 271 0) 32 0) 272 0) 0 1))), (b4, .inl (G.2 0, 4024, .inl x_9))] H := hP
      have hD := z_tie hP hD rfl
      refine lv_iload_n hx hb d_Model_traces_105 rfl (lv_at hl 0 rfl) ?_
      refine lv_sipush (v := 503) hx hb d_Model_traces_106 (by decide) ?_
      refine lv_icmp_ge (tgt := 130) hx hb d_Model_traces_109 (by decide) (fun _ => ?_) (fun hc => absurd hc (by decide +kernel))
      refine lv_aload_n hx hb d_Model_traces_130 rfl (lv_at hl 1 rfl) ?_
      refine z_callV (index := 134) (As := []) (rest := []) (wr := [(b6, .inl (G.2 0, 503, .inl (upd (upd (upd (upd (upd (upd (upd (upd (upd (upd (upd (upd (upd (upd (upd (upd (upd (upd (upd (upd (upd (upd (upd (upd (upd (upd (upd (fun _ => 0) 501 1) 1 0) 21 0) 261 0) 22 0) 262 0) 23 0) 263 0) 24 0) 264 0) 25 0) 265 0) 26 0) 266 0) 27 0) 267 0) 28 0) 268 0) 29 0) 269 0) 30 0) 270 0) 31 0) 271 0) 32 0) 272 0) 0 1))), (b4, .inl (G.2 0, 4024, .inl x_9))]) Z (c1_Model_many l G (b0) (b1) (b2) (b3) (b4) (b5) (b6) (b7) (b8) (b9) (b10) (b11) (b12) (b13) (b14) (b15) (b16) (b17) (b18) (b19) (b20) (b21) (b22) (b23) (b24) (b25) (b26) (b27) (b28) (b29) (b30) (b31) (b32) (b33) (b34) (b35) (b36) (b37) (b38) (b39)) hl.1 q1324 q1326 qs51 q14 q1327 ⟨by decide, by decide, by show _ = some 0; decide +kernel⟩ ⟨Nat.le_of_ble_eq_true rfl, Nat.le_of_ble_eq_true rfl⟩ ⟨Nat.le_of_ble_eq_true rfl, Nat.le_of_ble_eq_true rfl⟩ rfl (Nat.le_of_ble_eq_true rfl) d_Model_traces_131 hP hD hS hA 1 12 rfl rfl rfl [1, 2] [0, 3] rfl rfl rfl rfl (by decide) (fun v w1 H locs hw_14 hP hD hS => ?_)
      obtain ⟨rfl, rfl⟩ := hw_14
      have hP : va_P G.1 classes [(b6, .inl (G.2 0, 503, .inl (upd (upd (upd (upd (upd (upd (upd (upd (upd (upd (upd (upd (upd (upd (upd (upd (upd (upd (upd (upd (upd (upd (upd (upd (upd (upd (upd (fun _ => 0) 501 1) 1 0) 21 0) 261 0) 22 0) 262 0) 23 0) 263 0) 24 0) 264 0) 25 0) 265 0) 26 0) 266 0) 27 0) 267 0) 28 0) 268 0) 29 0) 269 0) 30 0) 270 0) 31 0) 271 0) 32 0) 272 0) 0 1))), (b4, .inl (G.2 0, 4024, .inl x_9)), (b0, .inr (12, [.int 0, .ref b1, .ref b2, .ref b3, .ref b4, .int 1, .ref b5, .int 0, .int 0, .int 0, .int 1, .ref b6, .ref b7, .ref b8, .int 0, .ref b9, .ref b10, .ref b11, .ref b12, .ref b13, .ref b14, .ref b15, .ref b16, .ref b17, .ref b18, .ref b19, .ref b20, .int 0, .ref b21, .ref b22, .int 0, .int 0, .int 0, .int 0, .ref b23, .ref b24, .ref b25, .ref b26, .ref b27, .ref b28, .ref b29, .int 0, .ref b30, .ref b31, .int 0, .ref b32, .ref b33, .ref b34, .ref b35, .ref b36, .int 0, .ref b37, .ref b38, .ref b39])), (b1, .inl (G.2 0, 503, .inl (upd (upd (upd (upd (upd (upd (upd (upd (upd (upd (upd (upd (upd (upd (upd (upd (upd (upd (upd (upd (upd (upd (upd (upd (upd (upd (upd (fun _ => 0) 501 1) 1 0) 21 0) 261 0) 22 0) 262 0) 23 0) 263 0) 24 0) 264 0) 25 0) 265 0) 26 0) 266 0) 27 0) 267 0) 28 0) 268 0) 29 0) 269 0) 30 0) 270 0) 31 0) 271 0) 32 0) 272 0) 0 1)))] H := hP
      have hD := z_tie hP hD rfl
      refine W.widen (k := 0) (n := 0) (Nat.le_of_ble_eq_true rfl) (Nat.le_of_ble_eq_true rfl) ?_
      exact z_iret hx hb hr hlocks hP hD hS (Nat.le_of_ble_eq_true rfl) (Nat.le_of_ble_eq_true rfl) d_Model_traces_134 (congrArg (fun z => some (Value.int z)) (by unfold a_traces; (first | rfl | (repeat (first | rw [if_pos (by omega)] | rw [if_neg (by omega)])))))
    | succ k_11 ih =>
      intro i_10 g_12 H locs ls hik hg_13 hP hD hS hl
      have hilt : i_10 < 503 := by omega
      refine lv_iload_n hx hb d_Model_traces_105 rfl (lv_at hl 0 rfl) ?_
      refine lv_sipush (v := 503) hx hb d_Model_traces_106 (by decide) ?_
      refine lv_icmp_ge (tgt := 130) hx hb d_Model_traces_109 (by decide) (fun hc => absurd hc (nI_ge hilt (by decide))) (fun _ => ?_)
      refine lv_aload_n hx hb d_Model_traces_112 rfl (lv_at hl 1 rfl) ?_
      refine va_get (D := G.1) (ci := 12) (v := .ref b1) (C := R_Model) (T := F_Model) (N := 54) hx hb hts i_Model hown hK hP 1 rfl rfl 1 (by decide) (hts _ q1114) (fun _ h9 => h9) rfl d_Model_traces_113 ?_
      refine lv_iload_n hx hb d_Model_traces_116 rfl (lv_at hl 0 rfl) ?_
      refine lv_aload_n hx hb d_Model_traces_117 rfl (lv_at hl 1 rfl) ?_
      refine va_get (D := G.1) (ci := 12) (v := .ref b6) (C := R_Model) (T := F_Model) (N := 54) hx hb hts i_Model hown hK hP 1 rfl rfl 11 (by decide) (hts _ q1124) (fun _ h9 => h9) rfl d_Model_traces_118 ?_
      refine lv_iload_n hx hb d_Model_traces_121 rfl (lv_at hl 0 rfl) ?_
      refine va_iald hx hb hK hP 0 0 rfl rfl (z_inN (by omega) (by decide)) d_Model_traces_122 ?_
      refine z_topi (y := ((upd (upd (upd (upd (upd (upd (upd (upd (upd (upd (upd (upd (upd (upd (upd (upd (upd (upd (upd (upd (upd (upd (upd (upd (upd (upd (upd (fun _ => 0) 501 1) 1 0) 21 0) 261 0) 22 0) 262 0) 23 0) 263 0) 24 0) 264 0) 25 0) 265 0) 26 0) 266 0) 27 0) 267 0) 28 0) 268 0) 29 0) 269 0) 30 0) 270 0) 31 0) 271 0) 32 0) 272 0) 0 1) (i_10))) (by rw [nI_clamp (by omega)]) ?_
      refine va_iast hx hb hK hP hD hS 2 0 rfl rfl (z_inN (by omega) (by decide)) d_Model_traces_123 (fun H locs hP hD hS => ?_)
      rw [nI_clamp (by omega)] at hP hD
      have hP : va_P G.1 classes [(b6, .inl (G.2 0, 503, .inl (upd (upd (upd (upd (upd (upd (upd (upd (upd (upd (upd (upd (upd (upd (upd (upd (upd (upd (upd (upd (upd (upd (upd (upd (upd (upd (upd (fun _ => 0) 501 1) 1 0) 21 0) 261 0) 22 0) 262 0) 23 0) 263 0) 24 0) 264 0) 25 0) 265 0) 26 0) 266 0) 27 0) 267 0) 28 0) 268 0) 29 0) 269 0) 30 0) 270 0) 31 0) 271 0) 32 0) 272 0) 0 1))), (b0, .inr (12, [.int 0, .ref b1, .ref b2, .ref b3, .ref b4, .int 1, .ref b5, .int 0, .int 0, .int 0, .int 1, .ref b6, .ref b7, .ref b8, .int 0, .ref b9, .ref b10, .ref b11, .ref b12, .ref b13, .ref b14, .ref b15, .ref b16, .ref b17, .ref b18, .ref b19, .ref b20, .int 0, .ref b21, .ref b22, .int 0, .int 0, .int 0, .int 0, .ref b23, .ref b24, .ref b25, .ref b26, .ref b27, .ref b28, .ref b29, .int 0, .ref b30, .ref b31, .int 0, .ref b32, .ref b33, .ref b34, .ref b35, .ref b36, .int 0, .ref b37, .ref b38, .ref b39])), (b1, .inl (G.2 0, 503, .inl (upd g_12 (i_10) ((upd (upd (upd (upd (upd (upd (upd (upd (upd (upd (upd (upd (upd (upd (upd (upd (upd (upd (upd (upd (upd (upd (upd (upd (upd (upd (upd (fun _ => 0) 501 1) 1 0) 21 0) 261 0) 22 0) 262 0) 23 0) 263 0) 24 0) 264 0) 25 0) 265 0) 26 0) 266 0) 27 0) 267 0) 28 0) 268 0) 29 0) 269 0) 30 0) 270 0) 31 0) 271 0) 32 0) 272 0) 0 1) (i_10))))), (b4, .inl (G.2 0, 4024, .inl x_9))] H := hP
      have hD := z_tie hP hD rfl
      refine lv_iinc (v := (nI (i_10 + 1))) (lv' := [(1, .int (nI (i_10 + 1))), (0, .ref b0)]) hx hb d_Model_traces_124 hl (k := 0) rfl (nI_1 i_10) (by decide) rfl (fun ls hl => ?_)
      refine lv_goto (tgt := 105) hx hb d_Model_traces_127 (by decide) ?_
      exact ih (i_10 + 1) ((upd g_12 (i_10) ((upd (upd (upd (upd (upd (upd (upd (upd (upd (upd (upd (upd (upd (upd (upd (upd (upd (upd (upd (upd (upd (upd (upd (upd (upd (upd (upd (fun _ => 0) 501 1) 1 0) 21 0) 261 0) 22 0) 262 0) 23 0) 263 0) 24 0) 264 0) 25 0) 265 0) 26 0) 266 0) 27 0) 267 0) 28 0) 268 0) 29 0) 269 0) 30 0) 270 0) 31 0) 271 0) 32 0) 272 0) 0 1) (i_10)))) _ _ _ (by omega) (z_up (P := fun j y => y = (upd (upd (upd (upd (upd (upd (upd (upd (upd (upd (upd (upd (upd (upd (upd (upd (upd (upd (upd (upd (upd (upd (upd (upd (upd (upd (upd (fun _ => 0) 501 1) 1 0) 21 0) 261 0) 22 0) 262 0) 23 0) 263 0) 24 0) 264 0) 25 0) 265 0) 26 0) 266 0) 27 0) 267 0) 28 0) 268 0) 29 0) 269 0) 30 0) 270 0) 31 0) 271 0) 32 0) 272 0) 0 1) j) hg_13 rfl) hP hD hS (lv_sub hl [0, 1] rfl)
  | succ k_2 ih =>
    intro i_1 g_3 H locs ls hik hg_4 hP hD hS hl
    have hilt : i_1 < 503 := by omega
    refine lv_iload_n hx hb d_Model_traces_7 rfl (lv_at hl 0 rfl) ?_
    refine lv_sipush (v := 503) hx hb d_Model_traces_8 (by decide) ?_
    refine lv_icmp_ge (tgt := 32) hx hb d_Model_traces_11 (by decide) (fun hc => absurd hc (nI_ge hilt (by decide))) (fun _ => ?_)
    refine lv_aload_n hx hb d_Model_traces_14 rfl (lv_at hl 1 rfl) ?_
    refine va_get (D := G.1) (ci := 12) (v := .ref b6) (C := R_Model) (T := F_Model) (N := 54) hx hb hts i_Model hown hK hP 0 rfl rfl 11 (by decide) (hts _ q1124) (fun _ h9 => h9) rfl d_Model_traces_15 ?_
    refine lv_iload_n hx hb d_Model_traces_18 rfl (lv_at hl 0 rfl) ?_
    refine lv_aload_n hx hb d_Model_traces_19 rfl (lv_at hl 1 rfl) ?_
    refine va_get (D := G.1) (ci := 12) (v := .ref b1) (C := R_Model) (T := F_Model) (N := 54) hx hb hts i_Model hown hK hP 0 rfl rfl 1 (by decide) (hts _ q1114) (fun _ h9 => h9) rfl d_Model_traces_20 ?_
    refine lv_iload_n hx hb d_Model_traces_23 rfl (lv_at hl 0 rfl) ?_
    refine va_iald hx hb hK hP 2 0 rfl rfl (z_inN (by omega) (by decide)) d_Model_traces_24 ?_
    refine z_topi (y := ((upd (fun _ => 0) 501 1) (i_1))) (by rw [nI_clamp (by omega)]) ?_
    refine va_iast hx hb hK hP hD hS 1 0 rfl rfl (z_inN (by omega) (by decide)) d_Model_traces_25 (fun H locs hP hD hS => ?_)
    rw [nI_clamp (by omega)] at hP hD
    have hP : va_P G.1 classes [(b0, .inr (12, [.int 0, .ref b1, .ref b2, .ref b3, .ref b4, .int 0, .ref b5, .int 0, .int 0, .int 0, .int 0, .ref b6, .ref b7, .ref b8, .int 0, .ref b9, .ref b10, .ref b11, .ref b12, .ref b13, .ref b14, .ref b15, .ref b16, .ref b17, .ref b18, .ref b19, .ref b20, .int 0, .ref b21, .ref b22, .int 0, .int 0, .int 0, .int 0, .ref b23, .ref b24, .ref b25, .ref b26, .ref b27, .ref b28, .ref b29, .int 0, .ref b30, .ref b31, .int 0, .ref b32, .ref b33, .ref b34, .ref b35, .ref b36, .int 0, .ref b37, .ref b38, .ref b39])), (b6, .inl (G.2 0, 503, .inl (upd g_3 (i_1) ((upd (fun _ => 0) 501 1) (i_1))))), (b1, .inl (G.2 0, 503, .inl (upd (fun _ => 0) 501 1))), (b4, .inl (G.2 0, 4024, .inl (fun _ => 0)))] H := hP
    have hD := z_tie hP hD rfl
    refine lv_iinc (v := (nI (i_1 + 1))) (lv' := [(1, .int (nI (i_1 + 1))), (0, .ref b0)]) hx hb d_Model_traces_26 hl (k := 0) rfl (nI_1 i_1) (by decide) rfl (fun ls hl => ?_)
    refine lv_goto (tgt := 7) hx hb d_Model_traces_29 (by decide) ?_
    exact ih (i_1 + 1) ((upd g_3 (i_1) ((upd (fun _ => 0) 501 1) (i_1)))) _ _ _ (by omega) (z_up (P := fun j y => y = (upd (fun _ => 0) 501 1) j) hg_4 rfl) hP hD hS (lv_sub hl [0, 1] rfl)
