theorem d_X_sign_0 : decode prog_1_method_2_code 0 = .ok (.aload_n 0, 1) := by decide +kernel
theorem d_X_sign_1 : decode prog_1_method_2_code 1 = .ok (.getfield 12, 3) := by decide +kernel
theorem d_X_sign_4 : decode prog_1_method_2_code 4 = .ok (.iload_n 1, 1) := by decide +kernel
theorem d_X_sign_5 : decode prog_1_method_2_code 5 = .ok (.invokevirtual 118, 3) := by decide +kernel
theorem d_Text_put_0 : decode prog_9_method_2_code 0 = .ok (.aload_n 0, 1) := by decide +kernel
theorem d_Text_put_1 : decode prog_9_method_2_code 1 = .ok (.getfield 15, 3) := by decide +kernel
theorem d_Text_put_4 : decode prog_9_method_2_code 4 = .ok (.iconst 4, 1) := by decide +kernel
theorem d_Text_put_5 : decode prog_9_method_2_code 5 = .ok (.iadd, 1) := by decide +kernel
theorem d_Text_put_6 : decode prog_9_method_2_code 6 = .ok (.sipush 240, 3) := by decide +kernel
theorem d_Text_put_9 : decode prog_9_method_2_code 9 = .ok (.if_icmp .le 5, 3) := by decide +kernel
theorem d_Text_put_14 : decode prog_9_method_2_code 14 = .ok (.bipush 24, 2) := by decide +kernel
theorem d_Text_put_16 : decode prog_9_method_2_code 16 = .ok (.istore_n 2, 1) := by decide +kernel
theorem d_Text_put_17 : decode prog_9_method_2_code 17 = .ok (.iload_n 2, 1) := by decide +kernel
theorem d_Text_put_18 : decode prog_9_method_2_code 18 = .ok (.ifCond .lt 36, 3) := by decide +kernel
theorem d_Text_put_21 : decode prog_9_method_2_code 21 = .ok (.aload_n 0, 1) := by decide +kernel
theorem d_Text_put_22 : decode prog_9_method_2_code 22 = .ok (.getfield 9, 3) := by decide +kernel
theorem d_Text_put_25 : decode prog_9_method_2_code 25 = .ok (.aload_n 0, 1) := by decide +kernel
theorem d_Text_put_26 : decode prog_9_method_2_code 26 = .ok (.getfield 15, 3) := by decide +kernel
theorem d_Text_put_29 : decode prog_9_method_2_code 29 = .ok (.iload_n 1, 1) := by decide +kernel
theorem d_Text_put_30 : decode prog_9_method_2_code 30 = .ok (.iload_n 2, 1) := by decide +kernel
theorem d_Text_put_31 : decode prog_9_method_2_code 31 = .ok (.iushr, 1) := by decide +kernel
theorem d_Text_put_32 : decode prog_9_method_2_code 32 = .ok (.sipush 255, 3) := by decide +kernel
theorem d_Text_put_35 : decode prog_9_method_2_code 35 = .ok (.iand, 1) := by decide +kernel
theorem d_Text_put_36 : decode prog_9_method_2_code 36 = .ok (.i2c, 1) := by decide +kernel
theorem d_Text_put_37 : decode prog_9_method_2_code 37 = .ok (.castore, 1) := by decide +kernel
theorem d_Text_put_38 : decode prog_9_method_2_code 38 = .ok (.aload_n 0, 1) := by decide +kernel
theorem d_Text_put_39 : decode prog_9_method_2_code 39 = .ok (.dup, 1) := by decide +kernel
theorem d_Text_put_40 : decode prog_9_method_2_code 40 = .ok (.getfield 15, 3) := by decide +kernel
theorem d_Text_put_43 : decode prog_9_method_2_code 43 = .ok (.iconst 1, 1) := by decide +kernel
theorem d_Text_put_44 : decode prog_9_method_2_code 44 = .ok (.iadd, 1) := by decide +kernel
theorem d_Text_put_45 : decode prog_9_method_2_code 45 = .ok (.putfield 15, 3) := by decide +kernel
theorem d_Text_put_48 : decode prog_9_method_2_code 48 = .ok (.iinc 2 (-8), 3) := by decide +kernel
theorem d_Text_put_51 : decode prog_9_method_2_code 51 = .ok (.goto (-34), 3) := by decide +kernel
theorem d_Text_put_54 : decode prog_9_method_2_code 54 = .ok (.iconst 1, 1) := by decide +kernel
theorem d_Text_put_55 : decode prog_9_method_2_code 55 = .ok (.ireturn, 1) := by decide +kernel
abbrev m_c1_Text_put : Room := { frames := 0, cells := 0, slots := 0, locals := 0 }
set_option maxHeartbeats 4000000 in
set_option maxRecDepth 100000 in
theorem c1_Text_put (l : Launch) (G : zG) (b0 : Nat) (b1 : Int32) (b2 : Nat)  : zM l G y_Text_put prog_9_method_2_code 3 (Option.some Jvm.ClassFile.FieldType.boolean) m_c1_Text_put [.ref b0, .int b1] [(b0, .inr (1, [.int 0, .ref b2])), (b2, .inl (G.2 2, 240, .inl (fun _ => 0)))] (fun v w => (∃ (e0 : Int32), ∃ (e1 : Int32), ∃ (e2 : Int32), ∃ (e3 : Int32), v = some (.int 1) ∧ w = [(b0, .inr (1, [.int 4, .ref b2])), (b2, .inl (G.2 2, 240, .inl (upd (upd (upd (upd (fun _ => 0) 0 (vp_nar .char e0)) 1 (vp_nar .char e1)) 2 (vp_nar .char e2)) 3 (vp_nar .char e3))))])) := by
  refine z_start (by decide +kernel) (Nat.le_of_ble_eq_true rfl) ?_
  intro p e s m below meth c A Z hr hnm hA hP hD hS ls hl
  have Z : zC p s m _ meth c prog_9_method_2_code 3 "TraceMachines$Text" G := Z
  obtain ⟨hx, hb, hml, hown, hts, hK, hN, hlocks⟩ := id Z
  have hl : lv_has ls 3 [(0, .ref b0), (1, .int b1)] := hl
  refine lv_aload_n hx hb d_Text_put_0 rfl (lv_at hl 0 rfl) ?_
  refine va_get (D := G.1) (ci := 1) (v := .int 0) (C := R_Text) (T := F_Text) (N := 2) hx hb hts i_Text hown hK hP 0 rfl rfl 0 (by decide) (hts _ q37) (fun _ h9 => h9) rfl d_Text_put_1 ?_
  refine lv_iconst (v := 4) hx hb d_Text_put_4 (by decide) ?_
  refine lv_iadd hx hb d_Text_put_5 ?_
  refine z_topi (y := 4) (by decide +kernel) ?_
  refine lv_sipush (v := 240) hx hb d_Text_put_6 (by decide) ?_
  refine lv_icmp_le (tgt := 14) hx hb d_Text_put_9 (by decide) (fun _ => ?_) (fun hc => absurd hc (by decide +kernel))
  refine lv_bipush (v := 24) hx hb d_Text_put_14 (by decide) ?_
  refine lv_istore_n (lv' := [(2, .int 24), (0, .ref b0), (1, .int b1)]) hx hb d_Text_put_16 rfl hl (by decide) rfl (fun ls hl => ?_)
  refine lv_iload_n hx hb d_Text_put_17 rfl (lv_at hl 0 rfl) ?_
  refine lv_if_lt (tgt := 54) hx hb d_Text_put_18 (by decide) (fun hc => absurd hc (by decide +kernel)) (fun _ => ?_)
  refine lv_aload_n hx hb d_Text_put_21 rfl (lv_at hl 1 rfl) ?_
  refine va_get (D := G.1) (ci := 1) (v := .ref b2) (C := R_Text) (T := F_Text) (N := 2) hx hb hts i_Text hown hK hP 0 rfl rfl 1 (by decide) (hts _ q39) (fun _ h9 => h9) rfl d_Text_put_22 ?_
  refine lv_aload_n hx hb d_Text_put_25 rfl (lv_at hl 1 rfl) ?_
  refine va_get (D := G.1) (ci := 1) (v := .int 0) (C := R_Text) (T := F_Text) (N := 2) hx hb hts i_Text hown hK hP 0 rfl rfl 0 (by decide) (hts _ q37) (fun _ h9 => h9) rfl d_Text_put_26 ?_
  refine lv_iload_n hx hb d_Text_put_29 rfl (lv_at hl 2 rfl) ?_
  refine lv_iload_n hx hb d_Text_put_30 rfl (lv_at hl 0 rfl) ?_
  obtain ⟨v_1, ev_1⟩ : ∃ z : Int32, z = ((b1).toUInt32 >>> ((24 : Int32).toUInt32 &&& Int32.toUInt32 31)).toInt32 := ⟨_, rfl⟩
  refine lv_iushr (v := v_1) hx hb d_Text_put_31 ev_1.symm ?_
  refine lv_sipush (v := 255) hx hb d_Text_put_32 (by decide) ?_
  refine lv_iand hx hb d_Text_put_35 ?_
  refine lv_topi (fun v_2 ev_2 => ?_)
  obtain ⟨v_3, ev_3⟩ : ∃ z : Int32, z = ((v_2).toUInt32 % 65536).toInt32 := ⟨_, rfl⟩
  refine lv_i2c (v := v_3) hx hb d_Text_put_36 ev_3.symm ?_
  refine va_cast hx hb hK hP hD hS 1 2 rfl rfl (i := 0) (z_in rfl) d_Text_put_37 (fun H locs hP hD hS => ?_)
  have hP : va_P G.1 classes [(b0, .inr (1, [.int 0, .ref b2])), (b2, .inl (G.2 2, 240, .inl (upd (fun _ => 0) 0 (vp_nar .char v_3))))] H := hP
  have hD := z_tie hP hD rfl
  refine lv_aload_n hx hb d_Text_put_38 rfl (lv_at hl 1 rfl) ?_
  refine lv_dup hx hb d_Text_put_39 rfl ?_
  refine va_get (D := G.1) (ci := 1) (v := .int 0) (C := R_Text) (T := F_Text) (N := 2) hx hb hts i_Text hown hK hP 0 rfl rfl 0 (by decide) (hts _ q37) (fun _ h9 => h9) rfl d_Text_put_40 ?_
  refine lv_iconst (v := 1) hx hb d_Text_put_43 (by decide) ?_
  refine lv_iadd hx hb d_Text_put_44 ?_
  refine z_topi (y := 1) (by decide +kernel) ?_
  refine va_put (D := G.1) (ci := 1) (v := .int 1) (ty := .int) (C := R_Text) (T := F_Text) (N := 2) hx hb hts i_Text t_Text t_Text_ok n_Text hown hK hP hD hS 0 rfl rfl 0 (by decide) (hts _ q37) (fun _ h9 => h9) rfl (by decide +kernel) rfl rfl (Nat.le_of_ble_eq_true rfl) d_Text_put_45 (fun H locs hP hD hS => ?_)
  have hP : va_P G.1 classes [(b0, .inr (1, [.int 1, .ref b2])), (b2, .inl (G.2 2, 240, .inl (upd (fun _ => 0) 0 (vp_nar .char v_3))))] H := hP
  have hD := z_tie hP hD rfl
  refine lv_iinc (v := 16) (lv' := [(2, .int 16), (0, .ref b0), (1, .int b1)]) hx hb d_Text_put_48 hl (k := 0) rfl (by decide +kernel) (by decide) rfl (fun ls hl => ?_)
  refine lv_goto (tgt := 17) hx hb d_Text_put_51 (by decide) ?_
  refine lv_iload_n hx hb d_Text_put_17 rfl (lv_at hl 0 rfl) ?_
  refine lv_if_lt (tgt := 54) hx hb d_Text_put_18 (by decide) (fun hc => absurd hc (by decide +kernel)) (fun _ => ?_)
  refine lv_aload_n hx hb d_Text_put_21 rfl (lv_at hl 1 rfl) ?_
  refine va_get (D := G.1) (ci := 1) (v := .ref b2) (C := R_Text) (T := F_Text) (N := 2) hx hb hts i_Text hown hK hP 0 rfl rfl 1 (by decide) (hts _ q39) (fun _ h9 => h9) rfl d_Text_put_22 ?_
  refine lv_aload_n hx hb d_Text_put_25 rfl (lv_at hl 1 rfl) ?_
  refine va_get (D := G.1) (ci := 1) (v := .int 1) (C := R_Text) (T := F_Text) (N := 2) hx hb hts i_Text hown hK hP 0 rfl rfl 0 (by decide) (hts _ q37) (fun _ h9 => h9) rfl d_Text_put_26 ?_
  refine lv_iload_n hx hb d_Text_put_29 rfl (lv_at hl 2 rfl) ?_
  refine lv_iload_n hx hb d_Text_put_30 rfl (lv_at hl 0 rfl) ?_
  obtain ⟨v_4, ev_4⟩ : ∃ z : Int32, z = ((b1).toUInt32 >>> ((16 : Int32).toUInt32 &&& Int32.toUInt32 31)).toInt32 := ⟨_, rfl⟩
  refine lv_iushr (v := v_4) hx hb d_Text_put_31 ev_4.symm ?_
  refine lv_sipush (v := 255) hx hb d_Text_put_32 (by decide) ?_
  refine lv_iand hx hb d_Text_put_35 ?_
  refine lv_topi (fun v_5 ev_5 => ?_)
  obtain ⟨v_6, ev_6⟩ : ∃ z : Int32, z = ((v_5).toUInt32 % 65536).toInt32 := ⟨_, rfl⟩
  refine lv_i2c (v := v_6) hx hb d_Text_put_36 ev_6.symm ?_
  refine va_cast hx hb hK hP hD hS 1 2 rfl rfl (i := 1) (z_in rfl) d_Text_put_37 (fun H locs hP hD hS => ?_)
  have hP : va_P G.1 classes [(b0, .inr (1, [.int 1, .ref b2])), (b2, .inl (G.2 2, 240, .inl (upd (upd (fun _ => 0) 0 (vp_nar .char v_3)) 1 (vp_nar .char v_6))))] H := hP
  have hD := z_tie hP hD rfl
  refine lv_aload_n hx hb d_Text_put_38 rfl (lv_at hl 1 rfl) ?_
  refine lv_dup hx hb d_Text_put_39 rfl ?_
  refine va_get (D := G.1) (ci := 1) (v := .int 1) (C := R_Text) (T := F_Text) (N := 2) hx hb hts i_Text hown hK hP 0 rfl rfl 0 (by decide) (hts _ q37) (fun _ h9 => h9) rfl d_Text_put_40 ?_
  refine lv_iconst (v := 1) hx hb d_Text_put_43 (by decide) ?_
  refine lv_iadd hx hb d_Text_put_44 ?_
  refine z_topi (y := 2) (by decide +kernel) ?_
  refine va_put (D := G.1) (ci := 1) (v := .int 2) (ty := .int) (C := R_Text) (T := F_Text) (N := 2) hx hb hts i_Text t_Text t_Text_ok n_Text hown hK hP hD hS 0 rfl rfl 0 (by decide) (hts _ q37) (fun _ h9 => h9) rfl (by decide +kernel) rfl rfl (Nat.le_of_ble_eq_true rfl) d_Text_put_45 (fun H locs hP hD hS => ?_)
  have hP : va_P G.1 classes [(b0, .inr (1, [.int 2, .ref b2])), (b2, .inl (G.2 2, 240, .inl (upd (upd (fun _ => 0) 0 (vp_nar .char v_3)) 1 (vp_nar .char v_6))))] H := hP
  have hD := z_tie hP hD rfl
  refine lv_iinc (v := 8) (lv' := [(2, .int 8), (0, .ref b0), (1, .int b1)]) hx hb d_Text_put_48 hl (k := 0) rfl (by decide +kernel) (by decide) rfl (fun ls hl => ?_)
  refine lv_goto (tgt := 17) hx hb d_Text_put_51 (by decide) ?_
  refine lv_iload_n hx hb d_Text_put_17 rfl (lv_at hl 0 rfl) ?_
  refine lv_if_lt (tgt := 54) hx hb d_Text_put_18 (by decide) (fun hc => absurd hc (by decide +kernel)) (fun _ => ?_)
  refine lv_aload_n hx hb d_Text_put_21 rfl (lv_at hl 1 rfl) ?_
  refine va_get (D := G.1) (ci := 1) (v := .ref b2) (C := R_Text) (T := F_Text) (N := 2) hx hb hts i_Text hown hK hP 0 rfl rfl 1 (by decide) (hts _ q39) (fun _ h9 => h9) rfl d_Text_put_22 ?_
  refine lv_aload_n hx hb d_Text_put_25 rfl (lv_at hl 1 rfl) ?_
  refine va_get (D := G.1) (ci := 1) (v := .int 2) (C := R_Text) (T := F_Text) (N := 2) hx hb hts i_Text hown hK hP 0 rfl rfl 0 (by decide) (hts _ q37) (fun _ h9 => h9) rfl d_Text_put_26 ?_
  refine lv_iload_n hx hb d_Text_put_29 rfl (lv_at hl 2 rfl) ?_
  refine lv_iload_n hx hb d_Text_put_30 rfl (lv_at hl 0 rfl) ?_
  obtain ⟨v_7, ev_7⟩ : ∃ z : Int32, z = ((b1).toUInt32 >>> ((8 : Int32).toUInt32 &&& Int32.toUInt32 31)).toInt32 := ⟨_, rfl⟩
  refine lv_iushr (v := v_7) hx hb d_Text_put_31 ev_7.symm ?_
  refine lv_sipush (v := 255) hx hb d_Text_put_32 (by decide) ?_
  refine lv_iand hx hb d_Text_put_35 ?_
  refine lv_topi (fun v_8 ev_8 => ?_)
  obtain ⟨v_9, ev_9⟩ : ∃ z : Int32, z = ((v_8).toUInt32 % 65536).toInt32 := ⟨_, rfl⟩
  refine lv_i2c (v := v_9) hx hb d_Text_put_36 ev_9.symm ?_
  refine va_cast hx hb hK hP hD hS 1 2 rfl rfl (i := 2) (z_in rfl) d_Text_put_37 (fun H locs hP hD hS => ?_)
  have hP : va_P G.1 classes [(b0, .inr (1, [.int 2, .ref b2])), (b2, .inl (G.2 2, 240, .inl (upd (upd (upd (fun _ => 0) 0 (vp_nar .char v_3)) 1 (vp_nar .char v_6)) 2 (vp_nar .char v_9))))] H := hP
  have hD := z_tie hP hD rfl
  refine lv_aload_n hx hb d_Text_put_38 rfl (lv_at hl 1 rfl) ?_
  refine lv_dup hx hb d_Text_put_39 rfl ?_
  refine va_get (D := G.1) (ci := 1) (v := .int 2) (C := R_Text) (T := F_Text) (N := 2) hx hb hts i_Text hown hK hP 0 rfl rfl 0 (by decide) (hts _ q37) (fun _ h9 => h9) rfl d_Text_put_40 ?_
  refine lv_iconst (v := 1) hx hb d_Text_put_43 (by decide) ?_
  refine lv_iadd hx hb d_Text_put_44 ?_
  refine z_topi (y := 3) (by decide +kernel) ?_
  refine va_put (D := G.1) (ci := 1) (v := .int 3) (ty := .int) (C := R_Text) (T := F_Text) (N := 2) hx hb hts i_Text t_Text t_Text_ok n_Text hown hK hP hD hS 0 rfl rfl 0 (by decide) (hts _ q37) (fun _ h9 => h9) rfl (by decide +kernel) rfl rfl (Nat.le_of_ble_eq_true rfl) d_Text_put_45 (fun H locs hP hD hS => ?_)
  have hP : va_P G.1 classes [(b0, .inr (1, [.int 3, .ref b2])), (b2, .inl (G.2 2, 240, .inl (upd (upd (upd (fun _ => 0) 0 (vp_nar .char v_3)) 1 (vp_nar .char v_6)) 2 (vp_nar .char v_9))))] H := hP
  have hD := z_tie hP hD rfl
  refine lv_iinc (v := 0) (lv' := [(2, .int 0), (0, .ref b0), (1, .int b1)]) hx hb d_Text_put_48 hl (k := 0) rfl (by decide +kernel) (by decide) rfl (fun ls hl => ?_)
  refine lv_goto (tgt := 17) hx hb d_Text_put_51 (by decide) ?_
  refine lv_iload_n hx hb d_Text_put_17 rfl (lv_at hl 0 rfl) ?_
  refine lv_if_lt (tgt := 54) hx hb d_Text_put_18 (by decide) (fun hc => absurd hc (by decide +kernel)) (fun _ => ?_)
  refine lv_aload_n hx hb d_Text_put_21 rfl (lv_at hl 1 rfl) ?_
  refine va_get (D := G.1) (ci := 1) (v := .ref b2) (C := R_Text) (T := F_Text) (N := 2) hx hb hts i_Text hown hK hP 0 rfl rfl 1 (by decide) (hts _ q39) (fun _ h9 => h9) rfl d_Text_put_22 ?_
  refine lv_aload_n hx hb d_Text_put_25 rfl (lv_at hl 1 rfl) ?_
  refine va_get (D := G.1) (ci := 1) (v := .int 3) (C := R_Text) (T := F_Text) (N := 2) hx hb hts i_Text hown hK hP 0 rfl rfl 0 (by decide) (hts _ q37) (fun _ h9 => h9) rfl d_Text_put_26 ?_
  refine lv_iload_n hx hb d_Text_put_29 rfl (lv_at hl 2 rfl) ?_
  refine lv_iload_n hx hb d_Text_put_30 rfl (lv_at hl 0 rfl) ?_
  obtain ⟨v_10, ev_10⟩ : ∃ z : Int32, z = ((b1).toUInt32 >>> ((0 : Int32).toUInt32 &&& Int32.toUInt32 31)).toInt32 := ⟨_, rfl⟩
  refine lv_iushr (v := v_10) hx hb d_Text_put_31 ev_10.symm ?_
  refine lv_sipush (v := 255) hx hb d_Text_put_32 (by decide) ?_
  refine lv_iand hx hb d_Text_put_35 ?_
  refine lv_topi (fun v_11 ev_11 => ?_)
  obtain ⟨v_12, ev_12⟩ : ∃ z : Int32, z = ((v_11).toUInt32 % 65536).toInt32 := ⟨_, rfl⟩
  refine lv_i2c (v := v_12) hx hb d_Text_put_36 ev_12.symm ?_
  refine va_cast hx hb hK hP hD hS 1 2 rfl rfl (i := 3) (z_in rfl) d_Text_put_37 (fun H locs hP hD hS => ?_)
  have hP : va_P G.1 classes [(b0, .inr (1, [.int 3, .ref b2])), (b2, .inl (G.2 2, 240, .inl (upd (upd (upd (upd (fun _ => 0) 0 (vp_nar .char v_3)) 1 (vp_nar .char v_6)) 2 (vp_nar .char v_9)) 3 (vp_nar .char v_12))))] H := hP
  have hD := z_tie hP hD rfl
  refine lv_aload_n hx hb d_Text_put_38 rfl (lv_at hl 1 rfl) ?_
  refine lv_dup hx hb d_Text_put_39 rfl ?_
  refine va_get (D := G.1) (ci := 1) (v := .int 3) (C := R_Text) (T := F_Text) (N := 2) hx hb hts i_Text hown hK hP 0 rfl rfl 0 (by decide) (hts _ q37) (fun _ h9 => h9) rfl d_Text_put_40 ?_
  refine lv_iconst (v := 1) hx hb d_Text_put_43 (by decide) ?_
  refine lv_iadd hx hb d_Text_put_44 ?_
  refine z_topi (y := 4) (by decide +kernel) ?_
  refine va_put (D := G.1) (ci := 1) (v := .int 4) (ty := .int) (C := R_Text) (T := F_Text) (N := 2) hx hb hts i_Text t_Text t_Text_ok n_Text hown hK hP hD hS 0 rfl rfl 0 (by decide) (hts _ q37) (fun _ h9 => h9) rfl (by decide +kernel) rfl rfl (Nat.le_of_ble_eq_true rfl) d_Text_put_45 (fun H locs hP hD hS => ?_)
  have hP : va_P G.1 classes [(b0, .inr (1, [.int 4, .ref b2])), (b2, .inl (G.2 2, 240, .inl (upd (upd (upd (upd (fun _ => 0) 0 (vp_nar .char v_3)) 1 (vp_nar .char v_6)) 2 (vp_nar .char v_9)) 3 (vp_nar .char v_12))))] H := hP
  have hD := z_tie hP hD rfl
  refine lv_iinc (v := (-8)) (lv' := [(2, .int (-8)), (0, .ref b0), (1, .int b1)]) hx hb d_Text_put_48 hl (k := 0) rfl (by decide +kernel) (by decide) rfl (fun ls hl => ?_)
  refine lv_goto (tgt := 17) hx hb d_Text_put_51 (by decide) ?_
  refine lv_iload_n hx hb d_Text_put_17 rfl (lv_at hl 0 rfl) ?_
  refine lv_if_lt (tgt := 54) hx hb d_Text_put_18 (by decide) (fun _ => ?_) (fun hc => absurd hc (by decide +kernel))
  refine lv_iconst (v := 1) hx hb d_Text_put_54 (by decide) ?_
  exact z_zret hx hb hr hlocks rfl hP hD hS (Nat.le_of_ble_eq_true rfl) (Nat.le_of_ble_eq_true rfl) d_Text_put_55 ⟨v_3, v_6, v_9, v_12, rfl, rfl⟩
theorem d_X_sign_8 : decode prog_1_method_2_code 8 = .ok (.ifCond .eq 13, 3) := by decide +kernel
theorem d_X_sign_11 : decode prog_1_method_2_code 11 = .ok (.aload_n 0, 1) := by decide +kernel
theorem d_X_sign_12 : decode prog_1_method_2_code 12 = .ok (.getfield 12, 3) := by decide +kernel
theorem d_X_sign_15 : decode prog_1_method_2_code 15 = .ok (.getfield 122, 3) := by decide +kernel
theorem d_X_sign_18 : decode prog_1_method_2_code 18 = .ok (.goto 4, 3) := by decide +kernel
theorem d_X_sign_22 : decode prog_1_method_2_code 22 = .ok (.ireturn, 1) := by decide +kernel
abbrev m_t_X_sign : Room := { frames := 1, cells := 0, slots := 0, locals := 22 }
set_option maxHeartbeats 4000000 in
set_option maxRecDepth 100000 in
theorem t_X_sign (l : Launch) (G : zG) (b0 : Nat) (p0 : Int32) (b2 : Nat) (b3 : Nat) (b4 : Nat) (b5 : Nat) (b6 : Nat) (b7 : Nat) (b8 : Nat) (b9 : Nat) (b10 : Nat) (b11 : Nat) (b12 : Nat) (b13 : Nat) (b14 : Nat) (b15 : Nat) (b16 : Nat) (b17 : Nat) (b18 : Nat) (b19 : Nat) (b20 : Nat)  : zM l G y_X_sign prog_1_method_2_code 2 (Option.some Jvm.ClassFile.FieldType.int) m_t_X_sign [.ref b0, .int p0] [(b0, .inr (0, [.ref b2, .ref b3, .ref b4, .ref b5, .int 0, .int 0, .ref b6, .ref b7, .ref b8, .ref b9, .ref b10, .ref b11, .ref b12, .ref b13, .ref b14, .ref b15, .ref b16, .ref b17, .ref b18, .ref b19])), (b2, .inr (1, [.int 0, .ref b20])), (b20, .inl (G.2 2, 240, .inl (fun _ => 0)))] (fun v _ => v = some (.int (a_sign p0))) := by
  refine z_start (by decide +kernel) (Nat.le_of_ble_eq_true rfl) ?_
  intro p e s m below meth c A Z hr hnm hA hP hD hS ls hl
  have Z : zC p s m _ meth c prog_1_method_2_code 2 "TraceMachines" G := Z
  obtain ⟨hx, hb, hml, hown, hts, hK, hN, hlocks⟩ := id Z
  have hl : lv_has ls 2 [(0, .ref b0), (1, .int p0)] := hl
  refine lv_aload_n hx hb d_X_sign_0 rfl (lv_at hl 0 rfl) ?_
  refine va_get (D := G.1) (ci := 0) (v := .ref b2) (C := R_X) (T := F_X) (N := 20) hx hb hts i_X hown hK hP 0 rfl rfl 0 (by decide) (hts _ q417) (fun _ h9 => h9) rfl d_X_sign_1 ?_
  refine lv_iload_n hx hb d_X_sign_4 rfl (lv_at hl 1 rfl) ?_
  refine z_callV (index := 118) (As := [.int p0]) (rest := []) (wr := [(b0, .inr (0, [.ref b2, .ref b3, .ref b4, .ref b5, .int 0, .int 0, .ref b6, .ref b7, .ref b8, .ref b9, .ref b10, .ref b11, .ref b12, .ref b13, .ref b14, .ref b15, .ref b16, .ref b17, .ref b18, .ref b19]))]) Z (c1_Text_put l G (b2) (p0) (b20)) hl.1 q482 q483 q484 q2 q485 ⟨by decide, by decide, by show _ = some 1; decide +kernel⟩ ⟨Nat.le_of_ble_eq_true rfl, Nat.le_of_ble_eq_true rfl⟩ ⟨Nat.le_of_ble_eq_true rfl, Nat.le_of_ble_eq_true rfl⟩ rfl (Nat.le_of_ble_eq_true rfl) d_X_sign_5 hP hD hS hA 1 1 rfl rfl rfl [1, 2] [0] rfl rfl rfl rfl (by decide) (fun v w1 H locs hw_1 hP hD hS => ?_)
  obtain ⟨x_2, x_3, x_4, x_5, rfl, rfl⟩ := hw_1
  have hP : va_P G.1 classes [(b0, .inr (0, [.ref b2, .ref b3, .ref b4, .ref b5, .int 0, .int 0, .ref b6, .ref b7, .ref b8, .ref b9, .ref b10, .ref b11, .ref b12, .ref b13, .ref b14, .ref b15, .ref b16, .ref b17, .ref b18, .ref b19])), (b2, .inr (1, [.int 4, .ref b20])), (b20, .inl (G.2 2, 240, .inl (upd (upd (upd (upd (fun _ => 0) 0 (vp_nar .char x_2)) 1 (vp_nar .char x_3)) 2 (vp_nar .char x_4)) 3 (vp_nar .char x_5))))] H := hP
  have hD := z_tie hP hD rfl
  refine W.widen (k := 0) (n := 0) (Nat.le_of_ble_eq_true rfl) (Nat.le_of_ble_eq_true rfl) ?_
  refine lv_if_eq (tgt := 21) hx hb d_X_sign_8 (by decide) (fun hc => absurd hc (by decide +kernel)) (fun _ => ?_)
  refine lv_aload_n hx hb d_X_sign_11 rfl (lv_at hl 0 rfl) ?_
  refine va_get (D := G.1) (ci := 0) (v := .ref b2) (C := R_X) (T := F_X) (N := 20) hx hb hts i_X hown hK hP 0 rfl rfl 0 (by decide) (hts _ q417) (fun _ h9 => h9) rfl d_X_sign_12 ?_
  refine va_get (D := G.1) (ci := 1) (v := .int 4) (C := R_Text) (T := F_Text) (N := 2) hx hb hts i_Text hown hK hP 1 rfl rfl 0 (by decide) (hts _ q38) (fun _ h9 => h9) rfl d_X_sign_15 ?_
  refine lv_goto (tgt := 22) hx hb d_X_sign_18 (by decide) ?_
  exact z_iret hx hb hr hlocks hP hD hS (Nat.le_of_ble_eq_true rfl) (Nat.le_of_ble_eq_true rfl) d_X_sign_22 (congrArg (fun z => some (Value.int z)) (by unfold a_sign; (first | rfl | (repeat (first | rw [if_pos (by omega)] | rw [if_neg (by omega)])))))
theorem d_X_end_0 : decode prog_1_method_3_code 0 = .ok (.aload_n 0, 1) := by decide +kernel
theorem d_X_end_1 : decode prog_1_method_3_code 1 = .ok (.getfield 12, 3) := by decide +kernel
theorem d_X_end_4 : decode prog_1_method_3_code 4 = .ok (.iload_n 1, 1) := by decide +kernel
theorem d_X_end_5 : decode prog_1_method_3_code 5 = .ok (.invokevirtual 126, 3) := by decide +kernel
theorem d_Text_cut_0 : decode prog_9_method_3_code 0 = .ok (.iload_n 1, 1) := by decide +kernel
theorem d_Text_cut_1 : decode prog_9_method_3_code 1 = .ok (.ifCond .lt 11, 3) := by decide +kernel
theorem d_Text_cut_4 : decode prog_9_method_3_code 4 = .ok (.iload_n 1, 1) := by decide +kernel
theorem d_Text_cut_5 : decode prog_9_method_3_code 5 = .ok (.aload_n 0, 1) := by decide +kernel
theorem d_Text_cut_6 : decode prog_9_method_3_code 6 = .ok (.getfield 15, 3) := by decide +kernel
theorem d_Text_cut_9 : decode prog_9_method_3_code 9 = .ok (.if_icmp .le 5, 3) := by decide +kernel
theorem d_Text_cut_12 : decode prog_9_method_3_code 12 = .ok (.iconst 0, 1) := by decide +kernel
theorem d_Text_cut_13 : decode prog_9_method_3_code 13 = .ok (.ireturn, 1) := by decide +kernel
theorem d_Text_cut_14 : decode prog_9_method_3_code 14 = .ok (.aload_n 0, 1) := by decide +kernel
theorem d_Text_cut_15 : decode prog_9_method_3_code 15 = .ok (.iload_n 1, 1) := by decide +kernel
theorem d_Text_cut_16 : decode prog_9_method_3_code 16 = .ok (.putfield 15, 3) := by decide +kernel
theorem d_Text_cut_19 : decode prog_9_method_3_code 19 = .ok (.iconst 1, 1) := by decide +kernel
theorem d_Text_cut_20 : decode prog_9_method_3_code 20 = .ok (.ireturn, 1) := by decide +kernel
theorem li_0 : (0 : Int32).toInt = 0 := by decide +kernel
abbrev m_c1_Text_cut : Room := { frames := 0, cells := 0, slots := 0, locals := 0 }
set_option maxHeartbeats 4000000 in
set_option maxRecDepth 100000 in
theorem c1_Text_cut (l : Launch) (G : zG) (b0 : Nat) (b1 : Int32) (b2 : Nat)  : zM l G y_Text_cut prog_9_method_3_code 2 (Option.some Jvm.ClassFile.FieldType.boolean) m_c1_Text_cut [.ref b0, .int b1] [(b0, .inr (1, [.int 0, .ref b2]))] (fun v w => (v = some (.int 0) ∧ w = [(b0, .inr (1, [.int 0, .ref b2]))] ∧ b1.toInt < 0) ∨ (v = some (.int 1) ∧ w = [(b0, .inr (1, [.int b1, .ref b2]))] ∧ 0 ≤ b1.toInt ∧ b1.toInt ≤ 0) ∨ (v = some (.int 0) ∧ w = [(b0, .inr (1, [.int 0, .ref b2]))] ∧ 0 ≤ b1.toInt ∧ 0 < b1.toInt)) := by
  refine z_start (by decide +kernel) (Nat.le_of_ble_eq_true rfl) ?_
  intro p e s m below meth c A Z hr hnm hA hP hD hS ls hl
  have Z : zC p s m _ meth c prog_9_method_3_code 2 "TraceMachines$Text" G := Z
  obtain ⟨hx, hb, hml, hown, hts, hK, hN, hlocks⟩ := id Z
  have hl : lv_has ls 2 [(0, .ref b0), (1, .int b1)] := hl
  refine lv_iload_n hx hb d_Text_cut_0 rfl (lv_at hl 1 rfl) ?_
  refine lv_if_lt (tgt := 12) hx hb d_Text_cut_1 (by decide) (fun hc_1 => ?_) (fun hc_1 => ?_)
  · simp only [fa_lt, fa_le, fa_eq, Int32.toInt_toInt64, li_0] at hc_1
    refine lv_iconst (v := 0) hx hb d_Text_cut_12 (by decide) ?_
    exact z_zret hx hb hr hlocks rfl hP hD hS (Nat.le_of_ble_eq_true rfl) (Nat.le_of_ble_eq_true rfl) d_Text_cut_13 (Or.inl ⟨rfl, rfl, by omega⟩)
  · simp only [fa_lt, fa_le, fa_eq, Int32.toInt_toInt64, li_0] at hc_1
    refine lv_iload_n hx hb d_Text_cut_4 rfl (lv_at hl 1 rfl) ?_
    refine lv_aload_n hx hb d_Text_cut_5 rfl (lv_at hl 0 rfl) ?_
    refine va_get (D := G.1) (ci := 1) (v := .int 0) (C := R_Text) (T := F_Text) (N := 2) hx hb hts i_Text hown hK hP 0 rfl rfl 0 (by decide) (hts _ q37) (fun _ h9 => h9) rfl d_Text_cut_6 ?_
    refine lv_icmp_le (tgt := 14) hx hb d_Text_cut_9 (by decide) (fun hc_2 => ?_) (fun hc_2 => ?_)
    · simp only [fa_lt, fa_le, fa_eq, Int32.toInt_toInt64, li_0] at hc_2
      refine lv_aload_n hx hb d_Text_cut_14 rfl (lv_at hl 0 rfl) ?_
      refine lv_iload_n hx hb d_Text_cut_15 rfl (lv_at hl 1 rfl) ?_
      refine va_put (D := G.1) (ci := 1) (v := .int b1) (ty := .int) (C := R_Text) (T := F_Text) (N := 2) hx hb hts i_Text t_Text t_Text_ok n_Text hown hK hP hD hS 0 rfl rfl 0 (by decide) (hts _ q37) (fun _ h9 => h9) rfl (by decide +kernel) rfl rfl (Nat.le_of_ble_eq_true rfl) d_Text_cut_16 (fun H locs hP hD hS => ?_)
      have hP : va_P G.1 classes [(b0, .inr (1, [.int b1, .ref b2]))] H := hP
      have hD := z_tie hP hD rfl
      refine lv_iconst (v := 1) hx hb d_Text_cut_19 (by decide) ?_
      exact z_zret hx hb hr hlocks rfl hP hD hS (Nat.le_of_ble_eq_true rfl) (Nat.le_of_ble_eq_true rfl) d_Text_cut_20 (Or.inr (Or.inl ⟨rfl, rfl, by omega, by omega⟩))
    · simp only [fa_lt, fa_le, fa_eq, Int32.toInt_toInt64, li_0] at hc_2
      refine lv_iconst (v := 0) hx hb d_Text_cut_12 (by decide) ?_
      exact z_zret hx hb hr hlocks rfl hP hD hS (Nat.le_of_ble_eq_true rfl) (Nat.le_of_ble_eq_true rfl) d_Text_cut_13 (Or.inr (Or.inr (⟨rfl, rfl, by omega, by omega⟩)))
theorem d_X_end_8 : decode prog_1_method_3_code 8 = .ok (.ireturn, 1) := by decide +kernel
abbrev m_t_X_end : Room := { frames := 1, cells := 0, slots := 0, locals := 21 }
set_option maxHeartbeats 4000000 in
set_option maxRecDepth 100000 in
theorem t_X_end (l : Launch) (G : zG) (b0 : Nat) (p0 : Int32) (b2 : Nat) (b3 : Nat) (b4 : Nat) (b5 : Nat) (b6 : Nat) (b7 : Nat) (b8 : Nat) (b9 : Nat) (b10 : Nat) (b11 : Nat) (b12 : Nat) (b13 : Nat) (b14 : Nat) (b15 : Nat) (b16 : Nat) (b17 : Nat) (b18 : Nat) (b19 : Nat) (b20 : Nat)  : zM l G y_X_end prog_1_method_3_code 2 (Option.some Jvm.ClassFile.FieldType.boolean) m_t_X_end [.ref b0, .int p0] [(b0, .inr (0, [.ref b2, .ref b3, .ref b4, .ref b5, .int 0, .int 0, .ref b6, .ref b7, .ref b8, .ref b9, .ref b10, .ref b11, .ref b12, .ref b13, .ref b14, .ref b15, .ref b16, .ref b17, .ref b18, .ref b19])), (b2, .inr (1, [.int 0, .ref b20]))] (fun v _ => v = some (.int (a_end p0))) := by
  refine z_start (by decide +kernel) (Nat.le_of_ble_eq_true rfl) ?_
  intro p e s m below meth c A Z hr hnm hA hP hD hS ls hl
  have Z : zC p s m _ meth c prog_1_method_3_code 2 "TraceMachines" G := Z
  obtain ⟨hx, hb, hml, hown, hts, hK, hN, hlocks⟩ := id Z
  have hl : lv_has ls 2 [(0, .ref b0), (1, .int p0)] := hl
  refine lv_aload_n hx hb d_X_end_0 rfl (lv_at hl 0 rfl) ?_
  refine va_get (D := G.1) (ci := 0) (v := .ref b2) (C := R_X) (T := F_X) (N := 20) hx hb hts i_X hown hK hP 0 rfl rfl 0 (by decide) (hts _ q417) (fun _ h9 => h9) rfl d_X_end_1 ?_
  refine lv_iload_n hx hb d_X_end_4 rfl (lv_at hl 1 rfl) ?_
  refine z_callV (index := 126) (As := [.int p0]) (rest := []) (wr := [(b0, .inr (0, [.ref b2, .ref b3, .ref b4, .ref b5, .int 0, .int 0, .ref b6, .ref b7, .ref b8, .ref b9, .ref b10, .ref b11, .ref b12, .ref b13, .ref b14, .ref b15, .ref b16, .ref b17, .ref b18, .ref b19]))]) Z (c1_Text_cut l G (b2) (p0) (b20)) hl.1 q490 q491 q492 q2 q493 ⟨by decide, by decide, by show _ = some 1; decide +kernel⟩ ⟨Nat.le_of_ble_eq_true rfl, Nat.le_of_ble_eq_true rfl⟩ ⟨Nat.le_of_ble_eq_true rfl, Nat.le_of_ble_eq_true rfl⟩ rfl (Nat.le_of_ble_eq_true rfl) d_X_end_5 hP hD hS hA 1 1 rfl rfl rfl [1] [0] rfl rfl rfl rfl (by decide) (fun v w1 H locs hw_1 hP hD hS => ?_)
  rcases hw_1 with ⟨rfl, rfl, hq_2⟩ | ⟨rfl, rfl, hq_3, hq_4⟩ | ⟨rfl, rfl, hq_5, hq_6⟩
  · try simp only [Int32.toInt_toInt64, li_0] at hq_2
    have hP : va_P G.1 classes [(b0, .inr (0, [.ref b2, .ref b3, .ref b4, .ref b5, .int 0, .int 0, .ref b6, .ref b7, .ref b8, .ref b9, .ref b10, .ref b11, .ref b12, .ref b13, .ref b14, .ref b15, .ref b16, .ref b17, .ref b18, .ref b19])), (b2, .inr (1, [.int 0, .ref b20]))] H := hP
    have hD := z_tie hP hD rfl
    refine W.widen (k := 0) (n := 0) (Nat.le_of_ble_eq_true rfl) (Nat.le_of_ble_eq_true rfl) ?_
    exact z_zret hx hb hr hlocks rfl hP hD hS (Nat.le_of_ble_eq_true rfl) (Nat.le_of_ble_eq_true rfl) d_X_end_8 (congrArg (fun z => some (Value.int z)) (by unfold a_end; (first | rfl | (repeat (first | rw [if_pos (by omega)] | rw [if_neg (by omega)])))))
  · try simp only [Int32.toInt_toInt64, li_0] at hq_3
    try simp only [Int32.toInt_toInt64, li_0] at hq_4
    have hP : va_P G.1 classes [(b0, .inr (0, [.ref b2, .ref b3, .ref b4, .ref b5, .int 0, .int 0, .ref b6, .ref b7, .ref b8, .ref b9, .ref b10, .ref b11, .ref b12, .ref b13, .ref b14, .ref b15, .ref b16, .ref b17, .ref b18, .ref b19])), (b2, .inr (1, [.int p0, .ref b20]))] H := hP
    have hD := z_tie hP hD rfl
    refine W.widen (k := 0) (n := 0) (Nat.le_of_ble_eq_true rfl) (Nat.le_of_ble_eq_true rfl) ?_
    exact z_zret hx hb hr hlocks rfl hP hD hS (Nat.le_of_ble_eq_true rfl) (Nat.le_of_ble_eq_true rfl) d_X_end_8 (congrArg (fun z => some (Value.int z)) (by unfold a_end; (first | rfl | (repeat (first | rw [if_pos (by omega)] | rw [if_neg (by omega)])))))
  · try simp only [Int32.toInt_toInt64, li_0] at hq_5
    try simp only [Int32.toInt_toInt64, li_0] at hq_6
    have hP : va_P G.1 classes [(b0, .inr (0, [.ref b2, .ref b3, .ref b4, .ref b5, .int 0, .int 0, .ref b6, .ref b7, .ref b8, .ref b9, .ref b10, .ref b11, .ref b12, .ref b13, .ref b14, .ref b15, .ref b16, .ref b17, .ref b18, .ref b19])), (b2, .inr (1, [.int 0, .ref b20]))] H := hP
    have hD := z_tie hP hD rfl
    refine W.widen (k := 0) (n := 0) (Nat.le_of_ble_eq_true rfl) (Nat.le_of_ble_eq_true rfl) ?_
    exact z_zret hx hb hr hlocks rfl hP hD hS (Nat.le_of_ble_eq_true rfl) (Nat.le_of_ble_eq_true rfl) d_X_end_8 (congrArg (fun z => some (Value.int z)) (by unfold a_end; (first | rfl | (repeat (first | rw [if_pos (by omega)] | rw [if_neg (by omega)])))))
theorem d_X_traces_0 : decode prog_1_method_4_code 0 = .ok (.aload_n 0, 1) := by decide +kernel
theorem d_X_traces_1 : decode prog_1_method_4_code 1 = .ok (.getfield 23, 3) := by decide +kernel
theorem d_X_traces_4 : decode prog_1_method_4_code 4 = .ok (.aload_n 0, 1) := by decide +kernel
theorem d_X_traces_5 : decode prog_1_method_4_code 5 = .ok (.getfield 19, 3) := by decide +kernel
theorem d_X_traces_8 : decode prog_1_method_4_code 8 = .ok (.invokevirtual 129, 3) := by decide +kernel
theorem d_Traces_copyFrom_0 : decode prog_10_method_2_code 0 = .ok (.aload_n 0, 1) := by decide +kernel
theorem d_Traces_copyFrom_1 : decode prog_10_method_2_code 1 = .ok (.aload_n 1, 1) := by decide +kernel
theorem d_Traces_copyFrom_2 : decode prog_10_method_2_code 2 = .ok (.getfield 25, 3) := by decide +kernel
theorem d_Traces_copyFrom_5 : decode prog_10_method_2_code 5 = .ok (.putfield 25, 3) := by decide +kernel
theorem d_Traces_copyFrom_8 : decode prog_10_method_2_code 8 = .ok (.aload_n 0, 1) := by decide +kernel
theorem d_Traces_copyFrom_9 : decode prog_10_method_2_code 9 = .ok (.aload_n 1, 1) := by decide +kernel
theorem d_Traces_copyFrom_10 : decode prog_10_method_2_code 10 = .ok (.getfield 9, 3) := by decide +kernel
theorem d_Traces_copyFrom_13 : decode prog_10_method_2_code 13 = .ok (.putfield 9, 3) := by decide +kernel
theorem d_Traces_copyFrom_16 : decode prog_10_method_2_code 16 = .ok (.aload_n 0, 1) := by decide +kernel
theorem d_Traces_copyFrom_17 : decode prog_10_method_2_code 17 = .ok (.aload_n 1, 1) := by decide +kernel
theorem d_Traces_copyFrom_18 : decode prog_10_method_2_code 18 = .ok (.getfield 28, 3) := by decide +kernel
theorem d_Traces_copyFrom_21 : decode prog_10_method_2_code 21 = .ok (.putfield 28, 3) := by decide +kernel
theorem d_Traces_copyFrom_24 : decode prog_10_method_2_code 24 = .ok (.aload_n 1, 1) := by decide +kernel
theorem d_Traces_copyFrom_25 : decode prog_10_method_2_code 25 = .ok (.getfield 15, 3) := by decide +kernel
theorem d_Traces_copyFrom_28 : decode prog_10_method_2_code 28 = .ok (.iconst 0, 1) := by decide +kernel
theorem d_Traces_copyFrom_29 : decode prog_10_method_2_code 29 = .ok (.aload_n 0, 1) := by decide +kernel
theorem d_Traces_copyFrom_30 : decode prog_10_method_2_code 30 = .ok (.getfield 15, 3) := by decide +kernel
theorem d_Traces_copyFrom_33 : decode prog_10_method_2_code 33 = .ok (.iconst 0, 1) := by decide +kernel
theorem d_Traces_copyFrom_34 : decode prog_10_method_2_code 34 = .ok (.aload_n 0, 1) := by decide +kernel
theorem d_Traces_copyFrom_35 : decode prog_10_method_2_code 35 = .ok (.getfield 25, 3) := by decide +kernel
theorem d_Traces_copyFrom_38 : decode prog_10_method_2_code 38 = .ok (.invokestatic 31, 3) := by decide +kernel
theorem d_Traces_copyFrom_41 : decode prog_10_method_2_code 41 = .ok (.aload_n 1, 1) := by decide +kernel
theorem d_Traces_copyFrom_42 : decode prog_10_method_2_code 42 = .ok (.getfield 19, 3) := by decide +kernel
theorem d_Traces_copyFrom_45 : decode prog_10_method_2_code 45 = .ok (.iconst 0, 1) := by decide +kernel
theorem d_Traces_copyFrom_46 : decode prog_10_method_2_code 46 = .ok (.aload_n 0, 1) := by decide +kernel
theorem d_Traces_copyFrom_47 : decode prog_10_method_2_code 47 = .ok (.getfield 19, 3) := by decide +kernel
theorem d_Traces_copyFrom_50 : decode prog_10_method_2_code 50 = .ok (.iconst 0, 1) := by decide +kernel
theorem d_Traces_copyFrom_51 : decode prog_10_method_2_code 51 = .ok (.aload_n 0, 1) := by decide +kernel
theorem d_Traces_copyFrom_52 : decode prog_10_method_2_code 52 = .ok (.getfield 25, 3) := by decide +kernel
theorem d_Traces_copyFrom_55 : decode prog_10_method_2_code 55 = .ok (.bipush 12, 2) := by decide +kernel
theorem d_Traces_copyFrom_57 : decode prog_10_method_2_code 57 = .ok (.imul, 1) := by decide +kernel
theorem d_Traces_copyFrom_58 : decode prog_10_method_2_code 58 = .ok (.invokestatic 31, 3) := by decide +kernel
theorem d_Traces_copyFrom_61 : decode prog_10_method_2_code 61 = .ok (.aload_n 1, 1) := by decide +kernel
theorem d_Traces_copyFrom_62 : decode prog_10_method_2_code 62 = .ok (.getfield 22, 3) := by decide +kernel
theorem d_Traces_copyFrom_65 : decode prog_10_method_2_code 65 = .ok (.iconst 0, 1) := by decide +kernel
theorem d_Traces_copyFrom_66 : decode prog_10_method_2_code 66 = .ok (.aload_n 0, 1) := by decide +kernel
theorem d_Traces_copyFrom_67 : decode prog_10_method_2_code 67 = .ok (.getfield 22, 3) := by decide +kernel
theorem d_Traces_copyFrom_70 : decode prog_10_method_2_code 70 = .ok (.iconst 0, 1) := by decide +kernel
theorem d_Traces_copyFrom_71 : decode prog_10_method_2_code 71 = .ok (.aload_n 0, 1) := by decide +kernel
theorem d_Traces_copyFrom_72 : decode prog_10_method_2_code 72 = .ok (.getfield 25, 3) := by decide +kernel
theorem d_Traces_copyFrom_75 : decode prog_10_method_2_code 75 = .ok (.bipush 12, 2) := by decide +kernel
theorem d_Traces_copyFrom_77 : decode prog_10_method_2_code 77 = .ok (.imul, 1) := by decide +kernel
theorem d_Traces_copyFrom_78 : decode prog_10_method_2_code 78 = .ok (.invokestatic 31, 3) := by decide +kernel
theorem d_Traces_copyFrom_81 : decode prog_10_method_2_code 81 = .ok (.return_, 1) := by decide +kernel
abbrev m_c1_Traces_copyFrom : Room := { frames := 1, cells := 0, slots := 0, locals := 18 }
set_option maxHeartbeats 4000000 in
set_option maxRecDepth 100000 in
theorem c1_Traces_copyFrom (l : Launch) (G : zG) (b0 : Nat) (b1 : Nat) (b2 : Nat) (b3 : Nat) (b4 : Nat) (b5 : Nat) (b6 : Nat) (b7 : Nat)  : zM l G y_Traces_copyFrom prog_10_method_2_code 2 (Option.none : Option Jvm.ClassFile.FieldType) m_c1_Traces_copyFrom [.ref b0, .ref b1] [(b1, .inr (2, [.int 0, .int 1, .int 0, .ref b2, .ref b3, .ref b4])), (b0, .inr (2, [.int 0, .int 1, .int 0, .ref b5, .ref b6, .ref b7])), (b2, .inl (G.2 0, 20, .inl (fun _ => 0))), (b5, .inl (G.2 0, 20, .inl (fun _ => 0))), (b3, .inl (G.2 0, 240, .inl (fun _ => 0))), (b6, .inl (G.2 0, 240, .inl (fun _ => 0))), (b4, .inl (G.2 0, 240, .inl (fun _ => 0))), (b7, .inl (G.2 0, 240, .inl (fun _ => 0)))] (fun v w => (v = none ∧ w = [(b1, .inr (2, [.int 0, .int 1, .int 0, .ref b2, .ref b3, .ref b4])), (b0, .inr (2, [.int 0, .int 1, .int 0, .ref b5, .ref b6, .ref b7])), (b2, .inl (G.2 0, 20, .inl (fun _ => 0))), (b5, .inl (G.2 0, 20, .inl (fun _ => 0))), (b3, .inl (G.2 0, 240, .inl (fun _ => 0))), (b6, .inl (G.2 0, 240, .inl (fun _ => 0))), (b4, .inl (G.2 0, 240, .inl (fun _ => 0))), (b7, .inl (G.2 0, 240, .inl (fun _ => 0)))])) := by
  refine z_start (by decide +kernel) (Nat.le_of_ble_eq_true rfl) ?_
  intro p e s m below meth c A Z hr hnm hA hP hD hS ls hl
  have Z : zC p s m _ meth c prog_10_method_2_code 2 "TraceMachines$Traces" G := Z
  obtain ⟨hx, hb, hml, hown, hts, hK, hN, hlocks⟩ := id Z
  have hl : lv_has ls 2 [(0, .ref b0), (1, .ref b1)] := hl
  refine lv_aload_n hx hb d_Traces_copyFrom_0 rfl (lv_at hl 0 rfl) ?_
  refine lv_aload_n hx hb d_Traces_copyFrom_1 rfl (lv_at hl 1 rfl) ?_
  refine va_get (D := G.1) (ci := 2) (v := .int 0) (C := R_Traces) (T := F_Traces) (N := 6) hx hb hts i_Traces hown hK hP 0 rfl rfl 0 (by decide) (hts _ q52) (fun _ h9 => h9) rfl d_Traces_copyFrom_2 ?_
  refine va_put (D := G.1) (ci := 2) (v := .int 0) (ty := .int) (C := R_Traces) (T := F_Traces) (N := 6) hx hb hts i_Traces t_Traces t_Traces_ok n_Traces hown hK hP hD hS 1 rfl rfl 0 (by decide) (hts _ q52) (fun _ h9 => h9) rfl (by decide +kernel) rfl rfl (Nat.le_of_ble_eq_true rfl) d_Traces_copyFrom_5 (fun H locs hP hD hS => ?_)
  have hP : va_P G.1 classes [(b1, .inr (2, [.int 0, .int 1, .int 0, .ref b2, .ref b3, .ref b4])), (b0, .inr (2, [.int 0, .int 1, .int 0, .ref b5, .ref b6, .ref b7])), (b2, .inl (G.2 0, 20, .inl (fun _ => 0))), (b5, .inl (G.2 0, 20, .inl (fun _ => 0))), (b3, .inl (G.2 0, 240, .inl (fun _ => 0))), (b6, .inl (G.2 0, 240, .inl (fun _ => 0))), (b4, .inl (G.2 0, 240, .inl (fun _ => 0))), (b7, .inl (G.2 0, 240, .inl (fun _ => 0)))] H := hP
  have hD := z_tie hP hD rfl
  refine lv_aload_n hx hb d_Traces_copyFrom_8 rfl (lv_at hl 0 rfl) ?_
  refine lv_aload_n hx hb d_Traces_copyFrom_9 rfl (lv_at hl 1 rfl) ?_
  refine va_get (D := G.1) (ci := 2) (v := .int 1) (C := R_Traces) (T := F_Traces) (N := 6) hx hb hts i_Traces hown hK hP 0 rfl rfl 1 (by decide) (hts _ q59) (fun _ h9 => h9) rfl d_Traces_copyFrom_10 ?_
  refine va_put (D := G.1) (ci := 2) (v := .int 1) (ty := .int) (C := R_Traces) (T := F_Traces) (N := 6) hx hb hts i_Traces t_Traces t_Traces_ok n_Traces hown hK hP hD hS 1 rfl rfl 1 (by decide) (hts _ q59) (fun _ h9 => h9) rfl (by decide +kernel) rfl rfl (Nat.le_of_ble_eq_true rfl) d_Traces_copyFrom_13 (fun H locs hP hD hS => ?_)
  have hP : va_P G.1 classes [(b1, .inr (2, [.int 0, .int 1, .int 0, .ref b2, .ref b3, .ref b4])), (b0, .inr (2, [.int 0, .int 1, .int 0, .ref b5, .ref b6, .ref b7])), (b2, .inl (G.2 0, 20, .inl (fun _ => 0))), (b5, .inl (G.2 0, 20, .inl (fun _ => 0))), (b3, .inl (G.2 0, 240, .inl (fun _ => 0))), (b6, .inl (G.2 0, 240, .inl (fun _ => 0))), (b4, .inl (G.2 0, 240, .inl (fun _ => 0))), (b7, .inl (G.2 0, 240, .inl (fun _ => 0)))] H := hP
  have hD := z_tie hP hD rfl
  refine lv_aload_n hx hb d_Traces_copyFrom_16 rfl (lv_at hl 0 rfl) ?_
  refine lv_aload_n hx hb d_Traces_copyFrom_17 rfl (lv_at hl 1 rfl) ?_
  refine va_get (D := G.1) (ci := 2) (v := .int 0) (C := R_Traces) (T := F_Traces) (N := 6) hx hb hts i_Traces hown hK hP 0 rfl rfl 2 (by decide) (hts _ q61) (fun _ h9 => h9) rfl d_Traces_copyFrom_18 ?_
  refine va_put (D := G.1) (ci := 2) (v := .int 0) (ty := .int) (C := R_Traces) (T := F_Traces) (N := 6) hx hb hts i_Traces t_Traces t_Traces_ok n_Traces hown hK hP hD hS 1 rfl rfl 2 (by decide) (hts _ q61) (fun _ h9 => h9) rfl (by decide +kernel) rfl rfl (Nat.le_of_ble_eq_true rfl) d_Traces_copyFrom_21 (fun H locs hP hD hS => ?_)
  have hP : va_P G.1 classes [(b1, .inr (2, [.int 0, .int 1, .int 0, .ref b2, .ref b3, .ref b4])), (b0, .inr (2, [.int 0, .int 1, .int 0, .ref b5, .ref b6, .ref b7])), (b2, .inl (G.2 0, 20, .inl (fun _ => 0))), (b5, .inl (G.2 0, 20, .inl (fun _ => 0))), (b3, .inl (G.2 0, 240, .inl (fun _ => 0))), (b6, .inl (G.2 0, 240, .inl (fun _ => 0))), (b4, .inl (G.2 0, 240, .inl (fun _ => 0))), (b7, .inl (G.2 0, 240, .inl (fun _ => 0)))] H := hP
  have hD := z_tie hP hD rfl
  refine lv_aload_n hx hb d_Traces_copyFrom_24 rfl (lv_at hl 1 rfl) ?_
  refine va_get (D := G.1) (ci := 2) (v := .ref b2) (C := R_Traces) (T := F_Traces) (N := 6) hx hb hts i_Traces hown hK hP 0 rfl rfl 3 (by decide) (hts _ q63) (fun _ h9 => h9) rfl d_Traces_copyFrom_25 ?_
  refine lv_iconst (v := 0) hx hb d_Traces_copyFrom_28 (by decide) ?_
  refine lv_aload_n hx hb d_Traces_copyFrom_29 rfl (lv_at hl 0 rfl) ?_
  refine va_get (D := G.1) (ci := 2) (v := .ref b5) (C := R_Traces) (T := F_Traces) (N := 6) hx hb hts i_Traces hown hK hP 1 rfl rfl 3 (by decide) (hts _ q63) (fun _ h9 => h9) rfl d_Traces_copyFrom_30 ?_
  refine lv_iconst (v := 0) hx hb d_Traces_copyFrom_33 (by decide) ?_
  refine lv_aload_n hx hb d_Traces_copyFrom_34 rfl (lv_at hl 0 rfl) ?_
  refine va_get (D := G.1) (ci := 2) (v := .int 0) (C := R_Traces) (T := F_Traces) (N := 6) hx hb hts i_Traces hown hK hP 1 rfl rfl 0 (by decide) (hts _ q52) (fun _ h9 => h9) rfl d_Traces_copyFrom_35 ?_
  refine va_copyi hx hb (hml.trans hl.1.symm) hown (hts _ q502) (hts _ q504) (hts _ q503) (hts _ q15) hK hP hD hS 2 3 0 0 rfl rfl rfl rfl rfl (by decide +kernel) (by decide +kernel) (by decide +kernel) (by decide +kernel) (by decide +kernel) (fun _ _ => rfl) (Nat.le_of_ble_eq_true rfl) (Nat.le_of_ble_eq_true rfl) d_Traces_copyFrom_38 (fun H locs hP hD hS => ?_)
  have hP : va_P G.1 classes [(b1, .inr (2, [.int 0, .int 1, .int 0, .ref b2, .ref b3, .ref b4])), (b0, .inr (2, [.int 0, .int 1, .int 0, .ref b5, .ref b6, .ref b7])), (b2, .inl (G.2 0, 20, .inl (fun _ => 0))), (b5, .inl (G.2 0, 20, .inl (va_cpy (fun _ => 0) (fun _ => 0) 0 0 0))), (b3, .inl (G.2 0, 240, .inl (fun _ => 0))), (b6, .inl (G.2 0, 240, .inl (fun _ => 0))), (b4, .inl (G.2 0, 240, .inl (fun _ => 0))), (b7, .inl (G.2 0, 240, .inl (fun _ => 0)))] H := hP
  have hD := z_tie hP hD rfl
  rw [z_cpy0] at hP hD
  have hP : va_P G.1 classes [(b1, .inr (2, [.int 0, .int 1, .int 0, .ref b2, .ref b3, .ref b4])), (b0, .inr (2, [.int 0, .int 1, .int 0, .ref b5, .ref b6, .ref b7])), (b2, .inl (G.2 0, 20, .inl (fun _ => 0))), (b5, .inl (G.2 0, 20, .inl (fun _ => 0))), (b3, .inl (G.2 0, 240, .inl (fun _ => 0))), (b6, .inl (G.2 0, 240, .inl (fun _ => 0))), (b4, .inl (G.2 0, 240, .inl (fun _ => 0))), (b7, .inl (G.2 0, 240, .inl (fun _ => 0)))] H := hP
  have hD := z_tie hP hD rfl
  refine lv_aload_n hx hb d_Traces_copyFrom_41 rfl (lv_at hl 1 rfl) ?_
  refine va_get (D := G.1) (ci := 2) (v := .ref b3) (C := R_Traces) (T := F_Traces) (N := 6) hx hb hts i_Traces hown hK hP 0 rfl rfl 4 (by decide) (hts _ q72) (fun _ h9 => h9) rfl d_Traces_copyFrom_42 ?_
  refine lv_iconst (v := 0) hx hb d_Traces_copyFrom_45 (by decide) ?_
  refine lv_aload_n hx hb d_Traces_copyFrom_46 rfl (lv_at hl 0 rfl) ?_
  refine va_get (D := G.1) (ci := 2) (v := .ref b6) (C := R_Traces) (T := F_Traces) (N := 6) hx hb hts i_Traces hown hK hP 1 rfl rfl 4 (by decide) (hts _ q72) (fun _ h9 => h9) rfl d_Traces_copyFrom_47 ?_
  refine lv_iconst (v := 0) hx hb d_Traces_copyFrom_50 (by decide) ?_
  refine lv_aload_n hx hb d_Traces_copyFrom_51 rfl (lv_at hl 0 rfl) ?_
  refine va_get (D := G.1) (ci := 2) (v := .int 0) (C := R_Traces) (T := F_Traces) (N := 6) hx hb hts i_Traces hown hK hP 1 rfl rfl 0 (by decide) (hts _ q52) (fun _ h9 => h9) rfl d_Traces_copyFrom_52 ?_
  refine lv_bipush (v := 12) hx hb d_Traces_copyFrom_55 (by decide) ?_
  refine lv_imul hx hb d_Traces_copyFrom_57 ?_
  refine z_topi (y := 0) (by decide +kernel) ?_
  refine va_copyi hx hb (hml.trans hl.1.symm) hown (hts _ q502) (hts _ q504) (hts _ q503) (hts _ q15) hK hP hD hS 4 5 0 0 rfl rfl rfl rfl rfl (by decide +kernel) (by decide +kernel) (by decide +kernel) (by decide +kernel) (by decide +kernel) (fun _ _ => rfl) (Nat.le_of_ble_eq_true rfl) (Nat.le_of_ble_eq_true rfl) d_Traces_copyFrom_58 (fun H locs hP hD hS => ?_)
  have hP : va_P G.1 classes [(b1, .inr (2, [.int 0, .int 1, .int 0, .ref b2, .ref b3, .ref b4])), (b0, .inr (2, [.int 0, .int 1, .int 0, .ref b5, .ref b6, .ref b7])), (b2, .inl (G.2 0, 20, .inl (fun _ => 0))), (b5, .inl (G.2 0, 20, .inl (fun _ => 0))), (b3, .inl (G.2 0, 240, .inl (fun _ => 0))), (b6, .inl (G.2 0, 240, .inl (va_cpy (fun _ => 0) (fun _ => 0) 0 0 0))), (b4, .inl (G.2 0, 240, .inl (fun _ => 0))), (b7, .inl (G.2 0, 240, .inl (fun _ => 0)))] H := hP
  have hD := z_tie hP hD rfl
  rw [z_cpy0] at hP hD
  have hP : va_P G.1 classes [(b1, .inr (2, [.int 0, .int 1, .int 0, .ref b2, .ref b3, .ref b4])), (b0, .inr (2, [.int 0, .int 1, .int 0, .ref b5, .ref b6, .ref b7])), (b2, .inl (G.2 0, 20, .inl (fun _ => 0))), (b5, .inl (G.2 0, 20, .inl (fun _ => 0))), (b3, .inl (G.2 0, 240, .inl (fun _ => 0))), (b6, .inl (G.2 0, 240, .inl (fun _ => 0))), (b4, .inl (G.2 0, 240, .inl (fun _ => 0))), (b7, .inl (G.2 0, 240, .inl (fun _ => 0)))] H := hP
  have hD := z_tie hP hD rfl
  refine lv_aload_n hx hb d_Traces_copyFrom_61 rfl (lv_at hl 1 rfl) ?_
  refine va_get (D := G.1) (ci := 2) (v := .ref b4) (C := R_Traces) (T := F_Traces) (N := 6) hx hb hts i_Traces hown hK hP 0 rfl rfl 5 (by decide) (hts _ q73) (fun _ h9 => h9) rfl d_Traces_copyFrom_62 ?_
  refine lv_iconst (v := 0) hx hb d_Traces_copyFrom_65 (by decide) ?_
  refine lv_aload_n hx hb d_Traces_copyFrom_66 rfl (lv_at hl 0 rfl) ?_
  refine va_get (D := G.1) (ci := 2) (v := .ref b7) (C := R_Traces) (T := F_Traces) (N := 6) hx hb hts i_Traces hown hK hP 1 rfl rfl 5 (by decide) (hts _ q73) (fun _ h9 => h9) rfl d_Traces_copyFrom_67 ?_
  refine lv_iconst (v := 0) hx hb d_Traces_copyFrom_70 (by decide) ?_
  refine lv_aload_n hx hb d_Traces_copyFrom_71 rfl (lv_at hl 0 rfl) ?_
  refine va_get (D := G.1) (ci := 2) (v := .int 0) (C := R_Traces) (T := F_Traces) (N := 6) hx hb hts i_Traces hown hK hP 1 rfl rfl 0 (by decide) (hts _ q52) (fun _ h9 => h9) rfl d_Traces_copyFrom_72 ?_
  refine lv_bipush (v := 12) hx hb d_Traces_copyFrom_75 (by decide) ?_
  refine lv_imul hx hb d_Traces_copyFrom_77 ?_
  refine z_topi (y := 0) (by decide +kernel) ?_
  refine va_copyi hx hb (hml.trans hl.1.symm) hown (hts _ q502) (hts _ q504) (hts _ q503) (hts _ q15) hK hP hD hS 6 7 0 0 rfl rfl rfl rfl rfl (by decide +kernel) (by decide +kernel) (by decide +kernel) (by decide +kernel) (by decide +kernel) (fun _ _ => rfl) (Nat.le_of_ble_eq_true rfl) (Nat.le_of_ble_eq_true rfl) d_Traces_copyFrom_78 (fun H locs hP hD hS => ?_)
  have hP : va_P G.1 classes [(b1, .inr (2, [.int 0, .int 1, .int 0, .ref b2, .ref b3, .ref b4])), (b0, .inr (2, [.int 0, .int 1, .int 0, .ref b5, .ref b6, .ref b7])), (b2, .inl (G.2 0, 20, .inl (fun _ => 0))), (b5, .inl (G.2 0, 20, .inl (fun _ => 0))), (b3, .inl (G.2 0, 240, .inl (fun _ => 0))), (b6, .inl (G.2 0, 240, .inl (fun _ => 0))), (b4, .inl (G.2 0, 240, .inl (fun _ => 0))), (b7, .inl (G.2 0, 240, .inl (va_cpy (fun _ => 0) (fun _ => 0) 0 0 0)))] H := hP
  have hD := z_tie hP hD rfl
  rw [z_cpy0] at hP hD
  have hP : va_P G.1 classes [(b1, .inr (2, [.int 0, .int 1, .int 0, .ref b2, .ref b3, .ref b4])), (b0, .inr (2, [.int 0, .int 1, .int 0, .ref b5, .ref b6, .ref b7])), (b2, .inl (G.2 0, 20, .inl (fun _ => 0))), (b5, .inl (G.2 0, 20, .inl (fun _ => 0))), (b3, .inl (G.2 0, 240, .inl (fun _ => 0))), (b6, .inl (G.2 0, 240, .inl (fun _ => 0))), (b4, .inl (G.2 0, 240, .inl (fun _ => 0))), (b7, .inl (G.2 0, 240, .inl (fun _ => 0)))] H := hP
  have hD := z_tie hP hD rfl
  exact z_vret hx hb hr hlocks hP hD hS (Nat.le_of_ble_eq_true rfl) (Nat.le_of_ble_eq_true rfl) d_Traces_copyFrom_81 ⟨rfl, rfl⟩
theorem d_X_traces_11 : decode prog_1_method_4_code 11 = .ok (.aload_n 0, 1) := by decide +kernel
theorem d_X_traces_12 : decode prog_1_method_4_code 12 = .ok (.getfield 12, 3) := by decide +kernel
theorem d_X_traces_15 : decode prog_1_method_4_code 15 = .ok (.aload_n 0, 1) := by decide +kernel
theorem d_X_traces_16 : decode prog_1_method_4_code 16 = .ok (.getfield 23, 3) := by decide +kernel
theorem d_X_traces_19 : decode prog_1_method_4_code 19 = .ok (.iconst 0, 1) := by decide +kernel
theorem d_X_traces_20 : decode prog_1_method_4_code 20 = .ok (.invokevirtual 133, 3) := by decide +kernel
theorem d_Text_parse_0 : decode prog_9_method_4_code 0 = .ok (.iconst 0, 1) := by decide +kernel
theorem d_Text_parse_1 : decode prog_9_method_4_code 1 = .ok (.istore_n 3, 1) := by decide +kernel
theorem d_Text_parse_2 : decode prog_9_method_4_code 2 = .ok (.iconst 0, 1) := by decide +kernel
theorem d_Text_parse_3 : decode prog_9_method_4_code 3 = .ok (.istore 4, 2) := by decide +kernel
theorem d_Text_parse_5 : decode prog_9_method_4_code 5 = .ok (.iconst 0, 1) := by decide +kernel
theorem d_Text_parse_6 : decode prog_9_method_4_code 6 = .ok (.istore 5, 2) := by decide +kernel
theorem d_Text_parse_8 : decode prog_9_method_4_code 8 = .ok (.iload 5, 2) := by decide +kernel
theorem d_Text_parse_10 : decode prog_9_method_4_code 10 = .ok (.aload_n 0, 1) := by decide +kernel
theorem d_Text_parse_11 : decode prog_9_method_4_code 11 = .ok (.getfield 15, 3) := by decide +kernel
theorem d_Text_parse_14 : decode prog_9_method_4_code 14 = .ok (.if_icmp .ge 129, 3) := by decide +kernel
theorem d_Text_parse_143 : decode prog_9_method_4_code 143 = .ok (.iload_n 3, 1) := by decide +kernel
theorem d_Text_parse_144 : decode prog_9_method_4_code 144 = .ok (.ifCond .ne 10, 3) := by decide +kernel
theorem d_Text_parse_147 : decode prog_9_method_4_code 147 = .ok (.aload_n 1, 1) := by decide +kernel
theorem d_Text_parse_148 : decode prog_9_method_4_code 148 = .ok (.invokevirtual 25, 3) := by decide +kernel
theorem d_Traces_open_0 : decode prog_10_method_7_code 0 = .ok (.aload_n 0, 1) := by decide +kernel
theorem d_Traces_open_1 : decode prog_10_method_7_code 1 = .ok (.getfield 25, 3) := by decide +kernel
theorem d_Traces_open_4 : decode prog_10_method_7_code 4 = .ok (.bipush 20, 2) := by decide +kernel
theorem d_Traces_open_6 : decode prog_10_method_7_code 6 = .ok (.if_icmp .ne 5, 3) := by decide +kernel
theorem d_Traces_open_11 : decode prog_10_method_7_code 11 = .ok (.aload_n 0, 1) := by decide +kernel
theorem d_Traces_open_12 : decode prog_10_method_7_code 12 = .ok (.getfield 15, 3) := by decide +kernel
theorem d_Traces_open_15 : decode prog_10_method_7_code 15 = .ok (.aload_n 0, 1) := by decide +kernel
theorem d_Traces_open_16 : decode prog_10_method_7_code 16 = .ok (.getfield 25, 3) := by decide +kernel
theorem d_Traces_open_19 : decode prog_10_method_7_code 19 = .ok (.iconst 0, 1) := by decide +kernel
theorem d_Traces_open_20 : decode prog_10_method_7_code 20 = .ok (.iastore, 1) := by decide +kernel
theorem d_Traces_open_21 : decode prog_10_method_7_code 21 = .ok (.aload_n 0, 1) := by decide +kernel
theorem d_Traces_open_22 : decode prog_10_method_7_code 22 = .ok (.dup, 1) := by decide +kernel
theorem d_Traces_open_23 : decode prog_10_method_7_code 23 = .ok (.getfield 25, 3) := by decide +kernel
theorem d_Traces_open_26 : decode prog_10_method_7_code 26 = .ok (.iconst 1, 1) := by decide +kernel
theorem d_Traces_open_27 : decode prog_10_method_7_code 27 = .ok (.iadd, 1) := by decide +kernel
theorem d_Traces_open_28 : decode prog_10_method_7_code 28 = .ok (.putfield 25, 3) := by decide +kernel
theorem d_Traces_open_31 : decode prog_10_method_7_code 31 = .ok (.iconst 1, 1) := by decide +kernel
theorem d_Traces_open_32 : decode prog_10_method_7_code 32 = .ok (.ireturn, 1) := by decide +kernel
abbrev m_c1_Traces_open : Room := { frames := 0, cells := 0, slots := 0, locals := 0 }
set_option maxHeartbeats 4000000 in
set_option maxRecDepth 100000 in
theorem c1_Traces_open (l : Launch) (G : zG) (b0 : Nat) (b1 : Nat) (b2 : Nat) (b3 : Nat)  : zM l G y_Traces_open prog_10_method_7_code 1 (Option.some Jvm.ClassFile.FieldType.boolean) m_c1_Traces_open [.ref b0] [(b0, .inr (2, [.int 0, .int 1, .int 0, .ref b1, .ref b2, .ref b3])), (b1, .inl (G.2 0, 20, .inl (fun _ => 0)))] (fun v w => (v = some (.int 1) ∧ w = [(b0, .inr (2, [.int 1, .int 1, .int 0, .ref b1, .ref b2, .ref b3])), (b1, .inl (G.2 0, 20, .inl (upd (fun _ => 0) 0 0)))])) := by
  refine z_start (by decide +kernel) (Nat.le_of_ble_eq_true rfl) ?_
  intro p e s m below meth c A Z hr hnm hA hP hD hS ls hl
  have Z : zC p s m _ meth c prog_10_method_7_code 1 "TraceMachines$Traces" G := Z
  obtain ⟨hx, hb, hml, hown, hts, hK, hN, hlocks⟩ := id Z
  have hl : lv_has ls 1 [(0, .ref b0)] := hl
  refine lv_aload_n hx hb d_Traces_open_0 rfl (lv_at hl 0 rfl) ?_
  refine va_get (D := G.1) (ci := 2) (v := .int 0) (C := R_Traces) (T := F_Traces) (N := 6) hx hb hts i_Traces hown hK hP 0 rfl rfl 0 (by decide) (hts _ q52) (fun _ h9 => h9) rfl d_Traces_open_1 ?_
  refine lv_bipush (v := 20) hx hb d_Traces_open_4 (by decide) ?_
  refine lv_icmp_ne (tgt := 11) hx hb d_Traces_open_6 (by decide) (fun _ => ?_) (fun hc => absurd hc (by decide +kernel))
  refine lv_aload_n hx hb d_Traces_open_11 rfl (lv_at hl 0 rfl) ?_
  refine va_get (D := G.1) (ci := 2) (v := .ref b1) (C := R_Traces) (T := F_Traces) (N := 6) hx hb hts i_Traces hown hK hP 0 rfl rfl 3 (by decide) (hts _ q63) (fun _ h9 => h9) rfl d_Traces_open_12 ?_
  refine lv_aload_n hx hb d_Traces_open_15 rfl (lv_at hl 0 rfl) ?_
  refine va_get (D := G.1) (ci := 2) (v := .int 0) (C := R_Traces) (T := F_Traces) (N := 6) hx hb hts i_Traces hown hK hP 0 rfl rfl 0 (by decide) (hts _ q52) (fun _ h9 => h9) rfl d_Traces_open_16 ?_
  refine lv_iconst (v := 0) hx hb d_Traces_open_19 (by decide) ?_
  refine va_iast hx hb hK hP hD hS 1 0 rfl rfl (i := 0) (z_in rfl) d_Traces_open_20 (fun H locs hP hD hS => ?_)
  have hP : va_P G.1 classes [(b0, .inr (2, [.int 0, .int 1, .int 0, .ref b1, .ref b2, .ref b3])), (b1, .inl (G.2 0, 20, .inl (upd (fun _ => 0) 0 0)))] H := hP
  have hD := z_tie hP hD rfl
  refine lv_aload_n hx hb d_Traces_open_21 rfl (lv_at hl 0 rfl) ?_
  refine lv_dup hx hb d_Traces_open_22 rfl ?_
  refine va_get (D := G.1) (ci := 2) (v := .int 0) (C := R_Traces) (T := F_Traces) (N := 6) hx hb hts i_Traces hown hK hP 0 rfl rfl 0 (by decide) (hts _ q52) (fun _ h9 => h9) rfl d_Traces_open_23 ?_
  refine lv_iconst (v := 1) hx hb d_Traces_open_26 (by decide) ?_
  refine lv_iadd hx hb d_Traces_open_27 ?_
  refine z_topi (y := 1) (by decide +kernel) ?_
  refine va_put (D := G.1) (ci := 2) (v := .int 1) (ty := .int) (C := R_Traces) (T := F_Traces) (N := 6) hx hb hts i_Traces t_Traces t_Traces_ok n_Traces hown hK hP hD hS 0 rfl rfl 0 (by decide) (hts _ q52) (fun _ h9 => h9) rfl (by decide +kernel) rfl rfl (Nat.le_of_ble_eq_true rfl) d_Traces_open_28 (fun H locs hP hD hS => ?_)
  have hP : va_P G.1 classes [(b0, .inr (2, [.int 1, .int 1, .int 0, .ref b1, .ref b2, .ref b3])), (b1, .inl (G.2 0, 20, .inl (upd (fun _ => 0) 0 0)))] H := hP
  have hD := z_tie hP hD rfl
  refine lv_iconst (v := 1) hx hb d_Traces_open_31 (by decide) ?_
  exact z_zret hx hb hr hlocks rfl hP hD hS (Nat.le_of_ble_eq_true rfl) (Nat.le_of_ble_eq_true rfl) d_Traces_open_32 ⟨rfl, rfl⟩
theorem d_Text_parse_151 : decode prog_9_method_4_code 151 = .ok (.ifCond .eq 7, 3) := by decide +kernel
theorem d_Text_parse_154 : decode prog_9_method_4_code 154 = .ok (.iconst (-1), 1) := by decide +kernel
theorem d_Text_parse_155 : decode prog_9_method_4_code 155 = .ok (.goto 7, 3) := by decide +kernel
theorem d_Text_parse_162 : decode prog_9_method_4_code 162 = .ok (.ireturn, 1) := by decide +kernel
abbrev m_c1_Text_parse : Room := { frames := 1, cells := 0, slots := 0, locals := 20 }
set_option maxHeartbeats 4000000 in
set_option maxRecDepth 100000 in
theorem c1_Text_parse (l : Launch) (G : zG) (b0 : Nat) (b1 : Nat) (b2 : Nat) (b3 : Nat) (b4 : Nat) (b5 : Nat)  : zM l G y_Text_parse prog_9_method_4_code 7 (Option.some Jvm.ClassFile.FieldType.int) m_c1_Text_parse [.ref b0, .ref b1, .int 0] [(b0, .inr (1, [.int 0, .ref b2])), (b1, .inr (2, [.int 0, .int 1, .int 0, .ref b3, .ref b4, .ref b5])), (b3, .inl (G.2 0, 20, .inl (fun _ => 0)))] (fun v w => (v = some (.int (-1)) ∧ w = [(b0, .inr (1, [.int 0, .ref b2])), (b1, .inr (2, [.int 1, .int 1, .int 0, .ref b3, .ref b4, .ref b5])), (b3, .inl (G.2 0, 20, .inl (upd (fun _ => 0) 0 0)))])) := by
  refine z_start (by decide +kernel) (Nat.le_of_ble_eq_true rfl) ?_
  intro p e s m below meth c A Z hr hnm hA hP hD hS ls hl
  have Z : zC p s m _ meth c prog_9_method_4_code 7 "TraceMachines$Text" G := Z
  obtain ⟨hx, hb, hml, hown, hts, hK, hN, hlocks⟩ := id Z
  have hl : lv_has ls 7 [(0, .ref b0), (1, .ref b1), (2, .int 0)] := hl
  refine lv_iconst (v := 0) hx hb d_Text_parse_0 (by decide) ?_
  refine lv_istore_n (lv' := [(3, .int 0), (0, .ref b0), (1, .ref b1), (2, .int 0)]) hx hb d_Text_parse_1 rfl hl (by decide) rfl (fun ls hl => ?_)
  refine lv_iconst (v := 0) hx hb d_Text_parse_2 (by decide) ?_
  refine lv_istore (lv' := [(4, .int 0), (3, .int 0), (0, .ref b0), (1, .ref b1), (2, .int 0)]) hx hb d_Text_parse_3 hl (by decide) rfl (fun ls hl => ?_)
  refine lv_iconst (v := 0) hx hb d_Text_parse_5 (by decide) ?_
  refine lv_istore (lv' := [(5, .int 0), (4, .int 0), (3, .int 0), (0, .ref b0), (1, .ref b1), (2, .int 0)]) hx hb d_Text_parse_6 hl (by decide) rfl (fun ls hl => ?_)
  refine lv_iload hx hb d_Text_parse_8 (lv_at hl 0 rfl) ?_
  refine lv_aload_n hx hb d_Text_parse_10 rfl (lv_at hl 3 rfl) ?_
  refine va_get (D := G.1) (ci := 1) (v := .int 0) (C := R_Text) (T := F_Text) (N := 2) hx hb hts i_Text hown hK hP 0 rfl rfl 0 (by decide) (hts _ q37) (fun _ h9 => h9) rfl d_Text_parse_11 ?_
  refine lv_icmp_ge (tgt := 143) hx hb d_Text_parse_14 (by decide) (fun _ => ?_) (fun hc => absurd hc (by decide +kernel))
  refine lv_iload_n hx hb d_Text_parse_143 rfl (lv_at hl 2 rfl) ?_
  refine lv_if_ne (tgt := 154) hx hb d_Text_parse_144 (by decide) (fun hc => absurd hc (by decide +kernel)) (fun _ => ?_)
  refine lv_aload_n hx hb d_Text_parse_147 rfl (lv_at hl 4 rfl) ?_
  refine z_callV (index := 25) (As := []) (rest := []) (wr := [(b0, .inr (1, [.int 0, .ref b2]))]) Z (c1_Traces_open l G (b1) (b3) (b4) (b5)) hl.1 q513 q514 q515 q3 q516 ⟨by decide, by decide, by show _ = some 0; decide +kernel⟩ ⟨Nat.le_of_ble_eq_true rfl, Nat.le_of_ble_eq_true rfl⟩ ⟨Nat.le_of_ble_eq_true rfl, Nat.le_of_ble_eq_true rfl⟩ rfl (Nat.le_of_ble_eq_true rfl) d_Text_parse_148 hP hD hS hA 1 2 rfl rfl rfl [1, 2] [0] rfl rfl rfl rfl (by decide) (fun v w1 H locs hw_1 hP hD hS => ?_)
  obtain ⟨rfl, rfl⟩ := hw_1
  have hP : va_P G.1 classes [(b0, .inr (1, [.int 0, .ref b2])), (b1, .inr (2, [.int 1, .int 1, .int 0, .ref b3, .ref b4, .ref b5])), (b3, .inl (G.2 0, 20, .inl (upd (fun _ => 0) 0 0)))] H := hP
  have hD := z_tie hP hD rfl
  refine W.widen (k := 0) (n := 0) (Nat.le_of_ble_eq_true rfl) (Nat.le_of_ble_eq_true rfl) ?_
  refine lv_if_eq (tgt := 158) hx hb d_Text_parse_151 (by decide) (fun hc => absurd hc (by decide +kernel)) (fun _ => ?_)
  refine lv_iconst (v := (-1)) hx hb d_Text_parse_154 (by decide) ?_
  refine lv_goto (tgt := 162) hx hb d_Text_parse_155 (by decide) ?_
  exact z_iret hx hb hr hlocks hP hD hS (Nat.le_of_ble_eq_true rfl) (Nat.le_of_ble_eq_true rfl) d_Text_parse_162 ⟨rfl, rfl⟩
theorem d_X_traces_23 : decode prog_1_method_4_code 23 = .ok (.istore_n 1, 1) := by decide +kernel
theorem d_X_traces_24 : decode prog_1_method_4_code 24 = .ok (.aload_n 0, 1) := by decide +kernel
theorem d_X_traces_25 : decode prog_1_method_4_code 25 = .ok (.getfield 12, 3) := by decide +kernel
theorem d_X_traces_28 : decode prog_1_method_4_code 28 = .ok (.iconst 0, 1) := by decide +kernel
theorem d_X_traces_29 : decode prog_1_method_4_code 29 = .ok (.invokevirtual 126, 3) := by decide +kernel
theorem d_X_traces_32 : decode prog_1_method_4_code 32 = .ok (.pop, 1) := by decide +kernel
theorem d_X_traces_33 : decode prog_1_method_4_code 33 = .ok (.iload_n 1, 1) := by decide +kernel
theorem d_X_traces_34 : decode prog_1_method_4_code 34 = .ok (.iconst (-1), 1) := by decide +kernel
theorem d_X_traces_35 : decode prog_1_method_4_code 35 = .ok (.if_icmp .eq 9, 3) := by decide +kernel
theorem d_X_traces_44 : decode prog_1_method_4_code 44 = .ok (.aload_n 0, 1) := by decide +kernel
theorem d_X_traces_45 : decode prog_1_method_4_code 45 = .ok (.invokevirtual 137, 3) := by decide +kernel
theorem d_X_remember_0 : decode prog_1_method_35_code 0 = .ok (.aload_n 0, 1) := by decide +kernel
theorem d_X_remember_1 : decode prog_1_method_35_code 1 = .ok (.getfield 26, 3) := by decide +kernel
theorem d_X_remember_4 : decode prog_1_method_35_code 4 = .ok (.aload_n 0, 1) := by decide +kernel
theorem d_X_remember_5 : decode prog_1_method_35_code 5 = .ok (.getfield 165, 3) := by decide +kernel
theorem d_X_remember_8 : decode prog_1_method_35_code 8 = .ok (.aaload, 1) := by decide +kernel
theorem d_X_remember_9 : decode prog_1_method_35_code 9 = .ok (.aload_n 0, 1) := by decide +kernel
theorem d_X_remember_10 : decode prog_1_method_35_code 10 = .ok (.getfield 19, 3) := by decide +kernel
theorem d_X_remember_13 : decode prog_1_method_35_code 13 = .ok (.invokevirtual 129, 3) := by decide +kernel
theorem d_X_remember_16 : decode prog_1_method_35_code 16 = .ok (.aload_n 0, 1) := by decide +kernel
theorem d_X_remember_17 : decode prog_1_method_35_code 17 = .ok (.aload_n 0, 1) := by decide +kernel
theorem d_X_remember_18 : decode prog_1_method_35_code 18 = .ok (.getfield 165, 3) := by decide +kernel
theorem d_X_remember_21 : decode prog_1_method_35_code 21 = .ok (.bipush 7, 2) := by decide +kernel
theorem d_X_remember_23 : decode prog_1_method_35_code 23 = .ok (.if_icmp .ne 7, 3) := by decide +kernel
theorem d_X_remember_30 : decode prog_1_method_35_code 30 = .ok (.aload_n 0, 1) := by decide +kernel
theorem d_X_remember_31 : decode prog_1_method_35_code 31 = .ok (.getfield 165, 3) := by decide +kernel
theorem d_X_remember_34 : decode prog_1_method_35_code 34 = .ok (.iconst 1, 1) := by decide +kernel
theorem d_X_remember_35 : decode prog_1_method_35_code 35 = .ok (.iadd, 1) := by decide +kernel
theorem d_X_remember_36 : decode prog_1_method_35_code 36 = .ok (.putfield 165, 3) := by decide +kernel
theorem d_X_remember_39 : decode prog_1_method_35_code 39 = .ok (.aload_n 0, 1) := by decide +kernel
theorem d_X_remember_40 : decode prog_1_method_35_code 40 = .ok (.getfield 162, 3) := by decide +kernel
theorem d_X_remember_43 : decode prog_1_method_35_code 43 = .ok (.bipush 8, 2) := by decide +kernel
theorem d_X_remember_45 : decode prog_1_method_35_code 45 = .ok (.if_icmp .ge 13, 3) := by decide +kernel
theorem d_X_remember_48 : decode prog_1_method_35_code 48 = .ok (.aload_n 0, 1) := by decide +kernel
theorem d_X_remember_49 : decode prog_1_method_35_code 49 = .ok (.dup, 1) := by decide +kernel
theorem d_X_remember_50 : decode prog_1_method_35_code 50 = .ok (.getfield 162, 3) := by decide +kernel
theorem d_X_remember_53 : decode prog_1_method_35_code 53 = .ok (.iconst 1, 1) := by decide +kernel
theorem d_X_remember_54 : decode prog_1_method_35_code 54 = .ok (.iadd, 1) := by decide +kernel
theorem d_X_remember_55 : decode prog_1_method_35_code 55 = .ok (.putfield 162, 3) := by decide +kernel
theorem d_X_remember_58 : decode prog_1_method_35_code 58 = .ok (.return_, 1) := by decide +kernel
abbrev m_c1_X_remember : Room := { frames := 2, cells := 0, slots := 0, locals := 39 }
set_option maxHeartbeats 4000000 in
set_option maxRecDepth 100000 in
theorem c1_X_remember (l : Launch) (G : zG) (b0 : Nat) (b1 : Nat) (b2 : Nat) (b3 : Nat) (b4 : Nat) (b5 : Nat) (b6 : Nat) (b7 : Nat) (b8 : Nat) (b9 : Nat) (b10 : Nat) (b11 : Nat) (b12 : Nat) (b13 : Nat) (b14 : Nat) (b15 : Nat) (b16 : Nat) (b17 : Nat) (b18 : Nat) (b19 : Nat) (b20 : Nat) (b21 : Nat) (b22 : Nat) (b23 : Nat) (b24 : Nat) (b25 : Nat) (b26 : Nat) (b27 : Nat) (b28 : Nat) (b29 : Nat) (b30 : Nat) (b31 : Nat) (b32 : Nat)  : zM l G y_X_remember prog_1_method_35_code 1 (Option.none : Option Jvm.ClassFile.FieldType) m_c1_X_remember [.ref b0] [(b0, .inr (0, [.ref b1, .ref b2, .ref b3, .ref b4, .int 0, .int 0, .ref b5, .ref b6, .ref b7, .ref b8, .ref b9, .ref b10, .ref b11, .ref b12, .ref b13, .ref b14, .ref b15, .ref b16, .ref b17, .ref b18])), (b4, .inl (G.2 5, 8, .inr (.inr (.inr (.inr (va_up (va_up (va_up (va_up (va_up (va_up (va_up (va_up (fun _ => none) 0 (some b19)) 1 (some b20)) 2 (some b21)) 3 (some b22)) 4 (some b23)) 5 (some b24)) 6 (some b25)) 7 (some b26))))))), (b2, .inr (2, [.int 0, .int 1, .int 0, .ref b27, .ref b28, .ref b29])), (b19, .inr (2, [.int 0, .int 1, .int 0, .ref b30, .ref b31, .ref b32])), (b27, .inl (G.2 0, 20, .inl (fun _ => 0))), (b30, .inl (G.2 0, 20, .inl (fun _ => 0))), (b28, .inl (G.2 0, 240, .inl (fun _ => 0))), (b31, .inl (G.2 0, 240, .inl (fun _ => 0))), (b29, .inl (G.2 0, 240, .inl (fun _ => 0))), (b32, .inl (G.2 0, 240, .inl (fun _ => 0)))] (fun v w => (v = none ∧ w = [(b0, .inr (0, [.ref b1, .ref b2, .ref b3, .ref b4, .int 1, .int 1, .ref b5, .ref b6, .ref b7, .ref b8, .ref b9, .ref b10, .ref b11, .ref b12, .ref b13, .ref b14, .ref b15, .ref b16, .ref b17, .ref b18])), (b4, .inl (G.2 5, 8, .inr (.inr (.inr (.inr (va_up (va_up (va_up (va_up (va_up (va_up (va_up (va_up (fun _ => none) 0 (some b19)) 1 (some b20)) 2 (some b21)) 3 (some b22)) 4 (some b23)) 5 (some b24)) 6 (some b25)) 7 (some b26))))))), (b2, .inr (2, [.int 0, .int 1, .int 0, .ref b27, .ref b28, .ref b29])), (b19, .inr (2, [.int 0, .int 1, .int 0, .ref b30, .ref b31, .ref b32])), (b27, .inl (G.2 0, 20, .inl (fun _ => 0))), (b30, .inl (G.2 0, 20, .inl (fun _ => 0))), (b28, .inl (G.2 0, 240, .inl (fun _ => 0))), (b31, .inl (G.2 0, 240, .inl (fun _ => 0))), (b29, .inl (G.2 0, 240, .inl (fun _ => 0))), (b32, .inl (G.2 0, 240, .inl (fun _ => 0)))])) := by
  refine z_start (by decide +kernel) (Nat.le_of_ble_eq_true rfl) ?_
  intro p e s m below meth c A Z hr hnm hA hP hD hS ls hl
  have Z : zC p s m _ meth c prog_1_method_35_code 1 "TraceMachines" G := Z
  obtain ⟨hx, hb, hml, hown, hts, hK, hN, hlocks⟩ := id Z
  have hl : lv_has ls 1 [(0, .ref b0)] := hl
  refine lv_aload_n hx hb d_X_remember_0 rfl (lv_at hl 0 rfl) ?_
  refine va_get (D := G.1) (ci := 0) (v := .ref b4) (C := R_X) (T := F_X) (N := 20) hx hb hts i_X hown hK hP 0 rfl rfl 3 (by decide) (hts _ q420) (fun _ h9 => h9) rfl d_X_remember_1 ?_
  refine lv_aload_n hx hb d_X_remember_4 rfl (lv_at hl 0 rfl) ?_
  refine va_get (D := G.1) (ci := 0) (v := .int 0) (C := R_X) (T := F_X) (N := 20) hx hb hts i_X hown hK hP 0 rfl rfl 4 (by decide) (hts _ q421) (fun _ h9 => h9) rfl d_X_remember_5 ?_
  refine va_aldq hx hb hK hP 1 5 rfl rfl (i := 0) (z_in rfl) d_X_remember_8 ?_
  refine z_topv (y := .ref b19) rfl ?_
  refine lv_aload_n hx hb d_X_remember_9 rfl (lv_at hl 0 rfl) ?_
  refine va_get (D := G.1) (ci := 0) (v := .ref b2) (C := R_X) (T := F_X) (N := 20) hx hb hts i_X hown hK hP 0 rfl rfl 1 (by decide) (hts _ q418) (fun _ h9 => h9) rfl d_X_remember_10 ?_
  refine z_callV (index := 129) (As := [.ref b2]) (rest := []) (wr := [(b0, .inr (0, [.ref b1, .ref b2, .ref b3, .ref b4, .int 0, .int 0, .ref b5, .ref b6, .ref b7, .ref b8, .ref b9, .ref b10, .ref b11, .ref b12, .ref b13, .ref b14, .ref b15, .ref b16, .ref b17, .ref b18])), (b4, .inl (G.2 5, 8, .inr (.inr (.inr (.inr (va_up (va_up (va_up (va_up (va_up (va_up (va_up (va_up (fun _ => none) 0 (some b19)) 1 (some b20)) 2 (some b21)) 3 (some b22)) 4 (some b23)) 5 (some b24)) 6 (some b25)) 7 (some b26)))))))]) Z (c1_Traces_copyFrom l G (b19) (b2) (b27) (b28) (b29) (b30) (b31) (b32)) hl.1 q498 q499 q500 q3 q501 ⟨by decide, by decide, by show _ = some 1; decide +kernel⟩ ⟨Nat.le_of_ble_eq_true rfl, Nat.le_of_ble_eq_true rfl⟩ ⟨Nat.le_of_ble_eq_true rfl, Nat.le_of_ble_eq_true rfl⟩ rfl (Nat.le_of_ble_eq_true rfl) d_X_remember_13 hP hD hS hA 3 2 rfl rfl rfl [2, 3, 4, 5, 6, 7, 8, 9] [0, 1] rfl rfl rfl rfl (by decide) (fun v w1 H locs hw_1 hP hD hS => ?_)
  obtain ⟨rfl, rfl⟩ := hw_1
  have hP : va_P G.1 classes [(b0, .inr (0, [.ref b1, .ref b2, .ref b3, .ref b4, .int 0, .int 0, .ref b5, .ref b6, .ref b7, .ref b8, .ref b9, .ref b10, .ref b11, .ref b12, .ref b13, .ref b14, .ref b15, .ref b16, .ref b17, .ref b18])), (b4, .inl (G.2 5, 8, .inr (.inr (.inr (.inr (va_up (va_up (va_up (va_up (va_up (va_up (va_up (va_up (fun _ => none) 0 (some b19)) 1 (some b20)) 2 (some b21)) 3 (some b22)) 4 (some b23)) 5 (some b24)) 6 (some b25)) 7 (some b26))))))), (b2, .inr (2, [.int 0, .int 1, .int 0, .ref b27, .ref b28, .ref b29])), (b19, .inr (2, [.int 0, .int 1, .int 0, .ref b30, .ref b31, .ref b32])), (b27, .inl (G.2 0, 20, .inl (fun _ => 0))), (b30, .inl (G.2 0, 20, .inl (fun _ => 0))), (b28, .inl (G.2 0, 240, .inl (fun _ => 0))), (b31, .inl (G.2 0, 240, .inl (fun _ => 0))), (b29, .inl (G.2 0, 240, .inl (fun _ => 0))), (b32, .inl (G.2 0, 240, .inl (fun _ => 0)))] H := hP
  have hD := z_tie hP hD rfl
  refine W.widen (k := 0) (n := 0) (Nat.le_of_ble_eq_true rfl) (Nat.le_of_ble_eq_true rfl) ?_
  refine lv_aload_n hx hb d_X_remember_16 rfl (lv_at hl 0 rfl) ?_
  refine lv_aload_n hx hb d_X_remember_17 rfl (lv_at hl 0 rfl) ?_
  refine va_get (D := G.1) (ci := 0) (v := .int 0) (C := R_X) (T := F_X) (N := 20) hx hb hts i_X hown hK hP 0 rfl rfl 4 (by decide) (hts _ q421) (fun _ h9 => h9) rfl d_X_remember_18 ?_
  refine lv_bipush (v := 7) hx hb d_X_remember_21 (by decide) ?_
  refine lv_icmp_ne (tgt := 30) hx hb d_X_remember_23 (by decide) (fun _ => ?_) (fun hc => absurd hc (by decide +kernel))
  refine lv_aload_n hx hb d_X_remember_30 rfl (lv_at hl 0 rfl) ?_
  refine va_get (D := G.1) (ci := 0) (v := .int 0) (C := R_X) (T := F_X) (N := 20) hx hb hts i_X hown hK hP 0 rfl rfl 4 (by decide) (hts _ q421) (fun _ h9 => h9) rfl d_X_remember_31 ?_
  refine lv_iconst (v := 1) hx hb d_X_remember_34 (by decide) ?_
  refine lv_iadd hx hb d_X_remember_35 ?_
  refine z_topi (y := 1) (by decide +kernel) ?_
  refine va_put (D := G.1) (ci := 0) (v := .int 1) (ty := .int) (C := R_X) (T := F_X) (N := 20) hx hb hts i_X t_X t_X_ok n_X hown hK hP hD hS 0 rfl rfl 4 (by decide) (hts _ q421) (fun _ h9 => h9) rfl (by decide +kernel) rfl rfl (Nat.le_of_ble_eq_true rfl) d_X_remember_36 (fun H locs hP hD hS => ?_)
  have hP : va_P G.1 classes [(b0, .inr (0, [.ref b1, .ref b2, .ref b3, .ref b4, .int 1, .int 0, .ref b5, .ref b6, .ref b7, .ref b8, .ref b9, .ref b10, .ref b11, .ref b12, .ref b13, .ref b14, .ref b15, .ref b16, .ref b17, .ref b18])), (b4, .inl (G.2 5, 8, .inr (.inr (.inr (.inr (va_up (va_up (va_up (va_up (va_up (va_up (va_up (va_up (fun _ => none) 0 (some b19)) 1 (some b20)) 2 (some b21)) 3 (some b22)) 4 (some b23)) 5 (some b24)) 6 (some b25)) 7 (some b26))))))), (b2, .inr (2, [.int 0, .int 1, .int 0, .ref b27, .ref b28, .ref b29])), (b19, .inr (2, [.int 0, .int 1, .int 0, .ref b30, .ref b31, .ref b32])), (b27, .inl (G.2 0, 20, .inl (fun _ => 0))), (b30, .inl (G.2 0, 20, .inl (fun _ => 0))), (b28, .inl (G.2 0, 240, .inl (fun _ => 0))), (b31, .inl (G.2 0, 240, .inl (fun _ => 0))), (b29, .inl (G.2 0, 240, .inl (fun _ => 0))), (b32, .inl (G.2 0, 240, .inl (fun _ => 0)))] H := hP
  have hD := z_tie hP hD rfl
  refine lv_aload_n hx hb d_X_remember_39 rfl (lv_at hl 0 rfl) ?_
  refine va_get (D := G.1) (ci := 0) (v := .int 0) (C := R_X) (T := F_X) (N := 20) hx hb hts i_X hown hK hP 0 rfl rfl 5 (by decide) (hts _ q422) (fun _ h9 => h9) rfl d_X_remember_40 ?_
  refine lv_bipush (v := 8) hx hb d_X_remember_43 (by decide) ?_
  refine lv_icmp_ge (tgt := 58) hx hb d_X_remember_45 (by decide) (fun hc => absurd hc (by decide +kernel)) (fun _ => ?_)
  refine lv_aload_n hx hb d_X_remember_48 rfl (lv_at hl 0 rfl) ?_
  refine lv_dup hx hb d_X_remember_49 rfl ?_
  refine va_get (D := G.1) (ci := 0) (v := .int 0) (C := R_X) (T := F_X) (N := 20) hx hb hts i_X hown hK hP 0 rfl rfl 5 (by decide) (hts _ q422) (fun _ h9 => h9) rfl d_X_remember_50 ?_
  refine lv_iconst (v := 1) hx hb d_X_remember_53 (by decide) ?_
  refine lv_iadd hx hb d_X_remember_54 ?_
  refine z_topi (y := 1) (by decide +kernel) ?_
  refine va_put (D := G.1) (ci := 0) (v := .int 1) (ty := .int) (C := R_X) (T := F_X) (N := 20) hx hb hts i_X t_X t_X_ok n_X hown hK hP hD hS 0 rfl rfl 5 (by decide) (hts _ q422) (fun _ h9 => h9) rfl (by decide +kernel) rfl rfl (Nat.le_of_ble_eq_true rfl) d_X_remember_55 (fun H locs hP hD hS => ?_)
  have hP : va_P G.1 classes [(b0, .inr (0, [.ref b1, .ref b2, .ref b3, .ref b4, .int 1, .int 1, .ref b5, .ref b6, .ref b7, .ref b8, .ref b9, .ref b10, .ref b11, .ref b12, .ref b13, .ref b14, .ref b15, .ref b16, .ref b17, .ref b18])), (b4, .inl (G.2 5, 8, .inr (.inr (.inr (.inr (va_up (va_up (va_up (va_up (va_up (va_up (va_up (va_up (fun _ => none) 0 (some b19)) 1 (some b20)) 2 (some b21)) 3 (some b22)) 4 (some b23)) 5 (some b24)) 6 (some b25)) 7 (some b26))))))), (b2, .inr (2, [.int 0, .int 1, .int 0, .ref b27, .ref b28, .ref b29])), (b19, .inr (2, [.int 0, .int 1, .int 0, .ref b30, .ref b31, .ref b32])), (b27, .inl (G.2 0, 20, .inl (fun _ => 0))), (b30, .inl (G.2 0, 20, .inl (fun _ => 0))), (b28, .inl (G.2 0, 240, .inl (fun _ => 0))), (b31, .inl (G.2 0, 240, .inl (fun _ => 0))), (b29, .inl (G.2 0, 240, .inl (fun _ => 0))), (b32, .inl (G.2 0, 240, .inl (fun _ => 0)))] H := hP
  have hD := z_tie hP hD rfl
  exact z_vret hx hb hr hlocks hP hD hS (Nat.le_of_ble_eq_true rfl) (Nat.le_of_ble_eq_true rfl) d_X_remember_58 ⟨rfl, rfl⟩
theorem d_X_traces_48 : decode prog_1_method_4_code 48 = .ok (.aload_n 0, 1) := by decide +kernel
theorem d_X_traces_49 : decode prog_1_method_4_code 49 = .ok (.getfield 19, 3) := by decide +kernel
theorem d_X_traces_52 : decode prog_1_method_4_code 52 = .ok (.aload_n 0, 1) := by decide +kernel
theorem d_X_traces_53 : decode prog_1_method_4_code 53 = .ok (.getfield 23, 3) := by decide +kernel
theorem d_X_traces_56 : decode prog_1_method_4_code 56 = .ok (.invokevirtual 129, 3) := by decide +kernel
abbrev m_c2_Traces_copyFrom : Room := { frames := 1, cells := 0, slots := 0, locals := 18 }
set_option maxHeartbeats 4000000 in
set_option maxRecDepth 100000 in
theorem c2_Traces_copyFrom (l : Launch) (G : zG) (b0 : Nat) (b1 : Nat) (b2 : Nat) (b3 : Nat) (b4 : Nat) (b5 : Nat) (b6 : Nat) (b7 : Nat)  : zM l G y_Traces_copyFrom prog_10_method_2_code 2 (Option.none : Option Jvm.ClassFile.FieldType) m_c2_Traces_copyFrom [.ref b0, .ref b1] [(b1, .inr (2, [.int 1, .int 1, .int 0, .ref b2, .ref b3, .ref b4])), (b0, .inr (2, [.int 0, .int 1, .int 0, .ref b5, .ref b6, .ref b7])), (b2, .inl (G.2 0, 20, .inl (upd (fun _ => 0) 0 0))), (b5, .inl (G.2 0, 20, .inl (fun _ => 0))), (b3, .inl (G.2 0, 240, .inl (fun _ => 0))), (b6, .inl (G.2 0, 240, .inl (fun _ => 0))), (b4, .inl (G.2 0, 240, .inl (fun _ => 0))), (b7, .inl (G.2 0, 240, .inl (fun _ => 0)))] (fun v w => (v = none ∧ w = [(b1, .inr (2, [.int 1, .int 1, .int 0, .ref b2, .ref b3, .ref b4])), (b0, .inr (2, [.int 1, .int 1, .int 0, .ref b5, .ref b6, .ref b7])), (b2, .inl (G.2 0, 20, .inl (upd (fun _ => 0) 0 0))), (b5, .inl (G.2 0, 20, .inl (va_cpy (upd (fun _ => 0) 0 0) (fun _ => 0) 0 0 1))), (b3, .inl (G.2 0, 240, .inl (fun _ => 0))), (b6, .inl (G.2 0, 240, .inl (fun _ => 0))), (b4, .inl (G.2 0, 240, .inl (fun _ => 0))), (b7, .inl (G.2 0, 240, .inl (fun _ => 0)))])) := by
  refine z_start (by decide +kernel) (Nat.le_of_ble_eq_true rfl) ?_
  intro p e s m below meth c A Z hr hnm hA hP hD hS ls hl
  have Z : zC p s m _ meth c prog_10_method_2_code 2 "TraceMachines$Traces" G := Z
  obtain ⟨hx, hb, hml, hown, hts, hK, hN, hlocks⟩ := id Z
  have hl : lv_has ls 2 [(0, .ref b0), (1, .ref b1)] := hl
  refine lv_aload_n hx hb d_Traces_copyFrom_0 rfl (lv_at hl 0 rfl) ?_
  refine lv_aload_n hx hb d_Traces_copyFrom_1 rfl (lv_at hl 1 rfl) ?_
  refine va_get (D := G.1) (ci := 2) (v := .int 1) (C := R_Traces) (T := F_Traces) (N := 6) hx hb hts i_Traces hown hK hP 0 rfl rfl 0 (by decide) (hts _ q52) (fun _ h9 => h9) rfl d_Traces_copyFrom_2 ?_
  refine va_put (D := G.1) (ci := 2) (v := .int 1) (ty := .int) (C := R_Traces) (T := F_Traces) (N := 6) hx hb hts i_Traces t_Traces t_Traces_ok n_Traces hown hK hP hD hS 1 rfl rfl 0 (by decide) (hts _ q52) (fun _ h9 => h9) rfl (by decide +kernel) rfl rfl (Nat.le_of_ble_eq_true rfl) d_Traces_copyFrom_5 (fun H locs hP hD hS => ?_)
  have hP : va_P G.1 classes [(b1, .inr (2, [.int 1, .int 1, .int 0, .ref b2, .ref b3, .ref b4])), (b0, .inr (2, [.int 1, .int 1, .int 0, .ref b5, .ref b6, .ref b7])), (b2, .inl (G.2 0, 20, .inl (upd (fun _ => 0) 0 0))), (b5, .inl (G.2 0, 20, .inl (fun _ => 0))), (b3, .inl (G.2 0, 240, .inl (fun _ => 0))), (b6, .inl (G.2 0, 240, .inl (fun _ => 0))), (b4, .inl (G.2 0, 240, .inl (fun _ => 0))), (b7, .inl (G.2 0, 240, .inl (fun _ => 0)))] H := hP
  have hD := z_tie hP hD rfl
  refine lv_aload_n hx hb d_Traces_copyFrom_8 rfl (lv_at hl 0 rfl) ?_
  refine lv_aload_n hx hb d_Traces_copyFrom_9 rfl (lv_at hl 1 rfl) ?_
  refine va_get (D := G.1) (ci := 2) (v := .int 1) (C := R_Traces) (T := F_Traces) (N := 6) hx hb hts i_Traces hown hK hP 0 rfl rfl 1 (by decide) (hts _ q59) (fun _ h9 => h9) rfl d_Traces_copyFrom_10 ?_
  refine va_put (D := G.1) (ci := 2) (v := .int 1) (ty := .int) (C := R_Traces) (T := F_Traces) (N := 6) hx hb hts i_Traces t_Traces t_Traces_ok n_Traces hown hK hP hD hS 1 rfl rfl 1 (by decide) (hts _ q59) (fun _ h9 => h9) rfl (by decide +kernel) rfl rfl (Nat.le_of_ble_eq_true rfl) d_Traces_copyFrom_13 (fun H locs hP hD hS => ?_)
  have hP : va_P G.1 classes [(b1, .inr (2, [.int 1, .int 1, .int 0, .ref b2, .ref b3, .ref b4])), (b0, .inr (2, [.int 1, .int 1, .int 0, .ref b5, .ref b6, .ref b7])), (b2, .inl (G.2 0, 20, .inl (upd (fun _ => 0) 0 0))), (b5, .inl (G.2 0, 20, .inl (fun _ => 0))), (b3, .inl (G.2 0, 240, .inl (fun _ => 0))), (b6, .inl (G.2 0, 240, .inl (fun _ => 0))), (b4, .inl (G.2 0, 240, .inl (fun _ => 0))), (b7, .inl (G.2 0, 240, .inl (fun _ => 0)))] H := hP
  have hD := z_tie hP hD rfl
  refine lv_aload_n hx hb d_Traces_copyFrom_16 rfl (lv_at hl 0 rfl) ?_
  refine lv_aload_n hx hb d_Traces_copyFrom_17 rfl (lv_at hl 1 rfl) ?_
  refine va_get (D := G.1) (ci := 2) (v := .int 0) (C := R_Traces) (T := F_Traces) (N := 6) hx hb hts i_Traces hown hK hP 0 rfl rfl 2 (by decide) (hts _ q61) (fun _ h9 => h9) rfl d_Traces_copyFrom_18 ?_
  refine va_put (D := G.1) (ci := 2) (v := .int 0) (ty := .int) (C := R_Traces) (T := F_Traces) (N := 6) hx hb hts i_Traces t_Traces t_Traces_ok n_Traces hown hK hP hD hS 1 rfl rfl 2 (by decide) (hts _ q61) (fun _ h9 => h9) rfl (by decide +kernel) rfl rfl (Nat.le_of_ble_eq_true rfl) d_Traces_copyFrom_21 (fun H locs hP hD hS => ?_)
  have hP : va_P G.1 classes [(b1, .inr (2, [.int 1, .int 1, .int 0, .ref b2, .ref b3, .ref b4])), (b0, .inr (2, [.int 1, .int 1, .int 0, .ref b5, .ref b6, .ref b7])), (b2, .inl (G.2 0, 20, .inl (upd (fun _ => 0) 0 0))), (b5, .inl (G.2 0, 20, .inl (fun _ => 0))), (b3, .inl (G.2 0, 240, .inl (fun _ => 0))), (b6, .inl (G.2 0, 240, .inl (fun _ => 0))), (b4, .inl (G.2 0, 240, .inl (fun _ => 0))), (b7, .inl (G.2 0, 240, .inl (fun _ => 0)))] H := hP
  have hD := z_tie hP hD rfl
  refine lv_aload_n hx hb d_Traces_copyFrom_24 rfl (lv_at hl 1 rfl) ?_
  refine va_get (D := G.1) (ci := 2) (v := .ref b2) (C := R_Traces) (T := F_Traces) (N := 6) hx hb hts i_Traces hown hK hP 0 rfl rfl 3 (by decide) (hts _ q63) (fun _ h9 => h9) rfl d_Traces_copyFrom_25 ?_
  refine lv_iconst (v := 0) hx hb d_Traces_copyFrom_28 (by decide) ?_
  refine lv_aload_n hx hb d_Traces_copyFrom_29 rfl (lv_at hl 0 rfl) ?_
  refine va_get (D := G.1) (ci := 2) (v := .ref b5) (C := R_Traces) (T := F_Traces) (N := 6) hx hb hts i_Traces hown hK hP 1 rfl rfl 3 (by decide) (hts _ q63) (fun _ h9 => h9) rfl d_Traces_copyFrom_30 ?_
  refine lv_iconst (v := 0) hx hb d_Traces_copyFrom_33 (by decide) ?_
  refine lv_aload_n hx hb d_Traces_copyFrom_34 rfl (lv_at hl 0 rfl) ?_
  refine va_get (D := G.1) (ci := 2) (v := .int 1) (C := R_Traces) (T := F_Traces) (N := 6) hx hb hts i_Traces hown hK hP 1 rfl rfl 0 (by decide) (hts _ q52) (fun _ h9 => h9) rfl d_Traces_copyFrom_35 ?_
  refine va_copyi hx hb (hml.trans hl.1.symm) hown (hts _ q502) (hts _ q504) (hts _ q503) (hts _ q15) hK hP hD hS 2 3 0 0 rfl rfl rfl rfl rfl (by decide +kernel) (by decide +kernel) (by decide +kernel) (by decide +kernel) (by decide +kernel) (fun _ _ => rfl) (Nat.le_of_ble_eq_true rfl) (Nat.le_of_ble_eq_true rfl) d_Traces_copyFrom_38 (fun H locs hP hD hS => ?_)
  have hP : va_P G.1 classes [(b1, .inr (2, [.int 1, .int 1, .int 0, .ref b2, .ref b3, .ref b4])), (b0, .inr (2, [.int 1, .int 1, .int 0, .ref b5, .ref b6, .ref b7])), (b2, .inl (G.2 0, 20, .inl (upd (fun _ => 0) 0 0))), (b5, .inl (G.2 0, 20, .inl (va_cpy (upd (fun _ => 0) 0 0) (fun _ => 0) 0 0 1))), (b3, .inl (G.2 0, 240, .inl (fun _ => 0))), (b6, .inl (G.2 0, 240, .inl (fun _ => 0))), (b4, .inl (G.2 0, 240, .inl (fun _ => 0))), (b7, .inl (G.2 0, 240, .inl (fun _ => 0)))] H := hP
  have hD := z_tie hP hD rfl
  refine lv_aload_n hx hb d_Traces_copyFrom_41 rfl (lv_at hl 1 rfl) ?_
  refine va_get (D := G.1) (ci := 2) (v := .ref b3) (C := R_Traces) (T := F_Traces) (N := 6) hx hb hts i_Traces hown hK hP 0 rfl rfl 4 (by decide) (hts _ q72) (fun _ h9 => h9) rfl d_Traces_copyFrom_42 ?_
  refine lv_iconst (v := 0) hx hb d_Traces_copyFrom_45 (by decide) ?_
  refine lv_aload_n hx hb d_Traces_copyFrom_46 rfl (lv_at hl 0 rfl) ?_
  refine va_get (D := G.1) (ci := 2) (v := .ref b6) (C := R_Traces) (T := F_Traces) (N := 6) hx hb hts i_Traces hown hK hP 1 rfl rfl 4 (by decide) (hts _ q72) (fun _ h9 => h9) rfl d_Traces_copyFrom_47 ?_
  refine lv_iconst (v := 0) hx hb d_Traces_copyFrom_50 (by decide) ?_
  refine lv_aload_n hx hb d_Traces_copyFrom_51 rfl (lv_at hl 0 rfl) ?_
  refine va_get (D := G.1) (ci := 2) (v := .int 1) (C := R_Traces) (T := F_Traces) (N := 6) hx hb hts i_Traces hown hK hP 1 rfl rfl 0 (by decide) (hts _ q52) (fun _ h9 => h9) rfl d_Traces_copyFrom_52 ?_
  refine lv_bipush (v := 12) hx hb d_Traces_copyFrom_55 (by decide) ?_
  refine lv_imul hx hb d_Traces_copyFrom_57 ?_
  refine z_topi (y := 12) (by decide +kernel) ?_
  refine va_copyi hx hb (hml.trans hl.1.symm) hown (hts _ q502) (hts _ q504) (hts _ q503) (hts _ q15) hK hP hD hS 4 5 0 0 rfl rfl rfl rfl rfl (by decide +kernel) (by decide +kernel) (by decide +kernel) (by decide +kernel) (by decide +kernel) (fun _ _ => rfl) (Nat.le_of_ble_eq_true rfl) (Nat.le_of_ble_eq_true rfl) d_Traces_copyFrom_58 (fun H locs hP hD hS => ?_)
  have hP : va_P G.1 classes [(b1, .inr (2, [.int 1, .int 1, .int 0, .ref b2, .ref b3, .ref b4])), (b0, .inr (2, [.int 1, .int 1, .int 0, .ref b5, .ref b6, .ref b7])), (b2, .inl (G.2 0, 20, .inl (upd (fun _ => 0) 0 0))), (b5, .inl (G.2 0, 20, .inl (va_cpy (upd (fun _ => 0) 0 0) (fun _ => 0) 0 0 1))), (b3, .inl (G.2 0, 240, .inl (fun _ => 0))), (b6, .inl (G.2 0, 240, .inl (va_cpy (fun _ => 0) (fun _ => 0) 0 0 12))), (b4, .inl (G.2 0, 240, .inl (fun _ => 0))), (b7, .inl (G.2 0, 240, .inl (fun _ => 0)))] H := hP
  have hD := z_tie hP hD rfl
  obtain ⟨hP, hD⟩ := z_exti (g := (fun _ => 0)) 5 hP hD rfl (fun j _ => by unfold va_cpy; split <;> rfl)
  have hP : va_P G.1 classes [(b1, .inr (2, [.int 1, .int 1, .int 0, .ref b2, .ref b3, .ref b4])), (b0, .inr (2, [.int 1, .int 1, .int 0, .ref b5, .ref b6, .ref b7])), (b2, .inl (G.2 0, 20, .inl (upd (fun _ => 0) 0 0))), (b5, .inl (G.2 0, 20, .inl (va_cpy (upd (fun _ => 0) 0 0) (fun _ => 0) 0 0 1))), (b3, .inl (G.2 0, 240, .inl (fun _ => 0))), (b6, .inl (G.2 0, 240, .inl (fun _ => 0))), (b4, .inl (G.2 0, 240, .inl (fun _ => 0))), (b7, .inl (G.2 0, 240, .inl (fun _ => 0)))] H := hP
  have hD := z_tie hP hD rfl
  refine lv_aload_n hx hb d_Traces_copyFrom_61 rfl (lv_at hl 1 rfl) ?_
  refine va_get (D := G.1) (ci := 2) (v := .ref b4) (C := R_Traces) (T := F_Traces) (N := 6) hx hb hts i_Traces hown hK hP 0 rfl rfl 5 (by decide) (hts _ q73) (fun _ h9 => h9) rfl d_Traces_copyFrom_62 ?_
  refine lv_iconst (v := 0) hx hb d_Traces_copyFrom_65 (by decide) ?_
  refine lv_aload_n hx hb d_Traces_copyFrom_66 rfl (lv_at hl 0 rfl) ?_
  refine va_get (D := G.1) (ci := 2) (v := .ref b7) (C := R_Traces) (T := F_Traces) (N := 6) hx hb hts i_Traces hown hK hP 1 rfl rfl 5 (by decide) (hts _ q73) (fun _ h9 => h9) rfl d_Traces_copyFrom_67 ?_
  refine lv_iconst (v := 0) hx hb d_Traces_copyFrom_70 (by decide) ?_
  refine lv_aload_n hx hb d_Traces_copyFrom_71 rfl (lv_at hl 0 rfl) ?_
  refine va_get (D := G.1) (ci := 2) (v := .int 1) (C := R_Traces) (T := F_Traces) (N := 6) hx hb hts i_Traces hown hK hP 1 rfl rfl 0 (by decide) (hts _ q52) (fun _ h9 => h9) rfl d_Traces_copyFrom_72 ?_
  refine lv_bipush (v := 12) hx hb d_Traces_copyFrom_75 (by decide) ?_
  refine lv_imul hx hb d_Traces_copyFrom_77 ?_
  refine z_topi (y := 12) (by decide +kernel) ?_
  refine va_copyi hx hb (hml.trans hl.1.symm) hown (hts _ q502) (hts _ q504) (hts _ q503) (hts _ q15) hK hP hD hS 6 7 0 0 rfl rfl rfl rfl rfl (by decide +kernel) (by decide +kernel) (by decide +kernel) (by decide +kernel) (by decide +kernel) (fun _ _ => rfl) (Nat.le_of_ble_eq_true rfl) (Nat.le_of_ble_eq_true rfl) d_Traces_copyFrom_78 (fun H locs hP hD hS => ?_)
  have hP : va_P G.1 classes [(b1, .inr (2, [.int 1, .int 1, .int 0, .ref b2, .ref b3, .ref b4])), (b0, .inr (2, [.int 1, .int 1, .int 0, .ref b5, .ref b6, .ref b7])), (b2, .inl (G.2 0, 20, .inl (upd (fun _ => 0) 0 0))), (b5, .inl (G.2 0, 20, .inl (va_cpy (upd (fun _ => 0) 0 0) (fun _ => 0) 0 0 1))), (b3, .inl (G.2 0, 240, .inl (fun _ => 0))), (b6, .inl (G.2 0, 240, .inl (fun _ => 0))), (b4, .inl (G.2 0, 240, .inl (fun _ => 0))), (b7, .inl (G.2 0, 240, .inl (va_cpy (fun _ => 0) (fun _ => 0) 0 0 12)))] H := hP
  have hD := z_tie hP hD rfl
  obtain ⟨hP, hD⟩ := z_exti (g := (fun _ => 0)) 7 hP hD rfl (fun j _ => by unfold va_cpy; split <;> rfl)
  have hP : va_P G.1 classes [(b1, .inr (2, [.int 1, .int 1, .int 0, .ref b2, .ref b3, .ref b4])), (b0, .inr (2, [.int 1, .int 1, .int 0, .ref b5, .ref b6, .ref b7])), (b2, .inl (G.2 0, 20, .inl (upd (fun _ => 0) 0 0))), (b5, .inl (G.2 0, 20, .inl (va_cpy (upd (fun _ => 0) 0 0) (fun _ => 0) 0 0 1))), (b3, .inl (G.2 0, 240, .inl (fun _ => 0))), (b6, .inl (G.2 0, 240, .inl (fun _ => 0))), (b4, .inl (G.2 0, 240, .inl (fun _ => 0))), (b7, .inl (G.2 0, 240, .inl (fun _ => 0)))] H := hP
  have hD := z_tie hP hD rfl
  exact z_vret hx hb hr hlocks hP hD hS (Nat.le_of_ble_eq_true rfl) (Nat.le_of_ble_eq_true rfl) d_Traces_copyFrom_81 ⟨rfl, rfl⟩
theorem d_X_traces_59 : decode prog_1_method_4_code 59 = .ok (.aload_n 0, 1) := by decide +kernel
theorem d_X_traces_60 : decode prog_1_method_4_code 60 = .ok (.invokevirtual 140, 3) := by decide +kernel
theorem d_X_forgetFound_0 : decode prog_1_method_36_code 0 = .ok (.aload_n 0, 1) := by decide +kernel
theorem d_X_forgetFound_1 : decode prog_1_method_36_code 1 = .ok (.getfield 36, 3) := by decide +kernel
theorem d_X_forgetFound_4 : decode prog_1_method_36_code 4 = .ok (.iconst 0, 1) := by decide +kernel
theorem d_X_forgetFound_5 : decode prog_1_method_36_code 5 = .ok (.putfield 357, 3) := by decide +kernel
theorem d_X_forgetFound_8 : decode prog_1_method_36_code 8 = .ok (.iconst 0, 1) := by decide +kernel
theorem d_X_forgetFound_9 : decode prog_1_method_36_code 9 = .ok (.istore_n 1, 1) := by decide +kernel
theorem d_X_forgetFound_10 : decode prog_1_method_36_code 10 = .ok (.iload_n 1, 1) := by decide +kernel
theorem d_X_forgetFound_11 : decode prog_1_method_36_code 11 = .ok (.iconst 4, 1) := by decide +kernel
theorem d_X_forgetFound_12 : decode prog_1_method_36_code 12 = .ok (.if_icmp .ge 19, 3) := by decide +kernel
theorem d_X_forgetFound_15 : decode prog_1_method_36_code 15 = .ok (.aload_n 0, 1) := by decide +kernel
theorem d_X_forgetFound_16 : decode prog_1_method_36_code 16 = .ok (.getfield 49, 3) := by decide +kernel
theorem d_X_forgetFound_19 : decode prog_1_method_36_code 19 = .ok (.iload_n 1, 1) := by decide +kernel
theorem d_X_forgetFound_20 : decode prog_1_method_36_code 20 = .ok (.aaload, 1) := by decide +kernel
theorem d_X_forgetFound_21 : decode prog_1_method_36_code 21 = .ok (.iconst 0, 1) := by decide +kernel
theorem d_X_forgetFound_22 : decode prog_1_method_36_code 22 = .ok (.putfield 358, 3) := by decide +kernel
theorem d_X_forgetFound_25 : decode prog_1_method_36_code 25 = .ok (.iinc 1 1, 3) := by decide +kernel
theorem d_X_forgetFound_28 : decode prog_1_method_36_code 28 = .ok (.goto (-18), 3) := by decide +kernel
theorem d_X_forgetFound_31 : decode prog_1_method_36_code 31 = .ok (.aload_n 0, 1) := by decide +kernel
theorem d_X_forgetFound_32 : decode prog_1_method_36_code 32 = .ok (.getfield 84, 3) := by decide +kernel
theorem d_X_forgetFound_35 : decode prog_1_method_36_code 35 = .ok (.iconst 0, 1) := by decide +kernel
theorem d_X_forgetFound_36 : decode prog_1_method_36_code 36 = .ok (.putfield 359, 3) := by decide +kernel
theorem d_X_forgetFound_39 : decode prog_1_method_36_code 39 = .ok (.aload_n 0, 1) := by decide +kernel
theorem d_X_forgetFound_40 : decode prog_1_method_36_code 40 = .ok (.getfield 91, 3) := by decide +kernel
theorem d_X_forgetFound_43 : decode prog_1_method_36_code 43 = .ok (.iconst 0, 1) := by decide +kernel
theorem d_X_forgetFound_44 : decode prog_1_method_36_code 44 = .ok (.putfield 258, 3) := by decide +kernel
theorem d_X_forgetFound_47 : decode prog_1_method_36_code 47 = .ok (.aload_n 0, 1) := by decide +kernel
theorem d_X_forgetFound_48 : decode prog_1_method_36_code 48 = .ok (.getfield 109, 3) := by decide +kernel
theorem d_X_forgetFound_51 : decode prog_1_method_36_code 51 = .ok (.iconst (-1), 1) := by decide +kernel
theorem d_X_forgetFound_52 : decode prog_1_method_36_code 52 = .ok (.invokestatic 112, 3) := by decide +kernel
theorem d_X_forgetFound_55 : decode prog_1_method_36_code 55 = .ok (.return_, 1) := by decide +kernel
abbrev m_c1_X_forgetFound : Room := { frames := 1, cells := 0, slots := 0, locals := 23 }
set_option maxHeartbeats 4000000 in
set_option maxRecDepth 100000 in
theorem c1_X_forgetFound (l : Launch) (G : zG) (b0 : Nat) (b1 : Nat) (b2 : Nat) (b3 : Nat) (b4 : Nat) (b5 : Nat) (b6 : Nat) (b7 : Nat) (b8 : Nat) (b9 : Nat) (b10 : Nat) (b11 : Nat) (b12 : Nat) (b13 : Nat) (b14 : Nat) (b15 : Nat) (b16 : Nat) (b17 : Nat) (b18 : Nat) (b19 : Nat) (b20 : Nat) (b21 : Nat) (b22 : Nat) (b23 : Nat) (b24 : Nat) (b25 : Nat) (b26 : Nat) (b27 : Nat) (b28 : Nat) (b29 : Nat) (b30 : Nat) (b31 : Nat) (b32 : Nat) (b33 : Nat) (b34 : Nat) (b35 : Nat) (b36 : Nat) (b37 : Nat) (b38 : Nat) (b39 : Nat) (b40 : Nat) (b41 : Nat) (b42 : Nat) (b43 : Nat) (b44 : Nat) (b45 : Nat) (b46 : Nat) (b47 : Nat) (b48 : Nat) (b49 : Nat) (b50 : Nat) (b51 : Nat) (b52 : Nat) (b53 : Nat) (b54 : Nat) (b55 : Nat) (b56 : Nat) (b57 : Nat) (b58 : Nat) (b59 : Nat) (b60 : Nat) (b61 : Nat) (b62 : Nat) (b63 : Nat) (b64 : Nat) (b65 : Nat) (b66 : Nat) (b67 : Nat) (b68 : Nat) (b69 : Nat) (b70 : Nat) (b71 : Nat) (b72 : Nat) (b73 : Nat) (b74 : Nat) (b75 : Nat) (b76 : Nat) (b77 : Nat) (b78 : Nat) (b79 : Nat) (b80 : Nat) (b81 : Nat) (b82 : Nat) (b83 : Nat) (b84 : Nat) (b85 : Nat)  : zM l G y_X_forgetFound prog_1_method_36_code 2 (Option.none : Option Jvm.ClassFile.FieldType) m_c1_X_forgetFound [.ref b0] [(b0, .inr (0, [.ref b1, .ref b2, .ref b3, .ref b4, .int 1, .int 1, .ref b5, .ref b6, .ref b7, .ref b8, .ref b9, .ref b10, .ref b11, .ref b12, .ref b13, .ref b14, .ref b15, .ref b16, .ref b17, .ref b18])), (b6, .inr (3, [.int 0, .int 0, .int 0, .ref b19, .ref b20, .ref b21, .ref b22, .ref b23, .ref b24, .ref b25, .ref b26])), (b8, .inl (G.2 6, 4, .inr (.inr (.inr (.inr (va_up (va_up (va_up (va_up (fun _ => none) 0 (some b27)) 1 (some b28)) 2 (some b29)) 3 (some b30))))))), (b27, .inr (5, [.int 0, .int 0, .ref b31, .ref b32, .ref b33, .ref b34, .ref b35, .ref b36, .int 0, .ref b37, .ref b38, .ref b39, .ref b40, .ref b41, .ref b42])), (b28, .inr (5, [.int 0, .int 0, .ref b43, .ref b44, .ref b45, .ref b46, .ref b47, .ref b48, .int 0, .ref b49, .ref b50, .ref b51, .ref b52, .ref b53, .ref b54])), (b29, .inr (5, [.int 0, .int 0, .ref b55, .ref b56, .ref b57, .ref b58, .ref b59, .ref b60, .int 0, .ref b61, .ref b62, .ref b63, .ref b64, .ref b65, .ref b66])), (b30, .inr (5, [.int 0, .int 0, .ref b67, .ref b68, .ref b69, .ref b70, .ref b71, .ref b72, .int 0, .ref b73, .ref b74, .ref b75, .ref b76, .ref b77, .ref b78])), (b14, .inr (8, [.int 0, .int 0, .ref b79, .int 0, .int 0, .ref b80, .ref b81, .ref b82, .ref b83, .ref b84])), (b15, .inr (9, [.int 0, .int 0, .int 0, .ref b85, .int 0])), (b18, .inl (G.2 0, 8, .inl (fun _ => (-1))))] (fun v w => (v = none ∧ w = [(b0, .inr (0, [.ref b1, .ref b2, .ref b3, .ref b4, .int 1, .int 1, .ref b5, .ref b6, .ref b7, .ref b8, .ref b9, .ref b10, .ref b11, .ref b12, .ref b13, .ref b14, .ref b15, .ref b16, .ref b17, .ref b18])), (b6, .inr (3, [.int 0, .int 0, .int 0, .ref b19, .ref b20, .ref b21, .ref b22, .ref b23, .ref b24, .ref b25, .ref b26])), (b8, .inl (G.2 6, 4, .inr (.inr (.inr (.inr (va_up (va_up (va_up (va_up (fun _ => none) 0 (some b27)) 1 (some b28)) 2 (some b29)) 3 (some b30))))))), (b27, .inr (5, [.int 0, .int 0, .ref b31, .ref b32, .ref b33, .ref b34, .ref b35, .ref b36, .int 0, .ref b37, .ref b38, .ref b39, .ref b40, .ref b41, .ref b42])), (b28, .inr (5, [.int 0, .int 0, .ref b43, .ref b44, .ref b45, .ref b46, .ref b47, .ref b48, .int 0, .ref b49, .ref b50, .ref b51, .ref b52, .ref b53, .ref b54])), (b29, .inr (5, [.int 0, .int 0, .ref b55, .ref b56, .ref b57, .ref b58, .ref b59, .ref b60, .int 0, .ref b61, .ref b62, .ref b63, .ref b64, .ref b65, .ref b66])), (b30, .inr (5, [.int 0, .int 0, .ref b67, .ref b68, .ref b69, .ref b70, .ref b71, .ref b72, .int 0, .ref b73, .ref b74, .ref b75, .ref b76, .ref b77, .ref b78])), (b14, .inr (8, [.int 0, .int 0, .ref b79, .int 0, .int 0, .ref b80, .ref b81, .ref b82, .ref b83, .ref b84])), (b15, .inr (9, [.int 0, .int 0, .int 0, .ref b85, .int 0])), (b18, .inl (G.2 0, 8, .inl (fun _ => (-1))))])) := by
  refine z_start (by decide +kernel) (Nat.le_of_ble_eq_true rfl) ?_
  intro p e s m below meth c A Z hr hnm hA hP hD hS ls hl
  have Z : zC p s m _ meth c prog_1_method_36_code 2 "TraceMachines" G := Z
  obtain ⟨hx, hb, hml, hown, hts, hK, hN, hlocks⟩ := id Z
  have hl : lv_has ls 2 [(0, .ref b0)] := hl
  refine lv_aload_n hx hb d_X_forgetFound_0 rfl (lv_at hl 0 rfl) ?_
  refine va_get (D := G.1) (ci := 0) (v := .ref b6) (C := R_X) (T := F_X) (N := 20) hx hb hts i_X hown hK hP 0 rfl rfl 7 (by decide) (hts _ q424) (fun _ h9 => h9) rfl d_X_forgetFound_1 ?_
  refine lv_iconst (v := 0) hx hb d_X_forgetFound_4 (by decide) ?_
  refine va_put (D := G.1) (ci := 3) (v := .int 0) (ty := .boolean) (C := R_Tree) (T := F_Tree) (N := 11) hx hb hts i_Tree t_Tree t_Tree_ok n_Tree hown hK hP hD hS 1 rfl rfl 0 (by decide) (hts _ q96) (fun _ h9 => h9) rfl (by decide +kernel) rfl rfl (Nat.le_of_ble_eq_true rfl) d_X_forgetFound_5 (fun H locs hP hD hS => ?_)
  have hP : va_P G.1 classes [(b0, .inr (0, [.ref b1, .ref b2, .ref b3, .ref b4, .int 1, .int 1, .ref b5, .ref b6, .ref b7, .ref b8, .ref b9, .ref b10, .ref b11, .ref b12, .ref b13, .ref b14, .ref b15, .ref b16, .ref b17, .ref b18])), (b6, .inr (3, [.int 0, .int 0, .int 0, .ref b19, .ref b20, .ref b21, .ref b22, .ref b23, .ref b24, .ref b25, .ref b26])), (b8, .inl (G.2 6, 4, .inr (.inr (.inr (.inr (va_up (va_up (va_up (va_up (fun _ => none) 0 (some b27)) 1 (some b28)) 2 (some b29)) 3 (some b30))))))), (b27, .inr (5, [.int 0, .int 0, .ref b31, .ref b32, .ref b33, .ref b34, .ref b35, .ref b36, .int 0, .ref b37, .ref b38, .ref b39, .ref b40, .ref b41, .ref b42])), (b28, .inr (5, [.int 0, .int 0, .ref b43, .ref b44, .ref b45, .ref b46, .ref b47, .ref b48, .int 0, .ref b49, .ref b50, .ref b51, .ref b52, .ref b53, .ref b54])), (b29, .inr (5, [.int 0, .int 0, .ref b55, .ref b56, .ref b57, .ref b58, .ref b59, .ref b60, .int 0, .ref b61, .ref b62, .ref b63, .ref b64, .ref b65, .ref b66])), (b30, .inr (5, [.int 0, .int 0, .ref b67, .ref b68, .ref b69, .ref b70, .ref b71, .ref b72, .int 0, .ref b73, .ref b74, .ref b75, .ref b76, .ref b77, .ref b78])), (b14, .inr (8, [.int 0, .int 0, .ref b79, .int 0, .int 0, .ref b80, .ref b81, .ref b82, .ref b83, .ref b84])), (b15, .inr (9, [.int 0, .int 0, .int 0, .ref b85, .int 0])), (b18, .inl (G.2 0, 8, .inl (fun _ => (-1))))] H := hP
  have hD := z_tie hP hD rfl
  refine lv_iconst (v := 0) hx hb d_X_forgetFound_8 (by decide) ?_
  refine lv_istore_n (lv' := [(1, .int 0), (0, .ref b0)]) hx hb d_X_forgetFound_9 rfl hl (by decide) rfl (fun ls hl => ?_)
  refine lv_iload_n hx hb d_X_forgetFound_10 rfl (lv_at hl 0 rfl) ?_
  refine lv_iconst (v := 4) hx hb d_X_forgetFound_11 (by decide) ?_
  refine lv_icmp_ge (tgt := 31) hx hb d_X_forgetFound_12 (by decide) (fun hc => absurd hc (by decide +kernel)) (fun _ => ?_)
  refine lv_aload_n hx hb d_X_forgetFound_15 rfl (lv_at hl 1 rfl) ?_
  refine va_get (D := G.1) (ci := 0) (v := .ref b8) (C := R_X) (T := F_X) (N := 20) hx hb hts i_X hown hK hP 0 rfl rfl 9 (by decide) (hts _ q426) (fun _ h9 => h9) rfl d_X_forgetFound_16 ?_
  refine lv_iload_n hx hb d_X_forgetFound_19 rfl (lv_at hl 0 rfl) ?_
  refine va_aldq hx hb hK hP 2 6 rfl rfl (i := 0) (z_in rfl) d_X_forgetFound_20 ?_
  refine z_topv (y := .ref b27) rfl ?_
  refine lv_iconst (v := 0) hx hb d_X_forgetFound_21 (by decide) ?_
  refine va_put (D := G.1) (ci := 5) (v := .int 0) (ty := .boolean) (C := R_Machine) (T := F_Machine) (N := 15) hx hb hts i_Machine t_Machine t_Machine_ok n_Machine hown hK hP hD hS 3 rfl rfl 0 (by decide) (hts _ q165) (fun _ h9 => h9) rfl (by decide +kernel) rfl rfl (Nat.le_of_ble_eq_true rfl) d_X_forgetFound_22 (fun H locs hP hD hS => ?_)
  have hP : va_P G.1 classes [(b0, .inr (0, [.ref b1, .ref b2, .ref b3, .ref b4, .int 1, .int 1, .ref b5, .ref b6, .ref b7, .ref b8, .ref b9, .ref b10, .ref b11, .ref b12, .ref b13, .ref b14, .ref b15, .ref b16, .ref b17, .ref b18])), (b6, .inr (3, [.int 0, .int 0, .int 0, .ref b19, .ref b20, .ref b21, .ref b22, .ref b23, .ref b24, .ref b25, .ref b26])), (b8, .inl (G.2 6, 4, .inr (.inr (.inr (.inr (va_up (va_up (va_up (va_up (fun _ => none) 0 (some b27)) 1 (some b28)) 2 (some b29)) 3 (some b30))))))), (b27, .inr (5, [.int 0, .int 0, .ref b31, .ref b32, .ref b33, .ref b34, .ref b35, .ref b36, .int 0, .ref b37, .ref b38, .ref b39, .ref b40, .ref b41, .ref b42])), (b28, .inr (5, [.int 0, .int 0, .ref b43, .ref b44, .ref b45, .ref b46, .ref b47, .ref b48, .int 0, .ref b49, .ref b50, .ref b51, .ref b52, .ref b53, .ref b54])), (b29, .inr (5, [.int 0, .int 0, .ref b55, .ref b56, .ref b57, .ref b58, .ref b59, .ref b60, .int 0, .ref b61, .ref b62, .ref b63, .ref b64, .ref b65, .ref b66])), (b30, .inr (5, [.int 0, .int 0, .ref b67, .ref b68, .ref b69, .ref b70, .ref b71, .ref b72, .int 0, .ref b73, .ref b74, .ref b75, .ref b76, .ref b77, .ref b78])), (b14, .inr (8, [.int 0, .int 0, .ref b79, .int 0, .int 0, .ref b80, .ref b81, .ref b82, .ref b83, .ref b84])), (b15, .inr (9, [.int 0, .int 0, .int 0, .ref b85, .int 0])), (b18, .inl (G.2 0, 8, .inl (fun _ => (-1))))] H := hP
  have hD := z_tie hP hD rfl
  refine lv_iinc (v := 1) (lv' := [(1, .int 1), (0, .ref b0)]) hx hb d_X_forgetFound_25 hl (k := 0) rfl (by decide +kernel) (by decide) rfl (fun ls hl => ?_)
  refine lv_goto (tgt := 10) hx hb d_X_forgetFound_28 (by decide) ?_
  refine lv_iload_n hx hb d_X_forgetFound_10 rfl (lv_at hl 0 rfl) ?_
  refine lv_iconst (v := 4) hx hb d_X_forgetFound_11 (by decide) ?_
  refine lv_icmp_ge (tgt := 31) hx hb d_X_forgetFound_12 (by decide) (fun hc => absurd hc (by decide +kernel)) (fun _ => ?_)
  refine lv_aload_n hx hb d_X_forgetFound_15 rfl (lv_at hl 1 rfl) ?_
  refine va_get (D := G.1) (ci := 0) (v := .ref b8) (C := R_X) (T := F_X) (N := 20) hx hb hts i_X hown hK hP 0 rfl rfl 9 (by decide) (hts _ q426) (fun _ h9 => h9) rfl d_X_forgetFound_16 ?_
  refine lv_iload_n hx hb d_X_forgetFound_19 rfl (lv_at hl 0 rfl) ?_
  refine va_aldq hx hb hK hP 2 6 rfl rfl (i := 1) (z_in rfl) d_X_forgetFound_20 ?_
  refine z_topv (y := .ref b28) rfl ?_
  refine lv_iconst (v := 0) hx hb d_X_forgetFound_21 (by decide) ?_
  refine va_put (D := G.1) (ci := 5) (v := .int 0) (ty := .boolean) (C := R_Machine) (T := F_Machine) (N := 15) hx hb hts i_Machine t_Machine t_Machine_ok n_Machine hown hK hP hD hS 4 rfl rfl 0 (by decide) (hts _ q165) (fun _ h9 => h9) rfl (by decide +kernel) rfl rfl (Nat.le_of_ble_eq_true rfl) d_X_forgetFound_22 (fun H locs hP hD hS => ?_)
  have hP : va_P G.1 classes [(b0, .inr (0, [.ref b1, .ref b2, .ref b3, .ref b4, .int 1, .int 1, .ref b5, .ref b6, .ref b7, .ref b8, .ref b9, .ref b10, .ref b11, .ref b12, .ref b13, .ref b14, .ref b15, .ref b16, .ref b17, .ref b18])), (b6, .inr (3, [.int 0, .int 0, .int 0, .ref b19, .ref b20, .ref b21, .ref b22, .ref b23, .ref b24, .ref b25, .ref b26])), (b8, .inl (G.2 6, 4, .inr (.inr (.inr (.inr (va_up (va_up (va_up (va_up (fun _ => none) 0 (some b27)) 1 (some b28)) 2 (some b29)) 3 (some b30))))))), (b27, .inr (5, [.int 0, .int 0, .ref b31, .ref b32, .ref b33, .ref b34, .ref b35, .ref b36, .int 0, .ref b37, .ref b38, .ref b39, .ref b40, .ref b41, .ref b42])), (b28, .inr (5, [.int 0, .int 0, .ref b43, .ref b44, .ref b45, .ref b46, .ref b47, .ref b48, .int 0, .ref b49, .ref b50, .ref b51, .ref b52, .ref b53, .ref b54])), (b29, .inr (5, [.int 0, .int 0, .ref b55, .ref b56, .ref b57, .ref b58, .ref b59, .ref b60, .int 0, .ref b61, .ref b62, .ref b63, .ref b64, .ref b65, .ref b66])), (b30, .inr (5, [.int 0, .int 0, .ref b67, .ref b68, .ref b69, .ref b70, .ref b71, .ref b72, .int 0, .ref b73, .ref b74, .ref b75, .ref b76, .ref b77, .ref b78])), (b14, .inr (8, [.int 0, .int 0, .ref b79, .int 0, .int 0, .ref b80, .ref b81, .ref b82, .ref b83, .ref b84])), (b15, .inr (9, [.int 0, .int 0, .int 0, .ref b85, .int 0])), (b18, .inl (G.2 0, 8, .inl (fun _ => (-1))))] H := hP
  have hD := z_tie hP hD rfl
  refine lv_iinc (v := 2) (lv' := [(1, .int 2), (0, .ref b0)]) hx hb d_X_forgetFound_25 hl (k := 0) rfl (by decide +kernel) (by decide) rfl (fun ls hl => ?_)
  refine lv_goto (tgt := 10) hx hb d_X_forgetFound_28 (by decide) ?_
  refine lv_iload_n hx hb d_X_forgetFound_10 rfl (lv_at hl 0 rfl) ?_
  refine lv_iconst (v := 4) hx hb d_X_forgetFound_11 (by decide) ?_
  refine lv_icmp_ge (tgt := 31) hx hb d_X_forgetFound_12 (by decide) (fun hc => absurd hc (by decide +kernel)) (fun _ => ?_)
  refine lv_aload_n hx hb d_X_forgetFound_15 rfl (lv_at hl 1 rfl) ?_
  refine va_get (D := G.1) (ci := 0) (v := .ref b8) (C := R_X) (T := F_X) (N := 20) hx hb hts i_X hown hK hP 0 rfl rfl 9 (by decide) (hts _ q426) (fun _ h9 => h9) rfl d_X_forgetFound_16 ?_
  refine lv_iload_n hx hb d_X_forgetFound_19 rfl (lv_at hl 0 rfl) ?_
  refine va_aldq hx hb hK hP 2 6 rfl rfl (i := 2) (z_in rfl) d_X_forgetFound_20 ?_
  refine z_topv (y := .ref b29) rfl ?_
  refine lv_iconst (v := 0) hx hb d_X_forgetFound_21 (by decide) ?_
  refine va_put (D := G.1) (ci := 5) (v := .int 0) (ty := .boolean) (C := R_Machine) (T := F_Machine) (N := 15) hx hb hts i_Machine t_Machine t_Machine_ok n_Machine hown hK hP hD hS 5 rfl rfl 0 (by decide) (hts _ q165) (fun _ h9 => h9) rfl (by decide +kernel) rfl rfl (Nat.le_of_ble_eq_true rfl) d_X_forgetFound_22 (fun H locs hP hD hS => ?_)
  have hP : va_P G.1 classes [(b0, .inr (0, [.ref b1, .ref b2, .ref b3, .ref b4, .int 1, .int 1, .ref b5, .ref b6, .ref b7, .ref b8, .ref b9, .ref b10, .ref b11, .ref b12, .ref b13, .ref b14, .ref b15, .ref b16, .ref b17, .ref b18])), (b6, .inr (3, [.int 0, .int 0, .int 0, .ref b19, .ref b20, .ref b21, .ref b22, .ref b23, .ref b24, .ref b25, .ref b26])), (b8, .inl (G.2 6, 4, .inr (.inr (.inr (.inr (va_up (va_up (va_up (va_up (fun _ => none) 0 (some b27)) 1 (some b28)) 2 (some b29)) 3 (some b30))))))), (b27, .inr (5, [.int 0, .int 0, .ref b31, .ref b32, .ref b33, .ref b34, .ref b35, .ref b36, .int 0, .ref b37, .ref b38, .ref b39, .ref b40, .ref b41, .ref b42])), (b28, .inr (5, [.int 0, .int 0, .ref b43, .ref b44, .ref b45, .ref b46, .ref b47, .ref b48, .int 0, .ref b49, .ref b50, .ref b51, .ref b52, .ref b53, .ref b54])), (b29, .inr (5, [.int 0, .int 0, .ref b55, .ref b56, .ref b57, .ref b58, .ref b59, .ref b60, .int 0, .ref b61, .ref b62, .ref b63, .ref b64, .ref b65, .ref b66])), (b30, .inr (5, [.int 0, .int 0, .ref b67, .ref b68, .ref b69, .ref b70, .ref b71, .ref b72, .int 0, .ref b73, .ref b74, .ref b75, .ref b76, .ref b77, .ref b78])), (b14, .inr (8, [.int 0, .int 0, .ref b79, .int 0, .int 0, .ref b80, .ref b81, .ref b82, .ref b83, .ref b84])), (b15, .inr (9, [.int 0, .int 0, .int 0, .ref b85, .int 0])), (b18, .inl (G.2 0, 8, .inl (fun _ => (-1))))] H := hP
  have hD := z_tie hP hD rfl
  refine lv_iinc (v := 3) (lv' := [(1, .int 3), (0, .ref b0)]) hx hb d_X_forgetFound_25 hl (k := 0) rfl (by decide +kernel) (by decide) rfl (fun ls hl => ?_)
  refine lv_goto (tgt := 10) hx hb d_X_forgetFound_28 (by decide) ?_
  refine lv_iload_n hx hb d_X_forgetFound_10 rfl (lv_at hl 0 rfl) ?_
  refine lv_iconst (v := 4) hx hb d_X_forgetFound_11 (by decide) ?_
  refine lv_icmp_ge (tgt := 31) hx hb d_X_forgetFound_12 (by decide) (fun hc => absurd hc (by decide +kernel)) (fun _ => ?_)
  refine lv_aload_n hx hb d_X_forgetFound_15 rfl (lv_at hl 1 rfl) ?_
  refine va_get (D := G.1) (ci := 0) (v := .ref b8) (C := R_X) (T := F_X) (N := 20) hx hb hts i_X hown hK hP 0 rfl rfl 9 (by decide) (hts _ q426) (fun _ h9 => h9) rfl d_X_forgetFound_16 ?_
  refine lv_iload_n hx hb d_X_forgetFound_19 rfl (lv_at hl 0 rfl) ?_
  refine va_aldq hx hb hK hP 2 6 rfl rfl (i := 3) (z_in rfl) d_X_forgetFound_20 ?_
  refine z_topv (y := .ref b30) rfl ?_
  refine lv_iconst (v := 0) hx hb d_X_forgetFound_21 (by decide) ?_
  refine va_put (D := G.1) (ci := 5) (v := .int 0) (ty := .boolean) (C := R_Machine) (T := F_Machine) (N := 15) hx hb hts i_Machine t_Machine t_Machine_ok n_Machine hown hK hP hD hS 6 rfl rfl 0 (by decide) (hts _ q165) (fun _ h9 => h9) rfl (by decide +kernel) rfl rfl (Nat.le_of_ble_eq_true rfl) d_X_forgetFound_22 (fun H locs hP hD hS => ?_)
  have hP : va_P G.1 classes [(b0, .inr (0, [.ref b1, .ref b2, .ref b3, .ref b4, .int 1, .int 1, .ref b5, .ref b6, .ref b7, .ref b8, .ref b9, .ref b10, .ref b11, .ref b12, .ref b13, .ref b14, .ref b15, .ref b16, .ref b17, .ref b18])), (b6, .inr (3, [.int 0, .int 0, .int 0, .ref b19, .ref b20, .ref b21, .ref b22, .ref b23, .ref b24, .ref b25, .ref b26])), (b8, .inl (G.2 6, 4, .inr (.inr (.inr (.inr (va_up (va_up (va_up (va_up (fun _ => none) 0 (some b27)) 1 (some b28)) 2 (some b29)) 3 (some b30))))))), (b27, .inr (5, [.int 0, .int 0, .ref b31, .ref b32, .ref b33, .ref b34, .ref b35, .ref b36, .int 0, .ref b37, .ref b38, .ref b39, .ref b40, .ref b41, .ref b42])), (b28, .inr (5, [.int 0, .int 0, .ref b43, .ref b44, .ref b45, .ref b46, .ref b47, .ref b48, .int 0, .ref b49, .ref b50, .ref b51, .ref b52, .ref b53, .ref b54])), (b29, .inr (5, [.int 0, .int 0, .ref b55, .ref b56, .ref b57, .ref b58, .ref b59, .ref b60, .int 0, .ref b61, .ref b62, .ref b63, .ref b64, .ref b65, .ref b66])), (b30, .inr (5, [.int 0, .int 0, .ref b67, .ref b68, .ref b69, .ref b70, .ref b71, .ref b72, .int 0, .ref b73, .ref b74, .ref b75, .ref b76, .ref b77, .ref b78])), (b14, .inr (8, [.int 0, .int 0, .ref b79, .int 0, .int 0, .ref b80, .ref b81, .ref b82, .ref b83, .ref b84])), (b15, .inr (9, [.int 0, .int 0, .int 0, .ref b85, .int 0])), (b18, .inl (G.2 0, 8, .inl (fun _ => (-1))))] H := hP
  have hD := z_tie hP hD rfl
  refine lv_iinc (v := 4) (lv' := [(1, .int 4), (0, .ref b0)]) hx hb d_X_forgetFound_25 hl (k := 0) rfl (by decide +kernel) (by decide) rfl (fun ls hl => ?_)
  refine lv_goto (tgt := 10) hx hb d_X_forgetFound_28 (by decide) ?_
  refine lv_iload_n hx hb d_X_forgetFound_10 rfl (lv_at hl 0 rfl) ?_
  refine lv_iconst (v := 4) hx hb d_X_forgetFound_11 (by decide) ?_
  refine lv_icmp_ge (tgt := 31) hx hb d_X_forgetFound_12 (by decide) (fun _ => ?_) (fun hc => absurd hc (by decide +kernel))
  refine lv_aload_n hx hb d_X_forgetFound_31 rfl (lv_at hl 1 rfl) ?_
  refine va_get (D := G.1) (ci := 0) (v := .ref b14) (C := R_X) (T := F_X) (N := 20) hx hb hts i_X hown hK hP 0 rfl rfl 15 (by decide) (hts _ q432) (fun _ h9 => h9) rfl d_X_forgetFound_32 ?_
  refine lv_iconst (v := 0) hx hb d_X_forgetFound_35 (by decide) ?_
  refine va_put (D := G.1) (ci := 8) (v := .int 0) (ty := .boolean) (C := R_Parting) (T := F_Parting) (N := 10) hx hb hts i_Parting t_Parting t_Parting_ok n_Parting hown hK hP hD hS 7 rfl rfl 0 (by decide) (hts _ q300) (fun _ h9 => h9) rfl (by decide +kernel) rfl rfl (Nat.le_of_ble_eq_true rfl) d_X_forgetFound_36 (fun H locs hP hD hS => ?_)
  have hP : va_P G.1 classes [(b0, .inr (0, [.ref b1, .ref b2, .ref b3, .ref b4, .int 1, .int 1, .ref b5, .ref b6, .ref b7, .ref b8, .ref b9, .ref b10, .ref b11, .ref b12, .ref b13, .ref b14, .ref b15, .ref b16, .ref b17, .ref b18])), (b6, .inr (3, [.int 0, .int 0, .int 0, .ref b19, .ref b20, .ref b21, .ref b22, .ref b23, .ref b24, .ref b25, .ref b26])), (b8, .inl (G.2 6, 4, .inr (.inr (.inr (.inr (va_up (va_up (va_up (va_up (fun _ => none) 0 (some b27)) 1 (some b28)) 2 (some b29)) 3 (some b30))))))), (b27, .inr (5, [.int 0, .int 0, .ref b31, .ref b32, .ref b33, .ref b34, .ref b35, .ref b36, .int 0, .ref b37, .ref b38, .ref b39, .ref b40, .ref b41, .ref b42])), (b28, .inr (5, [.int 0, .int 0, .ref b43, .ref b44, .ref b45, .ref b46, .ref b47, .ref b48, .int 0, .ref b49, .ref b50, .ref b51, .ref b52, .ref b53, .ref b54])), (b29, .inr (5, [.int 0, .int 0, .ref b55, .ref b56, .ref b57, .ref b58, .ref b59, .ref b60, .int 0, .ref b61, .ref b62, .ref b63, .ref b64, .ref b65, .ref b66])), (b30, .inr (5, [.int 0, .int 0, .ref b67, .ref b68, .ref b69, .ref b70, .ref b71, .ref b72, .int 0, .ref b73, .ref b74, .ref b75, .ref b76, .ref b77, .ref b78])), (b14, .inr (8, [.int 0, .int 0, .ref b79, .int 0, .int 0, .ref b80, .ref b81, .ref b82, .ref b83, .ref b84])), (b15, .inr (9, [.int 0, .int 0, .int 0, .ref b85, .int 0])), (b18, .inl (G.2 0, 8, .inl (fun _ => (-1))))] H := hP
  have hD := z_tie hP hD rfl
  refine lv_aload_n hx hb d_X_forgetFound_39 rfl (lv_at hl 1 rfl) ?_
  refine va_get (D := G.1) (ci := 0) (v := .ref b15) (C := R_X) (T := F_X) (N := 20) hx hb hts i_X hown hK hP 0 rfl rfl 16 (by decide) (hts _ q433) (fun _ h9 => h9) rfl d_X_forgetFound_40 ?_
  refine lv_iconst (v := 0) hx hb d_X_forgetFound_43 (by decide) ?_
  refine va_put (D := G.1) (ci := 9) (v := .int 0) (ty := .boolean) (C := R_Cover) (T := F_Cover) (N := 5) hx hb hts i_Cover t_Cover t_Cover_ok n_Cover hown hK hP hD hS 8 rfl rfl 0 (by decide) (hts _ q340) (fun _ h9 => h9) rfl (by decide +kernel) rfl rfl (Nat.le_of_ble_eq_true rfl) d_X_forgetFound_44 (fun H locs hP hD hS => ?_)
  have hP : va_P G.1 classes [(b0, .inr (0, [.ref b1, .ref b2, .ref b3, .ref b4, .int 1, .int 1, .ref b5, .ref b6, .ref b7, .ref b8, .ref b9, .ref b10, .ref b11, .ref b12, .ref b13, .ref b14, .ref b15, .ref b16, .ref b17, .ref b18])), (b6, .inr (3, [.int 0, .int 0, .int 0, .ref b19, .ref b20, .ref b21, .ref b22, .ref b23, .ref b24, .ref b25, .ref b26])), (b8, .inl (G.2 6, 4, .inr (.inr (.inr (.inr (va_up (va_up (va_up (va_up (fun _ => none) 0 (some b27)) 1 (some b28)) 2 (some b29)) 3 (some b30))))))), (b27, .inr (5, [.int 0, .int 0, .ref b31, .ref b32, .ref b33, .ref b34, .ref b35, .ref b36, .int 0, .ref b37, .ref b38, .ref b39, .ref b40, .ref b41, .ref b42])), (b28, .inr (5, [.int 0, .int 0, .ref b43, .ref b44, .ref b45, .ref b46, .ref b47, .ref b48, .int 0, .ref b49, .ref b50, .ref b51, .ref b52, .ref b53, .ref b54])), (b29, .inr (5, [.int 0, .int 0, .ref b55, .ref b56, .ref b57, .ref b58, .ref b59, .ref b60, .int 0, .ref b61, .ref b62, .ref b63, .ref b64, .ref b65, .ref b66])), (b30, .inr (5, [.int 0, .int 0, .ref b67, .ref b68, .ref b69, .ref b70, .ref b71, .ref b72, .int 0, .ref b73, .ref b74, .ref b75, .ref b76, .ref b77, .ref b78])), (b14, .inr (8, [.int 0, .int 0, .ref b79, .int 0, .int 0, .ref b80, .ref b81, .ref b82, .ref b83, .ref b84])), (b15, .inr (9, [.int 0, .int 0, .int 0, .ref b85, .int 0])), (b18, .inl (G.2 0, 8, .inl (fun _ => (-1))))] H := hP
  have hD := z_tie hP hD rfl
  refine lv_aload_n hx hb d_X_forgetFound_47 rfl (lv_at hl 1 rfl) ?_
  refine va_get (D := G.1) (ci := 0) (v := .ref b18) (C := R_X) (T := F_X) (N := 20) hx hb hts i_X hown hK hP 0 rfl rfl 19 (by decide) (hts _ q436) (fun _ h9 => h9) rfl d_X_forgetFound_48 ?_
  refine lv_iconst (v := (-1)) hx hb d_X_forgetFound_51 (by decide) ?_
  refine z_callS (index := 112) (As := [.ref b18, .int (-1)]) (rest := []) (wr := [(b0, .inr (0, [.ref b1, .ref b2, .ref b3, .ref b4, .int 1, .int 1, .ref b5, .ref b6, .ref b7, .ref b8, .ref b9, .ref b10, .ref b11, .ref b12, .ref b13, .ref b14, .ref b15, .ref b16, .ref b17, .ref b18])), (b6, .inr (3, [.int 0, .int 0, .int 0, .ref b19, .ref b20, .ref b21, .ref b22, .ref b23, .ref b24, .ref b25, .ref b26])), (b8, .inl (G.2 6, 4, .inr (.inr (.inr (.inr (va_up (va_up (va_up (va_up (fun _ => none) 0 (some b27)) 1 (some b28)) 2 (some b29)) 3 (some b30))))))), (b27, .inr (5, [.int 0, .int 0, .ref b31, .ref b32, .ref b33, .ref b34, .ref b35, .ref b36, .int 0, .ref b37, .ref b38, .ref b39, .ref b40, .ref b41, .ref b42])), (b28, .inr (5, [.int 0, .int 0, .ref b43, .ref b44, .ref b45, .ref b46, .ref b47, .ref b48, .int 0, .ref b49, .ref b50, .ref b51, .ref b52, .ref b53, .ref b54])), (b29, .inr (5, [.int 0, .int 0, .ref b55, .ref b56, .ref b57, .ref b58, .ref b59, .ref b60, .int 0, .ref b61, .ref b62, .ref b63, .ref b64, .ref b65, .ref b66])), (b30, .inr (5, [.int 0, .int 0, .ref b67, .ref b68, .ref b69, .ref b70, .ref b71, .ref b72, .int 0, .ref b73, .ref b74, .ref b75, .ref b76, .ref b77, .ref b78])), (b14, .inr (8, [.int 0, .int 0, .ref b79, .int 0, .int 0, .ref b80, .ref b81, .ref b82, .ref b83, .ref b84])), (b15, .inr (9, [.int 0, .int 0, .int 0, .ref b85, .int 0]))]) Z (c_fill_I l G (b18) (8) ((fun _ => (-1))) ((-1)) (by first | assumption | decide +kernel | omega)) hl.1 q414 q415 q13 q416 ⟨by decide, by decide, by show _ = some 2; decide +kernel⟩ ⟨Nat.le_of_ble_eq_true rfl, Nat.le_of_ble_eq_true rfl⟩ ⟨Nat.le_of_ble_eq_true rfl, Nat.le_of_ble_eq_true rfl⟩ rfl (Nat.le_of_ble_eq_true rfl) d_X_forgetFound_52 hP hD hS hA [9] [0, 1, 2, 3, 4, 5, 6, 7, 8] rfl rfl rfl rfl (by decide) (fun v w1 H locs hw_1 hP hD hS => ?_)
  obtain ⟨rfl, rfl⟩ := hw_1
  have hP : va_P G.1 classes [(b0, .inr (0, [.ref b1, .ref b2, .ref b3, .ref b4, .int 1, .int 1, .ref b5, .ref b6, .ref b7, .ref b8, .ref b9, .ref b10, .ref b11, .ref b12, .ref b13, .ref b14, .ref b15, .ref b16, .ref b17, .ref b18])), (b6, .inr (3, [.int 0, .int 0, .int 0, .ref b19, .ref b20, .ref b21, .ref b22, .ref b23, .ref b24, .ref b25, .ref b26])), (b8, .inl (G.2 6, 4, .inr (.inr (.inr (.inr (va_up (va_up (va_up (va_up (fun _ => none) 0 (some b27)) 1 (some b28)) 2 (some b29)) 3 (some b30))))))), (b27, .inr (5, [.int 0, .int 0, .ref b31, .ref b32, .ref b33, .ref b34, .ref b35, .ref b36, .int 0, .ref b37, .ref b38, .ref b39, .ref b40, .ref b41, .ref b42])), (b28, .inr (5, [.int 0, .int 0, .ref b43, .ref b44, .ref b45, .ref b46, .ref b47, .ref b48, .int 0, .ref b49, .ref b50, .ref b51, .ref b52, .ref b53, .ref b54])), (b29, .inr (5, [.int 0, .int 0, .ref b55, .ref b56, .ref b57, .ref b58, .ref b59, .ref b60, .int 0, .ref b61, .ref b62, .ref b63, .ref b64, .ref b65, .ref b66])), (b30, .inr (5, [.int 0, .int 0, .ref b67, .ref b68, .ref b69, .ref b70, .ref b71, .ref b72, .int 0, .ref b73, .ref b74, .ref b75, .ref b76, .ref b77, .ref b78])), (b14, .inr (8, [.int 0, .int 0, .ref b79, .int 0, .int 0, .ref b80, .ref b81, .ref b82, .ref b83, .ref b84])), (b15, .inr (9, [.int 0, .int 0, .int 0, .ref b85, .int 0])), (b18, .inl (G.2 0, 8, .inl (fun _ => (-1))))] H := hP
  have hD := z_tie hP hD rfl
  refine W.widen (k := 0) (n := 0) (Nat.le_of_ble_eq_true rfl) (Nat.le_of_ble_eq_true rfl) ?_
  exact z_vret hx hb hr hlocks hP hD hS (Nat.le_of_ble_eq_true rfl) (Nat.le_of_ble_eq_true rfl) d_X_forgetFound_55 ⟨rfl, rfl⟩
theorem d_X_traces_63 : decode prog_1_method_4_code 63 = .ok (.aload_n 0, 1) := by decide +kernel
theorem d_X_traces_64 : decode prog_1_method_4_code 64 = .ok (.getfield 19, 3) := by decide +kernel
theorem d_X_traces_67 : decode prog_1_method_4_code 67 = .ok (.getfield 143, 3) := by decide +kernel
theorem d_X_traces_70 : decode prog_1_method_4_code 70 = .ok (.ireturn, 1) := by decide +kernel
abbrev m_t_X_traces : Room := { frames := 3, cells := 0, slots := 0, locals := 59 }
set_option maxHeartbeats 4000000 in
set_option maxRecDepth 100000 in
theorem t_X_traces (l : Launch) (G : zG) (b0 : Nat) (b1 : Nat) (b2 : Nat) (b3 : Nat) (b4 : Nat) (b5 : Nat) (b6 : Nat) (b7 : Nat) (b8 : Nat) (b9 : Nat) (b10 : Nat) (b11 : Nat) (b12 : Nat) (b13 : Nat) (b14 : Nat) (b15 : Nat) (b16 : Nat) (b17 : Nat) (b18 : Nat) (b19 : Nat) (b20 : Nat) (b21 : Nat) (b22 : Nat) (b23 : Nat) (b24 : Nat) (b25 : Nat) (b26 : Nat) (b27 : Nat) (b28 : Nat) (b29 : Nat) (b30 : Nat) (b31 : Nat) (b32 : Nat) (b33 : Nat) (b34 : Nat) (b35 : Nat) (b36 : Nat) (b37 : Nat) (b38 : Nat) (b39 : Nat) (b40 : Nat) (b41 : Nat) (b42 : Nat) (b43 : Nat) (b44 : Nat) (b45 : Nat) (b46 : Nat) (b47 : Nat) (b48 : Nat) (b49 : Nat) (b50 : Nat) (b51 : Nat) (b52 : Nat) (b53 : Nat) (b54 : Nat) (b55 : Nat) (b56 : Nat) (b57 : Nat) (b58 : Nat) (b59 : Nat) (b60 : Nat) (b61 : Nat) (b62 : Nat) (b63 : Nat) (b64 : Nat) (b65 : Nat) (b66 : Nat) (b67 : Nat) (b68 : Nat) (b69 : Nat) (b70 : Nat) (b71 : Nat) (b72 : Nat) (b73 : Nat) (b74 : Nat) (b75 : Nat) (b76 : Nat) (b77 : Nat) (b78 : Nat) (b79 : Nat) (b80 : Nat) (b81 : Nat) (b82 : Nat) (b83 : Nat) (b84 : Nat) (b85 : Nat) (b86 : Nat) (b87 : Nat) (b88 : Nat) (b89 : Nat) (b90 : Nat) (b91 : Nat) (b92 : Nat) (b93 : Nat) (b94 : Nat) (b95 : Nat) (b96 : Nat) (b97 : Nat) (b98 : Nat) (b99 : Nat) (b100 : Nat) (b101 : Nat) (b102 : Nat) (b103 : Nat)  : zM l G y_X_traces prog_1_method_4_code 2 (Option.some Jvm.ClassFile.FieldType.int) m_t_X_traces [.ref b0] [(b0, .inr (0, [.ref b1, .ref b2, .ref b3, .ref b4, .int 0, .int 0, .ref b5, .ref b6, .ref b7, .ref b8, .ref b9, .ref b10, .ref b11, .ref b12, .ref b13, .ref b14, .ref b15, .ref b16, .ref b17, .ref b18])), (b2, .inr (2, [.int 0, .int 1, .int 0, .ref b19, .ref b20, .ref b21])), (b3, .inr (2, [.int 0, .int 1, .int 0, .ref b22, .ref b23, .ref b24])), (b19, .inl (G.2 0, 20, .inl (fun _ => 0))), (b22, .inl (G.2 0, 20, .inl (fun _ => 0))), (b20, .inl (G.2 0, 240, .inl (fun _ => 0))), (b23, .inl (G.2 0, 240, .inl (fun _ => 0))), (b21, .inl (G.2 0, 240, .inl (fun _ => 0))), (b24, .inl (G.2 0, 240, .inl (fun _ => 0))), (b1, .inr (1, [.int 0, .ref b25])), (b4, .inl (G.2 5, 8, .inr (.inr (.inr (.inr (va_up (va_up (va_up (va_up (va_up (va_up (va_up (va_up (fun _ => none) 0 (some b26)) 1 (some b27)) 2 (some b28)) 3 (some b29)) 4 (some b30)) 5 (some b31)) 6 (some b32)) 7 (some b33))))))), (b26, .inr (2, [.int 0, .int 1, .int 0, .ref b34, .ref b35, .ref b36])), (b34, .inl (G.2 0, 20, .inl (fun _ => 0))), (b35, .inl (G.2 0, 240, .inl (fun _ => 0))), (b36, .inl (G.2 0, 240, .inl (fun _ => 0))), (b6, .inr (3, [.int 0, .int 0, .int 0, .ref b37, .ref b38, .ref b39, .ref b40, .ref b41, .ref b42, .ref b43, .ref b44])), (b8, .inl (G.2 6, 4, .inr (.inr (.inr (.inr (va_up (va_up (va_up (va_up (fun _ => none) 0 (some b45)) 1 (some b46)) 2 (some b47)) 3 (some b48))))))), (b45, .inr (5, [.int 0, .int 0, .ref b49, .ref b50, .ref b51, .ref b52, .ref b53, .ref b54, .int 0, .ref b55, .ref b56, .ref b57, .ref b58, .ref b59, .ref b60])), (b46, .inr (5, [.int 0, .int 0, .ref b61, .ref b62, .ref b63, .ref b64, .ref b65, .ref b66, .int 0, .ref b67, .ref b68, .ref b69, .ref b70, .ref b71, .ref b72])), (b47, .inr (5, [.int 0, .int 0, .ref b73, .ref b74, .ref b75, .ref b76, .ref b77, .ref b78, .int 0, .ref b79, .ref b80, .ref b81, .ref b82, .ref b83, .ref b84])), (b48, .inr (5, [.int 0, .int 0, .ref b85, .ref b86, .ref b87, .ref b88, .ref b89, .ref b90, .int 0, .ref b91, .ref b92, .ref b93, .ref b94, .ref b95, .ref b96])), (b14, .inr (8, [.int 0, .int 0, .ref b97, .int 0, .int 0, .ref b98, .ref b99, .ref b100, .ref b101, .ref b102])), (b15, .inr (9, [.int 0, .int 0, .int 0, .ref b103, .int 0])), (b18, .inl (G.2 0, 8, .inl (fun _ => (-1))))] (fun v _ => v = some (.int (a_traces))) := by
  refine z_start (by decide +kernel) (Nat.le_of_ble_eq_true rfl) ?_
  intro p e s m below meth c A Z hr hnm hA hP hD hS ls hl
  have Z : zC p s m _ meth c prog_1_method_4_code 2 "TraceMachines" G := Z
  obtain ⟨hx, hb, hml, hown, hts, hK, hN, hlocks⟩ := id Z
  have hl : lv_has ls 2 [(0, .ref b0)] := hl
  refine lv_aload_n hx hb d_X_traces_0 rfl (lv_at hl 0 rfl) ?_
  refine va_get (D := G.1) (ci := 0) (v := .ref b3) (C := R_X) (T := F_X) (N := 20) hx hb hts i_X hown hK hP 0 rfl rfl 2 (by decide) (hts _ q419) (fun _ h9 => h9) rfl d_X_traces_1 ?_
  refine lv_aload_n hx hb d_X_traces_4 rfl (lv_at hl 0 rfl) ?_
  refine va_get (D := G.1) (ci := 0) (v := .ref b2) (C := R_X) (T := F_X) (N := 20) hx hb hts i_X hown hK hP 0 rfl rfl 1 (by decide) (hts _ q418) (fun _ h9 => h9) rfl d_X_traces_5 ?_
  refine z_callV (index := 129) (As := [.ref b2]) (rest := []) (wr := [(b0, .inr (0, [.ref b1, .ref b2, .ref b3, .ref b4, .int 0, .int 0, .ref b5, .ref b6, .ref b7, .ref b8, .ref b9, .ref b10, .ref b11, .ref b12, .ref b13, .ref b14, .ref b15, .ref b16, .ref b17, .ref b18])), (b1, .inr (1, [.int 0, .ref b25])), (b4, .inl (G.2 5, 8, .inr (.inr (.inr (.inr (va_up (va_up (va_up (va_up (va_up (va_up (va_up (va_up (fun _ => none) 0 (some b26)) 1 (some b27)) 2 (some b28)) 3 (some b29)) 4 (some b30)) 5 (some b31)) 6 (some b32)) 7 (some b33))))))), (b26, .inr (2, [.int 0, .int 1, .int 0, .ref b34, .ref b35, .ref b36])), (b34, .inl (G.2 0, 20, .inl (fun _ => 0))), (b35, .inl (G.2 0, 240, .inl (fun _ => 0))), (b36, .inl (G.2 0, 240, .inl (fun _ => 0))), (b6, .inr (3, [.int 0, .int 0, .int 0, .ref b37, .ref b38, .ref b39, .ref b40, .ref b41, .ref b42, .ref b43, .ref b44])), (b8, .inl (G.2 6, 4, .inr (.inr (.inr (.inr (va_up (va_up (va_up (va_up (fun _ => none) 0 (some b45)) 1 (some b46)) 2 (some b47)) 3 (some b48))))))), (b45, .inr (5, [.int 0, .int 0, .ref b49, .ref b50, .ref b51, .ref b52, .ref b53, .ref b54, .int 0, .ref b55, .ref b56, .ref b57, .ref b58, .ref b59, .ref b60])), (b46, .inr (5, [.int 0, .int 0, .ref b61, .ref b62, .ref b63, .ref b64, .ref b65, .ref b66, .int 0, .ref b67, .ref b68, .ref b69, .ref b70, .ref b71, .ref b72])), (b47, .inr (5, [.int 0, .int 0, .ref b73, .ref b74, .ref b75, .ref b76, .ref b77, .ref b78, .int 0, .ref b79, .ref b80, .ref b81, .ref b82, .ref b83, .ref b84])), (b48, .inr (5, [.int 0, .int 0, .ref b85, .ref b86, .ref b87, .ref b88, .ref b89, .ref b90, .int 0, .ref b91, .ref b92, .ref b93, .ref b94, .ref b95, .ref b96])), (b14, .inr (8, [.int 0, .int 0, .ref b97, .int 0, .int 0, .ref b98, .ref b99, .ref b100, .ref b101, .ref b102])), (b15, .inr (9, [.int 0, .int 0, .int 0, .ref b103, .int 0])), (b18, .inl (G.2 0, 8, .inl (fun _ => (-1))))]) Z (c1_Traces_copyFrom l G (b3) (b2) (b19) (b20) (b21) (b22) (b23) (b24)) hl.1 q498 q499 q500 q3 q501 ⟨by decide, by decide, by show _ = some 1; decide +kernel⟩ ⟨Nat.le_of_ble_eq_true rfl, Nat.le_of_ble_eq_true rfl⟩ ⟨Nat.le_of_ble_eq_true rfl, Nat.le_of_ble_eq_true rfl⟩ rfl (Nat.le_of_ble_eq_true rfl) d_X_traces_8 hP hD hS hA 2 2 rfl rfl rfl [1, 2, 3, 4, 5, 6, 7, 8] [0, 9, 10, 11, 12, 13, 14, 15, 16, 17, 18, 19, 20, 21, 22, 23] rfl rfl rfl rfl (by decide) (fun v w1 H locs hw_1 hP hD hS => ?_)
  obtain ⟨rfl, rfl⟩ := hw_1
  have hP : va_P G.1 classes [(b0, .inr (0, [.ref b1, .ref b2, .ref b3, .ref b4, .int 0, .int 0, .ref b5, .ref b6, .ref b7, .ref b8, .ref b9, .ref b10, .ref b11, .ref b12, .ref b13, .ref b14, .ref b15, .ref b16, .ref b17, .ref b18])), (b1, .inr (1, [.int 0, .ref b25])), (b4, .inl (G.2 5, 8, .inr (.inr (.inr (.inr (va_up (va_up (va_up (va_up (va_up (va_up (va_up (va_up (fun _ => none) 0 (some b26)) 1 (some b27)) 2 (some b28)) 3 (some b29)) 4 (some b30)) 5 (some b31)) 6 (some b32)) 7 (some b33))))))), (b26, .inr (2, [.int 0, .int 1, .int 0, .ref b34, .ref b35, .ref b36])), (b34, .inl (G.2 0, 20, .inl (fun _ => 0))), (b35, .inl (G.2 0, 240, .inl (fun _ => 0))), (b36, .inl (G.2 0, 240, .inl (fun _ => 0))), (b6, .inr (3, [.int 0, .int 0, .int 0, .ref b37, .ref b38, .ref b39, .ref b40, .ref b41, .ref b42, .ref b43, .ref b44])), (b8, .inl (G.2 6, 4, .inr (.inr (.inr (.inr (va_up (va_up (va_up (va_up (fun _ => none) 0 (some b45)) 1 (some b46)) 2 (some b47)) 3 (some b48))))))), (b45, .inr (5, [.int 0, .int 0, .ref b49, .ref b50, .ref b51, .ref b52, .ref b53, .ref b54, .int 0, .ref b55, .ref b56, .ref b57, .ref b58, .ref b59, .ref b60])), (b46, .inr (5, [.int 0, .int 0, .ref b61, .ref b62, .ref b63, .ref b64, .ref b65, .ref b66, .int 0, .ref b67, .ref b68, .ref b69, .ref b70, .ref b71, .ref b72])), (b47, .inr (5, [.int 0, .int 0, .ref b73, .ref b74, .ref b75, .ref b76, .ref b77, .ref b78, .int 0, .ref b79, .ref b80, .ref b81, .ref b82, .ref b83, .ref b84])), (b48, .inr (5, [.int 0, .int 0, .ref b85, .ref b86, .ref b87, .ref b88, .ref b89, .ref b90, .int 0, .ref b91, .ref b92, .ref b93, .ref b94, .ref b95, .ref b96])), (b14, .inr (8, [.int 0, .int 0, .ref b97, .int 0, .int 0, .ref b98, .ref b99, .ref b100, .ref b101, .ref b102])), (b15, .inr (9, [.int 0, .int 0, .int 0, .ref b103, .int 0])), (b18, .inl (G.2 0, 8, .inl (fun _ => (-1)))), (b2, .inr (2, [.int 0, .int 1, .int 0, .ref b19, .ref b20, .ref b21])), (b3, .inr (2, [.int 0, .int 1, .int 0, .ref b22, .ref b23, .ref b24])), (b19, .inl (G.2 0, 20, .inl (fun _ => 0))), (b22, .inl (G.2 0, 20, .inl (fun _ => 0))), (b20, .inl (G.2 0, 240, .inl (fun _ => 0))), (b23, .inl (G.2 0, 240, .inl (fun _ => 0))), (b21, .inl (G.2 0, 240, .inl (fun _ => 0))), (b24, .inl (G.2 0, 240, .inl (fun _ => 0)))] H := hP
  have hD := z_tie hP hD rfl
  refine W.widen (k := 0) (n := 0) (Nat.le_of_ble_eq_true rfl) (Nat.le_of_ble_eq_true rfl) ?_
  refine lv_aload_n hx hb d_X_traces_11 rfl (lv_at hl 0 rfl) ?_
  refine va_get (D := G.1) (ci := 0) (v := .ref b1) (C := R_X) (T := F_X) (N := 20) hx hb hts i_X hown hK hP 0 rfl rfl 0 (by decide) (hts _ q417) (fun _ h9 => h9) rfl d_X_traces_12 ?_
  refine lv_aload_n hx hb d_X_traces_15 rfl (lv_at hl 0 rfl) ?_
  refine va_get (D := G.1) (ci := 0) (v := .ref b3) (C := R_X) (T := F_X) (N := 20) hx hb hts i_X hown hK hP 0 rfl rfl 2 (by decide) (hts _ q419) (fun _ h9 => h9) rfl d_X_traces_16 ?_
  refine lv_iconst (v := 0) hx hb d_X_traces_19 (by decide) ?_
  refine z_callV (index := 133) (As := [.ref b3, .int 0]) (rest := []) (wr := [(b0, .inr (0, [.ref b1, .ref b2, .ref b3, .ref b4, .int 0, .int 0, .ref b5, .ref b6, .ref b7, .ref b8, .ref b9, .ref b10, .ref b11, .ref b12, .ref b13, .ref b14, .ref b15, .ref b16, .ref b17, .ref b18])), (b4, .inl (G.2 5, 8, .inr (.inr (.inr (.inr (va_up (va_up (va_up (va_up (va_up (va_up (va_up (va_up (fun _ => none) 0 (some b26)) 1 (some b27)) 2 (some b28)) 3 (some b29)) 4 (some b30)) 5 (some b31)) 6 (some b32)) 7 (some b33))))))), (b26, .inr (2, [.int 0, .int 1, .int 0, .ref b34, .ref b35, .ref b36])), (b34, .inl (G.2 0, 20, .inl (fun _ => 0))), (b35, .inl (G.2 0, 240, .inl (fun _ => 0))), (b36, .inl (G.2 0, 240, .inl (fun _ => 0))), (b6, .inr (3, [.int 0, .int 0, .int 0, .ref b37, .ref b38, .ref b39, .ref b40, .ref b41, .ref b42, .ref b43, .ref b44])), (b8, .inl (G.2 6, 4, .inr (.inr (.inr (.inr (va_up (va_up (va_up (va_up (fun _ => none) 0 (some b45)) 1 (some b46)) 2 (some b47)) 3 (some b48))))))), (b45, .inr (5, [.int 0, .int 0, .ref b49, .ref b50, .ref b51, .ref b52, .ref b53, .ref b54, .int 0, .ref b55, .ref b56, .ref b57, .ref b58, .ref b59, .ref b60])), (b46, .inr (5, [.int 0, .int 0, .ref b61, .ref b62, .ref b63, .ref b64, .ref b65, .ref b66, .int 0, .ref b67, .ref b68, .ref b69, .ref b70, .ref b71, .ref b72])), (b47, .inr (5, [.int 0, .int 0, .ref b73, .ref b74, .ref b75, .ref b76, .ref b77, .ref b78, .int 0, .ref b79, .ref b80, .ref b81, .ref b82, .ref b83, .ref b84])), (b48, .inr (5, [.int 0, .int 0, .ref b85, .ref b86, .ref b87, .ref b88, .ref b89, .ref b90, .int 0, .ref b91, .ref b92, .ref b93, .ref b94, .ref b95, .ref b96])), (b14, .inr (8, [.int 0, .int 0, .ref b97, .int 0, .int 0, .ref b98, .ref b99, .ref b100, .ref b101, .ref b102])), (b15, .inr (9, [.int 0, .int 0, .int 0, .ref b103, .int 0])), (b18, .inl (G.2 0, 8, .inl (fun _ => (-1)))), (b2, .inr (2, [.int 0, .int 1, .int 0, .ref b19, .ref b20, .ref b21])), (b19, .inl (G.2 0, 20, .inl (fun _ => 0))), (b20, .inl (G.2 0, 240, .inl (fun _ => 0))), (b23, .inl (G.2 0, 240, .inl (fun _ => 0))), (b21, .inl (G.2 0, 240, .inl (fun _ => 0))), (b24, .inl (G.2 0, 240, .inl (fun _ => 0)))]) Z (c1_Text_parse l G (b1) (b3) (b25) (b22) (b23) (b24)) hl.1 q505 q506 q507 q2 q508 ⟨by decide, by decide, by show _ = some 2; decide +kernel⟩ ⟨Nat.le_of_ble_eq_true rfl, Nat.le_of_ble_eq_true rfl⟩ ⟨Nat.le_of_ble_eq_true rfl, Nat.le_of_ble_eq_true rfl⟩ rfl (Nat.le_of_ble_eq_true rfl) d_X_traces_20 hP hD hS hA 1 1 rfl rfl rfl [1, 17, 19] [0, 2, 3, 4, 5, 6, 7, 8, 9, 10, 11, 12, 13, 14, 15, 16, 18, 20, 21, 22, 23] rfl rfl rfl rfl (by decide) (fun v w1 H locs hw_2 hP hD hS => ?_)
  obtain ⟨rfl, rfl⟩ := hw_2
  have hP : va_P G.1 classes [(b0, .inr (0, [.ref b1, .ref b2, .ref b3, .ref b4, .int 0, .int 0, .ref b5, .ref b6, .ref b7, .ref b8, .ref b9, .ref b10, .ref b11, .ref b12, .ref b13, .ref b14, .ref b15, .ref b16, .ref b17, .ref b18])), (b4, .inl (G.2 5, 8, .inr (.inr (.inr (.inr (va_up (va_up (va_up (va_up (va_up (va_up (va_up (va_up (fun _ => none) 0 (some b26)) 1 (some b27)) 2 (some b28)) 3 (some b29)) 4 (some b30)) 5 (some b31)) 6 (some b32)) 7 (some b33))))))), (b26, .inr (2, [.int 0, .int 1, .int 0, .ref b34, .ref b35, .ref b36])), (b34, .inl (G.2 0, 20, .inl (fun _ => 0))), (b35, .inl (G.2 0, 240, .inl (fun _ => 0))), (b36, .inl (G.2 0, 240, .inl (fun _ => 0))), (b6, .inr (3, [.int 0, .int 0, .int 0, .ref b37, .ref b38, .ref b39, .ref b40, .ref b41, .ref b42, .ref b43, .ref b44])), (b8, .inl (G.2 6, 4, .inr (.inr (.inr (.inr (va_up (va_up (va_up (va_up (fun _ => none) 0 (some b45)) 1 (some b46)) 2 (some b47)) 3 (some b48))))))), (b45, .inr (5, [.int 0, .int 0, .ref b49, .ref b50, .ref b51, .ref b52, .ref b53, .ref b54, .int 0, .ref b55, .ref b56, .ref b57, .ref b58, .ref b59, .ref b60])), (b46, .inr (5, [.int 0, .int 0, .ref b61, .ref b62, .ref b63, .ref b64, .ref b65, .ref b66, .int 0, .ref b67, .ref b68, .ref b69, .ref b70, .ref b71, .ref b72])), (b47, .inr (5, [.int 0, .int 0, .ref b73, .ref b74, .ref b75, .ref b76, .ref b77, .ref b78, .int 0, .ref b79, .ref b80, .ref b81, .ref b82, .ref b83, .ref b84])), (b48, .inr (5, [.int 0, .int 0, .ref b85, .ref b86, .ref b87, .ref b88, .ref b89, .ref b90, .int 0, .ref b91, .ref b92, .ref b93, .ref b94, .ref b95, .ref b96])), (b14, .inr (8, [.int 0, .int 0, .ref b97, .int 0, .int 0, .ref b98, .ref b99, .ref b100, .ref b101, .ref b102])), (b15, .inr (9, [.int 0, .int 0, .int 0, .ref b103, .int 0])), (b18, .inl (G.2 0, 8, .inl (fun _ => (-1)))), (b2, .inr (2, [.int 0, .int 1, .int 0, .ref b19, .ref b20, .ref b21])), (b19, .inl (G.2 0, 20, .inl (fun _ => 0))), (b20, .inl (G.2 0, 240, .inl (fun _ => 0))), (b23, .inl (G.2 0, 240, .inl (fun _ => 0))), (b21, .inl (G.2 0, 240, .inl (fun _ => 0))), (b24, .inl (G.2 0, 240, .inl (fun _ => 0))), (b1, .inr (1, [.int 0, .ref b25])), (b3, .inr (2, [.int 1, .int 1, .int 0, .ref b22, .ref b23, .ref b24])), (b22, .inl (G.2 0, 20, .inl (upd (fun _ => 0) 0 0)))] H := hP
  have hD := z_tie hP hD rfl
  refine W.widen (k := 0) (n := 0) (Nat.le_of_ble_eq_true rfl) (Nat.le_of_ble_eq_true rfl) ?_
  refine lv_istore_n (lv' := [(1, .int (-1)), (0, .ref b0)]) hx hb d_X_traces_23 rfl hl (by decide) rfl (fun ls hl => ?_)
  refine lv_aload_n hx hb d_X_traces_24 rfl (lv_at hl 1 rfl) ?_
  refine va_get (D := G.1) (ci := 0) (v := .ref b1) (C := R_X) (T := F_X) (N := 20) hx hb hts i_X hown hK hP 0 rfl rfl 0 (by decide) (hts _ q417) (fun _ h9 => h9) rfl d_X_traces_25 ?_
  refine lv_iconst (v := 0) hx hb d_X_traces_28 (by decide) ?_
  refine z_callV (index := 126) (As := [.int 0]) (rest := []) (wr := [(b0, .inr (0, [.ref b1, .ref b2, .ref b3, .ref b4, .int 0, .int 0, .ref b5, .ref b6, .ref b7, .ref b8, .ref b9, .ref b10, .ref b11, .ref b12, .ref b13, .ref b14, .ref b15, .ref b16, .ref b17, .ref b18])), (b4, .inl (G.2 5, 8, .inr (.inr (.inr (.inr (va_up (va_up (va_up (va_up (va_up (va_up (va_up (va_up (fun _ => none) 0 (some b26)) 1 (some b27)) 2 (some b28)) 3 (some b29)) 4 (some b30)) 5 (some b31)) 6 (some b32)) 7 (some b33))))))), (b26, .inr (2, [.int 0, .int 1, .int 0, .ref b34, .ref b35, .ref b36])), (b34, .inl (G.2 0, 20, .inl (fun _ => 0))), (b35, .inl (G.2 0, 240, .inl (fun _ => 0))), (b36, .inl (G.2 0, 240, .inl (fun _ => 0))), (b6, .inr (3, [.int 0, .int 0, .int 0, .ref b37, .ref b38, .ref b39, .ref b40, .ref b41, .ref b42, .ref b43, .ref b44])), (b8, .inl (G.2 6, 4, .inr (.inr (.inr (.inr (va_up (va_up (va_up (va_up (fun _ => none) 0 (some b45)) 1 (some b46)) 2 (some b47)) 3 (some b48))))))), (b45, .inr (5, [.int 0, .int 0, .ref b49, .ref b50, .ref b51, .ref b52, .ref b53, .ref b54, .int 0, .ref b55, .ref b56, .ref b57, .ref b58, .ref b59, .ref b60])), (b46, .inr (5, [.int 0, .int 0, .ref b61, .ref b62, .ref b63, .ref b64, .ref b65, .ref b66, .int 0, .ref b67, .ref b68, .ref b69, .ref b70, .ref b71, .ref b72])), (b47, .inr (5, [.int 0, .int 0, .ref b73, .ref b74, .ref b75, .ref b76, .ref b77, .ref b78, .int 0, .ref b79, .ref b80, .ref b81, .ref b82, .ref b83, .ref b84])), (b48, .inr (5, [.int 0, .int 0, .ref b85, .ref b86, .ref b87, .ref b88, .ref b89, .ref b90, .int 0, .ref b91, .ref b92, .ref b93, .ref b94, .ref b95, .ref b96])), (b14, .inr (8, [.int 0, .int 0, .ref b97, .int 0, .int 0, .ref b98, .ref b99, .ref b100, .ref b101, .ref b102])), (b15, .inr (9, [.int 0, .int 0, .int 0, .ref b103, .int 0])), (b18, .inl (G.2 0, 8, .inl (fun _ => (-1)))), (b2, .inr (2, [.int 0, .int 1, .int 0, .ref b19, .ref b20, .ref b21])), (b19, .inl (G.2 0, 20, .inl (fun _ => 0))), (b20, .inl (G.2 0, 240, .inl (fun _ => 0))), (b23, .inl (G.2 0, 240, .inl (fun _ => 0))), (b21, .inl (G.2 0, 240, .inl (fun _ => 0))), (b24, .inl (G.2 0, 240, .inl (fun _ => 0))), (b3, .inr (2, [.int 1, .int 1, .int 0, .ref b22, .ref b23, .ref b24])), (b22, .inl (G.2 0, 20, .inl (upd (fun _ => 0) 0 0)))]) Z (c1_Text_cut l G (b1) (0) (b25)) hl.1 q490 q491 q492 q2 q493 ⟨by decide, by decide, by show _ = some 1; decide +kernel⟩ ⟨Nat.le_of_ble_eq_true rfl, Nat.le_of_ble_eq_true rfl⟩ ⟨Nat.le_of_ble_eq_true rfl, Nat.le_of_ble_eq_true rfl⟩ rfl (Nat.le_of_ble_eq_true rfl) d_X_traces_29 hP hD hS hA 21 1 rfl rfl rfl [21] [0, 1, 2, 3, 4, 5, 6, 7, 8, 9, 10, 11, 12, 13, 14, 15, 16, 17, 18, 19, 20, 22, 23] rfl rfl rfl rfl (by decide) (fun v w1 H locs hw_3 hP hD hS => ?_)
  rcases hw_3 with ⟨rfl, rfl, hq_4⟩ | ⟨rfl, rfl, hq_5, hq_6⟩ | ⟨rfl, rfl, hq_7, hq_8⟩
  · exfalso; (try simp only [Int32.toInt_toInt64, li_0, li_0] at hq_4); omega
  · try simp only [Int32.toInt_toInt64, li_0, li_0] at hq_5
    try simp only [Int32.toInt_toInt64, li_0, li_0] at hq_6
    have hP : va_P G.1 classes [(b0, .inr (0, [.ref b1, .ref b2, .ref b3, .ref b4, .int 0, .int 0, .ref b5, .ref b6, .ref b7, .ref b8, .ref b9, .ref b10, .ref b11, .ref b12, .ref b13, .ref b14, .ref b15, .ref b16, .ref b17, .ref b18])), (b4, .inl (G.2 5, 8, .inr (.inr (.inr (.inr (va_up (va_up (va_up (va_up (va_up (va_up (va_up (va_up (fun _ => none) 0 (some b26)) 1 (some b27)) 2 (some b28)) 3 (some b29)) 4 (some b30)) 5 (some b31)) 6 (some b32)) 7 (some b33))))))), (b26, .inr (2, [.int 0, .int 1, .int 0, .ref b34, .ref b35, .ref b36])), (b34, .inl (G.2 0, 20, .inl (fun _ => 0))), (b35, .inl (G.2 0, 240, .inl (fun _ => 0))), (b36, .inl (G.2 0, 240, .inl (fun _ => 0))), (b6, .inr (3, [.int 0, .int 0, .int 0, .ref b37, .ref b38, .ref b39, .ref b40, .ref b41, .ref b42, .ref b43, .ref b44])), (b8, .inl (G.2 6, 4, .inr (.inr (.inr (.inr (va_up (va_up (va_up (va_up (fun _ => none) 0 (some b45)) 1 (some b46)) 2 (some b47)) 3 (some b48))))))), (b45, .inr (5, [.int 0, .int 0, .ref b49, .ref b50, .ref b51, .ref b52, .ref b53, .ref b54, .int 0, .ref b55, .ref b56, .ref b57, .ref b58, .ref b59, .ref b60])), (b46, .inr (5, [.int 0, .int 0, .ref b61, .ref b62, .ref b63, .ref b64, .ref b65, .ref b66, .int 0, .ref b67, .ref b68, .ref b69, .ref b70, .ref b71, .ref b72])), (b47, .inr (5, [.int 0, .int 0, .ref b73, .ref b74, .ref b75, .ref b76, .ref b77, .ref b78, .int 0, .ref b79, .ref b80, .ref b81, .ref b82, .ref b83, .ref b84])), (b48, .inr (5, [.int 0, .int 0, .ref b85, .ref b86, .ref b87, .ref b88, .ref b89, .ref b90, .int 0, .ref b91, .ref b92, .ref b93, .ref b94, .ref b95, .ref b96])), (b14, .inr (8, [.int 0, .int 0, .ref b97, .int 0, .int 0, .ref b98, .ref b99, .ref b100, .ref b101, .ref b102])), (b15, .inr (9, [.int 0, .int 0, .int 0, .ref b103, .int 0])), (b18, .inl (G.2 0, 8, .inl (fun _ => (-1)))), (b2, .inr (2, [.int 0, .int 1, .int 0, .ref b19, .ref b20, .ref b21])), (b19, .inl (G.2 0, 20, .inl (fun _ => 0))), (b20, .inl (G.2 0, 240, .inl (fun _ => 0))), (b23, .inl (G.2 0, 240, .inl (fun _ => 0))), (b21, .inl (G.2 0, 240, .inl (fun _ => 0))), (b24, .inl (G.2 0, 240, .inl (fun _ => 0))), (b3, .inr (2, [.int 1, .int 1, .int 0, .ref b22, .ref b23, .ref b24])), (b22, .inl (G.2 0, 20, .inl (upd (fun _ => 0) 0 0))), (b1, .inr (1, [.int 0, .ref b25]))] H := hP
    have hD := z_tie hP hD rfl
    refine W.widen (k := 0) (n := 0) (Nat.le_of_ble_eq_true rfl) (Nat.le_of_ble_eq_true rfl) ?_
    refine lv_pop hx hb d_X_traces_32 rfl ?_
    refine lv_iload_n hx hb d_X_traces_33 rfl (lv_at hl 0 rfl) ?_
    refine lv_iconst (v := (-1)) hx hb d_X_traces_34 (by decide) ?_
    refine lv_icmp_eq (tgt := 44) hx hb d_X_traces_35 (by decide) (fun _ => ?_) (fun hc => absurd hc (by decide +kernel))
    refine lv_aload_n hx hb d_X_traces_44 rfl (lv_at hl 1 rfl) ?_
    refine z_callV (index := 137) (As := []) (rest := []) (wr := [(b6, .inr (3, [.int 0, .int 0, .int 0, .ref b37, .ref b38, .ref b39, .ref b40, .ref b41, .ref b42, .ref b43, .ref b44])), (b8, .inl (G.2 6, 4, .inr (.inr (.inr (.inr (va_up (va_up (va_up (va_up (fun _ => none) 0 (some b45)) 1 (some b46)) 2 (some b47)) 3 (some b48))))))), (b45, .inr (5, [.int 0, .int 0, .ref b49, .ref b50, .ref b51, .ref b52, .ref b53, .ref b54, .int 0, .ref b55, .ref b56, .ref b57, .ref b58, .ref b59, .ref b60])), (b46, .inr (5, [.int 0, .int 0, .ref b61, .ref b62, .ref b63, .ref b64, .ref b65, .ref b66, .int 0, .ref b67, .ref b68, .ref b69, .ref b70, .ref b71, .ref b72])), (b47, .inr (5, [.int 0, .int 0, .ref b73, .ref b74, .ref b75, .ref b76, .ref b77, .ref b78, .int 0, .ref b79, .ref b80, .ref b81, .ref b82, .ref b83, .ref b84])), (b48, .inr (5, [.int 0, .int 0, .ref b85, .ref b86, .ref b87, .ref b88, .ref b89, .ref b90, .int 0, .ref b91, .ref b92, .ref b93, .ref b94, .ref b95, .ref b96])), (b14, .inr (8, [.int 0, .int 0, .ref b97, .int 0, .int 0, .ref b98, .ref b99, .ref b100, .ref b101, .ref b102])), (b15, .inr (9, [.int 0, .int 0, .int 0, .ref b103, .int 0])), (b18, .inl (G.2 0, 8, .inl (fun _ => (-1)))), (b23, .inl (G.2 0, 240, .inl (fun _ => 0))), (b24, .inl (G.2 0, 240, .inl (fun _ => 0))), (b3, .inr (2, [.int 1, .int 1, .int 0, .ref b22, .ref b23, .ref b24])), (b22, .inl (G.2 0, 20, .inl (upd (fun _ => 0) 0 0))), (b1, .inr (1, [.int 0, .ref b25]))]) Z (c1_X_remember l G (b0) (b1) (b2) (b3) (b4) (b5) (b6) (b7) (b8) (b9) (b10) (b11) (b12) (b13) (b14) (b15) (b16) (b17) (b18) (b26) (b27) (b28) (b29) (b30) (b31) (b32) (b33) (b19) (b20) (b21) (b34) (b35) (b36)) hl.1 q524 q526 qs0 q1 q527 ⟨by decide, by decide, by show _ = some 0; decide +kernel⟩ ⟨Nat.le_of_ble_eq_true rfl, Nat.le_of_ble_eq_true rfl⟩ ⟨Nat.le_of_ble_eq_true rfl, Nat.le_of_ble_eq_true rfl⟩ rfl (Nat.le_of_ble_eq_true rfl) d_X_traces_45 hP hD hS hA 0 0 rfl rfl rfl [0, 1, 15, 2, 16, 3, 17, 4, 19, 5] [6, 7, 8, 9, 10, 11, 12, 13, 14, 18, 20, 21, 22, 23] rfl rfl rfl rfl (by decide) (fun v w1 H locs hw_9 hP hD hS => ?_)
    obtain ⟨rfl, rfl⟩ := hw_9
    have hP : va_P G.1 classes [(b6, .inr (3, [.int 0, .int 0, .int 0, .ref b37, .ref b38, .ref b39, .ref b40, .ref b41, .ref b42, .ref b43, .ref b44])), (b8, .inl (G.2 6, 4, .inr (.inr (.inr (.inr (va_up (va_up (va_up (va_up (fun _ => none) 0 (some b45)) 1 (some b46)) 2 (some b47)) 3 (some b48))))))), (b45, .inr (5, [.int 0, .int 0, .ref b49, .ref b50, .ref b51, .ref b52, .ref b53, .ref b54, .int 0, .ref b55, .ref b56, .ref b57, .ref b58, .ref b59, .ref b60])), (b46, .inr (5, [.int 0, .int 0, .ref b61, .ref b62, .ref b63, .ref b64, .ref b65, .ref b66, .int 0, .ref b67, .ref b68, .ref b69, .ref b70, .ref b71, .ref b72])), (b47, .inr (5, [.int 0, .int 0, .ref b73, .ref b74, .ref b75, .ref b76, .ref b77, .ref b78, .int 0, .ref b79, .ref b80, .ref b81, .ref b82, .ref b83, .ref b84])), (b48, .inr (5, [.int 0, .int 0, .ref b85, .ref b86, .ref b87, .ref b88, .ref b89, .ref b90, .int 0, .ref b91, .ref b92, .ref b93, .ref b94, .ref b95, .ref b96])), (b14, .inr (8, [.int 0, .int 0, .ref b97, .int 0, .int 0, .ref b98, .ref b99, .ref b100, .ref b101, .ref b102])), (b15, .inr (9, [.int 0, .int 0, .int 0, .ref b103, .int 0])), (b18, .inl (G.2 0, 8, .inl (fun _ => (-1)))), (b23, .inl (G.2 0, 240, .inl (fun _ => 0))), (b24, .inl (G.2 0, 240, .inl (fun _ => 0))), (b3, .inr (2, [.int 1, .int 1, .int 0, .ref b22, .ref b23, .ref b24])), (b22, .inl (G.2 0, 20, .inl (upd (fun _ => 0) 0 0))), (b1, .inr (1, [.int 0, .ref b25])), (b0, .inr (0, [.ref b1, .ref b2, .ref b3, .ref b4, .int 1, .int 1, .ref b5, .ref b6, .ref b7, .ref b8, .ref b9, .ref b10, .ref b11, .ref b12, .ref b13, .ref b14, .ref b15, .ref b16, .ref b17, .ref b18])), (b4, .inl (G.2 5, 8, .inr (.inr (.inr (.inr (va_up (va_up (va_up (va_up (va_up (va_up (va_up (va_up (fun _ => none) 0 (some b26)) 1 (some b27)) 2 (some b28)) 3 (some b29)) 4 (some b30)) 5 (some b31)) 6 (some b32)) 7 (some b33))))))), (b2, .inr (2, [.int 0, .int 1, .int 0, .ref b19, .ref b20, .ref b21])), (b26, .inr (2, [.int 0, .int 1, .int 0, .ref b34, .ref b35, .ref b36])), (b19, .inl (G.2 0, 20, .inl (fun _ => 0))), (b34, .inl (G.2 0, 20, .inl (fun _ => 0))), (b20, .inl (G.2 0, 240, .inl (fun _ => 0))), (b35, .inl (G.2 0, 240, .inl (fun _ => 0))), (b21, .inl (G.2 0, 240, .inl (fun _ => 0))), (b36, .inl (G.2 0, 240, .inl (fun _ => 0)))] H := hP
    have hD := z_tie hP hD rfl
    refine W.widen (k := 0) (n := 0) (Nat.le_of_ble_eq_true rfl) (Nat.le_of_ble_eq_true rfl) ?_
    refine lv_aload_n hx hb d_X_traces_48 rfl (lv_at hl 1 rfl) ?_
    refine va_get (D := G.1) (ci := 0) (v := .ref b2) (C := R_X) (T := F_X) (N := 20) hx hb hts i_X hown hK hP 14 rfl rfl 1 (by decide) (hts _ q418) (fun _ h9 => h9) rfl d_X_traces_49 ?_
    refine lv_aload_n hx hb d_X_traces_52 rfl (lv_at hl 1 rfl) ?_
    refine va_get (D := G.1) (ci := 0) (v := .ref b3) (C := R_X) (T := F_X) (N := 20) hx hb hts i_X hown hK hP 14 rfl rfl 2 (by decide) (hts _ q419) (fun _ h9 => h9) rfl d_X_traces_53 ?_
    refine z_callV (index := 129) (As := [.ref b3]) (rest := []) (wr := [(b6, .inr (3, [.int 0, .int 0, .int 0, .ref b37, .ref b38, .ref b39, .ref b40, .ref b41, .ref b42, .ref b43, .ref b44])), (b8, .inl (G.2 6, 4, .inr (.inr (.inr (.inr (va_up (va_up (va_up (va_up (fun _ => none) 0 (some b45)) 1 (some b46)) 2 (some b47)) 3 (some b48))))))), (b45, .inr (5, [.int 0, .int 0, .ref b49, .ref b50, .ref b51, .ref b52, .ref b53, .ref b54, .int 0, .ref b55, .ref b56, .ref b57, .ref b58, .ref b59, .ref b60])), (b46, .inr (5, [.int 0, .int 0, .ref b61, .ref b62, .ref b63, .ref b64, .ref b65, .ref b66, .int 0, .ref b67, .ref b68, .ref b69, .ref b70, .ref b71, .ref b72])), (b47, .inr (5, [.int 0, .int 0, .ref b73, .ref b74, .ref b75, .ref b76, .ref b77, .ref b78, .int 0, .ref b79, .ref b80, .ref b81, .ref b82, .ref b83, .ref b84])), (b48, .inr (5, [.int 0, .int 0, .ref b85, .ref b86, .ref b87, .ref b88, .ref b89, .ref b90, .int 0, .ref b91, .ref b92, .ref b93, .ref b94, .ref b95, .ref b96])), (b14, .inr (8, [.int 0, .int 0, .ref b97, .int 0, .int 0, .ref b98, .ref b99, .ref b100, .ref b101, .ref b102])), (b15, .inr (9, [.int 0, .int 0, .int 0, .ref b103, .int 0])), (b18, .inl (G.2 0, 8, .inl (fun _ => (-1)))), (b1, .inr (1, [.int 0, .ref b25])), (b0, .inr (0, [.ref b1, .ref b2, .ref b3, .ref b4, .int 1, .int 1, .ref b5, .ref b6, .ref b7, .ref b8, .ref b9, .ref b10, .ref b11, .ref b12, .ref b13, .ref b14, .ref b15, .ref b16, .ref b17, .ref b18])), (b4, .inl (G.2 5, 8, .inr (.inr (.inr (.inr (va_up (va_up (va_up (va_up (va_up (va_up (va_up (va_up (fun _ => none) 0 (some b26)) 1 (some b27)) 2 (some b28)) 3 (some b29)) 4 (some b30)) 5 (some b31)) 6 (some b32)) 7 (some b33))))))), (b26, .inr (2, [.int 0, .int 1, .int 0, .ref b34, .ref b35, .ref b36])), (b34, .inl (G.2 0, 20, .inl (fun _ => 0))), (b35, .inl (G.2 0, 240, .inl (fun _ => 0))), (b36, .inl (G.2 0, 240, .inl (fun _ => 0)))]) Z (c2_Traces_copyFrom l G (b2) (b3) (b22) (b23) (b24) (b19) (b20) (b21)) hl.1 q498 q499 q500 q3 q501 ⟨by decide, by decide, by show _ = some 1; decide +kernel⟩ ⟨Nat.le_of_ble_eq_true rfl, Nat.le_of_ble_eq_true rfl⟩ ⟨Nat.le_of_ble_eq_true rfl, Nat.le_of_ble_eq_true rfl⟩ rfl (Nat.le_of_ble_eq_true rfl) d_X_traces_56 hP hD hS hA 16 2 rfl rfl rfl [11, 16, 12, 18, 9, 20, 10, 22] [0, 1, 2, 3, 4, 5, 6, 7, 8, 13, 14, 15, 17, 19, 21, 23] rfl rfl rfl rfl (by decide) (fun v w1 H locs hw_10 hP hD hS => ?_)
    obtain ⟨rfl, rfl⟩ := hw_10
    have hP : va_P G.1 classes [(b6, .inr (3, [.int 0, .int 0, .int 0, .ref b37, .ref b38, .ref b39, .ref b40, .ref b41, .ref b42, .ref b43, .ref b44])), (b8, .inl (G.2 6, 4, .inr (.inr (.inr (.inr (va_up (va_up (va_up (va_up (fun _ => none) 0 (some b45)) 1 (some b46)) 2 (some b47)) 3 (some b48))))))), (b45, .inr (5, [.int 0, .int 0, .ref b49, .ref b50, .ref b51, .ref b52, .ref b53, .ref b54, .int 0, .ref b55, .ref b56, .ref b57, .ref b58, .ref b59, .ref b60])), (b46, .inr (5, [.int 0, .int 0, .ref b61, .ref b62, .ref b63, .ref b64, .ref b65, .ref b66, .int 0, .ref b67, .ref b68, .ref b69, .ref b70, .ref b71, .ref b72])), (b47, .inr (5, [.int 0, .int 0, .ref b73, .ref b74, .ref b75, .ref b76, .ref b77, .ref b78, .int 0, .ref b79, .ref b80, .ref b81, .ref b82, .ref b83, .ref b84])), (b48, .inr (5, [.int 0, .int 0, .ref b85, .ref b86, .ref b87, .ref b88, .ref b89, .ref b90, .int 0, .ref b91, .ref b92, .ref b93, .ref b94, .ref b95, .ref b96])), (b14, .inr (8, [.int 0, .int 0, .ref b97, .int 0, .int 0, .ref b98, .ref b99, .ref b100, .ref b101, .ref b102])), (b15, .inr (9, [.int 0, .int 0, .int 0, .ref b103, .int 0])), (b18, .inl (G.2 0, 8, .inl (fun _ => (-1)))), (b1, .inr (1, [.int 0, .ref b25])), (b0, .inr (0, [.ref b1, .ref b2, .ref b3, .ref b4, .int 1, .int 1, .ref b5, .ref b6, .ref b7, .ref b8, .ref b9, .ref b10, .ref b11, .ref b12, .ref b13, .ref b14, .ref b15, .ref b16, .ref b17, .ref b18])), (b4, .inl (G.2 5, 8, .inr (.inr (.inr (.inr (va_up (va_up (va_up (va_up (va_up (va_up (va_up (va_up (fun _ => none) 0 (some b26)) 1 (some b27)) 2 (some b28)) 3 (some b29)) 4 (some b30)) 5 (some b31)) 6 (some b32)) 7 (some b33))))))), (b26, .inr (2, [.int 0, .int 1, .int 0, .ref b34, .ref b35, .ref b36])), (b34, .inl (G.2 0, 20, .inl (fun _ => 0))), (b35, .inl (G.2 0, 240, .inl (fun _ => 0))), (b36, .inl (G.2 0, 240, .inl (fun _ => 0))), (b3, .inr (2, [.int 1, .int 1, .int 0, .ref b22, .ref b23, .ref b24])), (b2, .inr (2, [.int 1, .int 1, .int 0, .ref b19, .ref b20, .ref b21])), (b22, .inl (G.2 0, 20, .inl (upd (fun _ => 0) 0 0))), (b19, .inl (G.2 0, 20, .inl (va_cpy (upd (fun _ => 0) 0 0) (fun _ => 0) 0 0 1))), (b23, .inl (G.2 0, 240, .inl (fun _ => 0))), (b20, .inl (G.2 0, 240, .inl (fun _ => 0))), (b24, .inl (G.2 0, 240, .inl (fun _ => 0))), (b21, .inl (G.2 0, 240, .inl (fun _ => 0)))] H := hP
    have hD := z_tie hP hD rfl
    refine W.widen (k := 0) (n := 0) (Nat.le_of_ble_eq_true rfl) (Nat.le_of_ble_eq_true rfl) ?_
    refine lv_aload_n hx hb d_X_traces_59 rfl (lv_at hl 1 rfl) ?_
    refine z_callV (index := 140) (As := []) (rest := []) (wr := [(b1, .inr (1, [.int 0, .ref b25])), (b4, .inl (G.2 5, 8, .inr (.inr (.inr (.inr (va_up (va_up (va_up (va_up (va_up (va_up (va_up (va_up (fun _ => none) 0 (some b26)) 1 (some b27)) 2 (some b28)) 3 (some b29)) 4 (some b30)) 5 (some b31)) 6 (some b32)) 7 (some b33))))))), (b26, .inr (2, [.int 0, .int 1, .int 0, .ref b34, .ref b35, .ref b36])), (b34, .inl (G.2 0, 20, .inl (fun _ => 0))), (b35, .inl (G.2 0, 240, .inl (fun _ => 0))), (b36, .inl (G.2 0, 240, .inl (fun _ => 0))), (b3, .inr (2, [.int 1, .int 1, .int 0, .ref b22, .ref b23, .ref b24])), (b2, .inr (2, [.int 1, .int 1, .int 0, .ref b19, .ref b20, .ref b21])), (b22, .inl (G.2 0, 20, .inl (upd (fun _ => 0) 0 0))), (b19, .inl (G.2 0, 20, .inl (va_cpy (upd (fun _ => 0) 0 0) (fun _ => 0) 0 0 1))), (b23, .inl (G.2 0, 240, .inl (fun _ => 0))), (b20, .inl (G.2 0, 240, .inl (fun _ => 0))), (b24, .inl (G.2 0, 240, .inl (fun _ => 0))), (b21, .inl (G.2 0, 240, .inl (fun _ => 0)))]) Z (c1_X_forgetFound l G (b0) (b1) (b2) (b3) (b4) (b5) (b6) (b7) (b8) (b9) (b10) (b11) (b12) (b13) (b14) (b15) (b16) (b17) (b18) (b37) (b38) (b39) (b40) (b41) (b42) (b43) (b44) (b45) (b46) (b47) (b48) (b49) (b50) (b51) (b52) (b53) (b54) (b55) (b56) (b57) (b58) (b59) (b60) (b61) (b62) (b63) (b64) (b65) (b66) (b67) (b68) (b69) (b70) (b71) (b72) (b73) (b74) (b75) (b76) (b77) (b78) (b79) (b80) (b81) (b82) (b83) (b84) (b85) (b86) (b87) (b88) (b89) (b90) (b91) (b92) (b93) (b94) (b95) (b96) (b97) (b98) (b99) (b100) (b101) (b102) (b103)) hl.1 q528 q530 qs1 q1 q531 ⟨by decide, by decide, by show _ = some 0; decide +kernel⟩ ⟨Nat.le_of_ble_eq_true rfl, Nat.le_of_ble_eq_true rfl⟩ ⟨Nat.le_of_ble_eq_true rfl, Nat.le_of_ble_eq_true rfl⟩ rfl (Nat.le_of_ble_eq_true rfl) d_X_traces_60 hP hD hS hA 10 0 rfl rfl rfl [10, 0, 1, 2, 3, 4, 5, 6, 7, 8] [9, 11, 12, 13, 14, 15, 16, 17, 18, 19, 20, 21, 22, 23] rfl rfl rfl rfl (by decide) (fun v w1 H locs hw_11 hP hD hS => ?_)
    obtain ⟨rfl, rfl⟩ := hw_11
    have hP : va_P G.1 classes [(b1, .inr (1, [.int 0, .ref b25])), (b4, .inl (G.2 5, 8, .inr (.inr (.inr (.inr (va_up (va_up (va_up (va_up (va_up (va_up (va_up (va_up (fun _ => none) 0 (some b26)) 1 (some b27)) 2 (some b28)) 3 (some b29)) 4 (some b30)) 5 (some b31)) 6 (some b32)) 7 (some b33))))))), (b26, .inr (2, [.int 0, .int 1, .int 0, .ref b34, .ref b35, .ref b36])), (b34, .inl (G.2 0, 20, .inl (fun _ => 0))), (b35, .inl (G.2 0, 240, .inl (fun _ => 0))), (b36, .inl (G.2 0, 240, .inl (fun _ => 0))), (b3, .inr (2, [.int 1, .int 1, .int 0, .ref b22, .ref b23, .ref b24])), (b2, .inr (2, [.int 1, .int 1, .int 0, .ref b19, .ref b20, .ref b21])), (b22, .inl (G.2 0, 20, .inl (upd (fun _ => 0) 0 0))), (b19, .inl (G.2 0, 20, .inl (va_cpy (upd (fun _ => 0) 0 0) (fun _ => 0) 0 0 1))), (b23, .inl (G.2 0, 240, .inl (fun _ => 0))), (b20, .inl (G.2 0, 240, .inl (fun _ => 0))), (b24, .inl (G.2 0, 240, .inl (fun _ => 0))), (b21, .inl (G.2 0, 240, .inl (fun _ => 0))), (b0, .inr (0, [.ref b1, .ref b2, .ref b3, .ref b4, .int 1, .int 1, .ref b5, .ref b6, .ref b7, .ref b8, .ref b9, .ref b10, .ref b11, .ref b12, .ref b13, .ref b14, .ref b15, .ref b16, .ref b17, .ref b18])), (b6, .inr (3, [.int 0, .int 0, .int 0, .ref b37, .ref b38, .ref b39, .ref b40, .ref b41, .ref b42, .ref b43, .ref b44])), (b8, .inl (G.2 6, 4, .inr (.inr (.inr (.inr (va_up (va_up (va_up (va_up (fun _ => none) 0 (some b45)) 1 (some b46)) 2 (some b47)) 3 (some b48))))))), (b45, .inr (5, [.int 0, .int 0, .ref b49, .ref b50, .ref b51, .ref b52, .ref b53, .ref b54, .int 0, .ref b55, .ref b56, .ref b57, .ref b58, .ref b59, .ref b60])), (b46, .inr (5, [.int 0, .int 0, .ref b61, .ref b62, .ref b63, .ref b64, .ref b65, .ref b66, .int 0, .ref b67, .ref b68, .ref b69, .ref b70, .ref b71, .ref b72])), (b47, .inr (5, [.int 0, .int 0, .ref b73, .ref b74, .ref b75, .ref b76, .ref b77, .ref b78, .int 0, .ref b79, .ref b80, .ref b81, .ref b82, .ref b83, .ref b84])), (b48, .inr (5, [.int 0, .int 0, .ref b85, .ref b86, .ref b87, .ref b88, .ref b89, .ref b90, .int 0, .ref b91, .ref b92, .ref b93, .ref b94, .ref b95, .ref b96])), (b14, .inr (8, [.int 0, .int 0, .ref b97, .int 0, .int 0, .ref b98, .ref b99, .ref b100, .ref b101, .ref b102])), (b15, .inr (9, [.int 0, .int 0, .int 0, .ref b103, .int 0])), (b18, .inl (G.2 0, 8, .inl (fun _ => (-1))))] H := hP
    have hD := z_tie hP hD rfl
    refine W.widen (k := 0) (n := 0) (Nat.le_of_ble_eq_true rfl) (Nat.le_of_ble_eq_true rfl) ?_
    refine lv_aload_n hx hb d_X_traces_63 rfl (lv_at hl 1 rfl) ?_
    refine va_get (D := G.1) (ci := 0) (v := .ref b2) (C := R_X) (T := F_X) (N := 20) hx hb hts i_X hown hK hP 14 rfl rfl 1 (by decide) (hts _ q418) (fun _ h9 => h9) rfl d_X_traces_64 ?_
    refine va_get (D := G.1) (ci := 2) (v := .int 1) (C := R_Traces) (T := F_Traces) (N := 6) hx hb hts i_Traces hown hK hP 7 rfl rfl 0 (by decide) (hts _ q58) (fun _ h9 => h9) rfl d_X_traces_67 ?_
    exact z_iret hx hb hr hlocks hP hD hS (Nat.le_of_ble_eq_true rfl) (Nat.le_of_ble_eq_true rfl) d_X_traces_70 (congrArg (fun z => some (Value.int z)) (by unfold a_traces; (first | rfl | (repeat (first | rw [if_pos (by omega)] | rw [if_neg (by omega)])))))
  · exfalso; (try simp only [Int32.toInt_toInt64, li_0, li_0] at hq_7); (try simp only [Int32.toInt_toInt64, li_0, li_0] at hq_8); omega
theorem d_X_drop_0 : decode prog_1_method_5_code 0 = .ok (.aload_n 0, 1) := by decide +kernel
theorem d_X_drop_1 : decode prog_1_method_5_code 1 = .ok (.getfield 19, 3) := by decide +kernel
theorem d_X_drop_4 : decode prog_1_method_5_code 4 = .ok (.iload_n 1, 1) := by decide +kernel
theorem d_X_drop_5 : decode prog_1_method_5_code 5 = .ok (.invokevirtual 146, 3) := by decide +kernel
theorem d_Traces_has_0 : decode prog_10_method_3_code 0 = .ok (.iload_n 1, 1) := by decide +kernel
theorem d_Traces_has_1 : decode prog_10_method_3_code 1 = .ok (.ifCond .lt 15, 3) := by decide +kernel
theorem d_Traces_has_4 : decode prog_10_method_3_code 4 = .ok (.iload_n 1, 1) := by decide +kernel
theorem d_Traces_has_5 : decode prog_10_method_3_code 5 = .ok (.aload_n 0, 1) := by decide +kernel
theorem d_Traces_has_6 : decode prog_10_method_3_code 6 = .ok (.getfield 25, 3) := by decide +kernel
theorem d_Traces_has_9 : decode prog_10_method_3_code 9 = .ok (.if_icmp .ge 7, 3) := by decide +kernel
theorem d_Traces_has_16 : decode prog_10_method_3_code 16 = .ok (.iconst 0, 1) := by decide +kernel
theorem d_Traces_has_17 : decode prog_10_method_3_code 17 = .ok (.ireturn, 1) := by decide +kernel
abbrev m_c1_Traces_has : Room := { frames := 0, cells := 0, slots := 0, locals := 0 }
set_option maxHeartbeats 4000000 in
set_option maxRecDepth 100000 in
theorem c1_Traces_has (l : Launch) (G : zG) (b0 : Nat) (b1 : Int32) (b2 : Nat) (b3 : Nat) (b4 : Nat)  : zM l G y_Traces_has prog_10_method_3_code 2 (Option.some Jvm.ClassFile.FieldType.boolean) m_c1_Traces_has [.ref b0, .int b1] [(b0, .inr (2, [.int 0, .int 1, .int 0, .ref b2, .ref b3, .ref b4]))] (fun v w => (v = some (.int 0) ∧ w = [(b0, .inr (2, [.int 0, .int 1, .int 0, .ref b2, .ref b3, .ref b4]))])) := by
  refine z_start (by decide +kernel) (Nat.le_of_ble_eq_true rfl) ?_
  intro p e s m below meth c A Z hr hnm hA hP hD hS ls hl
  have Z : zC p s m _ meth c prog_10_method_3_code 2 "TraceMachines$Traces" G := Z
  obtain ⟨hx, hb, hml, hown, hts, hK, hN, hlocks⟩ := id Z
  have hl : lv_has ls 2 [(0, .ref b0), (1, .int b1)] := hl
  refine lv_iload_n hx hb d_Traces_has_0 rfl (lv_at hl 1 rfl) ?_
  refine lv_if_lt (tgt := 16) hx hb d_Traces_has_1 (by decide) (fun hc_1 => ?_) (fun hc_1 => ?_)
  · simp only [fa_lt, fa_le, fa_eq, Int32.toInt_toInt64, li_0] at hc_1
    refine lv_iconst (v := 0) hx hb d_Traces_has_16 (by decide) ?_
    exact z_zret hx hb hr hlocks rfl hP hD hS (Nat.le_of_ble_eq_true rfl) (Nat.le_of_ble_eq_true rfl) d_Traces_has_17 ⟨rfl, rfl⟩
  · simp only [fa_lt, fa_le, fa_eq, Int32.toInt_toInt64, li_0] at hc_1
    refine lv_iload_n hx hb d_Traces_has_4 rfl (lv_at hl 1 rfl) ?_
    refine lv_aload_n hx hb d_Traces_has_5 rfl (lv_at hl 0 rfl) ?_
    refine va_get (D := G.1) (ci := 2) (v := .int 0) (C := R_Traces) (T := F_Traces) (N := 6) hx hb hts i_Traces hown hK hP 0 rfl rfl 0 (by decide) (hts _ q52) (fun _ h9 => h9) rfl d_Traces_has_6 ?_
    refine lv_icmp_ge (tgt := 16) hx hb d_Traces_has_9 (by decide) (fun _ => ?_) (fun hc => absurd hc (by intro hc; simp only [fa_lt, fa_le, fa_eq, Int32.toInt_toInt64, li_0] at hc; omega))
    refine lv_iconst (v := 0) hx hb d_Traces_has_16 (by decide) ?_
    exact z_zret hx hb hr hlocks rfl hP hD hS (Nat.le_of_ble_eq_true rfl) (Nat.le_of_ble_eq_true rfl) d_Traces_has_17 ⟨rfl, rfl⟩
theorem d_X_drop_8 : decode prog_1_method_5_code 8 = .ok (.ifCond .ne 6, 3) := by decide +kernel
theorem d_X_drop_11 : decode prog_1_method_5_code 11 = .ok (.bipush (-2), 2) := by decide +kernel
theorem d_X_drop_13 : decode prog_1_method_5_code 13 = .ok (.ireturn, 1) := by decide +kernel
abbrev m_t_X_drop : Room := { frames := 1, cells := 0, slots := 0, locals := 21 }
set_option maxHeartbeats 4000000 in
set_option maxRecDepth 100000 in
theorem t_X_drop (l : Launch) (G : zG) (b0 : Nat) (p0 : Int32) (b2 : Nat) (b3 : Nat) (b4 : Nat) (b5 : Nat) (b6 : Nat) (b7 : Nat) (b8 : Nat) (b9 : Nat) (b10 : Nat) (b11 : Nat) (b12 : Nat) (b13 : Nat) (b14 : Nat) (b15 : Nat) (b16 : Nat) (b17 : Nat) (b18 : Nat) (b19 : Nat) (b20 : Nat) (b21 : Nat) (b22 : Nat)  : zM l G y_X_drop prog_1_method_5_code 2 (Option.some Jvm.ClassFile.FieldType.int) m_t_X_drop [.ref b0, .int p0] [(b0, .inr (0, [.ref b2, .ref b3, .ref b4, .ref b5, .int 0, .int 0, .ref b6, .ref b7, .ref b8, .ref b9, .ref b10, .ref b11, .ref b12, .ref b13, .ref b14, .ref b15, .ref b16, .ref b17, .ref b18, .ref b19])), (b3, .inr (2, [.int 0, .int 1, .int 0, .ref b20, .ref b21, .ref b22]))] (fun v _ => v = some (.int (a_drop p0))) := by
  refine z_start (by decide +kernel) (Nat.le_of_ble_eq_true rfl) ?_
  intro p e s m below meth c A Z hr hnm hA hP hD hS ls hl
  have Z : zC p s m _ meth c prog_1_method_5_code 2 "TraceMachines" G := Z
  obtain ⟨hx, hb, hml, hown, hts, hK, hN, hlocks⟩ := id Z
  have hl : lv_has ls 2 [(0, .ref b0), (1, .int p0)] := hl
  refine lv_aload_n hx hb d_X_drop_0 rfl (lv_at hl 0 rfl) ?_
  refine va_get (D := G.1) (ci := 0) (v := .ref b3) (C := R_X) (T := F_X) (N := 20) hx hb hts i_X hown hK hP 0 rfl rfl 1 (by decide) (hts _ q418) (fun _ h9 => h9) rfl d_X_drop_1 ?_
  refine lv_iload_n hx hb d_X_drop_4 rfl (lv_at hl 1 rfl) ?_
  refine z_callV (index := 146) (As := [.int p0]) (rest := []) (wr := [(b0, .inr (0, [.ref b2, .ref b3, .ref b4, .ref b5, .int 0, .int 0, .ref b6, .ref b7, .ref b8, .ref b9, .ref b10, .ref b11, .ref b12, .ref b13, .ref b14, .ref b15, .ref b16, .ref b17, .ref b18, .ref b19]))]) Z (c1_Traces_has l G (b3) (p0) (b20) (b21) (b22)) hl.1 q536 q537 q538 q3 q539 ⟨by decide, by decide, by show _ = some 1; decide +kernel⟩ ⟨Nat.le_of_ble_eq_true rfl, Nat.le_of_ble_eq_true rfl⟩ ⟨Nat.le_of_ble_eq_true rfl, Nat.le_of_ble_eq_true rfl⟩ rfl (Nat.le_of_ble_eq_true rfl) d_X_drop_5 hP hD hS hA 1 2 rfl rfl rfl [1] [0] rfl rfl rfl rfl (by decide) (fun v w1 H locs hw_1 hP hD hS => ?_)
  obtain ⟨rfl, rfl⟩ := hw_1
  have hP : va_P G.1 classes [(b0, .inr (0, [.ref b2, .ref b3, .ref b4, .ref b5, .int 0, .int 0, .ref b6, .ref b7, .ref b8, .ref b9, .ref b10, .ref b11, .ref b12, .ref b13, .ref b14, .ref b15, .ref b16, .ref b17, .ref b18, .ref b19])), (b3, .inr (2, [.int 0, .int 1, .int 0, .ref b20, .ref b21, .ref b22]))] H := hP
  have hD := z_tie hP hD rfl
  refine W.widen (k := 0) (n := 0) (Nat.le_of_ble_eq_true rfl) (Nat.le_of_ble_eq_true rfl) ?_
  refine lv_if_ne (tgt := 14) hx hb d_X_drop_8 (by decide) (fun hc => absurd hc (by decide +kernel)) (fun _ => ?_)
  refine lv_bipush (v := (-2)) hx hb d_X_drop_11 (by decide) ?_
  exact z_iret hx hb hr hlocks hP hD hS (Nat.le_of_ble_eq_true rfl) (Nat.le_of_ble_eq_true rfl) d_X_drop_13 (congrArg (fun z => some (Value.int z)) (by unfold a_drop; (first | rfl | (repeat (first | rw [if_pos (by omega)] | rw [if_neg (by omega)])))))
