abbrev m_s2_Model_sign : Room := { frames := 0, cells := 0, slots := 0, locals := 0 }
set_option maxHeartbeats 4000000 in
set_option maxRecDepth 100000 in
theorem s2_Model_sign (l : Launch) (G : zG) (b0 : Nat) (b1 : Int32) (b2 : Int32) (b3 : Nat) (b4 : Nat) (b5 : Nat) (b6 : Nat) (b7 : Int32) (b8 : Nat) (b9 : Int32) (b10 : Int32) (b11 : Int32) (b12 : Int32) (b13 : Nat) (b14 : Nat) (b15 : Nat) (b16 : Int32) (b17 : Nat) (b18 : Nat) (b19 : Nat) (b20 : Nat) (b21 : Nat) (b22 : Nat) (b23 : Nat) (b24 : Nat) (b25 : Nat) (b26 : Nat) (b27 : Nat) (b28 : Nat) (b29 : Int32) (b30 : Nat) (b31 : Nat) (b32 : Int32) (b33 : Int32) (b34 : Int32) (b35 : Int32) (b36 : Nat) (b37 : Nat) (b38 : Nat) (b39 : Nat) (b40 : Nat) (b41 : Nat) (b42 : Nat) (b43 : Int32) (b44 : Nat) (b45 : Nat) (b46 : Int32) (b47 : Nat) (b48 : Nat) (b49 : Nat) (b50 : Nat) (b51 : Nat) (b52 : Int32) (b53 : Nat) (b54 : Nat) (b55 : Nat) (b56 : Nat → Int32) (hb7 : zI b7 0 8) (hb9 : zI b9 0 240) (hb10 : zI b10 0 240) (hb12 : zI b12 0 1) (hb16 : zI b16 0 12) (hb29 : zI b29 0 1) (hb32 : zI b32 0 1) (hb43 : zI b43 0 1000) (hb46 : zI b46 0 1000) (hb52 : zI b52 0 400) : zM l G y_Model_sign prog_14_method_9_code 3 (Option.some Jvm.ClassFile.FieldType.int) m_s2_Model_sign [.ref b0, .int b1] [(b0, .inr (12, [.int b2, .ref b3, .ref b4, .ref b5, .ref b6, .int b7, .ref b8, .int b9, .int b10, .int b11, .int b12, .ref b13, .ref b14, .ref b15, .int b16, .ref b17, .ref b18, .ref b19, .ref b20, .ref b21, .ref b22, .ref b23, .ref b24, .ref b25, .ref b26, .ref b27, .ref b28, .int b29, .ref b30, .ref b31, .int b32, .int b33, .int b34, .int b35, .ref b36, .ref b37, .ref b38, .ref b39, .ref b40, .ref b41, .ref b42, .int b43, .ref b44, .ref b45, .int b46, .ref b47, .ref b48, .ref b49, .ref b50, .ref b51, .int b52, .ref b53, .ref b54, .ref b55])), (b8, .inl (G.2 3, 240, .inl b56))] (fun v w => ∃ (e0 : Int32), ∃ (e1 : Int32), ∃ (e2 : Nat → Int32), v = some (.int e0) ∧ w = [(b0, .inr (12, [.int 0, .ref b3, .ref b4, .ref b5, .ref b6, .int b7, .ref b8, .int e1, .int b10, .int b11, .int b12, .ref b13, .ref b14, .ref b15, .int b16, .ref b17, .ref b18, .ref b19, .ref b20, .ref b21, .ref b22, .ref b23, .ref b24, .ref b25, .ref b26, .ref b27, .ref b28, .int b29, .ref b30, .ref b31, .int b32, .int b33, .int b34, .int b35, .ref b36, .ref b37, .ref b38, .ref b39, .ref b40, .ref b41, .ref b42, .int b43, .ref b44, .ref b45, .int b46, .ref b47, .ref b48, .ref b49, .ref b50, .ref b51, .int b52, .ref b53, .ref b54, .ref b55])), (b8, .inl (G.2 3, 240, .inl e2))] ∧ (zI e0 (-1) 240) ∧ (zI e1 0 240) ∧ ((b9 : Int32).toInt ≤ 236 → (e0 : Int32).toInt = (b9 : Int32).toInt + 4 ∧ (e1 : Int32).toInt = (b9 : Int32).toInt + 4) ∧ (¬ (b9 : Int32).toInt ≤ 236 → (e0 : Int32).toInt = -1 ∧ (e1 : Int32).toInt = (b9 : Int32).toInt) ∧ ((b9 : Int32).toInt ≤ 236 → e2 = zsg4 b56 (b9 : Int32).toInt.toNat (zby b1 24) (zby b1 16) (zby b1 8) (zby b1 0)) ∧ (¬ (b9 : Int32).toInt ≤ 236 → e2 = b56)) := by
  refine z_start (by decide +kernel) (Nat.le_of_ble_eq_true rfl) ?_
  intro p e s m below meth c A Z hr hnm hA hP hD hS ls hl
  have Z : zC p s m _ meth c prog_14_method_9_code 3 "TraceMachinesModel" G := Z
  obtain ⟨hx, hb, hml, hown, hts, hK, hN, hlocks⟩ := id Z
  have hl : lv_has ls 3 [(0, .ref b0), (1, .int b1)] := hl
  refine lv_aload_n hx hb d_Model_sign_0 rfl (lv_at hl 0 rfl) ?_
  refine lv_iconst (v := 0) hx hb d_Model_sign_1 (by decide) ?_
  refine va_put (D := G.1) (ci := 12) (v := .int 0) (ty := .int) (C := R_Model) (T := F_Model) (N := 54) hx hb hts i_Model t_Model t_Model_ok n_Model hown hK hP hD hS 0 rfl rfl 0 (by decide) (hts _ q1109) (fun _ h9 => h9) rfl (by decide +kernel) rfl rfl (Nat.le_of_ble_eq_true rfl) d_Model_sign_2 (fun H locs hP hD hS => ?_)
  have hP : va_P G.1 classes [(b0, .inr (12, [.int 0, .ref b3, .ref b4, .ref b5, .ref b6, .int b7, .ref b8, .int b9, .int b10, .int b11, .int b12, .ref b13, .ref b14, .ref b15, .int b16, .ref b17, .ref b18, .ref b19, .ref b20, .ref b21, .ref b22, .ref b23, .ref b24, .ref b25, .ref b26, .ref b27, .ref b28, .int b29, .ref b30, .ref b31, .int b32, .int b33, .int b34, .int b35, .ref b36, .ref b37, .ref b38, .ref b39, .ref b40, .ref b41, .ref b42, .int b43, .ref b44, .ref b45, .int b46, .ref b47, .ref b48, .ref b49, .ref b50, .ref b51, .int b52, .ref b53, .ref b54, .ref b55])), (b8, .inl (G.2 3, 240, .inl b56))] H := hP
  have hD := z_tie hP hD rfl
  refine lv_aload_n hx hb d_Model_sign_5 rfl (lv_at hl 0 rfl) ?_
  refine va_get (D := G.1) (ci := 12) (v := .int b9) (C := R_Model) (T := F_Model) (N := 54) hx hb hts i_Model hown hK hP 0 rfl rfl 7 (by decide) (hts _ q1116) (fun _ h9 => h9) rfl d_Model_sign_6 ?_
  refine lv_iconst (v := 4) hx hb d_Model_sign_9 (by decide) ?_
  refine lv_iadd hx hb d_Model_sign_10 ?_
  refine lv_topi (fun v_1 ev_1 => ?_)
  obtain ⟨qv_1, hv_1⟩ := zI_add (l := 4) (h := 244) hb9 zc_4 ev_1 (by decide)
  rw [li_4] at qv_1
  refine lv_sipush (v := 240) hx hb d_Model_sign_11 (by decide) ?_
  refine lv_icmp_le (tgt := 19) hx hb d_Model_sign_14 (by decide) (fun hc_2 => ?_) (fun hc_2 => ?_)
  · have _nhc_2 := hc_2
    have ni_3 := (fa_le _ _).mp hc_2
    rw [li_240] at ni_3
    have hv_4 : zI v_1 4 240 := zI.le_l hv_1 zc_240 hc_2 (by decide)
    have hv_5 : zI b9 0 236 := by have _a := hv_4; have _b := qv_1; have _c := zc_4; have _d := hb9; exact ⟨by omega, by omega⟩
    refine lv_bipush (v := 24) hx hb d_Model_sign_19 (by decide) ?_
    refine lv_istore_n (lv' := [(2, .int 24), (0, .ref b0), (1, .int b1)]) hx hb d_Model_sign_21 rfl hl (by decide) rfl (fun ls hl => ?_)
    refine lv_iload_n hx hb d_Model_sign_22 rfl (lv_at hl 0 rfl) ?_
    refine lv_if_lt (tgt := 55) hx hb d_Model_sign_23 (by decide) (fun hc => absurd hc (by decide +kernel)) (fun _ => ?_)
    refine lv_aload_n hx hb d_Model_sign_26 rfl (lv_at hl 1 rfl) ?_
    refine va_get (D := G.1) (ci := 12) (v := .ref b8) (C := R_Model) (T := F_Model) (N := 54) hx hb hts i_Model hown hK hP 0 rfl rfl 6 (by decide) (hts _ q1115) (fun _ h9 => h9) rfl d_Model_sign_27 ?_
    refine lv_aload_n hx hb d_Model_sign_30 rfl (lv_at hl 1 rfl) ?_
    refine va_get (D := G.1) (ci := 12) (v := .int b9) (C := R_Model) (T := F_Model) (N := 54) hx hb hts i_Model hown hK hP 0 rfl rfl 7 (by decide) (hts _ q1116) (fun _ h9 => h9) rfl d_Model_sign_31 ?_
    refine lv_iload_n hx hb d_Model_sign_34 rfl (lv_at hl 2 rfl) ?_
    refine lv_iload_n hx hb d_Model_sign_35 rfl (lv_at hl 0 rfl) ?_
    obtain ⟨v_6, ev_6⟩ : ∃ z : Int32, z = ((b1).toUInt32 >>> ((24 : Int32).toUInt32 &&& Int32.toUInt32 31)).toInt32 := ⟨_, rfl⟩
    refine lv_iushr (v := v_6) hx hb d_Model_sign_36 ev_6.symm ?_
    obtain ⟨v_7, ev_7⟩ : ∃ z : Int32, z = (v_6).toInt8.toInt32 := ⟨_, rfl⟩
    refine lv_i2b (v := v_7) hx hb d_Model_sign_37 ev_7.symm ?_
    refine va_bast hx hb hK hP hD hS 1 3 rfl rfl (zI.inn hv_5 (by decide)) d_Model_sign_38 (fun H locs hP hD hS => ?_)
    obtain ⟨f_8, gf_8, uf_8, hP, hD⟩ := z_newFu 1 hP hD rfl
    have hP : va_P G.1 classes [(b0, .inr (12, [.int 0, .ref b3, .ref b4, .ref b5, .ref b6, .int b7, .ref b8, .int b9, .int b10, .int b11, .int b12, .ref b13, .ref b14, .ref b15, .int b16, .ref b17, .ref b18, .ref b19, .ref b20, .ref b21, .ref b22, .ref b23, .ref b24, .ref b25, .ref b26, .ref b27, .ref b28, .int b29, .ref b30, .ref b31, .int b32, .int b33, .int b34, .int b35, .ref b36, .ref b37, .ref b38, .ref b39, .ref b40, .ref b41, .ref b42, .int b43, .ref b44, .ref b45, .int b46, .ref b47, .ref b48, .ref b49, .ref b50, .ref b51, .int b52, .ref b53, .ref b54, .ref b55])), (b8, .inl (G.2 3, 240, .inl f_8))] H := hP
    have hD := z_tie hP hD rfl
    refine lv_aload_n hx hb d_Model_sign_39 rfl (lv_at hl 1 rfl) ?_
    refine lv_dup hx hb d_Model_sign_40 rfl ?_
    refine va_get (D := G.1) (ci := 12) (v := .int b9) (C := R_Model) (T := F_Model) (N := 54) hx hb hts i_Model hown hK hP 0 rfl rfl 7 (by decide) (hts _ q1116) (fun _ h9 => h9) rfl d_Model_sign_41 ?_
    refine lv_iconst (v := 1) hx hb d_Model_sign_44 (by decide) ?_
    refine lv_iadd hx hb d_Model_sign_45 ?_
    refine lv_topi (fun v_9 ev_9 => ?_)
    obtain ⟨qv_9, hv_9⟩ := zI_add (l := 1) (h := 237) hv_5 zc_1 ev_9 (by decide)
    rw [li_1] at qv_9
    refine va_put (D := G.1) (ci := 12) (v := .int v_9) (ty := .int) (C := R_Model) (T := F_Model) (N := 54) hx hb hts i_Model t_Model t_Model_ok n_Model hown hK hP hD hS 0 rfl rfl 7 (by decide) (hts _ q1116) (fun _ h9 => h9) rfl (by decide +kernel) rfl rfl (Nat.le_of_ble_eq_true rfl) d_Model_sign_46 (fun H locs hP hD hS => ?_)
    have hP : va_P G.1 classes [(b0, .inr (12, [.int 0, .ref b3, .ref b4, .ref b5, .ref b6, .int b7, .ref b8, .int v_9, .int b10, .int b11, .int b12, .ref b13, .ref b14, .ref b15, .int b16, .ref b17, .ref b18, .ref b19, .ref b20, .ref b21, .ref b22, .ref b23, .ref b24, .ref b25, .ref b26, .ref b27, .ref b28, .int b29, .ref b30, .ref b31, .int b32, .int b33, .int b34, .int b35, .ref b36, .ref b37, .ref b38, .ref b39, .ref b40, .ref b41, .ref b42, .int b43, .ref b44, .ref b45, .int b46, .ref b47, .ref b48, .ref b49, .ref b50, .ref b51, .int b52, .ref b53, .ref b54, .ref b55])), (b8, .inl (G.2 3, 240, .inl f_8))] H := hP
    have hD := z_tie hP hD rfl
    refine lv_iinc (v := 16) (lv' := [(2, .int 16), (0, .ref b0), (1, .int b1)]) hx hb d_Model_sign_49 hl (k := 0) rfl (by decide +kernel) (by decide) rfl (fun ls hl => ?_)
    refine lv_goto (tgt := 22) hx hb d_Model_sign_52 (by decide) ?_
    refine lv_iload_n hx hb d_Model_sign_22 rfl (lv_at hl 0 rfl) ?_
    refine lv_if_lt (tgt := 55) hx hb d_Model_sign_23 (by decide) (fun hc => absurd hc (by decide +kernel)) (fun _ => ?_)
    refine lv_aload_n hx hb d_Model_sign_26 rfl (lv_at hl 1 rfl) ?_
    refine va_get (D := G.1) (ci := 12) (v := .ref b8) (C := R_Model) (T := F_Model) (N := 54) hx hb hts i_Model hown hK hP 0 rfl rfl 6 (by decide) (hts _ q1115) (fun _ h9 => h9) rfl d_Model_sign_27 ?_
    refine lv_aload_n hx hb d_Model_sign_30 rfl (lv_at hl 1 rfl) ?_
    refine va_get (D := G.1) (ci := 12) (v := .int v_9) (C := R_Model) (T := F_Model) (N := 54) hx hb hts i_Model hown hK hP 0 rfl rfl 7 (by decide) (hts _ q1116) (fun _ h9 => h9) rfl d_Model_sign_31 ?_
    refine lv_iload_n hx hb d_Model_sign_34 rfl (lv_at hl 2 rfl) ?_
    refine lv_iload_n hx hb d_Model_sign_35 rfl (lv_at hl 0 rfl) ?_
    obtain ⟨v_10, ev_10⟩ : ∃ z : Int32, z = ((b1).toUInt32 >>> ((16 : Int32).toUInt32 &&& Int32.toUInt32 31)).toInt32 := ⟨_, rfl⟩
    refine lv_iushr (v := v_10) hx hb d_Model_sign_36 ev_10.symm ?_
    obtain ⟨v_11, ev_11⟩ : ∃ z : Int32, z = (v_10).toInt8.toInt32 := ⟨_, rfl⟩
    refine lv_i2b (v := v_11) hx hb d_Model_sign_37 ev_11.symm ?_
    refine va_bast hx hb hK hP hD hS 1 3 rfl rfl (zI.inn hv_9 (by decide)) d_Model_sign_38 (fun H locs hP hD hS => ?_)
    obtain ⟨f_12, gf_12, uf_12, hP, hD⟩ := z_newFu 1 hP hD rfl
    have hP : va_P G.1 classes [(b0, .inr (12, [.int 0, .ref b3, .ref b4, .ref b5, .ref b6, .int b7, .ref b8, .int v_9, .int b10, .int b11, .int b12, .ref b13, .ref b14, .ref b15, .int b16, .ref b17, .ref b18, .ref b19, .ref b20, .ref b21, .ref b22, .ref b23, .ref b24, .ref b25, .ref b26, .ref b27, .ref b28, .int b29, .ref b30, .ref b31, .int b32, .int b33, .int b34, .int b35, .ref b36, .ref b37, .ref b38, .ref b39, .ref b40, .ref b41, .ref b42, .int b43, .ref b44, .ref b45, .int b46, .ref b47, .ref b48, .ref b49, .ref b50, .ref b51, .int b52, .ref b53, .ref b54, .ref b55])), (b8, .inl (G.2 3, 240, .inl f_12))] H := hP
    have hD := z_tie hP hD rfl
    refine lv_aload_n hx hb d_Model_sign_39 rfl (lv_at hl 1 rfl) ?_
    refine lv_dup hx hb d_Model_sign_40 rfl ?_
    refine va_get (D := G.1) (ci := 12) (v := .int v_9) (C := R_Model) (T := F_Model) (N := 54) hx hb hts i_Model hown hK hP 0 rfl rfl 7 (by decide) (hts _ q1116) (fun _ h9 => h9) rfl d_Model_sign_41 ?_
    refine lv_iconst (v := 1) hx hb d_Model_sign_44 (by decide) ?_
    refine lv_iadd hx hb d_Model_sign_45 ?_
    refine lv_topi (fun v_13 ev_13 => ?_)
    obtain ⟨qv_13, hv_13⟩ := zI_add (l := 2) (h := 238) hv_9 zc_1 ev_13 (by decide)
    rw [li_1] at qv_13
    refine va_put (D := G.1) (ci := 12) (v := .int v_13) (ty := .int) (C := R_Model) (T := F_Model) (N := 54) hx hb hts i_Model t_Model t_Model_ok n_Model hown hK hP hD hS 0 rfl rfl 7 (by decide) (hts _ q1116) (fun _ h9 => h9) rfl (by decide +kernel) rfl rfl (Nat.le_of_ble_eq_true rfl) d_Model_sign_46 (fun H locs hP hD hS => ?_)
    have hP : va_P G.1 classes [(b0, .inr (12, [.int 0, .ref b3, .ref b4, .ref b5, .ref b6, .int b7, .ref b8, .int v_13, .int b10, .int b11, .int b12, .ref b13, .ref b14, .ref b15, .int b16, .ref b17, .ref b18, .ref b19, .ref b20, .ref b21, .ref b22, .ref b23, .ref b24, .ref b25, .ref b26, .ref b27, .ref b28, .int b29, .ref b30, .ref b31, .int b32, .int b33, .int b34, .int b35, .ref b36, .ref b37, .ref b38, .ref b39, .ref b40, .ref b41, .ref b42, .int b43, .ref b44, .ref b45, .int b46, .ref b47, .ref b48, .ref b49, .ref b50, .ref b51, .int b52, .ref b53, .ref b54, .ref b55])), (b8, .inl (G.2 3, 240, .inl f_12))] H := hP
    have hD := z_tie hP hD rfl
    refine lv_iinc (v := 8) (lv' := [(2, .int 8), (0, .ref b0), (1, .int b1)]) hx hb d_Model_sign_49 hl (k := 0) rfl (by decide +kernel) (by decide) rfl (fun ls hl => ?_)
    refine lv_goto (tgt := 22) hx hb d_Model_sign_52 (by decide) ?_
    refine lv_iload_n hx hb d_Model_sign_22 rfl (lv_at hl 0 rfl) ?_
    refine lv_if_lt (tgt := 55) hx hb d_Model_sign_23 (by decide) (fun hc => absurd hc (by decide +kernel)) (fun _ => ?_)
    refine lv_aload_n hx hb d_Model_sign_26 rfl (lv_at hl 1 rfl) ?_
    refine va_get (D := G.1) (ci := 12) (v := .ref b8) (C := R_Model) (T := F_Model) (N := 54) hx hb hts i_Model hown hK hP 0 rfl rfl 6 (by decide) (hts _ q1115) (fun _ h9 => h9) rfl d_Model_sign_27 ?_
    refine lv_aload_n hx hb d_Model_sign_30 rfl (lv_at hl 1 rfl) ?_
    refine va_get (D := G.1) (ci := 12) (v := .int v_13) (C := R_Model) (T := F_Model) (N := 54) hx hb hts i_Model hown hK hP 0 rfl rfl 7 (by decide) (hts _ q1116) (fun _ h9 => h9) rfl d_Model_sign_31 ?_
    refine lv_iload_n hx hb d_Model_sign_34 rfl (lv_at hl 2 rfl) ?_
    refine lv_iload_n hx hb d_Model_sign_35 rfl (lv_at hl 0 rfl) ?_
    obtain ⟨v_14, ev_14⟩ : ∃ z : Int32, z = ((b1).toUInt32 >>> ((8 : Int32).toUInt32 &&& Int32.toUInt32 31)).toInt32 := ⟨_, rfl⟩
    refine lv_iushr (v := v_14) hx hb d_Model_sign_36 ev_14.symm ?_
    obtain ⟨v_15, ev_15⟩ : ∃ z : Int32, z = (v_14).toInt8.toInt32 := ⟨_, rfl⟩
    refine lv_i2b (v := v_15) hx hb d_Model_sign_37 ev_15.symm ?_
    refine va_bast hx hb hK hP hD hS 1 3 rfl rfl (zI.inn hv_13 (by decide)) d_Model_sign_38 (fun H locs hP hD hS => ?_)
    obtain ⟨f_16, gf_16, uf_16, hP, hD⟩ := z_newFu 1 hP hD rfl
    have hP : va_P G.1 classes [(b0, .inr (12, [.int 0, .ref b3, .ref b4, .ref b5, .ref b6, .int b7, .ref b8, .int v_13, .int b10, .int b11, .int b12, .ref b13, .ref b14, .ref b15, .int b16, .ref b17, .ref b18, .ref b19, .ref b20, .ref b21, .ref b22, .ref b23, .ref b24, .ref b25, .ref b26, .ref b27, .ref b28, .int b29, .ref b30, .ref b31, .int b32, .int b33, .int b34, .int b35, .ref b36, .ref b37, .ref b38, .ref b39, .ref b40, .ref b41, .ref b42, .int b43, .ref b44, .ref b45, .int b46, .ref b47, .ref b48, .ref b49, .ref b50, .ref b51, .int b52, .ref b53, .ref b54, .ref b55])), (b8, .inl (G.2 3, 240, .inl f_16))] H := hP
    have hD := z_tie hP hD rfl
    refine lv_aload_n hx hb d_Model_sign_39 rfl (lv_at hl 1 rfl) ?_
    refine lv_dup hx hb d_Model_sign_40 rfl ?_
    refine va_get (D := G.1) (ci := 12) (v := .int v_13) (C := R_Model) (T := F_Model) (N := 54) hx hb hts i_Model hown hK hP 0 rfl rfl 7 (by decide) (hts _ q1116) (fun _ h9 => h9) rfl d_Model_sign_41 ?_
    refine lv_iconst (v := 1) hx hb d_Model_sign_44 (by decide) ?_
    refine lv_iadd hx hb d_Model_sign_45 ?_
    refine lv_topi (fun v_17 ev_17 => ?_)
    obtain ⟨qv_17, hv_17⟩ := zI_add (l := 3) (h := 239) hv_13 zc_1 ev_17 (by decide)
    rw [li_1] at qv_17
    refine va_put (D := G.1) (ci := 12) (v := .int v_17) (ty := .int) (C := R_Model) (T := F_Model) (N := 54) hx hb hts i_Model t_Model t_Model_ok n_Model hown hK hP hD hS 0 rfl rfl 7 (by decide) (hts _ q1116) (fun _ h9 => h9) rfl (by decide +kernel) rfl rfl (Nat.le_of_ble_eq_true rfl) d_Model_sign_46 (fun H locs hP hD hS => ?_)
    have hP : va_P G.1 classes [(b0, .inr (12, [.int 0, .ref b3, .ref b4, .ref b5, .ref b6, .int b7, .ref b8, .int v_17, .int b10, .int b11, .int b12, .ref b13, .ref b14, .ref b15, .int b16, .ref b17, .ref b18, .ref b19, .ref b20, .ref b21, .ref b22, .ref b23, .ref b24, .ref b25, .ref b26, .ref b27, .ref b28, .int b29, .ref b30, .ref b31, .int b32, .int b33, .int b34, .int b35, .ref b36, .ref b37, .ref b38, .ref b39, .ref b40, .ref b41, .ref b42, .int b43, .ref b44, .ref b45, .int b46, .ref b47, .ref b48, .ref b49, .ref b50, .ref b51, .int b52, .ref b53, .ref b54, .ref b55])), (b8, .inl (G.2 3, 240, .inl f_16))] H := hP
    have hD := z_tie hP hD rfl
    refine lv_iinc (v := 0) (lv' := [(2, .int 0), (0, .ref b0), (1, .int b1)]) hx hb d_Model_sign_49 hl (k := 0) rfl (by decide +kernel) (by decide) rfl (fun ls hl => ?_)
    refine lv_goto (tgt := 22) hx hb d_Model_sign_52 (by decide) ?_
    refine lv_iload_n hx hb d_Model_sign_22 rfl (lv_at hl 0 rfl) ?_
    refine lv_if_lt (tgt := 55) hx hb d_Model_sign_23 (by decide) (fun hc => absurd hc (by decide +kernel)) (fun _ => ?_)
    refine lv_aload_n hx hb d_Model_sign_26 rfl (lv_at hl 1 rfl) ?_
    refine va_get (D := G.1) (ci := 12) (v := .ref b8) (C := R_Model) (T := F_Model) (N := 54) hx hb hts i_Model hown hK hP 0 rfl rfl 6 (by decide) (hts _ q1115) (fun _ h9 => h9) rfl d_Model_sign_27 ?_
    refine lv_aload_n hx hb d_Model_sign_30 rfl (lv_at hl 1 rfl) ?_
    refine va_get (D := G.1) (ci := 12) (v := .int v_17) (C := R_Model) (T := F_Model) (N := 54) hx hb hts i_Model hown hK hP 0 rfl rfl 7 (by decide) (hts _ q1116) (fun _ h9 => h9) rfl d_Model_sign_31 ?_
    refine lv_iload_n hx hb d_Model_sign_34 rfl (lv_at hl 2 rfl) ?_
    refine lv_iload_n hx hb d_Model_sign_35 rfl (lv_at hl 0 rfl) ?_
    obtain ⟨v_18, ev_18⟩ : ∃ z : Int32, z = ((b1).toUInt32 >>> ((0 : Int32).toUInt32 &&& Int32.toUInt32 31)).toInt32 := ⟨_, rfl⟩
    refine lv_iushr (v := v_18) hx hb d_Model_sign_36 ev_18.symm ?_
    obtain ⟨v_19, ev_19⟩ : ∃ z : Int32, z = (v_18).toInt8.toInt32 := ⟨_, rfl⟩
    refine lv_i2b (v := v_19) hx hb d_Model_sign_37 ev_19.symm ?_
    refine va_bast hx hb hK hP hD hS 1 3 rfl rfl (zI.inn hv_17 (by decide)) d_Model_sign_38 (fun H locs hP hD hS => ?_)
    obtain ⟨f_20, gf_20, uf_20, hP, hD⟩ := z_newFu 1 hP hD rfl
    have hP : va_P G.1 classes [(b0, .inr (12, [.int 0, .ref b3, .ref b4, .ref b5, .ref b6, .int b7, .ref b8, .int v_17, .int b10, .int b11, .int b12, .ref b13, .ref b14, .ref b15, .int b16, .ref b17, .ref b18, .ref b19, .ref b20, .ref b21, .ref b22, .ref b23, .ref b24, .ref b25, .ref b26, .ref b27, .ref b28, .int b29, .ref b30, .ref b31, .int b32, .int b33, .int b34, .int b35, .ref b36, .ref b37, .ref b38, .ref b39, .ref b40, .ref b41, .ref b42, .int b43, .ref b44, .ref b45, .int b46, .ref b47, .ref b48, .ref b49, .ref b50, .ref b51, .int b52, .ref b53, .ref b54, .ref b55])), (b8, .inl (G.2 3, 240, .inl f_20))] H := hP
    have hD := z_tie hP hD rfl
    refine lv_aload_n hx hb d_Model_sign_39 rfl (lv_at hl 1 rfl) ?_
    refine lv_dup hx hb d_Model_sign_40 rfl ?_
    refine va_get (D := G.1) (ci := 12) (v := .int v_17) (C := R_Model) (T := F_Model) (N := 54) hx hb hts i_Model hown hK hP 0 rfl rfl 7 (by decide) (hts _ q1116) (fun _ h9 => h9) rfl d_Model_sign_41 ?_
    refine lv_iconst (v := 1) hx hb d_Model_sign_44 (by decide) ?_
    refine lv_iadd hx hb d_Model_sign_45 ?_
    refine lv_topi (fun v_21 ev_21 => ?_)
    obtain ⟨qv_21, hv_21⟩ := zI_add (l := 4) (h := 240) hv_17 zc_1 ev_21 (by decide)
    rw [li_1] at qv_21
    refine va_put (D := G.1) (ci := 12) (v := .int v_21) (ty := .int) (C := R_Model) (T := F_Model) (N := 54) hx hb hts i_Model t_Model t_Model_ok n_Model hown hK hP hD hS 0 rfl rfl 7 (by decide) (hts _ q1116) (fun _ h9 => h9) rfl (by decide +kernel) rfl rfl (Nat.le_of_ble_eq_true rfl) d_Model_sign_46 (fun H locs hP hD hS => ?_)
    have hP : va_P G.1 classes [(b0, .inr (12, [.int 0, .ref b3, .ref b4, .ref b5, .ref b6, .int b7, .ref b8, .int v_21, .int b10, .int b11, .int b12, .ref b13, .ref b14, .ref b15, .int b16, .ref b17, .ref b18, .ref b19, .ref b20, .ref b21, .ref b22, .ref b23, .ref b24, .ref b25, .ref b26, .ref b27, .ref b28, .int b29, .ref b30, .ref b31, .int b32, .int b33, .int b34, .int b35, .ref b36, .ref b37, .ref b38, .ref b39, .ref b40, .ref b41, .ref b42, .int b43, .ref b44, .ref b45, .int b46, .ref b47, .ref b48, .ref b49, .ref b50, .ref b51, .int b52, .ref b53, .ref b54, .ref b55])), (b8, .inl (G.2 3, 240, .inl f_20))] H := hP
    have hD := z_tie hP hD rfl
    refine lv_iinc (v := (-8)) (lv' := [(2, .int (-8)), (0, .ref b0), (1, .int b1)]) hx hb d_Model_sign_49 hl (k := 0) rfl (by decide +kernel) (by decide) rfl (fun ls hl => ?_)
    refine lv_goto (tgt := 22) hx hb d_Model_sign_52 (by decide) ?_
    refine lv_iload_n hx hb d_Model_sign_22 rfl (lv_at hl 0 rfl) ?_
    refine lv_if_lt (tgt := 55) hx hb d_Model_sign_23 (by decide) (fun _ => ?_) (fun hc => absurd hc (by decide +kernel))
    refine lv_aload_n hx hb d_Model_sign_55 rfl (lv_at hl 1 rfl) ?_
    refine va_get (D := G.1) (ci := 12) (v := .int v_21) (C := R_Model) (T := F_Model) (N := 54) hx hb hts i_Model hown hK hP 0 rfl rfl 7 (by decide) (hts _ q1116) (fun _ h9 => h9) rfl d_Model_sign_56 ?_
    exact z_iret hx hb hr hlocks hP hD hS (Nat.le_of_ble_eq_true rfl) (Nat.le_of_ble_eq_true rfl) d_Model_sign_59 ⟨v_21, v_21, f_20, rfl, rfl, (zI.wk (l' := (-1)) (h' := 240) hv_21 (by decide)), (zI.wk (l' := 0) (h' := 240) hv_21 (by decide)), (by have _l0 := li_0; have _l1 := li_1; have _l2 := li_m1; intro h9; omega), (by have _l0 := li_0; have _l1 := li_1; have _l2 := li_m1; intro h9; omega), (fun _ => zsg4_mk uf_8 uf_12 uf_16 uf_20 ⟨by omega, by omega, by omega, by omega⟩ (by subst_vars; rfl) (by subst_vars; rfl) (by subst_vars; rfl) (by subst_vars; rfl)), (fun h9 => by exfalso; omega)⟩
  · have _nhc_2 := hc_2
    have ni_22 := (fa_lt _ _).mp (zi_nle hc_2)
    rw [li_240] at ni_22
    have hv_23 : zI v_1 241 244 := zI.lt_r zc_240 hv_1 (zi_nle hc_2) (by decide)
    have hv_24 : zI b9 237 240 := by have _a := hv_23; have _b := qv_1; have _c := zc_4; have _d := hb9; exact ⟨by omega, by omega⟩
    refine lv_iconst (v := (-1)) hx hb d_Model_sign_17 (by decide) ?_
    exact z_iret hx hb hr hlocks hP hD hS (Nat.le_of_ble_eq_true rfl) (Nat.le_of_ble_eq_true rfl) d_Model_sign_18 ⟨(-1), b9, b56, rfl, rfl, (zI.wk (l' := (-1)) (h' := 240) zc_m1 (by decide)), (zI.wk (l' := 0) (h' := 240) hv_24 (by decide)), (by have _l0 := li_0; have _l1 := li_1; have _l2 := li_m1; intro h9; omega), (by have _l0 := li_0; have _l1 := li_1; have _l2 := li_m1; intro h9; omega), (fun h9 => by exfalso; omega), (fun _ => rfl)⟩
abbrev m_s2_Model_next : Room := { frames := 0, cells := 0, slots := 0, locals := 0 }
set_option maxHeartbeats 4000000 in
set_option maxRecDepth 100000 in
theorem s2_Model_next (l : Launch) (G : zG) (b0 : Nat) (b1 : Int32) (b2 : Nat) (b3 : Nat) (b4 : Nat) (b5 : Nat) (b6 : Int32) (b7 : Nat) (b8 : Int32) (b9 : Int32) (b10 : Int32) (b11 : Int32) (b12 : Nat) (b13 : Nat) (b14 : Nat) (b15 : Int32) (b16 : Nat) (b17 : Nat) (b18 : Nat) (b19 : Nat) (b20 : Nat) (b21 : Nat) (b22 : Nat) (b23 : Nat) (b24 : Nat) (b25 : Nat) (b26 : Nat) (b27 : Nat) (b28 : Int32) (b29 : Nat) (b30 : Nat) (b31 : Int32) (b32 : Int32) (b33 : Int32) (b34 : Int32) (b35 : Nat) (b36 : Nat) (b37 : Nat) (b38 : Nat) (b39 : Nat) (b40 : Nat) (b41 : Nat) (b42 : Int32) (b43 : Nat) (b44 : Nat) (b45 : Int32) (b46 : Nat) (b47 : Nat) (b48 : Nat) (b49 : Nat) (b50 : Nat) (b51 : Int32) (b52 : Nat) (b53 : Nat) (b54 : Nat) (b55 : Nat → Int32) (hb6 : zI b6 0 8) (hb8 : zI b8 0 240) (hb9 : zI b9 0 240) (hb11 : zI b11 0 1) (hb15 : zI b15 0 12) (hb28 : zI b28 0 1) (hb31 : zI b31 0 1) (hb42 : zI b42 0 1000) (hb45 : zI b45 0 1000) (hb51 : zI b51 0 400) : zM l G y_Model_next prog_14_method_12_code 1 (Option.some Jvm.ClassFile.FieldType.int) m_s2_Model_next [.ref b0] [(b0, .inr (12, [.int b1, .ref b2, .ref b3, .ref b4, .ref b5, .int b6, .ref b7, .int b8, .int b9, .int b10, .int b11, .ref b12, .ref b13, .ref b14, .int b15, .ref b16, .ref b17, .ref b18, .ref b19, .ref b20, .ref b21, .ref b22, .ref b23, .ref b24, .ref b25, .ref b26, .ref b27, .int b28, .ref b29, .ref b30, .int b31, .int b32, .int b33, .int b34, .ref b35, .ref b36, .ref b37, .ref b38, .ref b39, .ref b40, .ref b41, .int b42, .ref b43, .ref b44, .int b45, .ref b46, .ref b47, .ref b48, .ref b49, .ref b50, .int b51, .ref b52, .ref b53, .ref b54])), (b7, .inl (G.2 3, 240, .inl b55))] (fun v w => ∃ (e0 : Int32), ∃ (e1 : Int32), v = some (.int e0) ∧ w = [(b0, .inr (12, [.int b1, .ref b2, .ref b3, .ref b4, .ref b5, .int b6, .ref b7, .int b8, .int e1, .int b10, .int b11, .ref b12, .ref b13, .ref b14, .int b15, .ref b16, .ref b17, .ref b18, .ref b19, .ref b20, .ref b21, .ref b22, .ref b23, .ref b24, .ref b25, .ref b26, .ref b27, .int b28, .ref b29, .ref b30, .int b31, .int b32, .int b33, .int b34, .ref b35, .ref b36, .ref b37, .ref b38, .ref b39, .ref b40, .ref b41, .int b42, .ref b43, .ref b44, .int b45, .ref b46, .ref b47, .ref b48, .ref b49, .ref b50, .int b51, .ref b52, .ref b53, .ref b54])), (b7, .inl (G.2 3, 240, .inl b55))] ∧ (zI e1 0 240) ∧ ((e0 : Int32).toInt = 0 ∨ e1.toInt < b8.toInt ∧ e0 = b55 e1.toNatClampNeg) ∧ (b9.toInt ≤ e1.toInt) ∧ (∀ q : Nat, (b9 : Int32).toInt ≤ (q : Int) → (q : Int) < (e1 : Int32).toInt → (b55 q).toInt = 32) ∧ ((e1 : Int32).toInt < (b8 : Int32).toInt ∧ e0 = (b55 (e1 : Int32).toInt.toNat) ∧ ¬ ((b55 (e1 : Int32).toInt.toNat)).toInt = 32 ∨ ¬ (e1 : Int32).toInt < (b8 : Int32).toInt ∧ (e0 : Int32).toInt = 0) ∧ ((e1 : Int32).toInt ≤ (b9 : Int32).toInt ∨ (e1 : Int32).toInt ≤ (b8 : Int32).toInt)) := by
  refine z_start (by decide +kernel) (Nat.le_of_ble_eq_true rfl) ?_
  intro p e s m below meth c A Z hr hnm hA hP hD hS ls hl
  have Z : zC p s m _ meth c prog_14_method_12_code 1 "TraceMachinesModel" G := Z
  obtain ⟨hx, hb, hml, hown, hts, hK, hN, hlocks⟩ := id Z
  have hl : lv_has ls 1 [(0, .ref b0)] := hl
  suffices key : ∀ (k_25 : Nat) (y_26 : Int32) (H : Heap) (locs : List Loc) (ls : Array Slot), (zI y_26 0 240) → (b9.toInt ≤ y_26.toInt) → (∀ q : Nat, (b9 : Int32).toInt ≤ (q : Int) → (q : Int) < (y_26 : Int32).toInt → (b55 q).toInt = 32) → ((y_26 : Int32).toInt ≤ (b9 : Int32).toInt ∨ (y_26 : Int32).toInt ≤ (b8 : Int32).toInt) → (240 : Int) - y_26.toInt < (k_25 : Int) → va_P G.1 classes [(b0, .inr (12, [.int b1, .ref b2, .ref b3, .ref b4, .ref b5, .int b6, .ref b7, .int b8, .int y_26, .int b10, .int b11, .ref b12, .ref b13, .ref b14, .int b15, .ref b16, .ref b17, .ref b18, .ref b19, .ref b20, .ref b21, .ref b22, .ref b23, .ref b24, .ref b25, .ref b26, .ref b27, .int b28, .ref b29, .ref b30, .int b31, .int b32, .int b33, .int b34, .ref b35, .ref b36, .ref b37, .ref b38, .ref b39, .ref b40, .ref b41, .int b42, .ref b43, .ref b44, .int b45, .ref b46, .ref b47, .ref b48, .ref b49, .ref b50, .int b51, .ref b52, .ref b53, .ref b54])), (b7, .inl (G.2 3, 240, .inl b55))] H → va_D A [(b0, .inr (12, [.int b1, .ref b2, .ref b3, .ref b4, .ref b5, .int b6, .ref b7, .int b8, .int y_26, .int b10, .int b11, .ref b12, .ref b13, .ref b14, .int b15, .ref b16, .ref b17, .ref b18, .ref b19, .ref b20, .ref b21, .ref b22, .ref b23, .ref b24, .ref b25, .ref b26, .ref b27, .int b28, .ref b29, .ref b30, .int b31, .int b32, .int b33, .int b34, .ref b35, .ref b36, .ref b37, .ref b38, .ref b39, .ref b40, .ref b41, .int b42, .ref b43, .ref b44, .int b45, .ref b46, .ref b47, .ref b48, .ref b49, .ref b50, .int b51, .ref b52, .ref b53, .ref b54])), (b7, .inl (G.2 3, 240, .inl b55))] → va_S A s.heap H locs → lv_has ls 1 [(0, .ref b0)] → W p l e m_s2_Model_next s m ([.ref b0] : List Value).toArray below meth c H locs 0 0 (MQ below (zQ G (fun v w => ∃ (e0 : Int32), ∃ (e1 : Int32), v = some (.int e0) ∧ w = [(b0, .inr (12, [.int b1, .ref b2, .ref b3, .ref b4, .ref b5, .int b6, .ref b7, .int b8, .int e1, .int b10, .int b11, .ref b12, .ref b13, .ref b14, .int b15, .ref b16, .ref b17, .ref b18, .ref b19, .ref b20, .ref b21, .ref b22, .ref b23, .ref b24, .ref b25, .ref b26, .ref b27, .int b28, .ref b29, .ref b30, .int b31, .int b32, .int b33, .int b34, .ref b35, .ref b36, .ref b37, .ref b38, .ref b39, .ref b40, .ref b41, .int b42, .ref b43, .ref b44, .int b45, .ref b46, .ref b47, .ref b48, .ref b49, .ref b50, .int b51, .ref b52, .ref b53, .ref b54])), (b7, .inl (G.2 3, 240, .inl b55))] ∧ (zI e1 0 240) ∧ ((e0 : Int32).toInt = 0 ∨ e1.toInt < b8.toInt ∧ e0 = b55 e1.toNatClampNeg) ∧ (b9.toInt ≤ e1.toInt) ∧ (∀ q : Nat, (b9 : Int32).toInt ≤ (q : Int) → (q : Int) < (e1 : Int32).toInt → (b55 q).toInt = 32) ∧ ((e1 : Int32).toInt < (b8 : Int32).toInt ∧ e0 = (b55 (e1 : Int32).toInt.toNat) ∧ ¬ ((b55 (e1 : Int32).toInt.toNat)).toInt = 32 ∨ ¬ (e1 : Int32).toInt < (b8 : Int32).toInt ∧ (e0 : Int32).toInt = 0) ∧ ((e1 : Int32).toInt ≤ (b9 : Int32).toInt ∨ (e1 : Int32).toInt ≤ (b8 : Int32).toInt)) A) ([.ref b0] : List Value).toArray s m_s2_Model_next.cells m_s2_Model_next.slots A) (F0 m 0 ls []) by
    exact key 241 (b9) _ _ _ hb9 (by omega) (by intro q h1 h2; omega) (by omega) (zm_upi hb9 (by decide)) hP hD hS (lv_sub hl [0] rfl)
  intro k_25
  induction k_25 with
  | zero =>
    intro y_26 H locs ls hy_26 hli_27 hli_28 hli_29 hmk_25 hP hD hS hl
    exact (zm_up0 hy_26 hmk_25).elim
  | succ k_25 ihk_25 =>
    intro y_26 H locs ls hy_26 hli_27 hli_28 hli_29 hmk_25 hP hD hS hl
    refine lv_aload_n hx hb d_Model_next_0 rfl (lv_at hl 0 rfl) ?_
    refine va_get (D := G.1) (ci := 12) (v := .int y_26) (C := R_Model) (T := F_Model) (N := 54) hx hb hts i_Model hown hK hP 0 rfl rfl 8 (by decide) (hts _ q1117) (fun _ h9 => h9) rfl d_Model_next_1 ?_
    refine lv_aload_n hx hb d_Model_next_4 rfl (lv_at hl 0 rfl) ?_
    refine va_get (D := G.1) (ci := 12) (v := .int b8) (C := R_Model) (T := F_Model) (N := 54) hx hb hts i_Model hown hK hP 0 rfl rfl 7 (by decide) (hts _ q1116) (fun _ h9 => h9) rfl d_Model_next_5 ?_
    refine lv_icmp_ge (tgt := 38) hx hb d_Model_next_8 (by decide) (fun hc_30 => ?_) (fun hc_30 => ?_)
    · have _nhc_30 := hc_30
      have ni_31 := (fa_le _ _).mp hc_30
      refine lv_aload_n hx hb d_Model_next_38 rfl (lv_at hl 0 rfl) ?_
      refine va_get (D := G.1) (ci := 12) (v := .int y_26) (C := R_Model) (T := F_Model) (N := 54) hx hb hts i_Model hown hK hP 0 rfl rfl 8 (by decide) (hts _ q1117) (fun _ h9 => h9) rfl d_Model_next_39 ?_
      refine lv_aload_n hx hb d_Model_next_42 rfl (lv_at hl 0 rfl) ?_
      refine va_get (D := G.1) (ci := 12) (v := .int b8) (C := R_Model) (T := F_Model) (N := 54) hx hb hts i_Model hown hK hP 0 rfl rfl 7 (by decide) (hts _ q1116) (fun _ h9 => h9) rfl d_Model_next_43 ?_
      refine lv_icmp_ge (tgt := 61) hx hb d_Model_next_46 (by decide) (fun hc_32 => ?_) (fun hc_32 => ?_)
      · have _nhc_32 := hc_32
        have ni_33 := (fa_le _ _).mp hc_32
        refine lv_iconst (v := 0) hx hb d_Model_next_61 (by decide) ?_
        exact z_iret hx hb hr hlocks hP hD hS (Nat.le_of_ble_eq_true rfl) (Nat.le_of_ble_eq_true rfl) d_Model_next_62 ⟨0, y_26, rfl, rfl, hy_26, (Or.inl li_0), (by omega), hli_28, (by first | exact Or.inr ⟨by omega, li_0⟩ | (exfalso; omega)), (by omega)⟩
      · have _nhc_32 := hc_32
        have ni_34 := (fa_lt _ _).mp (zi_nle hc_32)
        have hv_35 : zI y_26 0 239 := zI.lt_l hy_26 hb8 (zi_nle hc_32) (by decide)
        have hv_36 : zI b8 1 240 := zI.lt_r hy_26 hb8 (zi_nle hc_32) (by decide)
        refine lv_aload_n hx hb d_Model_next_49 rfl (lv_at hl 0 rfl) ?_
        refine va_get (D := G.1) (ci := 12) (v := .ref b7) (C := R_Model) (T := F_Model) (N := 54) hx hb hts i_Model hown hK hP 0 rfl rfl 6 (by decide) (hts _ q1115) (fun _ h9 => h9) rfl d_Model_next_50 ?_
        refine lv_aload_n hx hb d_Model_next_53 rfl (lv_at hl 0 rfl) ?_
        refine va_get (D := G.1) (ci := 12) (v := .int y_26) (C := R_Model) (T := F_Model) (N := 54) hx hb hts i_Model hown hK hP 0 rfl rfl 8 (by decide) (hts _ q1117) (fun _ h9 => h9) rfl d_Model_next_54 ?_
        refine va_bald hx hb hK hP 1 3 rfl rfl (zI.inn hv_35 (by decide)) d_Model_next_57 ?_
        refine lv_topi (fun v_37 ev_37 => ?_)
        refine lv_goto (tgt := 62) hx hb d_Model_next_58 (by decide) ?_
        exact z_iret hx hb hr hlocks hP hD hS (Nat.le_of_ble_eq_true rfl) (Nat.le_of_ble_eq_true rfl) d_Model_next_62 ⟨v_37, y_26, rfl, rfl, (zI.wk (l' := 0) (h' := 240) hv_35 (by decide)), (Or.inr ⟨by omega, ev_37⟩), (by omega), hli_28, (by have e9 := ev_37; rw [z_plf hv_35 (by decide)] at e9; first | exact Or.inl ⟨by omega, e9, by rw [← e9]; omega⟩ | (exfalso; omega)), (by omega)⟩
    · have _nhc_30 := hc_30
      have ni_38 := (fa_lt _ _).mp (zi_nle hc_30)
      have hv_39 : zI y_26 0 239 := zI.lt_l hy_26 hb8 (zi_nle hc_30) (by decide)
      have hv_40 : zI b8 1 240 := zI.lt_r hy_26 hb8 (zi_nle hc_30) (by decide)
      refine lv_aload_n hx hb d_Model_next_11 rfl (lv_at hl 0 rfl) ?_
      refine va_get (D := G.1) (ci := 12) (v := .ref b7) (C := R_Model) (T := F_Model) (N := 54) hx hb hts i_Model hown hK hP 0 rfl rfl 6 (by decide) (hts _ q1115) (fun _ h9 => h9) rfl d_Model_next_12 ?_
      refine lv_aload_n hx hb d_Model_next_15 rfl (lv_at hl 0 rfl) ?_
      refine va_get (D := G.1) (ci := 12) (v := .int y_26) (C := R_Model) (T := F_Model) (N := 54) hx hb hts i_Model hown hK hP 0 rfl rfl 8 (by decide) (hts _ q1117) (fun _ h9 => h9) rfl d_Model_next_16 ?_
      refine va_bald hx hb hK hP 1 3 rfl rfl (zI.inn hv_39 (by decide)) d_Model_next_19 ?_
      refine lv_topi (fun v_41 ev_41 => ?_)
      refine lv_bipush (v := 32) hx hb d_Model_next_20 (by decide) ?_
      refine lv_icmp_ne (tgt := 38) hx hb d_Model_next_22 (by decide) (fun hc_42 => ?_) (fun hc_42 => ?_)
      · have _nhc_42 := hc_42
        have ni_43 : ¬ (v_41 : Int32).toInt = (32 : Int32).toInt := fun z => hc_42 ((fa_eq _ _).mpr z)
        simp only [li_32] at ni_43
        refine lv_aload_n hx hb d_Model_next_38 rfl (lv_at hl 0 rfl) ?_
        refine va_get (D := G.1) (ci := 12) (v := .int y_26) (C := R_Model) (T := F_Model) (N := 54) hx hb hts i_Model hown hK hP 0 rfl rfl 8 (by decide) (hts _ q1117) (fun _ h9 => h9) rfl d_Model_next_39 ?_
        refine lv_aload_n hx hb d_Model_next_42 rfl (lv_at hl 0 rfl) ?_
        refine va_get (D := G.1) (ci := 12) (v := .int b8) (C := R_Model) (T := F_Model) (N := 54) hx hb hts i_Model hown hK hP 0 rfl rfl 7 (by decide) (hts _ q1116) (fun _ h9 => h9) rfl d_Model_next_43 ?_
        refine lv_icmp_ge (tgt := 61) hx hb d_Model_next_46 (by decide) (fun hc_44 => ?_) (fun hc_44 => ?_)
        · have _nhc_44 := hc_44
          have ni_45 := (fa_le _ _).mp hc_44
          have hv_46 : zI b8 1 239 := zI.le_l hv_40 hv_39 hc_44 (by decide)
          have hv_47 : zI y_26 1 239 := zI.le_r hv_40 hv_39 hc_44 (by decide)
          refine lv_iconst (v := 0) hx hb d_Model_next_61 (by decide) ?_
          exact z_iret hx hb hr hlocks hP hD hS (Nat.le_of_ble_eq_true rfl) (Nat.le_of_ble_eq_true rfl) d_Model_next_62 ⟨0, y_26, rfl, rfl, (zI.wk (l' := 0) (h' := 240) hv_47 (by decide)), (Or.inl li_0), (by omega), hli_28, (by first | exact Or.inr ⟨by omega, li_0⟩ | (exfalso; omega)), (by omega)⟩
        · have _nhc_44 := hc_44
          have ni_48 := (fa_lt _ _).mp (zi_nle hc_44)
          refine lv_aload_n hx hb d_Model_next_49 rfl (lv_at hl 0 rfl) ?_
          refine va_get (D := G.1) (ci := 12) (v := .ref b7) (C := R_Model) (T := F_Model) (N := 54) hx hb hts i_Model hown hK hP 0 rfl rfl 6 (by decide) (hts _ q1115) (fun _ h9 => h9) rfl d_Model_next_50 ?_
          refine lv_aload_n hx hb d_Model_next_53 rfl (lv_at hl 0 rfl) ?_
          refine va_get (D := G.1) (ci := 12) (v := .int y_26) (C := R_Model) (T := F_Model) (N := 54) hx hb hts i_Model hown hK hP 0 rfl rfl 8 (by decide) (hts _ q1117) (fun _ h9 => h9) rfl d_Model_next_54 ?_
          refine va_bald hx hb hK hP 1 3 rfl rfl (zI.inn hv_39 (by decide)) d_Model_next_57 ?_
          refine lv_topi (fun v_49 ev_49 => ?_)
          obtain rfl : v_41 = v_49 := ev_41.trans ev_49.symm
          refine lv_goto (tgt := 62) hx hb d_Model_next_58 (by decide) ?_
          exact z_iret hx hb hr hlocks hP hD hS (Nat.le_of_ble_eq_true rfl) (Nat.le_of_ble_eq_true rfl) d_Model_next_62 ⟨v_41, y_26, rfl, rfl, (zI.wk (l' := 0) (h' := 240) hv_39 (by decide)), (Or.inr ⟨by omega, ev_41⟩), (by omega), hli_28, (by have e9 := ev_41; rw [z_plf hv_39 (by decide)] at e9; first | exact Or.inl ⟨by omega, e9, by rw [← e9]; omega⟩ | (exfalso; omega)), (by omega)⟩
      · have _nhc_42 := hc_42
        have ni_50 := (fa_eq _ _).mp hc_42
        rw [li_32] at ni_50
        have hv_51 : zI v_41 32 32 := zI.eq_l (zI_all v_41) zc_32 hc_42
        refine lv_aload_n hx hb d_Model_next_25 rfl (lv_at hl 0 rfl) ?_
        refine lv_dup hx hb d_Model_next_26 rfl ?_
        refine va_get (D := G.1) (ci := 12) (v := .int y_26) (C := R_Model) (T := F_Model) (N := 54) hx hb hts i_Model hown hK hP 0 rfl rfl 8 (by decide) (hts _ q1117) (fun _ h9 => h9) rfl d_Model_next_27 ?_
        refine lv_iconst (v := 1) hx hb d_Model_next_30 (by decide) ?_
        refine lv_iadd hx hb d_Model_next_31 ?_
        refine lv_topi (fun v_52 ev_52 => ?_)
        obtain ⟨qv_52, hv_52⟩ := zI_add (l := 1) (h := 240) hv_39 zc_1 ev_52 (by decide)
        rw [li_1] at qv_52
        refine va_put (D := G.1) (ci := 12) (v := .int v_52) (ty := .int) (C := R_Model) (T := F_Model) (N := 54) hx hb hts i_Model t_Model t_Model_ok n_Model hown hK hP hD hS 0 rfl rfl 8 (by decide) (hts _ q1117) (fun _ h9 => h9) rfl (by decide +kernel) rfl rfl (Nat.le_of_ble_eq_true rfl) d_Model_next_32 (fun H locs hP hD hS => ?_)
        have hP : va_P G.1 classes [(b0, .inr (12, [.int b1, .ref b2, .ref b3, .ref b4, .ref b5, .int b6, .ref b7, .int b8, .int v_52, .int b10, .int b11, .ref b12, .ref b13, .ref b14, .int b15, .ref b16, .ref b17, .ref b18, .ref b19, .ref b20, .ref b21, .ref b22, .ref b23, .ref b24, .ref b25, .ref b26, .ref b27, .int b28, .ref b29, .ref b30, .int b31, .int b32, .int b33, .int b34, .ref b35, .ref b36, .ref b37, .ref b38, .ref b39, .ref b40, .ref b41, .int b42, .ref b43, .ref b44, .int b45, .ref b46, .ref b47, .ref b48, .ref b49, .ref b50, .int b51, .ref b52, .ref b53, .ref b54])), (b7, .inl (G.2 3, 240, .inl b55))] H := hP
        have hD := z_tie hP hD rfl
        refine lv_goto (tgt := 0) hx hb d_Model_next_35 (by decide) ?_
        exact ihk_25 (v_52) _ _ _ (zI.wk (l' := 0) (h' := 240) hv_52 (by decide)) (by omega) (by intro q h1 h2; by_cases h3 : (q : Int) < y_26.toInt; exact hli_28 q h1 h3; (have h4 : q = y_26.toNatClampNeg := (by have p9 := z_pl hv_39 (by decide); omega)); rw [h4, ← ev_41]; omega) (by omega) (zm_up qv_52 hmk_25 (by decide)) hP hD hS (lv_sub hl [0] rfl)
abbrev m_s2_Model_isDigitHere : Room := { frames := 1, cells := 0, slots := 0, locals := 25 }
set_option maxHeartbeats 4000000 in
set_option maxRecDepth 100000 in
theorem s2_Model_isDigitHere (l : Launch) (G : zG) (b0 : Nat) (b1 : Int32) (b2 : Nat) (b3 : Nat) (b4 : Nat) (b5 : Nat) (b6 : Int32) (b7 : Nat) (b8 : Int32) (b9 : Int32) (b10 : Int32) (b11 : Int32) (b12 : Nat) (b13 : Nat) (b14 : Nat) (b15 : Int32) (b16 : Nat) (b17 : Nat) (b18 : Nat) (b19 : Nat) (b20 : Nat) (b21 : Nat) (b22 : Nat) (b23 : Nat) (b24 : Nat) (b25 : Nat) (b26 : Nat) (b27 : Nat) (b28 : Int32) (b29 : Nat) (b30 : Nat) (b31 : Int32) (b32 : Int32) (b33 : Int32) (b34 : Int32) (b35 : Nat) (b36 : Nat) (b37 : Nat) (b38 : Nat) (b39 : Nat) (b40 : Nat) (b41 : Nat) (b42 : Int32) (b43 : Nat) (b44 : Nat) (b45 : Int32) (b46 : Nat) (b47 : Nat) (b48 : Nat) (b49 : Nat) (b50 : Nat) (b51 : Int32) (b52 : Nat) (b53 : Nat) (b54 : Nat) (b55 : Nat → Int32) (hb6 : zI b6 0 8) (hb8 : zI b8 0 240) (hb9 : zI b9 0 240) (hb11 : zI b11 0 1) (hb15 : zI b15 0 12) (hb28 : zI b28 0 1) (hb31 : zI b31 0 1) (hb42 : zI b42 0 1000) (hb45 : zI b45 0 1000) (hb51 : zI b51 0 400) : zM l G y_Model_isDigitHere prog_14_method_13_code 1 (Option.some Jvm.ClassFile.FieldType.boolean) m_s2_Model_isDigitHere [.ref b0] [(b0, .inr (12, [.int b1, .ref b2, .ref b3, .ref b4, .ref b5, .int b6, .ref b7, .int b8, .int b9, .int b10, .int b11, .ref b12, .ref b13, .ref b14, .int b15, .ref b16, .ref b17, .ref b18, .ref b19, .ref b20, .ref b21, .ref b22, .ref b23, .ref b24, .ref b25, .ref b26, .ref b27, .int b28, .ref b29, .ref b30, .int b31, .int b32, .int b33, .int b34, .ref b35, .ref b36, .ref b37, .ref b38, .ref b39, .ref b40, .ref b41, .int b42, .ref b43, .ref b44, .int b45, .ref b46, .ref b47, .ref b48, .ref b49, .ref b50, .int b51, .ref b52, .ref b53, .ref b54])), (b7, .inl (G.2 3, 240, .inl b55))] (fun v w => ∃ (e0 : Int32), v = some (.int e0) ∧ w = [(b0, .inr (12, [.int b1, .ref b2, .ref b3, .ref b4, .ref b5, .int b6, .ref b7, .int b8, .int b9, .int b10, .int b11, .ref b12, .ref b13, .ref b14, .int b15, .ref b16, .ref b17, .ref b18, .ref b19, .ref b20, .ref b21, .ref b22, .ref b23, .ref b24, .ref b25, .ref b26, .ref b27, .int b28, .ref b29, .ref b30, .int b31, .int b32, .int b33, .int b34, .ref b35, .ref b36, .ref b37, .ref b38, .ref b39, .ref b40, .ref b41, .int b42, .ref b43, .ref b44, .int b45, .ref b46, .ref b47, .ref b48, .ref b49, .ref b50, .int b51, .ref b52, .ref b53, .ref b54])), (b7, .inl (G.2 3, 240, .inl b55))] ∧ (zI e0 0 1) ∧ ((e0 : Int32).toInt = 1 ∧ (b9 : Int32).toInt < (b8 : Int32).toInt ∧ (48 ≤ ((b55 (b9 : Int32).toInt.toNat)).toInt ∧ ((b55 (b9 : Int32).toInt.toNat)).toInt ≤ 57) ∨ (e0 : Int32).toInt = 0 ∧ ¬ ((b9 : Int32).toInt < (b8 : Int32).toInt ∧ (48 ≤ ((b55 (b9 : Int32).toInt.toNat)).toInt ∧ ((b55 (b9 : Int32).toInt.toNat)).toInt ≤ 57)))) := by
  refine z_start (by decide +kernel) (Nat.le_of_ble_eq_true rfl) ?_
  intro p e s m below meth c A Z hr hnm hA hP hD hS ls hl
  have Z : zC p s m _ meth c prog_14_method_13_code 1 "TraceMachinesModel" G := Z
  obtain ⟨hx, hb, hml, hown, hts, hK, hN, hlocks⟩ := id Z
  have hl : lv_has ls 1 [(0, .ref b0)] := hl
  refine lv_aload_n hx hb d_Model_isDigitHere_0 rfl (lv_at hl 0 rfl) ?_
  refine va_get (D := G.1) (ci := 12) (v := .int b9) (C := R_Model) (T := F_Model) (N := 54) hx hb hts i_Model hown hK hP 0 rfl rfl 8 (by decide) (hts _ q1117) (fun _ h9 => h9) rfl d_Model_isDigitHere_1 ?_
  refine lv_aload_n hx hb d_Model_isDigitHere_4 rfl (lv_at hl 0 rfl) ?_
  refine va_get (D := G.1) (ci := 12) (v := .int b8) (C := R_Model) (T := F_Model) (N := 54) hx hb hts i_Model hown hK hP 0 rfl rfl 7 (by decide) (hts _ q1116) (fun _ h9 => h9) rfl d_Model_isDigitHere_5 ?_
  refine lv_icmp_ge (tgt := 37) hx hb d_Model_isDigitHere_8 (by decide) (fun hc_1 => ?_) (fun hc_1 => ?_)
  · have _nhc_1 := hc_1
    have ni_2 := (fa_le _ _).mp hc_1
    refine lv_iconst (v := 0) hx hb d_Model_isDigitHere_37 (by decide) ?_
    exact z_zret hx hb hr hlocks rfl hP hD hS (Nat.le_of_ble_eq_true rfl) (Nat.le_of_ble_eq_true rfl) d_Model_isDigitHere_38 ⟨0, rfl, rfl, (zI.wk (l' := 0) (h' := 1) zc_0 (by decide)), (by exact Or.inr ⟨li_0, by omega⟩)⟩
  · have _nhc_1 := hc_1
    have ni_3 := (fa_lt _ _).mp (zi_nle hc_1)
    have hv_4 : zI b9 0 239 := zI.lt_l hb9 hb8 (zi_nle hc_1) (by decide)
    have hv_5 : zI b8 1 240 := zI.lt_r hb9 hb8 (zi_nle hc_1) (by decide)
    refine lv_aload_n hx hb d_Model_isDigitHere_11 rfl (lv_at hl 0 rfl) ?_
    refine va_get (D := G.1) (ci := 12) (v := .ref b7) (C := R_Model) (T := F_Model) (N := 54) hx hb hts i_Model hown hK hP 0 rfl rfl 6 (by decide) (hts _ q1115) (fun _ h9 => h9) rfl d_Model_isDigitHere_12 ?_
    refine lv_aload_n hx hb d_Model_isDigitHere_15 rfl (lv_at hl 0 rfl) ?_
    refine va_get (D := G.1) (ci := 12) (v := .int b9) (C := R_Model) (T := F_Model) (N := 54) hx hb hts i_Model hown hK hP 0 rfl rfl 8 (by decide) (hts _ q1117) (fun _ h9 => h9) rfl d_Model_isDigitHere_16 ?_
    refine va_bald hx hb hK hP 1 3 rfl rfl (zI.inn hv_4 (by decide)) d_Model_isDigitHere_19 ?_
    refine lv_topi (fun v_6 ev_6 => ?_)
    refine lv_i2l (v := v_6.toInt64) hx hb d_Model_isDigitHere_20 rfl ?_
    refine lv_ldc2 hx hb hown (hts _ q1310) d_Model_isDigitHere_21 ?_
    refine lv_ldc2 hx hb hown (hts _ q1311) d_Model_isDigitHere_24 ?_
    refine z_callS (index := 138) (As := [.long v_6.toInt64, .long 48, .long 57]) (rest := []) (wr := [(b0, .inr (12, [.int b1, .ref b2, .ref b3, .ref b4, .ref b5, .int b6, .ref b7, .int b8, .int b9, .int b10, .int b11, .ref b12, .ref b13, .ref b14, .int b15, .ref b16, .ref b17, .ref b18, .ref b19, .ref b20, .ref b21, .ref b22, .ref b23, .ref b24, .ref b25, .ref b26, .ref b27, .int b28, .ref b29, .ref b30, .int b31, .int b32, .int b33, .int b34, .ref b35, .ref b36, .ref b37, .ref b38, .ref b39, .ref b40, .ref b41, .int b42, .ref b43, .ref b44, .int b45, .ref b46, .ref b47, .ref b48, .ref b49, .ref b50, .int b51, .ref b52, .ref b53, .ref b54])), (b7, .inl (G.2 3, 240, .inl b55))]) Z (s2_Model_in l G (v_6.toInt64) (48) (57)) hl.1 q1281 q1282 q14 q1283 ⟨by decide, by decide, by show _ = some 3; decide +kernel⟩ ⟨Nat.le_of_ble_eq_true rfl, Nat.le_of_ble_eq_true rfl⟩ ⟨Nat.le_of_ble_eq_true rfl, Nat.le_of_ble_eq_true rfl⟩ rfl (Nat.le_of_ble_eq_true rfl) d_Model_isDigitHere_27 hP hD hS hA [] [0, 1] rfl rfl rfl rfl (by decide) (fun v w1 H locs hw_7 hP hD hS => ?_)
    rcases hw_7 with ⟨rfl, rfl, hq_8⟩ | ⟨rfl, rfl, hq_9, hq_10⟩ | ⟨rfl, rfl, hq_11, hq_12⟩
    · have hP : va_P G.1 classes [(b0, .inr (12, [.int b1, .ref b2, .ref b3, .ref b4, .ref b5, .int b6, .ref b7, .int b8, .int b9, .int b10, .int b11, .ref b12, .ref b13, .ref b14, .int b15, .ref b16, .ref b17, .ref b18, .ref b19, .ref b20, .ref b21, .ref b22, .ref b23, .ref b24, .ref b25, .ref b26, .ref b27, .int b28, .ref b29, .ref b30, .int b31, .int b32, .int b33, .int b34, .ref b35, .ref b36, .ref b37, .ref b38, .ref b39, .ref b40, .ref b41, .int b42, .ref b43, .ref b44, .int b45, .ref b46, .ref b47, .ref b48, .ref b49, .ref b50, .int b51, .ref b52, .ref b53, .ref b54])), (b7, .inl (G.2 3, 240, .inl b55))] H := hP
      have hD := z_tie hP hD rfl
      try simp only [Int32.toInt_toInt64, ll_48] at hq_8
      have hv_13 : zI v_6 (-2147483648) 47 := by have _a := hq_8; have _b := (zI_all v_6); have _c := zcl_48; simp only [Int32.toInt_toInt64] at *; exact ⟨by omega, by omega⟩
      refine W.widen (k := 0) (n := 0) (Nat.le_of_ble_eq_true rfl) (Nat.le_of_ble_eq_true rfl) ?_
      refine lv_if_eq (tgt := 37) hx hb d_Model_isDigitHere_30 (by decide) (fun _ => ?_) (fun hc => absurd hc (by decide +kernel))
      refine lv_iconst (v := 0) hx hb d_Model_isDigitHere_37 (by decide) ?_
      exact z_zret hx hb hr hlocks rfl hP hD hS (Nat.le_of_ble_eq_true rfl) (Nat.le_of_ble_eq_true rfl) d_Model_isDigitHere_38 ⟨0, rfl, rfl, (zI.wk (l' := 0) (h' := 1) zc_0 (by decide)), (by have e9 := congrArg Int32.toInt ev_6; rw [z_plf hv_4 (by decide)] at e9; exact Or.inr ⟨li_0, by omega⟩)⟩
    · have hP : va_P G.1 classes [(b0, .inr (12, [.int b1, .ref b2, .ref b3, .ref b4, .ref b5, .int b6, .ref b7, .int b8, .int b9, .int b10, .int b11, .ref b12, .ref b13, .ref b14, .int b15, .ref b16, .ref b17, .ref b18, .ref b19, .ref b20, .ref b21, .ref b22, .ref b23, .ref b24, .ref b25, .ref b26, .ref b27, .int b28, .ref b29, .ref b30, .int b31, .int b32, .int b33, .int b34, .ref b35, .ref b36, .ref b37, .ref b38, .ref b39, .ref b40, .ref b41, .int b42, .ref b43, .ref b44, .int b45, .ref b46, .ref b47, .ref b48, .ref b49, .ref b50, .int b51, .ref b52, .ref b53, .ref b54])), (b7, .inl (G.2 3, 240, .inl b55))] H := hP
      have hD := z_tie hP hD rfl
      try simp only [Int32.toInt_toInt64, ll_48] at hq_9
      have hv_14 : zI v_6 48 2147483647 := by have _a := hq_9; have _b := (zI_all v_6); have _c := zcl_48; simp only [Int32.toInt_toInt64] at *; exact ⟨by omega, by omega⟩
      try simp only [Int32.toInt_toInt64, ll_57] at hq_10
      have hv_15 : zI v_6 58 2147483647 := by have _a := hq_10; have _b := hv_14; have _c := zcl_57; simp only [Int32.toInt_toInt64] at *; exact ⟨by omega, by omega⟩
      refine W.widen (k := 0) (n := 0) (Nat.le_of_ble_eq_true rfl) (Nat.le_of_ble_eq_true rfl) ?_
      refine lv_if_eq (tgt := 37) hx hb d_Model_isDigitHere_30 (by decide) (fun _ => ?_) (fun hc => absurd hc (by decide +kernel))
      refine lv_iconst (v := 0) hx hb d_Model_isDigitHere_37 (by decide) ?_
      exact z_zret hx hb hr hlocks rfl hP hD hS (Nat.le_of_ble_eq_true rfl) (Nat.le_of_ble_eq_true rfl) d_Model_isDigitHere_38 ⟨0, rfl, rfl, (zI.wk (l' := 0) (h' := 1) zc_0 (by decide)), (by have e9 := congrArg Int32.toInt ev_6; rw [z_plf hv_4 (by decide)] at e9; exact Or.inr ⟨li_0, by omega⟩)⟩
    · have hP : va_P G.1 classes [(b0, .inr (12, [.int b1, .ref b2, .ref b3, .ref b4, .ref b5, .int b6, .ref b7, .int b8, .int b9, .int b10, .int b11, .ref b12, .ref b13, .ref b14, .int b15, .ref b16, .ref b17, .ref b18, .ref b19, .ref b20, .ref b21, .ref b22, .ref b23, .ref b24, .ref b25, .ref b26, .ref b27, .int b28, .ref b29, .ref b30, .int b31, .int b32, .int b33, .int b34, .ref b35, .ref b36, .ref b37, .ref b38, .ref b39, .ref b40, .ref b41, .int b42, .ref b43, .ref b44, .int b45, .ref b46, .ref b47, .ref b48, .ref b49, .ref b50, .int b51, .ref b52, .ref b53, .ref b54])), (b7, .inl (G.2 3, 240, .inl b55))] H := hP
      have hD := z_tie hP hD rfl
      try simp only [Int32.toInt_toInt64, ll_48] at hq_11
      have hv_16 : zI v_6 48 2147483647 := by have _a := hq_11; have _b := (zI_all v_6); have _c := zcl_48; simp only [Int32.toInt_toInt64] at *; exact ⟨by omega, by omega⟩
      try simp only [Int32.toInt_toInt64, ll_57] at hq_12
      have hv_17 : zI v_6 48 57 := by have _a := hq_12; have _b := hv_16; have _c := zcl_57; simp only [Int32.toInt_toInt64] at *; exact ⟨by omega, by omega⟩
      refine W.widen (k := 0) (n := 0) (Nat.le_of_ble_eq_true rfl) (Nat.le_of_ble_eq_true rfl) ?_
      refine lv_if_eq (tgt := 37) hx hb d_Model_isDigitHere_30 (by decide) (fun hc => absurd hc (by decide +kernel)) (fun _ => ?_)
      refine lv_iconst (v := 1) hx hb d_Model_isDigitHere_33 (by decide) ?_
      refine lv_goto (tgt := 38) hx hb d_Model_isDigitHere_34 (by decide) ?_
      exact z_zret hx hb hr hlocks rfl hP hD hS (Nat.le_of_ble_eq_true rfl) (Nat.le_of_ble_eq_true rfl) d_Model_isDigitHere_38 ⟨1, rfl, rfl, (zI.wk (l' := 0) (h' := 1) zc_1 (by decide)), (by have e9 := congrArg Int32.toInt ev_6; rw [z_plf hv_4 (by decide)] at e9; exact Or.inl ⟨li_1, by omega, by omega⟩)⟩
abbrev m_s2_Model_wrong : Room := { frames := 0, cells := 0, slots := 0, locals := 0 }
set_option maxHeartbeats 4000000 in
set_option maxRecDepth 100000 in
theorem s2_Model_wrong (l : Launch) (G : zG) (b0 : Nat) (b1 : Int32) (b2 : Nat) (b3 : Nat) (b4 : Nat) (b5 : Nat) (b6 : Int32) (b7 : Nat) (b8 : Int32) (b9 : Int32) (b10 : Int32) (b11 : Int32) (b12 : Nat) (b13 : Nat) (b14 : Nat) (b15 : Int32) (b16 : Nat) (b17 : Nat) (b18 : Nat) (b19 : Nat) (b20 : Nat) (b21 : Nat) (b22 : Nat) (b23 : Nat) (b24 : Nat) (b25 : Nat) (b26 : Nat) (b27 : Nat) (b28 : Int32) (b29 : Nat) (b30 : Nat) (b31 : Int32) (b32 : Int32) (b33 : Int32) (b34 : Int32) (b35 : Nat) (b36 : Nat) (b37 : Nat) (b38 : Nat) (b39 : Nat) (b40 : Nat) (b41 : Nat) (b42 : Int32) (b43 : Nat) (b44 : Nat) (b45 : Int32) (b46 : Nat) (b47 : Nat) (b48 : Nat) (b49 : Nat) (b50 : Nat) (b51 : Int32) (b52 : Nat) (b53 : Nat) (b54 : Nat) (hb6 : zI b6 0 8) (hb8 : zI b8 0 240) (hb9 : zI b9 0 240) (hb11 : zI b11 0 1) (hb15 : zI b15 0 12) (hb28 : zI b28 0 1) (hb31 : zI b31 0 1) (hb42 : zI b42 0 1000) (hb45 : zI b45 0 1000) (hb51 : zI b51 0 400) : zM l G y_Model_wrong prog_14_method_11_code 1 (Option.none : Option Jvm.ClassFile.FieldType) m_s2_Model_wrong [.ref b0] [(b0, .inr (12, [.int b1, .ref b2, .ref b3, .ref b4, .ref b5, .int b6, .ref b7, .int b8, .int b9, .int b10, .int b11, .ref b12, .ref b13, .ref b14, .int b15, .ref b16, .ref b17, .ref b18, .ref b19, .ref b20, .ref b21, .ref b22, .ref b23, .ref b24, .ref b25, .ref b26, .ref b27, .int b28, .ref b29, .ref b30, .int b31, .int b32, .int b33, .int b34, .ref b35, .ref b36, .ref b37, .ref b38, .ref b39, .ref b40, .ref b41, .int b42, .ref b43, .ref b44, .int b45, .ref b46, .ref b47, .ref b48, .ref b49, .ref b50, .int b51, .ref b52, .ref b53, .ref b54]))] (fun v w => ∃ (e0 : Int32), v = none ∧ w = [(b0, .inr (12, [.int b1, .ref b2, .ref b3, .ref b4, .ref b5, .int b6, .ref b7, .int b8, .int b9, .int e0, .int 0, .ref b12, .ref b13, .ref b14, .int b15, .ref b16, .ref b17, .ref b18, .ref b19, .ref b20, .ref b21, .ref b22, .ref b23, .ref b24, .ref b25, .ref b26, .ref b27, .int b28, .ref b29, .ref b30, .int b31, .int b32, .int b33, .int b34, .ref b35, .ref b36, .ref b37, .ref b38, .ref b39, .ref b40, .ref b41, .int b42, .ref b43, .ref b44, .int b45, .ref b46, .ref b47, .ref b48, .ref b49, .ref b50, .int b51, .ref b52, .ref b53, .ref b54]))] ∧ ((b11 : Int32).toInt = 1 → e0 = b9) ∧ ((b11 : Int32).toInt = 0 → e0 = b10)) := by
  refine z_start (by decide +kernel) (Nat.le_of_ble_eq_true rfl) ?_
  intro p e s m below meth c A Z hr hnm hA hP hD hS ls hl
  have Z : zC p s m _ meth c prog_14_method_11_code 1 "TraceMachinesModel" G := Z
  obtain ⟨hx, hb, hml, hown, hts, hK, hN, hlocks⟩ := id Z
  have hl : lv_has ls 1 [(0, .ref b0)] := hl
  refine lv_aload_n hx hb d_Model_wrong_0 rfl (lv_at hl 0 rfl) ?_
  refine lv_aload_n hx hb d_Model_wrong_1 rfl (lv_at hl 0 rfl) ?_
  refine va_get (D := G.1) (ci := 12) (v := .int b11) (C := R_Model) (T := F_Model) (N := 54) hx hb hts i_Model hown hK hP 0 rfl rfl 10 (by decide) (hts _ q1119) (fun _ h9 => h9) rfl d_Model_wrong_2 ?_
  refine lv_if_eq (tgt := 15) hx hb d_Model_wrong_5 (by decide) (fun hc_1 => ?_) (fun hc_1 => ?_)
  · have _nhc_1 := hc_1
    have ni_2 := (fa_eq _ _).mp hc_1
    rw [li_0] at ni_2
    have hv_3 : zI b11 0 0 := zI.eq_l hb11 zc_0 hc_1
    refine lv_aload_n hx hb d_Model_wrong_15 rfl (lv_at hl 0 rfl) ?_
    refine va_get (D := G.1) (ci := 12) (v := .int b10) (C := R_Model) (T := F_Model) (N := 54) hx hb hts i_Model hown hK hP 0 rfl rfl 9 (by decide) (hts _ q1118) (fun _ h9 => h9) rfl d_Model_wrong_16 ?_
    refine va_put (D := G.1) (ci := 12) (v := .int b10) (ty := .int) (C := R_Model) (T := F_Model) (N := 54) hx hb hts i_Model t_Model t_Model_ok n_Model hown hK hP hD hS 0 rfl rfl 9 (by decide) (hts _ q1118) (fun _ h9 => h9) rfl (by decide +kernel) rfl rfl (Nat.le_of_ble_eq_true rfl) d_Model_wrong_19 (fun H locs hP hD hS => ?_)
    have hP : va_P G.1 classes [(b0, .inr (12, [.int b1, .ref b2, .ref b3, .ref b4, .ref b5, .int b6, .ref b7, .int b8, .int b9, .int b10, .int b11, .ref b12, .ref b13, .ref b14, .int b15, .ref b16, .ref b17, .ref b18, .ref b19, .ref b20, .ref b21, .ref b22, .ref b23, .ref b24, .ref b25, .ref b26, .ref b27, .int b28, .ref b29, .ref b30, .int b31, .int b32, .int b33, .int b34, .ref b35, .ref b36, .ref b37, .ref b38, .ref b39, .ref b40, .ref b41, .int b42, .ref b43, .ref b44, .int b45, .ref b46, .ref b47, .ref b48, .ref b49, .ref b50, .int b51, .ref b52, .ref b53, .ref b54]))] H := hP
    have hD := z_tie hP hD rfl
    refine lv_aload_n hx hb d_Model_wrong_22 rfl (lv_at hl 0 rfl) ?_
    refine lv_iconst (v := 0) hx hb d_Model_wrong_23 (by decide) ?_
    refine va_put (D := G.1) (ci := 12) (v := .int 0) (ty := .boolean) (C := R_Model) (T := F_Model) (N := 54) hx hb hts i_Model t_Model t_Model_ok n_Model hown hK hP hD hS 0 rfl rfl 10 (by decide) (hts _ q1119) (fun _ h9 => h9) rfl (by decide +kernel) rfl rfl (Nat.le_of_ble_eq_true rfl) d_Model_wrong_24 (fun H locs hP hD hS => ?_)
    have hP : va_P G.1 classes [(b0, .inr (12, [.int b1, .ref b2, .ref b3, .ref b4, .ref b5, .int b6, .ref b7, .int b8, .int b9, .int b10, .int 0, .ref b12, .ref b13, .ref b14, .int b15, .ref b16, .ref b17, .ref b18, .ref b19, .ref b20, .ref b21, .ref b22, .ref b23, .ref b24, .ref b25, .ref b26, .ref b27, .int b28, .ref b29, .ref b30, .int b31, .int b32, .int b33, .int b34, .ref b35, .ref b36, .ref b37, .ref b38, .ref b39, .ref b40, .ref b41, .int b42, .ref b43, .ref b44, .int b45, .ref b46, .ref b47, .ref b48, .ref b49, .ref b50, .int b51, .ref b52, .ref b53, .ref b54]))] H := hP
    have hD := z_tie hP hD rfl
    exact z_vret hx hb hr hlocks hP hD hS (Nat.le_of_ble_eq_true rfl) (Nat.le_of_ble_eq_true rfl) d_Model_wrong_27 ⟨b10, rfl, rfl, (by intro h9; first | rfl | (exfalso; omega)), (by intro h9; first | rfl | (exfalso; omega))⟩
  · have _nhc_1 := hc_1
    have ni_4 : ¬ (b11 : Int32).toInt = (0 : Int32).toInt := fun z => hc_1 ((fa_eq _ _).mpr z)
    simp only [li_0] at ni_4
    have hv_5 : zI b11 1 1 := zI.ne_lo hb11 zc_0 hc_1 (by decide)
    refine lv_aload_n hx hb d_Model_wrong_8 rfl (lv_at hl 0 rfl) ?_
    refine va_get (D := G.1) (ci := 12) (v := .int b9) (C := R_Model) (T := F_Model) (N := 54) hx hb hts i_Model hown hK hP 0 rfl rfl 8 (by decide) (hts _ q1117) (fun _ h9 => h9) rfl d_Model_wrong_9 ?_
    refine lv_goto (tgt := 19) hx hb d_Model_wrong_12 (by decide) ?_
    refine va_put (D := G.1) (ci := 12) (v := .int b9) (ty := .int) (C := R_Model) (T := F_Model) (N := 54) hx hb hts i_Model t_Model t_Model_ok n_Model hown hK hP hD hS 0 rfl rfl 9 (by decide) (hts _ q1118) (fun _ h9 => h9) rfl (by decide +kernel) rfl rfl (Nat.le_of_ble_eq_true rfl) d_Model_wrong_19 (fun H locs hP hD hS => ?_)
    have hP : va_P G.1 classes [(b0, .inr (12, [.int b1, .ref b2, .ref b3, .ref b4, .ref b5, .int b6, .ref b7, .int b8, .int b9, .int b9, .int b11, .ref b12, .ref b13, .ref b14, .int b15, .ref b16, .ref b17, .ref b18, .ref b19, .ref b20, .ref b21, .ref b22, .ref b23, .ref b24, .ref b25, .ref b26, .ref b27, .int b28, .ref b29, .ref b30, .int b31, .int b32, .int b33, .int b34, .ref b35, .ref b36, .ref b37, .ref b38, .ref b39, .ref b40, .ref b41, .int b42, .ref b43, .ref b44, .int b45, .ref b46, .ref b47, .ref b48, .ref b49, .ref b50, .int b51, .ref b52, .ref b53, .ref b54]))] H := hP
    have hD := z_tie hP hD rfl
    refine lv_aload_n hx hb d_Model_wrong_22 rfl (lv_at hl 0 rfl) ?_
    refine lv_iconst (v := 0) hx hb d_Model_wrong_23 (by decide) ?_
    refine va_put (D := G.1) (ci := 12) (v := .int 0) (ty := .boolean) (C := R_Model) (T := F_Model) (N := 54) hx hb hts i_Model t_Model t_Model_ok n_Model hown hK hP hD hS 0 rfl rfl 10 (by decide) (hts _ q1119) (fun _ h9 => h9) rfl (by decide +kernel) rfl rfl (Nat.le_of_ble_eq_true rfl) d_Model_wrong_24 (fun H locs hP hD hS => ?_)
    have hP : va_P G.1 classes [(b0, .inr (12, [.int b1, .ref b2, .ref b3, .ref b4, .ref b5, .int b6, .ref b7, .int b8, .int b9, .int b9, .int 0, .ref b12, .ref b13, .ref b14, .int b15, .ref b16, .ref b17, .ref b18, .ref b19, .ref b20, .ref b21, .ref b22, .ref b23, .ref b24, .ref b25, .ref b26, .ref b27, .int b28, .ref b29, .ref b30, .int b31, .int b32, .int b33, .int b34, .ref b35, .ref b36, .ref b37, .ref b38, .ref b39, .ref b40, .ref b41, .int b42, .ref b43, .ref b44, .int b45, .ref b46, .ref b47, .ref b48, .ref b49, .ref b50, .int b51, .ref b52, .ref b53, .ref b54]))] H := hP
    have hD := z_tie hP hD rfl
    exact z_vret hx hb hr hlocks hP hD hS (Nat.le_of_ble_eq_true rfl) (Nat.le_of_ble_eq_true rfl) d_Model_wrong_27 ⟨b9, rfl, rfl, (by intro h9; first | rfl | (exfalso; omega)), (by intro h9; first | rfl | (exfalso; omega))⟩
abbrev m_s2_Model_readCalls : Room := { frames := 2, cells := 0, slots := 0, locals := 45 }
set_option maxHeartbeats 4000000 in
set_option maxRecDepth 100000 in
theorem s2_Model_readCalls (l : Launch) (G : zG) (b0 : Nat) (b1 : Int32) (b2 : Nat) (b3 : Nat) (b4 : Nat) (b5 : Nat) (b6 : Int32) (b7 : Nat) (b8 : Int32) (b9 : Int32) (b10 : Int32) (b11 : Int32) (b12 : Nat) (b13 : Nat) (b14 : Nat) (b15 : Int32) (b16 : Nat) (b17 : Nat) (b18 : Nat) (b19 : Nat) (b20 : Nat) (b21 : Nat) (b22 : Nat) (b23 : Nat) (b24 : Nat) (b25 : Nat) (b26 : Nat) (b27 : Nat) (b28 : Int32) (b29 : Nat) (b30 : Nat) (b31 : Int32) (b32 : Int32) (b33 : Int32) (b34 : Int32) (b35 : Nat) (b36 : Nat) (b37 : Nat) (b38 : Nat) (b39 : Nat) (b40 : Nat) (b41 : Nat) (b42 : Int32) (b43 : Nat) (b44 : Nat) (b45 : Int32) (b46 : Nat) (b47 : Nat) (b48 : Nat) (b49 : Nat) (b50 : Nat) (b51 : Int32) (b52 : Nat) (b53 : Nat) (b54 : Nat) (b55 : Nat → Int32) (b56 : Nat → Int32) (b57 : Nat → Int32) (hb6 : zI b6 0 8) (hb8 : zI b8 0 240) (hb9 : zI b9 0 240) (hb11 : zI b11 0 1) (hb15 : zI b15 0 12) (hb28 : zI b28 0 1) (hb31 : zI b31 0 1) (hb42 : zI b42 0 1000) (hb45 : zI b45 0 1000) (hb51 : zI b51 0 400) (hb56 : zR b56 0 9) : zM l G y_Model_readCalls prog_14_method_14_code 3 (Option.none : Option Jvm.ClassFile.FieldType) m_s2_Model_readCalls [.ref b0] [(b0, .inr (12, [.int b1, .ref b2, .ref b3, .ref b4, .ref b5, .int b6, .ref b7, .int b8, .int b9, .int b10, .int b11, .ref b12, .ref b13, .ref b14, .int b15, .ref b16, .ref b17, .ref b18, .ref b19, .ref b20, .ref b21, .ref b22, .ref b23, .ref b24, .ref b25, .ref b26, .ref b27, .int b28, .ref b29, .ref b30, .int b31, .int b32, .int b33, .int b34, .ref b35, .ref b36, .ref b37, .ref b38, .ref b39, .ref b40, .ref b41, .int b42, .ref b43, .ref b44, .int b45, .ref b46, .ref b47, .ref b48, .ref b49, .ref b50, .int b51, .ref b52, .ref b53, .ref b54])), (b7, .inl (G.2 3, 240, .inl b55)), (b13, .inl (G.2 0, 12, .inl b56)), (b14, .inl (G.2 0, 12, .inl b57))] (fun v w => ∃ (e0 : Int32), ∃ (e1 : Int32), ∃ (e2 : Int32), ∃ (e3 : Int32), ∃ (e4 : Nat → Int32), ∃ (e5 : Nat → Int32), v = none ∧ w = [(b0, .inr (12, [.int b1, .ref b2, .ref b3, .ref b4, .ref b5, .int b6, .ref b7, .int b8, .int e0, .int e1, .int e2, .ref b12, .ref b13, .ref b14, .int e3, .ref b16, .ref b17, .ref b18, .ref b19, .ref b20, .ref b21, .ref b22, .ref b23, .ref b24, .ref b25, .ref b26, .ref b27, .int b28, .ref b29, .ref b30, .int b31, .int b32, .int b33, .int b34, .ref b35, .ref b36, .ref b37, .ref b38, .ref b39, .ref b40, .ref b41, .int b42, .ref b43, .ref b44, .int b45, .ref b46, .ref b47, .ref b48, .ref b49, .ref b50, .int b51, .ref b52, .ref b53, .ref b54])), (b7, .inl (G.2 3, 240, .inl b55)), (b13, .inl (G.2 0, 12, .inl e4)), (b14, .inl (G.2 0, 12, .inl e5))] ∧ (zI e0 0 240) ∧ (zI e2 0 1) ∧ (zI e3 0 12) ∧ (zR e4 0 9) ∧ (b9.toInt ≤ e0.toInt) ∧ (∀ (si : Int) (R0 R : Nat → Int32), zA si b55 R0 (b8 : Int32).toInt (b9 : Int32).toInt 0 R → (0 ≤ (R 0).toInt ∧ (R 0).toInt ≤ 19) → (b9 : Int32).toInt ≤ (b8 : Int32).toInt → (b11 : Int32).toInt = 1 → ((e2 : Int32).toInt = 1 ∧ zCr si b55 R0 (b8 : Int32).toInt R (e0 : Int32).toInt (e3 : Int32).toInt e4 e5 ∧ (e0 : Int32).toInt ≤ (b8 : Int32).toInt ∧ ((e0 : Int32).toInt < (b8 : Int32).toInt → ¬ ((b55 (e0 : Int32).toInt.toNat)).toInt = 32 ∧ ¬ (97 ≤ ((b55 (e0 : Int32).toInt.toNat)).toInt ∧ ((b55 (e0 : Int32).toInt.toNat)).toInt ≤ 106))) ∨ ((e2 : Int32).toInt = 0 ∧ zX si b55 R0 (b8 : Int32).toInt (e1 : Int32).toInt))) := by
  refine z_start (by decide +kernel) (Nat.le_of_ble_eq_true rfl) ?_
  intro p e s m below meth c A Z hr hnm hA hP hD hS ls hl
  have Z : zC p s m _ meth c prog_14_method_14_code 3 "TraceMachinesModel" G := Z
  obtain ⟨hx, hb, hml, hown, hts, hK, hN, hlocks⟩ := id Z
  have hl : lv_has ls 3 [(0, .ref b0)] := hl
  refine lv_aload_n hx hb d_Model_readCalls_0 rfl (lv_at hl 0 rfl) ?_
  refine lv_iconst (v := 0) hx hb d_Model_readCalls_1 (by decide) ?_
  refine va_put (D := G.1) (ci := 12) (v := .int 0) (ty := .int) (C := R_Model) (T := F_Model) (N := 54) hx hb hts i_Model t_Model t_Model_ok n_Model hown hK hP hD hS 0 rfl rfl 14 (by decide) (hts _ q1123) (fun _ h9 => h9) rfl (by decide +kernel) rfl rfl (Nat.le_of_ble_eq_true rfl) d_Model_readCalls_2 (fun H locs hP hD hS => ?_)
  have hP : va_P G.1 classes [(b0, .inr (12, [.int b1, .ref b2, .ref b3, .ref b4, .ref b5, .int b6, .ref b7, .int b8, .int b9, .int b10, .int b11, .ref b12, .ref b13, .ref b14, .int 0, .ref b16, .ref b17, .ref b18, .ref b19, .ref b20, .ref b21, .ref b22, .ref b23, .ref b24, .ref b25, .ref b26, .ref b27, .int b28, .ref b29, .ref b30, .int b31, .int b32, .int b33, .int b34, .ref b35, .ref b36, .ref b37, .ref b38, .ref b39, .ref b40, .ref b41, .int b42, .ref b43, .ref b44, .int b45, .ref b46, .ref b47, .ref b48, .ref b49, .ref b50, .int b51, .ref b52, .ref b53, .ref b54])), (b7, .inl (G.2 3, 240, .inl b55)), (b13, .inl (G.2 0, 12, .inl b56)), (b14, .inl (G.2 0, 12, .inl b57))] H := hP
  have hD := z_tie hP hD rfl
  suffices key : ∀ (k_148 : Nat) (y_149 : Int32) (y_150 : Int32) (y_151 : Int32) (y_152 : Int32) (y_153 : Nat → Int32) (y_154 : Nat → Int32) (H : Heap) (locs : List Loc) (ls : Array Slot), (zI y_149 0 240) → (zI y_150 0 12) → (zI y_152 0 1) → (zR y_153 0 9) → (b9.toInt ≤ y_149.toInt) → (∀ (si : Int) (R0 R : Nat → Int32), zA si b55 R0 (b8 : Int32).toInt (b9 : Int32).toInt 0 R → (0 ≤ (R 0).toInt ∧ (R 0).toInt ≤ 19) → (b9 : Int32).toInt ≤ (b8 : Int32).toInt → (b11 : Int32).toInt = 1 → ((y_152 : Int32).toInt = 1 ∧ zCr si b55 R0 (b8 : Int32).toInt R (y_149 : Int32).toInt (y_150 : Int32).toInt y_153 y_154 ∧ (y_149 : Int32).toInt ≤ (b8 : Int32).toInt) ∨ ((y_152 : Int32).toInt = 0 ∧ zX si b55 R0 (b8 : Int32).toInt (y_151 : Int32).toInt)) → (13 : Int) - (y_150).toInt < (k_148 : Int) → va_P G.1 classes [(b0, .inr (12, [.int b1, .ref b2, .ref b3, .ref b4, .ref b5, .int b6, .ref b7, .int b8, .int y_149, .int y_151, .int y_152, .ref b12, .ref b13, .ref b14, .int y_150, .ref b16, .ref b17, .ref b18, .ref b19, .ref b20, .ref b21, .ref b22, .ref b23, .ref b24, .ref b25, .ref b26, .ref b27, .int b28, .ref b29, .ref b30, .int b31, .int b32, .int b33, .int b34, .ref b35, .ref b36, .ref b37, .ref b38, .ref b39, .ref b40, .ref b41, .int b42, .ref b43, .ref b44, .int b45, .ref b46, .ref b47, .ref b48, .ref b49, .ref b50, .int b51, .ref b52, .ref b53, .ref b54])), (b7, .inl (G.2 3, 240, .inl b55)), (b13, .inl (G.2 0, 12, .inl y_153)), (b14, .inl (G.2 0, 12, .inl y_154))] H → va_D A [(b0, .inr (12, [.int b1, .ref b2, .ref b3, .ref b4, .ref b5, .int b6, .ref b7, .int b8, .int y_149, .int y_151, .int y_152, .ref b12, .ref b13, .ref b14, .int y_150, .ref b16, .ref b17, .ref b18, .ref b19, .ref b20, .ref b21, .ref b22, .ref b23, .ref b24, .ref b25, .ref b26, .ref b27, .int b28, .ref b29, .ref b30, .int b31, .int b32, .int b33, .int b34, .ref b35, .ref b36, .ref b37, .ref b38, .ref b39, .ref b40, .ref b41, .int b42, .ref b43, .ref b44, .int b45, .ref b46, .ref b47, .ref b48, .ref b49, .ref b50, .int b51, .ref b52, .ref b53, .ref b54])), (b7, .inl (G.2 3, 240, .inl b55)), (b13, .inl (G.2 0, 12, .inl y_153)), (b14, .inl (G.2 0, 12, .inl y_154))] → va_S A s.heap H locs → lv_has ls 3 [(0, .ref b0)] → W p l e m_s2_Model_readCalls s m ([.ref b0] : List Value).toArray below meth c H locs 0 0 (MQ below (zQ G (fun v w => ∃ (e0 : Int32), ∃ (e1 : Int32), ∃ (e2 : Int32), ∃ (e3 : Int32), ∃ (e4 : Nat → Int32), ∃ (e5 : Nat → Int32), v = none ∧ w = [(b0, .inr (12, [.int b1, .ref b2, .ref b3, .ref b4, .ref b5, .int b6, .ref b7, .int b8, .int e0, .int e1, .int e2, .ref b12, .ref b13, .ref b14, .int e3, .ref b16, .ref b17, .ref b18, .ref b19, .ref b20, .ref b21, .ref b22, .ref b23, .ref b24, .ref b25, .ref b26, .ref b27, .int b28, .ref b29, .ref b30, .int b31, .int b32, .int b33, .int b34, .ref b35, .ref b36, .ref b37, .ref b38, .ref b39, .ref b40, .ref b41, .int b42, .ref b43, .ref b44, .int b45, .ref b46, .ref b47, .ref b48, .ref b49, .ref b50, .int b51, .ref b52, .ref b53, .ref b54])), (b7, .inl (G.2 3, 240, .inl b55)), (b13, .inl (G.2 0, 12, .inl e4)), (b14, .inl (G.2 0, 12, .inl e5))] ∧ (zI e0 0 240) ∧ (zI e2 0 1) ∧ (zI e3 0 12) ∧ (zR e4 0 9) ∧ (b9.toInt ≤ e0.toInt) ∧ (∀ (si : Int) (R0 R : Nat → Int32), zA si b55 R0 (b8 : Int32).toInt (b9 : Int32).toInt 0 R → (0 ≤ (R 0).toInt ∧ (R 0).toInt ≤ 19) → (b9 : Int32).toInt ≤ (b8 : Int32).toInt → (b11 : Int32).toInt = 1 → ((e2 : Int32).toInt = 1 ∧ zCr si b55 R0 (b8 : Int32).toInt R (e0 : Int32).toInt (e3 : Int32).toInt e4 e5 ∧ (e0 : Int32).toInt ≤ (b8 : Int32).toInt ∧ ((e0 : Int32).toInt < (b8 : Int32).toInt → ¬ ((b55 (e0 : Int32).toInt.toNat)).toInt = 32 ∧ ¬ (97 ≤ ((b55 (e0 : Int32).toInt.toNat)).toInt ∧ ((b55 (e0 : Int32).toInt.toNat)).toInt ≤ 106))) ∨ ((e2 : Int32).toInt = 0 ∧ zX si b55 R0 (b8 : Int32).toInt (e1 : Int32).toInt))) A) ([.ref b0] : List Value).toArray s m_s2_Model_readCalls.cells m_s2_Model_readCalls.slots A) (F0 m 5 ls []) by
    exact key 15 (b9) (0) (b10) (b11) (b56) (b57) _ _ _ hb9 (zI.wk (l' := 0) (h' := 12) zc_0 (by decide)) hb11 hb56 (by omega) (fun si R0 R h1 h2 h3 h4 => Or.inl ⟨h4, Or.inl ⟨li_0, h1⟩, h3⟩) (by have _l0 := li_0; omega) hP hD hS (lv_sub hl [0] rfl)
  intro k_148
  induction k_148 with
  | zero =>
    intro y_149 y_150 y_151 y_152 y_153 y_154 H locs ls hy_149 hy_150 hy_152 hy_153 hli_155 hli_156 hmk_148 hP hD hS hl
    exfalso; omega
  | succ k_148 ihk_148 =>
    intro y_149 y_150 y_151 y_152 y_153 y_154 H locs ls hy_149 hy_150 hy_152 hy_153 hli_155 hli_156 hmk_148 hP hD hS hl
    refine lv_aload_n hx hb d_Model_readCalls_5 rfl (lv_at hl 0 rfl) ?_
    refine va_get (D := G.1) (ci := 12) (v := .int y_152) (C := R_Model) (T := F_Model) (N := 54) hx hb hts i_Model hown hK hP 0 rfl rfl 10 (by decide) (hts _ q1119) (fun _ h9 => h9) rfl d_Model_readCalls_6 ?_
    refine lv_if_eq (tgt := 158) hx hb d_Model_readCalls_9 (by decide) (fun hc_157 => ?_) (fun hc_157 => ?_)
    · have _nhc_157 := hc_157
      have ni_158 := (fa_eq _ _).mp hc_157
      rw [li_0] at ni_158
      have hv_159 : zI y_152 0 0 := zI.eq_l hy_152 zc_0 hc_157
      exact z_vret hx hb hr hlocks hP hD hS (Nat.le_of_ble_eq_true rfl) (Nat.le_of_ble_eq_true rfl) d_Model_readCalls_158 ⟨y_149, y_151, y_152, y_150, y_153, y_154, rfl, rfl, hy_149, (zI.wk (l' := 0) (h' := 1) hv_159 (by decide)), hy_150, hy_153, (by omega), (fun si R0 R h1 h2 h3 h4 => (hli_156 si R0 R h1 h2 h3 h4).elim (fun ⟨g1, _⟩ => absurd g1 (by omega)) (fun g9 => Or.inr g9))⟩
    · have _nhc_157 := hc_157
      have ni_160 : ¬ (y_152 : Int32).toInt = (0 : Int32).toInt := fun z => hc_157 ((fa_eq _ _).mpr z)
      simp only [li_0] at ni_160
      have hv_161 : zI y_152 1 1 := zI.ne_lo hy_152 zc_0 hc_157 (by decide)
      refine lv_aload_n hx hb d_Model_readCalls_12 rfl (lv_at hl 0 rfl) ?_
      refine z_callV (index := 162) (As := []) (rest := []) (wr := [(b13, .inl (G.2 0, 12, .inl y_153)), (b14, .inl (G.2 0, 12, .inl y_154))]) Z (s2_Model_next l G (b0) (b1) (b2) (b3) (b4) (b5) (b6) (b7) (b8) (y_149) (y_151) (y_152) (b12) (b13) (b14) (y_150) (b16) (b17) (b18) (b19) (b20) (b21) (b22) (b23) (b24) (b25) (b26) (b27) (b28) (b29) (b30) (b31) (b32) (b33) (b34) (b35) (b36) (b37) (b38) (b39) (b40) (b41) (b42) (b43) (b44) (b45) (b46) (b47) (b48) (b49) (b50) (b51) (b52) (b53) (b54) (b55) hb6 hb8 hy_149 (zI.wk (l' := 0) (h' := 1) hv_161 (by decide)) hy_150 hb28 hb31 hb42 hb45 hb51) hl.1 q1292 q1294 qs45 q14 q1295 ⟨by decide, by decide, by show _ = some 0; decide +kernel⟩ ⟨Nat.le_of_ble_eq_true rfl, Nat.le_of_ble_eq_true rfl⟩ ⟨Nat.le_of_ble_eq_true rfl, Nat.le_of_ble_eq_true rfl⟩ rfl (Nat.le_of_ble_eq_true rfl) d_Model_readCalls_13 hP hD hS hA 0 12 rfl rfl rfl [0, 1] [2, 3] rfl rfl rfl rfl (by decide) (fun v w1 H locs hw_162 hP hD hS => ?_)
      obtain ⟨x_163, x_164, rfl, rfl, hx_164, hfx_165, hfx_166, hfx_167, hfx_168, hfx_169⟩ := hw_162
      have hP : va_P G.1 classes [(b13, .inl (G.2 0, 12, .inl y_153)), (b14, .inl (G.2 0, 12, .inl y_154)), (b0, .inr (12, [.int b1, .ref b2, .ref b3, .ref b4, .ref b5, .int b6, .ref b7, .int b8, .int x_164, .int y_151, .int y_152, .ref b12, .ref b13, .ref b14, .int y_150, .ref b16, .ref b17, .ref b18, .ref b19, .ref b20, .ref b21, .ref b22, .ref b23, .ref b24, .ref b25, .ref b26, .ref b27, .int b28, .ref b29, .ref b30, .int b31, .int b32, .int b33, .int b34, .ref b35, .ref b36, .ref b37, .ref b38, .ref b39, .ref b40, .ref b41, .int b42, .ref b43, .ref b44, .int b45, .ref b46, .ref b47, .ref b48, .ref b49, .ref b50, .int b51, .ref b52, .ref b53, .ref b54])), (b7, .inl (G.2 3, 240, .inl b55))] H := hP
      have hD := z_tie hP hD rfl
      refine W.widen (k := 0) (n := 0) (Nat.le_of_ble_eq_true rfl) (Nat.le_of_ble_eq_true rfl) ?_
      refine lv_i2l (v := x_163.toInt64) hx hb d_Model_readCalls_16 rfl ?_
      refine lv_ldc2 hx hb hown (hts _ q1304) d_Model_readCalls_17 ?_
      refine lv_ldc2 hx hb hown (hts _ q1305) d_Model_readCalls_20 ?_
      refine z_callS (index := 138) (As := [.long x_163.toInt64, .long 97, .long 106]) (rest := []) (wr := [(b13, .inl (G.2 0, 12, .inl y_153)), (b14, .inl (G.2 0, 12, .inl y_154)), (b0, .inr (12, [.int b1, .ref b2, .ref b3, .ref b4, .ref b5, .int b6, .ref b7, .int b8, .int x_164, .int y_151, .int y_152, .ref b12, .ref b13, .ref b14, .int y_150, .ref b16, .ref b17, .ref b18, .ref b19, .ref b20, .ref b21, .ref b22, .ref b23, .ref b24, .ref b25, .ref b26, .ref b27, .int b28, .ref b29, .ref b30, .int b31, .int b32, .int b33, .int b34, .ref b35, .ref b36, .ref b37, .ref b38, .ref b39, .ref b40, .ref b41, .int b42, .ref b43, .ref b44, .int b45, .ref b46, .ref b47, .ref b48, .ref b49, .ref b50, .int b51, .ref b52, .ref b53, .ref b54])), (b7, .inl (G.2 3, 240, .inl b55))]) Z (s2_Model_in l G (x_163.toInt64) (97) (106)) hl.1 q1281 q1282 q14 q1283 ⟨by decide, by decide, by show _ = some 3; decide +kernel⟩ ⟨Nat.le_of_ble_eq_true rfl, Nat.le_of_ble_eq_true rfl⟩ ⟨Nat.le_of_ble_eq_true rfl, Nat.le_of_ble_eq_true rfl⟩ rfl (Nat.le_of_ble_eq_true rfl) d_Model_readCalls_23 hP hD hS hA [] [0, 1, 2, 3] rfl rfl rfl rfl (by decide) (fun v w1 H locs hw_170 hP hD hS => ?_)
      rcases hw_170 with ⟨rfl, rfl, hq_171⟩ | ⟨rfl, rfl, hq_172, hq_173⟩ | ⟨rfl, rfl, hq_174, hq_175⟩
      · have hP : va_P G.1 classes [(b13, .inl (G.2 0, 12, .inl y_153)), (b14, .inl (G.2 0, 12, .inl y_154)), (b0, .inr (12, [.int b1, .ref b2, .ref b3, .ref b4, .ref b5, .int b6, .ref b7, .int b8, .int x_164, .int y_151, .int y_152, .ref b12, .ref b13, .ref b14, .int y_150, .ref b16, .ref b17, .ref b18, .ref b19, .ref b20, .ref b21, .ref b22, .ref b23, .ref b24, .ref b25, .ref b26, .ref b27, .int b28, .ref b29, .ref b30, .int b31, .int b32, .int b33, .int b34, .ref b35, .ref b36, .ref b37, .ref b38, .ref b39, .ref b40, .ref b41, .int b42, .ref b43, .ref b44, .int b45, .ref b46, .ref b47, .ref b48, .ref b49, .ref b50, .int b51, .ref b52, .ref b53, .ref b54])), (b7, .inl (G.2 3, 240, .inl b55))] H := hP
        have hD := z_tie hP hD rfl
        try simp only [Int32.toInt_toInt64, ll_97] at hq_171
        have hv_176 : zI x_163 (-2147483648) 96 := by have _a := hq_171; have _b := (zI_all x_163); have _c := zcl_97; simp only [Int32.toInt_toInt64] at *; exact ⟨by omega, by omega⟩
        refine W.widen (k := 0) (n := 0) (Nat.le_of_ble_eq_true rfl) (Nat.le_of_ble_eq_true rfl) ?_
        refine lv_if_eq (tgt := 158) hx hb d_Model_readCalls_26 (by decide) (fun _ => ?_) (fun hc => absurd hc (by decide +kernel))
        exact z_vret hx hb hr hlocks (hP.sub [2, 3, 0, 1] rfl) (hD.sub [2, 3, 0, 1] (by decide) rfl) hS (Nat.le_of_ble_eq_true rfl) (Nat.le_of_ble_eq_true rfl) d_Model_readCalls_158 ⟨x_164, y_151, y_152, y_150, y_153, y_154, rfl, rfl, hx_164, (zI.wk (l' := 0) (h' := 1) hv_161 (by decide)), hy_150, hy_153, (by omega), (fun si R0 R h1 h2 h3 h4 => (hli_156 si R0 R h1 h2 h3 h4).elim (fun ⟨g1, g2, g3⟩ => Or.inl ⟨g1, (zC_to (p' := x_164.toInt) g2 ⟨by omega, by omega, by omega⟩ hfx_167), by omega, fun h8 => by rcases hfx_168 with ⟨_, b9, c9⟩ | ⟨a9, _⟩; (rw [← b9] at c9 ⊢; exact ⟨c9, by omega⟩); (exfalso; omega)⟩) (fun ⟨g1, _⟩ => absurd g1 (by omega)))⟩
      · have hP : va_P G.1 classes [(b13, .inl (G.2 0, 12, .inl y_153)), (b14, .inl (G.2 0, 12, .inl y_154)), (b0, .inr (12, [.int b1, .ref b2, .ref b3, .ref b4, .ref b5, .int b6, .ref b7, .int b8, .int x_164, .int y_151, .int y_152, .ref b12, .ref b13, .ref b14, .int y_150, .ref b16, .ref b17, .ref b18, .ref b19, .ref b20, .ref b21, .ref b22, .ref b23, .ref b24, .ref b25, .ref b26, .ref b27, .int b28, .ref b29, .ref b30, .int b31, .int b32, .int b33, .int b34, .ref b35, .ref b36, .ref b37, .ref b38, .ref b39, .ref b40, .ref b41, .int b42, .ref b43, .ref b44, .int b45, .ref b46, .ref b47, .ref b48, .ref b49, .ref b50, .int b51, .ref b52, .ref b53, .ref b54])), (b7, .inl (G.2 3, 240, .inl b55))] H := hP
        have hD := z_tie hP hD rfl
        try simp only [Int32.toInt_toInt64, ll_97] at hq_172
        have hv_177 : zI x_163 97 2147483647 := by have _a := hq_172; have _b := (zI_all x_163); have _c := zcl_97; simp only [Int32.toInt_toInt64] at *; exact ⟨by omega, by omega⟩
        try simp only [Int32.toInt_toInt64, ll_106] at hq_173
        have hv_178 : zI x_163 107 2147483647 := by have _a := hq_173; have _b := hv_177; have _c := zcl_106; simp only [Int32.toInt_toInt64] at *; exact ⟨by omega, by omega⟩
        refine W.widen (k := 0) (n := 0) (Nat.le_of_ble_eq_true rfl) (Nat.le_of_ble_eq_true rfl) ?_
        refine lv_if_eq (tgt := 158) hx hb d_Model_readCalls_26 (by decide) (fun _ => ?_) (fun hc => absurd hc (by decide +kernel))
        exact z_vret hx hb hr hlocks (hP.sub [2, 3, 0, 1] rfl) (hD.sub [2, 3, 0, 1] (by decide) rfl) hS (Nat.le_of_ble_eq_true rfl) (Nat.le_of_ble_eq_true rfl) d_Model_readCalls_158 ⟨x_164, y_151, y_152, y_150, y_153, y_154, rfl, rfl, hx_164, (zI.wk (l' := 0) (h' := 1) hv_161 (by decide)), hy_150, hy_153, (by omega), (fun si R0 R h1 h2 h3 h4 => (hli_156 si R0 R h1 h2 h3 h4).elim (fun ⟨g1, g2, g3⟩ => Or.inl ⟨g1, (zC_to (p' := x_164.toInt) g2 ⟨by omega, by omega, by omega⟩ hfx_167), by omega, fun h8 => by rcases hfx_168 with ⟨_, b9, c9⟩ | ⟨a9, _⟩; (rw [← b9] at c9 ⊢; exact ⟨c9, by omega⟩); (exfalso; omega)⟩) (fun ⟨g1, _⟩ => absurd g1 (by omega)))⟩
      · have hP : va_P G.1 classes [(b13, .inl (G.2 0, 12, .inl y_153)), (b14, .inl (G.2 0, 12, .inl y_154)), (b0, .inr (12, [.int b1, .ref b2, .ref b3, .ref b4, .ref b5, .int b6, .ref b7, .int b8, .int x_164, .int y_151, .int y_152, .ref b12, .ref b13, .ref b14, .int y_150, .ref b16, .ref b17, .ref b18, .ref b19, .ref b20, .ref b21, .ref b22, .ref b23, .ref b24, .ref b25, .ref b26, .ref b27, .int b28, .ref b29, .ref b30, .int b31, .int b32, .int b33, .int b34, .ref b35, .ref b36, .ref b37, .ref b38, .ref b39, .ref b40, .ref b41, .int b42, .ref b43, .ref b44, .int b45, .ref b46, .ref b47, .ref b48, .ref b49, .ref b50, .int b51, .ref b52, .ref b53, .ref b54])), (b7, .inl (G.2 3, 240, .inl b55))] H := hP
        have hD := z_tie hP hD rfl
        try simp only [Int32.toInt_toInt64, ll_97] at hq_174
        have hv_179 : zI x_163 97 2147483647 := by have _a := hq_174; have _b := (zI_all x_163); have _c := zcl_97; simp only [Int32.toInt_toInt64] at *; exact ⟨by omega, by omega⟩
        try simp only [Int32.toInt_toInt64, ll_106] at hq_175
        have hv_180 : zI x_163 97 106 := by have _a := hq_175; have _b := hv_179; have _c := zcl_106; simp only [Int32.toInt_toInt64] at *; exact ⟨by omega, by omega⟩
        refine W.widen (k := 0) (n := 0) (Nat.le_of_ble_eq_true rfl) (Nat.le_of_ble_eq_true rfl) ?_
        refine lv_if_eq (tgt := 158) hx hb d_Model_readCalls_26 (by decide) (fun hc => absurd hc (by decide +kernel)) (fun _ => ?_)
        refine lv_aload_n hx hb d_Model_readCalls_29 rfl (lv_at hl 0 rfl) ?_
        refine va_get (D := G.1) (ci := 12) (v := .int y_150) (C := R_Model) (T := F_Model) (N := 54) hx hb hts i_Model hown hK hP 2 rfl rfl 14 (by decide) (hts _ q1123) (fun _ h9 => h9) rfl d_Model_readCalls_30 ?_
        refine lv_bipush (v := 12) hx hb d_Model_readCalls_33 (by decide) ?_
        refine lv_icmp_ne (tgt := 43) hx hb d_Model_readCalls_35 (by decide) (fun hc_181 => ?_) (fun hc_181 => ?_)
        · have _nhc_181 := hc_181
          have ni_182 : ¬ (y_150 : Int32).toInt = (12 : Int32).toInt := fun z => hc_181 ((fa_eq _ _).mpr z)
          simp only [li_12] at ni_182
          have hv_183 : zI y_150 0 11 := zI.ne_hi hy_150 zc_12 hc_181 (by decide)
          refine lv_aload_n hx hb d_Model_readCalls_43 rfl (lv_at hl 0 rfl) ?_
          refine va_get (D := G.1) (ci := 12) (v := .ref b13) (C := R_Model) (T := F_Model) (N := 54) hx hb hts i_Model hown hK hP 2 rfl rfl 12 (by decide) (hts _ q1121) (fun _ h9 => h9) rfl d_Model_readCalls_44 ?_
          refine lv_aload_n hx hb d_Model_readCalls_47 rfl (lv_at hl 0 rfl) ?_
          refine va_get (D := G.1) (ci := 12) (v := .int y_150) (C := R_Model) (T := F_Model) (N := 54) hx hb hts i_Model hown hK hP 2 rfl rfl 14 (by decide) (hts _ q1123) (fun _ h9 => h9) rfl d_Model_readCalls_48 ?_
          refine lv_aload_n hx hb d_Model_readCalls_51 rfl (lv_at hl 0 rfl) ?_
          refine va_get (D := G.1) (ci := 12) (v := .ref b7) (C := R_Model) (T := F_Model) (N := 54) hx hb hts i_Model hown hK hP 2 rfl rfl 6 (by decide) (hts _ q1115) (fun _ h9 => h9) rfl d_Model_readCalls_52 ?_
          refine lv_aload_n hx hb d_Model_readCalls_55 rfl (lv_at hl 0 rfl) ?_
          refine va_get (D := G.1) (ci := 12) (v := .int x_164) (C := R_Model) (T := F_Model) (N := 54) hx hb hts i_Model hown hK hP 2 rfl rfl 8 (by decide) (hts _ q1117) (fun _ h9 => h9) rfl d_Model_readCalls_56 ?_
          have hv_184 : zI x_164 0 239 := ⟨by omega, by omega⟩
          refine va_bald hx hb hK hP 3 3 rfl rfl (zI.inn hv_184 (by decide)) d_Model_readCalls_59 ?_
          refine lv_topi (fun v_185 ev_185 => ?_)
          have hv_186 : zI v_185 97 106 := by rcases hfx_165 with h9 | h9; exact absurd h9 (by omega); rw [ev_185, ← h9.2]; exact hv_180
          refine lv_bipush (v := 97) hx hb d_Model_readCalls_60 (by decide) ?_
          refine lv_isub hx hb d_Model_readCalls_62 ?_
          refine lv_topi (fun v_187 ev_187 => ?_)
          obtain ⟨qv_187, hv_187⟩ := zI_sub (l := 0) (h := 9) hv_186 zc_97 ev_187 (by decide)
          rw [li_97] at qv_187
          refine va_iast hx hb hK hP hD hS 0 0 rfl rfl (zI.inn hv_183 (by decide)) d_Model_readCalls_63 (fun H locs hP hD hS => ?_)
          obtain ⟨f_188, hf_188, gf_188, uf_188, hP, hD⟩ := z_newfu 0 hP hD rfl hy_153 hv_187
          have hP : va_P G.1 classes [(b13, .inl (G.2 0, 12, .inl f_188)), (b14, .inl (G.2 0, 12, .inl y_154)), (b0, .inr (12, [.int b1, .ref b2, .ref b3, .ref b4, .ref b5, .int b6, .ref b7, .int b8, .int x_164, .int y_151, .int y_152, .ref b12, .ref b13, .ref b14, .int y_150, .ref b16, .ref b17, .ref b18, .ref b19, .ref b20, .ref b21, .ref b22, .ref b23, .ref b24, .ref b25, .ref b26, .ref b27, .int b28, .ref b29, .ref b30, .int b31, .int b32, .int b33, .int b34, .ref b35, .ref b36, .ref b37, .ref b38, .ref b39, .ref b40, .ref b41, .int b42, .ref b43, .ref b44, .int b45, .ref b46, .ref b47, .ref b48, .ref b49, .ref b50, .int b51, .ref b52, .ref b53, .ref b54])), (b7, .inl (G.2 3, 240, .inl b55))] H := hP
          have hD := z_tie hP hD rfl
          refine lv_aload_n hx hb d_Model_readCalls_64 rfl (lv_at hl 0 rfl) ?_
          refine lv_dup hx hb d_Model_readCalls_65 rfl ?_
          refine va_get (D := G.1) (ci := 12) (v := .int x_164) (C := R_Model) (T := F_Model) (N := 54) hx hb hts i_Model hown hK hP 2 rfl rfl 8 (by decide) (hts _ q1117) (fun _ h9 => h9) rfl d_Model_readCalls_66 ?_
          refine lv_iconst (v := 1) hx hb d_Model_readCalls_69 (by decide) ?_
          refine lv_iadd hx hb d_Model_readCalls_70 ?_
          refine lv_topi (fun v_189 ev_189 => ?_)
          obtain ⟨qv_189, hv_189⟩ := zI_add (l := 1) (h := 240) hv_184 zc_1 ev_189 (by decide)
          rw [li_1] at qv_189
          refine va_put (D := G.1) (ci := 12) (v := .int v_189) (ty := .int) (C := R_Model) (T := F_Model) (N := 54) hx hb hts i_Model t_Model t_Model_ok n_Model hown hK hP hD hS 2 rfl rfl 8 (by decide) (hts _ q1117) (fun _ h9 => h9) rfl (by decide +kernel) rfl rfl (Nat.le_of_ble_eq_true rfl) d_Model_readCalls_71 (fun H locs hP hD hS => ?_)
          have hP : va_P G.1 classes [(b13, .inl (G.2 0, 12, .inl f_188)), (b14, .inl (G.2 0, 12, .inl y_154)), (b0, .inr (12, [.int b1, .ref b2, .ref b3, .ref b4, .ref b5, .int b6, .ref b7, .int b8, .int v_189, .int y_151, .int y_152, .ref b12, .ref b13, .ref b14, .int y_150, .ref b16, .ref b17, .ref b18, .ref b19, .ref b20, .ref b21, .ref b22, .ref b23, .ref b24, .ref b25, .ref b26, .ref b27, .int b28, .ref b29, .ref b30, .int b31, .int b32, .int b33, .int b34, .ref b35, .ref b36, .ref b37, .ref b38, .ref b39, .ref b40, .ref b41, .int b42, .ref b43, .ref b44, .int b45, .ref b46, .ref b47, .ref b48, .ref b49, .ref b50, .int b51, .ref b52, .ref b53, .ref b54])), (b7, .inl (G.2 3, 240, .inl b55))] H := hP
          have hD := z_tie hP hD rfl
          refine lv_iconst (v := 0) hx hb d_Model_readCalls_74 (by decide) ?_
          refine lv_istore_n (lv' := [(1, .int 0), (0, .ref b0)]) hx hb d_Model_readCalls_75 rfl hl (by decide) rfl (fun ls hl => ?_)
          refine lv_iconst (v := 0) hx hb d_Model_readCalls_76 (by decide) ?_
          refine lv_istore_n (lv' := [(2, .int 0), (1, .int 0), (0, .ref b0)]) hx hb d_Model_readCalls_77 rfl hl (by decide) rfl (fun ls hl => ?_)
          suffices key : ∀ (k_241 : Nat) (y_242 : Int32) (y_243 : Int32) (y_244 : Int32) (H : Heap) (locs : List Loc) (ls : Array Slot), (zI y_242 0 2) → (zI y_244 0 240) → (b9.toInt ≤ y_244.toInt) → (∀ (si : Int) (R0 R : Nat → Int32), zA si b55 R0 (b8 : Int32).toInt (b9 : Int32).toInt 0 R → (0 ≤ (R 0).toInt ∧ (R 0).toInt ≤ 19) → (b9 : Int32).toInt ≤ (b8 : Int32).toInt → (b11 : Int32).toInt = 1 → (y_244 : Int32).toInt ≤ (b8 : Int32).toInt ∧ (y_152 : Int32).toInt = 1 ∧ ∃ S : Nat → Int32, zrun si b55 R0 (y_244 : Int32).toInt.toNat = (-1, 1, 2 - (y_242 : Int32).toInt, S) ∧ zWr R ((y_150 : Int32).toInt + 1) f_188 (upd y_154 (y_150 : Int32).toInt.toNat y_243) S) → (2 : Int) - y_242.toInt < (k_241 : Int) → va_P G.1 classes [(b13, .inl (G.2 0, 12, .inl f_188)), (b14, .inl (G.2 0, 12, .inl y_154)), (b0, .inr (12, [.int b1, .ref b2, .ref b3, .ref b4, .ref b5, .int b6, .ref b7, .int b8, .int y_244, .int y_151, .int y_152, .ref b12, .ref b13, .ref b14, .int y_150, .ref b16, .ref b17, .ref b18, .ref b19, .ref b20, .ref b21, .ref b22, .ref b23, .ref b24, .ref b25, .ref b26, .ref b27, .int b28, .ref b29, .ref b30, .int b31, .int b32, .int b33, .int b34, .ref b35, .ref b36, .ref b37, .ref b38, .ref b39, .ref b40, .ref b41, .int b42, .ref b43, .ref b44, .int b45, .ref b46, .ref b47, .ref b48, .ref b49, .ref b50, .int b51, .ref b52, .ref b53, .ref b54])), (b7, .inl (G.2 3, 240, .inl b55))] H → va_D A [(b13, .inl (G.2 0, 12, .inl f_188)), (b14, .inl (G.2 0, 12, .inl y_154)), (b0, .inr (12, [.int b1, .ref b2, .ref b3, .ref b4, .ref b5, .int b6, .ref b7, .int b8, .int y_244, .int y_151, .int y_152, .ref b12, .ref b13, .ref b14, .int y_150, .ref b16, .ref b17, .ref b18, .ref b19, .ref b20, .ref b21, .ref b22, .ref b23, .ref b24, .ref b25, .ref b26, .ref b27, .int b28, .ref b29, .ref b30, .int b31, .int b32, .int b33, .int b34, .ref b35, .ref b36, .ref b37, .ref b38, .ref b39, .ref b40, .ref b41, .int b42, .ref b43, .ref b44, .int b45, .ref b46, .ref b47, .ref b48, .ref b49, .ref b50, .int b51, .ref b52, .ref b53, .ref b54])), (b7, .inl (G.2 3, 240, .inl b55))] → va_S A s.heap H locs → lv_has ls 3 [(2, .int y_242), (1, .int y_243), (0, .ref b0)] → W p l e m_s2_Model_readCalls s m ([.ref b0] : List Value).toArray below meth c H locs 0 0 (MQ below (zQ G (fun v w => ∃ (e0 : Int32), ∃ (e1 : Int32), ∃ (e2 : Int32), ∃ (e3 : Int32), ∃ (e4 : Nat → Int32), ∃ (e5 : Nat → Int32), v = none ∧ w = [(b0, .inr (12, [.int b1, .ref b2, .ref b3, .ref b4, .ref b5, .int b6, .ref b7, .int b8, .int e0, .int e1, .int e2, .ref b12, .ref b13, .ref b14, .int e3, .ref b16, .ref b17, .ref b18, .ref b19, .ref b20, .ref b21, .ref b22, .ref b23, .ref b24, .ref b25, .ref b26, .ref b27, .int b28, .ref b29, .ref b30, .int b31, .int b32, .int b33, .int b34, .ref b35, .ref b36, .ref b37, .ref b38, .ref b39, .ref b40, .ref b41, .int b42, .ref b43, .ref b44, .int b45, .ref b46, .ref b47, .ref b48, .ref b49, .ref b50, .int b51, .ref b52, .ref b53, .ref b54])), (b7, .inl (G.2 3, 240, .inl b55)), (b13, .inl (G.2 0, 12, .inl e4)), (b14, .inl (G.2 0, 12, .inl e5))] ∧ (zI e0 0 240) ∧ (zI e2 0 1) ∧ (zI e3 0 12) ∧ (zR e4 0 9) ∧ (b9.toInt ≤ e0.toInt) ∧ (∀ (si : Int) (R0 R : Nat → Int32), zA si b55 R0 (b8 : Int32).toInt (b9 : Int32).toInt 0 R → (0 ≤ (R 0).toInt ∧ (R 0).toInt ≤ 19) → (b9 : Int32).toInt ≤ (b8 : Int32).toInt → (b11 : Int32).toInt = 1 → ((e2 : Int32).toInt = 1 ∧ zCr si b55 R0 (b8 : Int32).toInt R (e0 : Int32).toInt (e3 : Int32).toInt e4 e5 ∧ (e0 : Int32).toInt ≤ (b8 : Int32).toInt ∧ ((e0 : Int32).toInt < (b8 : Int32).toInt → ¬ ((b55 (e0 : Int32).toInt.toNat)).toInt = 32 ∧ ¬ (97 ≤ ((b55 (e0 : Int32).toInt.toNat)).toInt ∧ ((b55 (e0 : Int32).toInt.toNat)).toInt ≤ 106))) ∨ ((e2 : Int32).toInt = 0 ∧ zX si b55 R0 (b8 : Int32).toInt (e1 : Int32).toInt))) A) ([.ref b0] : List Value).toArray s m_s2_Model_readCalls.cells m_s2_Model_readCalls.slots A) (F0 m 78 ls []) by
            exact key 3 (0) (0) (v_189) _ _ _ (zI.wk (l' := 0) (h' := 2) zc_0 (by decide)) (zI.wk (l' := 0) (h' := 240) hv_189 (by decide)) (by omega) (fun si R0 R h1 h2 h3 h4 => (hli_156 si R0 R h1 h2 h3 h4).elim (fun ⟨g1, g2, g3⟩ => ⟨by omega, by omega, zC_let (zC_to (p' := x_164.toInt) g2 ⟨by omega, by omega, by omega⟩ hfx_167) ⟨by omega, by omega⟩ (ev_185.trans (by rw [z_plf hv_184 (by decide)])) ⟨by omega, by omega⟩ h2 ⟨by omega, by omega⟩ (by omega) ev_187 (by rw [uf_188, z_plf hv_183 (by decide)]) (by have _l := li_0; omega)⟩) (fun ⟨g1, _⟩ => absurd g1 (by omega))) (zm_upi (zI.wk (l' := 0) (h' := 2) zc_0 (by decide)) (by decide)) hP hD hS (lv_sub hl [0, 1, 2] rfl)
          intro k_241
          induction k_241 with
          | zero =>
            intro y_242 y_243 y_244 H locs ls hy_242 hy_244 hli_245 hli_246 hmk_241 hP hD hS hl
            exact (zm_up0 hy_242 hmk_241).elim
          | succ k_241 ihk_241 =>
            intro y_242 y_243 y_244 H locs ls hy_242 hy_244 hli_245 hli_246 hmk_241 hP hD hS hl
            refine lv_iload_n hx hb d_Model_readCalls_78 rfl (lv_at hl 0 rfl) ?_
            refine lv_iconst (v := 2) hx hb d_Model_readCalls_79 (by decide) ?_
            refine lv_icmp_ge (tgt := 124) hx hb d_Model_readCalls_80 (by decide) (fun hc_247 => ?_) (fun hc_247 => ?_)
            · have _nhc_247 := hc_247
              have ni_248 := (fa_le _ _).mp hc_247
              rw [li_2] at ni_248
              have hv_249 : zI y_242 2 2 := zI.le_r zc_2 hy_242 hc_247 (by decide)
              refine lv_aload_n hx hb d_Model_readCalls_124 rfl (lv_at hl 2 rfl) ?_
              refine va_get (D := G.1) (ci := 12) (v := .ref b14) (C := R_Model) (T := F_Model) (N := 54) hx hb hts i_Model hown hK hP 2 rfl rfl 13 (by decide) (hts _ q1122) (fun _ h9 => h9) rfl d_Model_readCalls_125 ?_
              refine lv_aload_n hx hb d_Model_readCalls_128 rfl (lv_at hl 2 rfl) ?_
              refine va_get (D := G.1) (ci := 12) (v := .int y_150) (C := R_Model) (T := F_Model) (N := 54) hx hb hts i_Model hown hK hP 2 rfl rfl 14 (by decide) (hts _ q1123) (fun _ h9 => h9) rfl d_Model_readCalls_129 ?_
              refine lv_iload_n hx hb d_Model_readCalls_132 rfl (lv_at hl 1 rfl) ?_
              refine va_iast hx hb hK hP hD hS 1 0 rfl rfl (zI.inn hv_183 (by decide)) d_Model_readCalls_133 (fun H locs hP hD hS => ?_)
              obtain ⟨f_250, gf_250, uf_250, hP, hD⟩ := z_newFu 1 hP hD rfl
              have hP : va_P G.1 classes [(b13, .inl (G.2 0, 12, .inl f_188)), (b14, .inl (G.2 0, 12, .inl f_250)), (b0, .inr (12, [.int b1, .ref b2, .ref b3, .ref b4, .ref b5, .int b6, .ref b7, .int b8, .int y_244, .int y_151, .int y_152, .ref b12, .ref b13, .ref b14, .int y_150, .ref b16, .ref b17, .ref b18, .ref b19, .ref b20, .ref b21, .ref b22, .ref b23, .ref b24, .ref b25, .ref b26, .ref b27, .int b28, .ref b29, .ref b30, .int b31, .int b32, .int b33, .int b34, .ref b35, .ref b36, .ref b37, .ref b38, .ref b39, .ref b40, .ref b41, .int b42, .ref b43, .ref b44, .int b45, .ref b46, .ref b47, .ref b48, .ref b49, .ref b50, .int b51, .ref b52, .ref b53, .ref b54])), (b7, .inl (G.2 3, 240, .inl b55))] H := hP
              have hD := z_tie hP hD rfl
              refine lv_aload_n hx hb d_Model_readCalls_134 rfl (lv_at hl 2 rfl) ?_
              refine lv_dup hx hb d_Model_readCalls_135 rfl ?_
              refine va_get (D := G.1) (ci := 12) (v := .int y_150) (C := R_Model) (T := F_Model) (N := 54) hx hb hts i_Model hown hK hP 2 rfl rfl 14 (by decide) (hts _ q1123) (fun _ h9 => h9) rfl d_Model_readCalls_136 ?_
              refine lv_iconst (v := 1) hx hb d_Model_readCalls_139 (by decide) ?_
              refine lv_iadd hx hb d_Model_readCalls_140 ?_
              refine lv_topi (fun v_251 ev_251 => ?_)
              obtain ⟨qv_251, hv_251⟩ := zI_add (l := 1) (h := 12) hv_183 zc_1 ev_251 (by decide)
              rw [li_1] at qv_251
              refine va_put (D := G.1) (ci := 12) (v := .int v_251) (ty := .int) (C := R_Model) (T := F_Model) (N := 54) hx hb hts i_Model t_Model t_Model_ok n_Model hown hK hP hD hS 2 rfl rfl 14 (by decide) (hts _ q1123) (fun _ h9 => h9) rfl (by decide +kernel) rfl rfl (Nat.le_of_ble_eq_true rfl) d_Model_readCalls_141 (fun H locs hP hD hS => ?_)
              have hP : va_P G.1 classes [(b13, .inl (G.2 0, 12, .inl f_188)), (b14, .inl (G.2 0, 12, .inl f_250)), (b0, .inr (12, [.int b1, .ref b2, .ref b3, .ref b4, .ref b5, .int b6, .ref b7, .int b8, .int y_244, .int y_151, .int y_152, .ref b12, .ref b13, .ref b14, .int v_251, .ref b16, .ref b17, .ref b18, .ref b19, .ref b20, .ref b21, .ref b22, .ref b23, .ref b24, .ref b25, .ref b26, .ref b27, .int b28, .ref b29, .ref b30, .int b31, .int b32, .int b33, .int b34, .ref b35, .ref b36, .ref b37, .ref b38, .ref b39, .ref b40, .ref b41, .int b42, .ref b43, .ref b44, .int b45, .ref b46, .ref b47, .ref b48, .ref b49, .ref b50, .int b51, .ref b52, .ref b53, .ref b54])), (b7, .inl (G.2 3, 240, .inl b55))] H := hP
              have hD := z_tie hP hD rfl
              refine lv_aload_n hx hb d_Model_readCalls_144 rfl (lv_at hl 2 rfl) ?_
              refine z_callV (index := 172) (As := []) (rest := []) (wr := [(b13, .inl (G.2 0, 12, .inl f_188)), (b14, .inl (G.2 0, 12, .inl f_250))]) Z (s2_Model_isDigitHere l G (b0) (b1) (b2) (b3) (b4) (b5) (b6) (b7) (b8) (y_244) (y_151) (y_152) (b12) (b13) (b14) (v_251) (b16) (b17) (b18) (b19) (b20) (b21) (b22) (b23) (b24) (b25) (b26) (b27) (b28) (b29) (b30) (b31) (b32) (b33) (b34) (b35) (b36) (b37) (b38) (b39) (b40) (b41) (b42) (b43) (b44) (b45) (b46) (b47) (b48) (b49) (b50) (b51) (b52) (b53) (b54) (b55) hb6 hb8 hy_244 (zI.wk (l' := 0) (h' := 1) hv_161 (by decide)) (zI.wk (l' := 0) (h' := 12) hv_251 (by decide)) hb28 hb31 hb42 hb45 hb51) hl.1 q1306 q1308 qs48 q14 q1309 ⟨by decide, by decide, by show _ = some 0; decide +kernel⟩ ⟨Nat.le_of_ble_eq_true rfl, Nat.le_of_ble_eq_true rfl⟩ ⟨Nat.le_of_ble_eq_true rfl, Nat.le_of_ble_eq_true rfl⟩ rfl (Nat.le_of_ble_eq_true rfl) d_Model_readCalls_145 hP hD hS hA 2 12 rfl rfl rfl [2, 3] [0, 1] rfl rfl rfl rfl (by decide) (fun v w1 H locs hw_252 hP hD hS => ?_)
              obtain ⟨x_253, rfl, rfl, hx_253, hfx_254⟩ := hw_252
              have hP : va_P G.1 classes [(b13, .inl (G.2 0, 12, .inl f_188)), (b14, .inl (G.2 0, 12, .inl f_250)), (b0, .inr (12, [.int b1, .ref b2, .ref b3, .ref b4, .ref b5, .int b6, .ref b7, .int b8, .int y_244, .int y_151, .int y_152, .ref b12, .ref b13, .ref b14, .int v_251, .ref b16, .ref b17, .ref b18, .ref b19, .ref b20, .ref b21, .ref b22, .ref b23, .ref b24, .ref b25, .ref b26, .ref b27, .int b28, .ref b29, .ref b30, .int b31, .int b32, .int b33, .int b34, .ref b35, .ref b36, .ref b37, .ref b38, .ref b39, .ref b40, .ref b41, .int b42, .ref b43, .ref b44, .int b45, .ref b46, .ref b47, .ref b48, .ref b49, .ref b50, .int b51, .ref b52, .ref b53, .ref b54])), (b7, .inl (G.2 3, 240, .inl b55))] H := hP
              have hD := z_tie hP hD rfl
              refine W.widen (k := 0) (n := 0) (Nat.le_of_ble_eq_true rfl) (Nat.le_of_ble_eq_true rfl) ?_
              refine lv_if_eq (tgt := 155) hx hb d_Model_readCalls_148 (by decide) (fun hc_255 => ?_) (fun hc_255 => ?_)
              · have _nhc_255 := hc_255
                have ni_256 := (fa_eq _ _).mp hc_255
                rw [li_0] at ni_256
                have hv_257 : zI x_253 0 0 := zI.eq_l hx_253 zc_0 hc_255
                refine lv_goto (tgt := 5) hx hb d_Model_readCalls_155 (by decide) ?_
                exact ihk_148 (y_244) (v_251) (y_151) (y_152) (f_188) (f_250) _ _ _ hy_244 (zI.wk (l' := 0) (h' := 12) hv_251 (by decide)) (zI.wk (l' := 0) (h' := 1) hv_161 (by decide)) hf_188 (by omega) (fun si R0 R h1 h2 h3 h4 => (hli_246 si R0 R h1 h2 h3 h4).elim (fun g1 ⟨g2, S, g3, g4⟩ => Or.inl ⟨g2, zD_end g3 g4 (by have a2 := hfx_254; omega) (by omega) (by omega) (by omega) (by rw [uf_250, z_plf hv_183 (by decide)]), g1⟩)) (by omega) (hP.sub [2, 3, 0, 1] rfl) (hD.sub [2, 3, 0, 1] (by decide) rfl) hS (lv_sub hl [2] rfl)
              · have _nhc_255 := hc_255
                have ni_258 : ¬ (x_253 : Int32).toInt = (0 : Int32).toInt := fun z => hc_255 ((fa_eq _ _).mpr z)
                simp only [li_0] at ni_258
                have hv_259 : zI x_253 1 1 := zI.ne_lo hx_253 zc_0 hc_255 (by decide)
                refine lv_aload_n hx hb d_Model_readCalls_151 rfl (lv_at hl 2 rfl) ?_
                refine z_callV (index := 169) (As := []) (rest := []) (wr := [(b13, .inl (G.2 0, 12, .inl f_188)), (b14, .inl (G.2 0, 12, .inl f_250)), (b7, .inl (G.2 3, 240, .inl b55))]) Z (s2_Model_wrong l G (b0) (b1) (b2) (b3) (b4) (b5) (b6) (b7) (b8) (y_244) (y_151) (y_152) (b12) (b13) (b14) (v_251) (b16) (b17) (b18) (b19) (b20) (b21) (b22) (b23) (b24) (b25) (b26) (b27) (b28) (b29) (b30) (b31) (b32) (b33) (b34) (b35) (b36) (b37) (b38) (b39) (b40) (b41) (b42) (b43) (b44) (b45) (b46) (b47) (b48) (b49) (b50) (b51) (b52) (b53) (b54) hb6 hb8 hy_244 (zI.wk (l' := 0) (h' := 1) hv_161 (by decide)) (zI.wk (l' := 0) (h' := 12) hv_251 (by decide)) hb28 hb31 hb42 hb45 hb51) hl.1 q1296 q1298 qs46 q14 q1299 ⟨by decide, by decide, by show _ = some 0; decide +kernel⟩ ⟨Nat.le_of_ble_eq_true rfl, Nat.le_of_ble_eq_true rfl⟩ ⟨Nat.le_of_ble_eq_true rfl, Nat.le_of_ble_eq_true rfl⟩ rfl (Nat.le_of_ble_eq_true rfl) d_Model_readCalls_152 hP hD hS hA 2 12 rfl rfl rfl [2] [0, 1, 3] rfl rfl rfl rfl (by decide) (fun v w1 H locs hw_260 hP hD hS => ?_)
                obtain ⟨x_261, rfl, rfl, hfx_262, hfx_263⟩ := hw_260
                have hP : va_P G.1 classes [(b13, .inl (G.2 0, 12, .inl f_188)), (b14, .inl (G.2 0, 12, .inl f_250)), (b7, .inl (G.2 3, 240, .inl b55)), (b0, .inr (12, [.int b1, .ref b2, .ref b3, .ref b4, .ref b5, .int b6, .ref b7, .int b8, .int y_244, .int x_261, .int 0, .ref b12, .ref b13, .ref b14, .int v_251, .ref b16, .ref b17, .ref b18, .ref b19, .ref b20, .ref b21, .ref b22, .ref b23, .ref b24, .ref b25, .ref b26, .ref b27, .int b28, .ref b29, .ref b30, .int b31, .int b32, .int b33, .int b34, .ref b35, .ref b36, .ref b37, .ref b38, .ref b39, .ref b40, .ref b41, .int b42, .ref b43, .ref b44, .int b45, .ref b46, .ref b47, .ref b48, .ref b49, .ref b50, .int b51, .ref b52, .ref b53, .ref b54]))] H := hP
                have hD := z_tie hP hD rfl
                refine W.widen (k := 0) (n := 0) (Nat.le_of_ble_eq_true rfl) (Nat.le_of_ble_eq_true rfl) ?_
                refine lv_goto (tgt := 5) hx hb d_Model_readCalls_155 (by decide) ?_
                exact ihk_148 (y_244) (v_251) (x_261) (0) (f_188) (f_250) _ _ _ hy_244 (zI.wk (l' := 0) (h' := 12) hv_251 (by decide)) (zI.wk (l' := 0) (h' := 1) zc_0 (by decide)) hf_188 (by omega) (fun si R0 R h1 h2 h3 h4 => (hli_246 si R0 R h1 h2 h3 h4).elim (fun g1 ⟨g2, S, g3, g4⟩ => Or.inr ⟨li_0, zD_no g3 (by have a2 := hfx_254; omega) (by have a2 := hfx_254; omega) (by have a2 := hfx_254; omega) (by have a3 := hfx_262 (by omega); rw [a3])⟩)) (by omega) (hP.sub [3, 2, 0, 1] rfl) (hD.sub [3, 2, 0, 1] (by decide) rfl) hS (lv_sub hl [2] rfl)
            · have _nhc_247 := hc_247
              have ni_264 := (fa_lt _ _).mp (zi_nle hc_247)
              rw [li_2] at ni_264
              have hv_265 : zI y_242 0 1 := zI.lt_l hy_242 zc_2 (zi_nle hc_247) (by decide)
              refine lv_aload_n hx hb d_Model_readCalls_83 rfl (lv_at hl 2 rfl) ?_
              refine z_callV (index := 172) (As := []) (rest := []) (wr := [(b13, .inl (G.2 0, 12, .inl f_188)), (b14, .inl (G.2 0, 12, .inl y_154))]) Z (s2_Model_isDigitHere l G (b0) (b1) (b2) (b3) (b4) (b5) (b6) (b7) (b8) (y_244) (y_151) (y_152) (b12) (b13) (b14) (y_150) (b16) (b17) (b18) (b19) (b20) (b21) (b22) (b23) (b24) (b25) (b26) (b27) (b28) (b29) (b30) (b31) (b32) (b33) (b34) (b35) (b36) (b37) (b38) (b39) (b40) (b41) (b42) (b43) (b44) (b45) (b46) (b47) (b48) (b49) (b50) (b51) (b52) (b53) (b54) (b55) hb6 hb8 hy_244 (zI.wk (l' := 0) (h' := 1) hv_161 (by decide)) (zI.wk (l' := 0) (h' := 12) hv_183 (by decide)) hb28 hb31 hb42 hb45 hb51) hl.1 q1306 q1308 qs48 q14 q1309 ⟨by decide, by decide, by show _ = some 0; decide +kernel⟩ ⟨Nat.le_of_ble_eq_true rfl, Nat.le_of_ble_eq_true rfl⟩ ⟨Nat.le_of_ble_eq_true rfl, Nat.le_of_ble_eq_true rfl⟩ rfl (Nat.le_of_ble_eq_true rfl) d_Model_readCalls_84 hP hD hS hA 2 12 rfl rfl rfl [2, 3] [0, 1] rfl rfl rfl rfl (by decide) (fun v w1 H locs hw_266 hP hD hS => ?_)
              obtain ⟨x_267, rfl, rfl, hx_267, hfx_268⟩ := hw_266
              have hP : va_P G.1 classes [(b13, .inl (G.2 0, 12, .inl f_188)), (b14, .inl (G.2 0, 12, .inl y_154)), (b0, .inr (12, [.int b1, .ref b2, .ref b3, .ref b4, .ref b5, .int b6, .ref b7, .int b8, .int y_244, .int y_151, .int y_152, .ref b12, .ref b13, .ref b14, .int y_150, .ref b16, .ref b17, .ref b18, .ref b19, .ref b20, .ref b21, .ref b22, .ref b23, .ref b24, .ref b25, .ref b26, .ref b27, .int b28, .ref b29, .ref b30, .int b31, .int b32, .int b33, .int b34, .ref b35, .ref b36, .ref b37, .ref b38, .ref b39, .ref b40, .ref b41, .int b42, .ref b43, .ref b44, .int b45, .ref b46, .ref b47, .ref b48, .ref b49, .ref b50, .int b51, .ref b52, .ref b53, .ref b54])), (b7, .inl (G.2 3, 240, .inl b55))] H := hP
              have hD := z_tie hP hD rfl
              refine W.widen (k := 0) (n := 0) (Nat.le_of_ble_eq_true rfl) (Nat.le_of_ble_eq_true rfl) ?_
              refine lv_if_eq (tgt := 124) hx hb d_Model_readCalls_87 (by decide) (fun hc_269 => ?_) (fun hc_269 => ?_)
              · have _nhc_269 := hc_269
                have ni_270 := (fa_eq _ _).mp hc_269
                rw [li_0] at ni_270
                have hv_271 : zI x_267 0 0 := zI.eq_l hx_267 zc_0 hc_269
                refine lv_aload_n hx hb d_Model_readCalls_124 rfl (lv_at hl 2 rfl) ?_
                refine va_get (D := G.1) (ci := 12) (v := .ref b14) (C := R_Model) (T := F_Model) (N := 54) hx hb hts i_Model hown hK hP 2 rfl rfl 13 (by decide) (hts _ q1122) (fun _ h9 => h9) rfl d_Model_readCalls_125 ?_
                refine lv_aload_n hx hb d_Model_readCalls_128 rfl (lv_at hl 2 rfl) ?_
                refine va_get (D := G.1) (ci := 12) (v := .int y_150) (C := R_Model) (T := F_Model) (N := 54) hx hb hts i_Model hown hK hP 2 rfl rfl 14 (by decide) (hts _ q1123) (fun _ h9 => h9) rfl d_Model_readCalls_129 ?_
                refine lv_iload_n hx hb d_Model_readCalls_132 rfl (lv_at hl 1 rfl) ?_
                refine va_iast hx hb hK hP hD hS 1 0 rfl rfl (zI.inn hv_183 (by decide)) d_Model_readCalls_133 (fun H locs hP hD hS => ?_)
                obtain ⟨f_272, gf_272, uf_272, hP, hD⟩ := z_newFu 1 hP hD rfl
                have hP : va_P G.1 classes [(b13, .inl (G.2 0, 12, .inl f_188)), (b14, .inl (G.2 0, 12, .inl f_272)), (b0, .inr (12, [.int b1, .ref b2, .ref b3, .ref b4, .ref b5, .int b6, .ref b7, .int b8, .int y_244, .int y_151, .int y_152, .ref b12, .ref b13, .ref b14, .int y_150, .ref b16, .ref b17, .ref b18, .ref b19, .ref b20, .ref b21, .ref b22, .ref b23, .ref b24, .ref b25, .ref b26, .ref b27, .int b28, .ref b29, .ref b30, .int b31, .int b32, .int b33, .int b34, .ref b35, .ref b36, .ref b37, .ref b38, .ref b39, .ref b40, .ref b41, .int b42, .ref b43, .ref b44, .int b45, .ref b46, .ref b47, .ref b48, .ref b49, .ref b50, .int b51, .ref b52, .ref b53, .ref b54])), (b7, .inl (G.2 3, 240, .inl b55))] H := hP
                have hD := z_tie hP hD rfl
                refine lv_aload_n hx hb d_Model_readCalls_134 rfl (lv_at hl 2 rfl) ?_
                refine lv_dup hx hb d_Model_readCalls_135 rfl ?_
                refine va_get (D := G.1) (ci := 12) (v := .int y_150) (C := R_Model) (T := F_Model) (N := 54) hx hb hts i_Model hown hK hP 2 rfl rfl 14 (by decide) (hts _ q1123) (fun _ h9 => h9) rfl d_Model_readCalls_136 ?_
                refine lv_iconst (v := 1) hx hb d_Model_readCalls_139 (by decide) ?_
                refine lv_iadd hx hb d_Model_readCalls_140 ?_
                refine lv_topi (fun v_273 ev_273 => ?_)
                obtain ⟨qv_273, hv_273⟩ := zI_add (l := 1) (h := 12) hv_183 zc_1 ev_273 (by decide)
                rw [li_1] at qv_273
                refine va_put (D := G.1) (ci := 12) (v := .int v_273) (ty := .int) (C := R_Model) (T := F_Model) (N := 54) hx hb hts i_Model t_Model t_Model_ok n_Model hown hK hP hD hS 2 rfl rfl 14 (by decide) (hts _ q1123) (fun _ h9 => h9) rfl (by decide +kernel) rfl rfl (Nat.le_of_ble_eq_true rfl) d_Model_readCalls_141 (fun H locs hP hD hS => ?_)
                have hP : va_P G.1 classes [(b13, .inl (G.2 0, 12, .inl f_188)), (b14, .inl (G.2 0, 12, .inl f_272)), (b0, .inr (12, [.int b1, .ref b2, .ref b3, .ref b4, .ref b5, .int b6, .ref b7, .int b8, .int y_244, .int y_151, .int y_152, .ref b12, .ref b13, .ref b14, .int v_273, .ref b16, .ref b17, .ref b18, .ref b19, .ref b20, .ref b21, .ref b22, .ref b23, .ref b24, .ref b25, .ref b26, .ref b27, .int b28, .ref b29, .ref b30, .int b31, .int b32, .int b33, .int b34, .ref b35, .ref b36, .ref b37, .ref b38, .ref b39, .ref b40, .ref b41, .int b42, .ref b43, .ref b44, .int b45, .ref b46, .ref b47, .ref b48, .ref b49, .ref b50, .int b51, .ref b52, .ref b53, .ref b54])), (b7, .inl (G.2 3, 240, .inl b55))] H := hP
                have hD := z_tie hP hD rfl
                refine lv_aload_n hx hb d_Model_readCalls_144 rfl (lv_at hl 2 rfl) ?_
                refine z_callV (index := 172) (As := []) (rest := []) (wr := [(b13, .inl (G.2 0, 12, .inl f_188)), (b14, .inl (G.2 0, 12, .inl f_272))]) Z (s2_Model_isDigitHere l G (b0) (b1) (b2) (b3) (b4) (b5) (b6) (b7) (b8) (y_244) (y_151) (y_152) (b12) (b13) (b14) (v_273) (b16) (b17) (b18) (b19) (b20) (b21) (b22) (b23) (b24) (b25) (b26) (b27) (b28) (b29) (b30) (b31) (b32) (b33) (b34) (b35) (b36) (b37) (b38) (b39) (b40) (b41) (b42) (b43) (b44) (b45) (b46) (b47) (b48) (b49) (b50) (b51) (b52) (b53) (b54) (b55) hb6 hb8 hy_244 (zI.wk (l' := 0) (h' := 1) hv_161 (by decide)) (zI.wk (l' := 0) (h' := 12) hv_273 (by decide)) hb28 hb31 hb42 hb45 hb51) hl.1 q1306 q1308 qs48 q14 q1309 ⟨by decide, by decide, by show _ = some 0; decide +kernel⟩ ⟨Nat.le_of_ble_eq_true rfl, Nat.le_of_ble_eq_true rfl⟩ ⟨Nat.le_of_ble_eq_true rfl, Nat.le_of_ble_eq_true rfl⟩ rfl (Nat.le_of_ble_eq_true rfl) d_Model_readCalls_145 hP hD hS hA 2 12 rfl rfl rfl [2, 3] [0, 1] rfl rfl rfl rfl (by decide) (fun v w1 H locs hw_274 hP hD hS => ?_)
                obtain ⟨x_275, rfl, rfl, hx_275, hfx_276⟩ := hw_274
                have hP : va_P G.1 classes [(b13, .inl (G.2 0, 12, .inl f_188)), (b14, .inl (G.2 0, 12, .inl f_272)), (b0, .inr (12, [.int b1, .ref b2, .ref b3, .ref b4, .ref b5, .int b6, .ref b7, .int b8, .int y_244, .int y_151, .int y_152, .ref b12, .ref b13, .ref b14, .int v_273, .ref b16, .ref b17, .ref b18, .ref b19, .ref b20, .ref b21, .ref b22, .ref b23, .ref b24, .ref b25, .ref b26, .ref b27, .int b28, .ref b29, .ref b30, .int b31, .int b32, .int b33, .int b34, .ref b35, .ref b36, .ref b37, .ref b38, .ref b39, .ref b40, .ref b41, .int b42, .ref b43, .ref b44, .int b45, .ref b46, .ref b47, .ref b48, .ref b49, .ref b50, .int b51, .ref b52, .ref b53, .ref b54])), (b7, .inl (G.2 3, 240, .inl b55))] H := hP
                have hD := z_tie hP hD rfl
                refine W.widen (k := 0) (n := 0) (Nat.le_of_ble_eq_true rfl) (Nat.le_of_ble_eq_true rfl) ?_
                refine lv_if_eq (tgt := 155) hx hb d_Model_readCalls_148 (by decide) (fun hc_277 => ?_) (fun hc_277 => ?_)
                · have _nhc_277 := hc_277
                  have ni_278 := (fa_eq _ _).mp hc_277
                  rw [li_0] at ni_278
                  have hv_279 : zI x_275 0 0 := zI.eq_l hx_275 zc_0 hc_277
                  refine lv_goto (tgt := 5) hx hb d_Model_readCalls_155 (by decide) ?_
                  exact ihk_148 (y_244) (v_273) (y_151) (y_152) (f_188) (f_272) _ _ _ hy_244 (zI.wk (l' := 0) (h' := 12) hv_273 (by decide)) (zI.wk (l' := 0) (h' := 1) hv_161 (by decide)) hf_188 (by omega) (fun si R0 R h1 h2 h3 h4 => (hli_246 si R0 R h1 h2 h3 h4).elim (fun g1 ⟨g2, S, g3, g4⟩ => Or.inl ⟨g2, zD_end g3 g4 (by have a2 := hfx_276; omega) (by omega) (by omega) (by omega) (by rw [uf_272, z_plf hv_183 (by decide)]), g1⟩)) (by omega) (hP.sub [2, 3, 0, 1] rfl) (hD.sub [2, 3, 0, 1] (by decide) rfl) hS (lv_sub hl [2] rfl)
                · have _nhc_277 := hc_277
                  have ni_280 : ¬ (x_275 : Int32).toInt = (0 : Int32).toInt := fun z => hc_277 ((fa_eq _ _).mpr z)
                  simp only [li_0] at ni_280
                  have hv_281 : zI x_275 1 1 := zI.ne_lo hx_275 zc_0 hc_277 (by decide)
                  refine lv_aload_n hx hb d_Model_readCalls_151 rfl (lv_at hl 2 rfl) ?_
                  refine z_callV (index := 169) (As := []) (rest := []) (wr := [(b13, .inl (G.2 0, 12, .inl f_188)), (b14, .inl (G.2 0, 12, .inl f_272)), (b7, .inl (G.2 3, 240, .inl b55))]) Z (s2_Model_wrong l G (b0) (b1) (b2) (b3) (b4) (b5) (b6) (b7) (b8) (y_244) (y_151) (y_152) (b12) (b13) (b14) (v_273) (b16) (b17) (b18) (b19) (b20) (b21) (b22) (b23) (b24) (b25) (b26) (b27) (b28) (b29) (b30) (b31) (b32) (b33) (b34) (b35) (b36) (b37) (b38) (b39) (b40) (b41) (b42) (b43) (b44) (b45) (b46) (b47) (b48) (b49) (b50) (b51) (b52) (b53) (b54) hb6 hb8 hy_244 (zI.wk (l' := 0) (h' := 1) hv_161 (by decide)) (zI.wk (l' := 0) (h' := 12) hv_273 (by decide)) hb28 hb31 hb42 hb45 hb51) hl.1 q1296 q1298 qs46 q14 q1299 ⟨by decide, by decide, by show _ = some 0; decide +kernel⟩ ⟨Nat.le_of_ble_eq_true rfl, Nat.le_of_ble_eq_true rfl⟩ ⟨Nat.le_of_ble_eq_true rfl, Nat.le_of_ble_eq_true rfl⟩ rfl (Nat.le_of_ble_eq_true rfl) d_Model_readCalls_152 hP hD hS hA 2 12 rfl rfl rfl [2] [0, 1, 3] rfl rfl rfl rfl (by decide) (fun v w1 H locs hw_282 hP hD hS => ?_)
                  obtain ⟨x_283, rfl, rfl, hfx_284, hfx_285⟩ := hw_282
                  have hP : va_P G.1 classes [(b13, .inl (G.2 0, 12, .inl f_188)), (b14, .inl (G.2 0, 12, .inl f_272)), (b7, .inl (G.2 3, 240, .inl b55)), (b0, .inr (12, [.int b1, .ref b2, .ref b3, .ref b4, .ref b5, .int b6, .ref b7, .int b8, .int y_244, .int x_283, .int 0, .ref b12, .ref b13, .ref b14, .int v_273, .ref b16, .ref b17, .ref b18, .ref b19, .ref b20, .ref b21, .ref b22, .ref b23, .ref b24, .ref b25, .ref b26, .ref b27, .int b28, .ref b29, .ref b30, .int b31, .int b32, .int b33, .int b34, .ref b35, .ref b36, .ref b37, .ref b38, .ref b39, .ref b40, .ref b41, .int b42, .ref b43, .ref b44, .int b45, .ref b46, .ref b47, .ref b48, .ref b49, .ref b50, .int b51, .ref b52, .ref b53, .ref b54]))] H := hP
                  have hD := z_tie hP hD rfl
                  refine W.widen (k := 0) (n := 0) (Nat.le_of_ble_eq_true rfl) (Nat.le_of_ble_eq_true rfl) ?_
                  refine lv_goto (tgt := 5) hx hb d_Model_readCalls_155 (by decide) ?_
                  exact ihk_148 (y_244) (v_273) (x_283) (0) (f_188) (f_272) _ _ _ hy_244 (zI.wk (l' := 0) (h' := 12) hv_273 (by decide)) (zI.wk (l' := 0) (h' := 1) zc_0 (by decide)) hf_188 (by omega) (fun si R0 R h1 h2 h3 h4 => (hli_246 si R0 R h1 h2 h3 h4).elim (fun g1 ⟨g2, S, g3, g4⟩ => Or.inr ⟨li_0, zD_no g3 (by have a2 := hfx_276; omega) (by have a1 := hfx_268; have a2 := hfx_276; omega) (by have a2 := hfx_276; omega) (by have a3 := hfx_284 (by omega); rw [a3])⟩)) (by omega) (hP.sub [3, 2, 0, 1] rfl) (hD.sub [3, 2, 0, 1] (by decide) rfl) hS (lv_sub hl [2] rfl)
              · have _nhc_269 := hc_269
                have ni_286 : ¬ (x_267 : Int32).toInt = (0 : Int32).toInt := fun z => hc_269 ((fa_eq _ _).mpr z)
                simp only [li_0] at ni_286
                have hv_287 : zI x_267 1 1 := zI.ne_lo hx_267 zc_0 hc_269 (by decide)
                refine lv_bipush (v := 10) hx hb d_Model_readCalls_90 (by decide) ?_
                refine lv_iload_n hx hb d_Model_readCalls_92 rfl (lv_at hl 1 rfl) ?_
                refine lv_imul hx hb d_Model_readCalls_93 ?_
                refine lv_topi (fun v_288 ev_288 => ?_)
                refine lv_aload_n hx hb d_Model_readCalls_94 rfl (lv_at hl 2 rfl) ?_
                refine va_get (D := G.1) (ci := 12) (v := .ref b7) (C := R_Model) (T := F_Model) (N := 54) hx hb hts i_Model hown hK hP 2 rfl rfl 6 (by decide) (hts _ q1115) (fun _ h9 => h9) rfl d_Model_readCalls_95 ?_
                refine lv_aload_n hx hb d_Model_readCalls_98 rfl (lv_at hl 2 rfl) ?_
                refine va_get (D := G.1) (ci := 12) (v := .int y_244) (C := R_Model) (T := F_Model) (N := 54) hx hb hts i_Model hown hK hP 2 rfl rfl 8 (by decide) (hts _ q1117) (fun _ h9 => h9) rfl d_Model_readCalls_99 ?_
                have hv_289 : zI y_244 0 239 := ⟨by omega, by omega⟩
                refine va_bald hx hb hK hP 3 3 rfl rfl (zI.inn hv_289 (by decide)) d_Model_readCalls_102 ?_
                refine lv_topi (fun v_290 ev_290 => ?_)
                refine lv_iadd hx hb d_Model_readCalls_103 ?_
                refine lv_topi (fun v_291 ev_291 => ?_)
                refine lv_bipush (v := 48) hx hb d_Model_readCalls_104 (by decide) ?_
                refine lv_isub hx hb d_Model_readCalls_106 ?_
                refine lv_topi (fun v_292 ev_292 => ?_)
                refine lv_istore_n (lv' := [(1, .int v_292), (2, .int y_242), (0, .ref b0)]) hx hb d_Model_readCalls_107 rfl hl (by decide) rfl (fun ls hl => ?_)
                refine lv_aload_n hx hb d_Model_readCalls_108 rfl (lv_at hl 2 rfl) ?_
                refine lv_dup hx hb d_Model_readCalls_109 rfl ?_
                refine va_get (D := G.1) (ci := 12) (v := .int y_244) (C := R_Model) (T := F_Model) (N := 54) hx hb hts i_Model hown hK hP 2 rfl rfl 8 (by decide) (hts _ q1117) (fun _ h9 => h9) rfl d_Model_readCalls_110 ?_
                refine lv_iconst (v := 1) hx hb d_Model_readCalls_113 (by decide) ?_
                refine lv_iadd hx hb d_Model_readCalls_114 ?_
                refine lv_topi (fun v_293 ev_293 => ?_)
                obtain ⟨qv_293, hv_293⟩ := zI_add (l := 1) (h := 240) hv_289 zc_1 ev_293 (by decide)
                rw [li_1] at qv_293
                refine va_put (D := G.1) (ci := 12) (v := .int v_293) (ty := .int) (C := R_Model) (T := F_Model) (N := 54) hx hb hts i_Model t_Model t_Model_ok n_Model hown hK hP hD hS 2 rfl rfl 8 (by decide) (hts _ q1117) (fun _ h9 => h9) rfl (by decide +kernel) rfl rfl (Nat.le_of_ble_eq_true rfl) d_Model_readCalls_115 (fun H locs hP hD hS => ?_)
                have hP : va_P G.1 classes [(b13, .inl (G.2 0, 12, .inl f_188)), (b14, .inl (G.2 0, 12, .inl y_154)), (b0, .inr (12, [.int b1, .ref b2, .ref b3, .ref b4, .ref b5, .int b6, .ref b7, .int b8, .int v_293, .int y_151, .int y_152, .ref b12, .ref b13, .ref b14, .int y_150, .ref b16, .ref b17, .ref b18, .ref b19, .ref b20, .ref b21, .ref b22, .ref b23, .ref b24, .ref b25, .ref b26, .ref b27, .int b28, .ref b29, .ref b30, .int b31, .int b32, .int b33, .int b34, .ref b35, .ref b36, .ref b37, .ref b38, .ref b39, .ref b40, .ref b41, .int b42, .ref b43, .ref b44, .int b45, .ref b46, .ref b47, .ref b48, .ref b49, .ref b50, .int b51, .ref b52, .ref b53, .ref b54])), (b7, .inl (G.2 3, 240, .inl b55))] H := hP
                have hD := z_tie hP hD rfl
                obtain ⟨v_294, ev_294⟩ : ∃ z : Int32, z = y_242 + 1 := ⟨_, rfl⟩
                obtain ⟨qv_294, hv_294⟩ := zI_add (l := 1) (h := 2) hv_265 zc_1 ev_294 (by decide)
                rw [li_1] at qv_294
                refine lv_iinc (v := v_294) (lv' := [(2, .int v_294), (1, .int v_292), (0, .ref b0)]) hx hb d_Model_readCalls_118 hl (k := 1) rfl (by rw [ev_294]; rfl) (by decide) rfl (fun ls hl => ?_)
                refine lv_goto (tgt := 78) hx hb d_Model_readCalls_121 (by decide) ?_
                exact ihk_241 (v_294) (v_292) (v_293) _ _ _ (zI.wk (l' := 0) (h' := 2) hv_294 (by decide)) (zI.wk (l' := 0) (h' := 240) hv_293 (by decide)) (by omega) (fun si R0 R h1 h2 h3 h4 => (hli_246 si R0 R h1 h2 h3 h4).elim (fun g1 ⟨g2, S, g3, g4⟩ => ⟨by have a2 := hfx_268; omega, g2, zD_dig g3 g4 (by omega) (by omega) (ev_290.trans (by rw [z_plf hv_289 (by decide)])) (by have a2 := hfx_268; rw [(ev_290.trans (by rw [z_plf hv_289 (by decide)]))]; omega) h2 ⟨by omega, by omega⟩ (by omega) (by omega) ev_288 ev_291 ev_292⟩)) (zm_up qv_294 hmk_241 (by decide)) hP hD hS (lv_sub hl [0, 1, 2] rfl)
        · have _nhc_181 := hc_181
          have ni_295 := (fa_eq _ _).mp hc_181
          rw [li_12] at ni_295
          have hv_296 : zI y_150 12 12 := zI.eq_l hy_150 zc_12 hc_181
          refine lv_aload_n hx hb d_Model_readCalls_38 rfl (lv_at hl 0 rfl) ?_
          refine z_callV (index := 169) (As := []) (rest := []) (wr := [(b13, .inl (G.2 0, 12, .inl y_153)), (b14, .inl (G.2 0, 12, .inl y_154)), (b7, .inl (G.2 3, 240, .inl b55))]) Z (s2_Model_wrong l G (b0) (b1) (b2) (b3) (b4) (b5) (b6) (b7) (b8) (x_164) (y_151) (y_152) (b12) (b13) (b14) (y_150) (b16) (b17) (b18) (b19) (b20) (b21) (b22) (b23) (b24) (b25) (b26) (b27) (b28) (b29) (b30) (b31) (b32) (b33) (b34) (b35) (b36) (b37) (b38) (b39) (b40) (b41) (b42) (b43) (b44) (b45) (b46) (b47) (b48) (b49) (b50) (b51) (b52) (b53) (b54) hb6 hb8 hx_164 (zI.wk (l' := 0) (h' := 1) hv_161 (by decide)) (zI.wk (l' := 0) (h' := 12) hv_296 (by decide)) hb28 hb31 hb42 hb45 hb51) hl.1 q1296 q1298 qs46 q14 q1299 ⟨by decide, by decide, by show _ = some 0; decide +kernel⟩ ⟨Nat.le_of_ble_eq_true rfl, Nat.le_of_ble_eq_true rfl⟩ ⟨Nat.le_of_ble_eq_true rfl, Nat.le_of_ble_eq_true rfl⟩ rfl (Nat.le_of_ble_eq_true rfl) d_Model_readCalls_39 hP hD hS hA 2 12 rfl rfl rfl [2] [0, 1, 3] rfl rfl rfl rfl (by decide) (fun v w1 H locs hw_297 hP hD hS => ?_)
          obtain ⟨x_298, rfl, rfl, hfx_299, hfx_300⟩ := hw_297
          have hP : va_P G.1 classes [(b13, .inl (G.2 0, 12, .inl y_153)), (b14, .inl (G.2 0, 12, .inl y_154)), (b7, .inl (G.2 3, 240, .inl b55)), (b0, .inr (12, [.int b1, .ref b2, .ref b3, .ref b4, .ref b5, .int b6, .ref b7, .int b8, .int x_164, .int x_298, .int 0, .ref b12, .ref b13, .ref b14, .int y_150, .ref b16, .ref b17, .ref b18, .ref b19, .ref b20, .ref b21, .ref b22, .ref b23, .ref b24, .ref b25, .ref b26, .ref b27, .int b28, .ref b29, .ref b30, .int b31, .int b32, .int b33, .int b34, .ref b35, .ref b36, .ref b37, .ref b38, .ref b39, .ref b40, .ref b41, .int b42, .ref b43, .ref b44, .int b45, .ref b46, .ref b47, .ref b48, .ref b49, .ref b50, .int b51, .ref b52, .ref b53, .ref b54]))] H := hP
          have hD := z_tie hP hD rfl
          refine W.widen (k := 0) (n := 0) (Nat.le_of_ble_eq_true rfl) (Nat.le_of_ble_eq_true rfl) ?_
          exact z_vret hx hb hr hlocks (hP.sub [3, 2, 0, 1] rfl) (hD.sub [3, 2, 0, 1] (by decide) rfl) hS (Nat.le_of_ble_eq_true rfl) (Nat.le_of_ble_eq_true rfl) d_Model_readCalls_42 ⟨x_164, x_298, 0, y_150, y_153, y_154, rfl, rfl, hx_164, (zI.wk (l' := 0) (h' := 1) zc_0 (by decide)), (zI.wk (l' := 0) (h' := 12) hv_296 (by decide)), hy_153, (by omega), (fun si R0 R h1 h2 h3 h4 => (hli_156 si R0 R h1 h2 h3 h4).elim (fun ⟨g1, g2, g3⟩ => Or.inr ⟨li_0, zC_13 (zC_to (p' := x_164.toInt) g2 ⟨by omega, by omega, by omega⟩ hfx_167) (by have a2 := hfx_168; omega) (show x_163 = b55 x_164.toInt.toNat by rcases hfx_168 with ⟨_, h9, _⟩ | ⟨_, h9⟩; exact h9; (exfalso; omega)) ⟨by omega, by omega⟩ h2 (by omega) (by have a3 := hfx_299 (by omega); rw [a3])⟩) (fun ⟨g1, _⟩ => absurd g1 (by omega)))⟩
abbrev m_s2_Model_readTrace : Room := { frames := 3, cells := 0, slots := 0, locals := 67 }
set_option maxHeartbeats 4000000 in
set_option maxRecDepth 100000 in
theorem s2_Model_readTrace (l : Launch) (G : zG) (b0 : Nat) (b1 : Int32) (b2 : Nat) (b3 : Nat) (b4 : Nat) (b5 : Nat) (b6 : Int32) (b7 : Nat) (b8 : Int32) (b9 : Int32) (b10 : Int32) (b11 : Int32) (b12 : Nat) (b13 : Nat) (b14 : Nat) (b15 : Int32) (b16 : Nat) (b17 : Nat) (b18 : Nat) (b19 : Nat) (b20 : Nat) (b21 : Nat) (b22 : Nat) (b23 : Nat) (b24 : Nat) (b25 : Nat) (b26 : Nat) (b27 : Nat) (b28 : Int32) (b29 : Nat) (b30 : Nat) (b31 : Int32) (b32 : Int32) (b33 : Int32) (b34 : Int32) (b35 : Nat) (b36 : Nat) (b37 : Nat) (b38 : Nat) (b39 : Nat) (b40 : Nat) (b41 : Nat) (b42 : Int32) (b43 : Nat) (b44 : Nat) (b45 : Int32) (b46 : Nat) (b47 : Nat) (b48 : Nat) (b49 : Nat) (b50 : Nat) (b51 : Int32) (b52 : Nat) (b53 : Nat) (b54 : Nat) (b55 : Nat → Int32) (b56 : Nat → Int32) (b57 : Nat → Int32) (b58 : Nat → Int32) (hb6 : zI b6 0 8) (hb8 : zI b8 0 240) (hb9 : zI b9 0 240) (hb11 : zI b11 0 1) (hb15 : zI b15 0 12) (hb28 : zI b28 0 1) (hb31 : zI b31 0 1) (hb42 : zI b42 0 1000) (hb45 : zI b45 0 1000) (hb51 : zI b51 0 400) (hb56 : zW5 b56) (hb57 : zR b57 0 9) : zM l G y_Model_readTrace prog_14_method_15_code 3 (Option.none : Option Jvm.ClassFile.FieldType) m_s2_Model_readTrace [.ref b0] [(b0, .inr (12, [.int b1, .ref b2, .ref b3, .ref b4, .ref b5, .int b6, .ref b7, .int b8, .int b9, .int b10, .int b11, .ref b12, .ref b13, .ref b14, .int b15, .ref b16, .ref b17, .ref b18, .ref b19, .ref b20, .ref b21, .ref b22, .ref b23, .ref b24, .ref b25, .ref b26, .ref b27, .int b28, .ref b29, .ref b30, .int b31, .int b32, .int b33, .int b34, .ref b35, .ref b36, .ref b37, .ref b38, .ref b39, .ref b40, .ref b41, .int b42, .ref b43, .ref b44, .int b45, .ref b46, .ref b47, .ref b48, .ref b49, .ref b50, .int b51, .ref b52, .ref b53, .ref b54])), (b7, .inl (G.2 3, 240, .inl b55)), (b12, .inl (G.2 0, 503, .inl b56)), (b13, .inl (G.2 0, 12, .inl b57)), (b14, .inl (G.2 0, 12, .inl b58))] (fun v w => ∃ (e0 : Int32), ∃ (e1 : Int32), ∃ (e2 : Int32), ∃ (e3 : Int32), ∃ (e4 : Nat → Int32), ∃ (e5 : Nat → Int32), ∃ (e6 : Nat → Int32), v = none ∧ w = [(b0, .inr (12, [.int b1, .ref b2, .ref b3, .ref b4, .ref b5, .int b6, .ref b7, .int b8, .int e0, .int e1, .int e2, .ref b12, .ref b13, .ref b14, .int e3, .ref b16, .ref b17, .ref b18, .ref b19, .ref b20, .ref b21, .ref b22, .ref b23, .ref b24, .ref b25, .ref b26, .ref b27, .int b28, .ref b29, .ref b30, .int b31, .int b32, .int b33, .int b34, .ref b35, .ref b36, .ref b37, .ref b38, .ref b39, .ref b40, .ref b41, .int b42, .ref b43, .ref b44, .int b45, .ref b46, .ref b47, .ref b48, .ref b49, .ref b50, .int b51, .ref b52, .ref b53, .ref b54])), (b7, .inl (G.2 3, 240, .inl b55)), (b12, .inl (G.2 0, 503, .inl e4)), (b13, .inl (G.2 0, 12, .inl e5)), (b14, .inl (G.2 0, 12, .inl e6))] ∧ (zI e0 0 240) ∧ (zI e2 0 1) ∧ (zI e3 0 12) ∧ (zW5 e4) ∧ (zR e5 0 9) ∧ (b9.toInt ≤ e0.toInt) ∧ (∀ (si : Int) (R0 R : Nat → Int32), zA si b55 R0 (b8 : Int32).toInt (b9 : Int32).toInt 0 R → zE R b56 → (b9 : Int32).toInt ≤ (b8 : Int32).toInt → (b11 : Int32).toInt = 1 → ((e2 : Int32).toInt = 1 ∧ zB si b55 R0 (b8 : Int32).toInt (e0 : Int32).toInt e4 ∧ (e0 : Int32).toInt ≤ (b8 : Int32).toInt ∧ ((e0 : Int32).toInt < (b8 : Int32).toInt → ¬ ((b55 (e0 : Int32).toInt.toNat)).toInt = 32 ∧ ¬ (97 ≤ ((b55 (e0 : Int32).toInt.toNat)).toInt ∧ ((b55 (e0 : Int32).toInt.toNat)).toInt ≤ 106))) ∨ ((e2 : Int32).toInt = 0 ∧ zX si b55 R0 (b8 : Int32).toInt (e1 : Int32).toInt))) := by
  refine z_start (by decide +kernel) (Nat.le_of_ble_eq_true rfl) ?_
  intro p e s m below meth c A Z hr hnm hA hP hD hS ls hl
  have Z : zC p s m _ meth c prog_14_method_15_code 3 "TraceMachinesModel" G := Z
  obtain ⟨hx, hb, hml, hown, hts, hK, hN, hlocks⟩ := id Z
  have hl : lv_has ls 3 [(0, .ref b0)] := hl
  refine lv_aload_n hx hb d_Model_readTrace_0 rfl (lv_at hl 0 rfl) ?_
  refine z_callV (index := 162) (As := []) (rest := []) (wr := [(b12, .inl (G.2 0, 503, .inl b56)), (b13, .inl (G.2 0, 12, .inl b57)), (b14, .inl (G.2 0, 12, .inl b58))]) Z (s2_Model_next l G (b0) (b1) (b2) (b3) (b4) (b5) (b6) (b7) (b8) (b9) (b10) (b11) (b12) (b13) (b14) (b15) (b16) (b17) (b18) (b19) (b20) (b21) (b22) (b23) (b24) (b25) (b26) (b27) (b28) (b29) (b30) (b31) (b32) (b33) (b34) (b35) (b36) (b37) (b38) (b39) (b40) (b41) (b42) (b43) (b44) (b45) (b46) (b47) (b48) (b49) (b50) (b51) (b52) (b53) (b54) (b55) hb6 hb8 hb9 hb11 hb15 hb28 hb31 hb42 hb45 hb51) hl.1 q1292 q1294 qs45 q14 q1295 ⟨by decide, by decide, by show _ = some 0; decide +kernel⟩ ⟨Nat.le_of_ble_eq_true rfl, Nat.le_of_ble_eq_true rfl⟩ ⟨Nat.le_of_ble_eq_true rfl, Nat.le_of_ble_eq_true rfl⟩ rfl (Nat.le_of_ble_eq_true rfl) d_Model_readTrace_1 hP hD hS hA 0 12 rfl rfl rfl [0, 1] [2, 3, 4] rfl rfl rfl rfl (by decide) (fun v w1 H locs hw_1 hP hD hS => ?_)
  obtain ⟨x_2, x_3, rfl, rfl, hx_3, hfx_4, hfx_5, hfx_6, hfx_7, hfx_8⟩ := hw_1
  have hP : va_P G.1 classes [(b12, .inl (G.2 0, 503, .inl b56)), (b13, .inl (G.2 0, 12, .inl b57)), (b14, .inl (G.2 0, 12, .inl b58)), (b0, .inr (12, [.int b1, .ref b2, .ref b3, .ref b4, .ref b5, .int b6, .ref b7, .int b8, .int x_3, .int b10, .int b11, .ref b12, .ref b13, .ref b14, .int b15, .ref b16, .ref b17, .ref b18, .ref b19, .ref b20, .ref b21, .ref b22, .ref b23, .ref b24, .ref b25, .ref b26, .ref b27, .int b28, .ref b29, .ref b30, .int b31, .int b32, .int b33, .int b34, .ref b35, .ref b36, .ref b37, .ref b38, .ref b39, .ref b40, .ref b41, .int b42, .ref b43, .ref b44, .int b45, .ref b46, .ref b47, .ref b48, .ref b49, .ref b50, .int b51, .ref b52, .ref b53, .ref b54])), (b7, .inl (G.2 3, 240, .inl b55))] H := hP
  have hD := z_tie hP hD rfl
  refine W.widen (k := 0) (n := 0) (Nat.le_of_ble_eq_true rfl) (Nat.le_of_ble_eq_true rfl) ?_
  refine lv_pop hx hb d_Model_readTrace_4 rfl ?_
  refine lv_aload_n hx hb d_Model_readTrace_5 rfl (lv_at hl 0 rfl) ?_
  refine va_get (D := G.1) (ci := 12) (v := .ref b12) (C := R_Model) (T := F_Model) (N := 54) hx hb hts i_Model hown hK hP 3 rfl rfl 11 (by decide) (hts _ q1120) (fun _ h9 => h9) rfl d_Model_readTrace_6 ?_
  refine lv_iconst (v := 0) hx hb d_Model_readTrace_9 (by decide) ?_
  refine va_iald hx hb hK hP 0 0 rfl rfl (i := 0) (z_in rfl) d_Model_readTrace_10 ?_
  refine lv_topi (fun v_9 ev_9 => ?_)
  have hv_9 : zI v_9 0 20 := zW5.ld hb56 zc_0 ev_9 (by decide)
  refine lv_bipush (v := 20) hx hb d_Model_readTrace_11 (by decide) ?_
  refine lv_icmp_ne (tgt := 21) hx hb d_Model_readTrace_13 (by decide) (fun hc_10 => ?_) (fun hc_10 => ?_)
  · have _nhc_10 := hc_10
    have ni_11 : ¬ (v_9 : Int32).toInt = (20 : Int32).toInt := fun z => hc_10 ((fa_eq _ _).mpr z)
    simp only [li_20] at ni_11
    have hv_12 : zI v_9 0 19 := zI.ne_hi hv_9 zc_20 hc_10 (by decide)
    refine lv_aload_n hx hb d_Model_readTrace_21 rfl (lv_at hl 0 rfl) ?_
    refine z_callV (index := 176) (As := []) (rest := []) (wr := [(b12, .inl (G.2 0, 503, .inl b56))]) Z (s2_Model_readCalls l G (b0) (b1) (b2) (b3) (b4) (b5) (b6) (b7) (b8) (x_3) (b10) (b11) (b12) (b13) (b14) (b15) (b16) (b17) (b18) (b19) (b20) (b21) (b22) (b23) (b24) (b25) (b26) (b27) (b28) (b29) (b30) (b31) (b32) (b33) (b34) (b35) (b36) (b37) (b38) (b39) (b40) (b41) (b42) (b43) (b44) (b45) (b46) (b47) (b48) (b49) (b50) (b51) (b52) (b53) (b54) (b55) (b57) (b58) hb6 hb8 hx_3 hb11 hb15 hb28 hb31 hb42 hb45 hb51 hb57) hl.1 q1300 q1302 qs47 q14 q1303 ⟨by decide, by decide, by show _ = some 0; decide +kernel⟩ ⟨Nat.le_of_ble_eq_true rfl, Nat.le_of_ble_eq_true rfl⟩ ⟨Nat.le_of_ble_eq_true rfl, Nat.le_of_ble_eq_true rfl⟩ rfl (Nat.le_of_ble_eq_true rfl) d_Model_readTrace_22 hP hD hS hA 3 12 rfl rfl rfl [3, 4, 1, 2] [0] rfl rfl rfl rfl (by decide) (fun v w1 H locs hw_13 hP hD hS => ?_)
    obtain ⟨x_14, x_15, x_16, x_17, f_18, f_19, rfl, rfl, hx_14, hx_16, hx_17, hf_18, hfx_20, hfx_21⟩ := hw_13
    have hP : va_P G.1 classes [(b12, .inl (G.2 0, 503, .inl b56)), (b0, .inr (12, [.int b1, .ref b2, .ref b3, .ref b4, .ref b5, .int b6, .ref b7, .int b8, .int x_14, .int x_15, .int x_16, .ref b12, .ref b13, .ref b14, .int x_17, .ref b16, .ref b17, .ref b18, .ref b19, .ref b20, .ref b21, .ref b22, .ref b23, .ref b24, .ref b25, .ref b26, .ref b27, .int b28, .ref b29, .ref b30, .int b31, .int b32, .int b33, .int b34, .ref b35, .ref b36, .ref b37, .ref b38, .ref b39, .ref b40, .ref b41, .int b42, .ref b43, .ref b44, .int b45, .ref b46, .ref b47, .ref b48, .ref b49, .ref b50, .int b51, .ref b52, .ref b53, .ref b54])), (b7, .inl (G.2 3, 240, .inl b55)), (b13, .inl (G.2 0, 12, .inl f_18)), (b14, .inl (G.2 0, 12, .inl f_19))] H := hP
    have hD := z_tie hP hD rfl
    refine W.widen (k := 0) (n := 0) (Nat.le_of_ble_eq_true rfl) (Nat.le_of_ble_eq_true rfl) ?_
    refine lv_aload_n hx hb d_Model_readTrace_25 rfl (lv_at hl 0 rfl) ?_
    refine va_get (D := G.1) (ci := 12) (v := .int x_16) (C := R_Model) (T := F_Model) (N := 54) hx hb hts i_Model hown hK hP 1 rfl rfl 10 (by decide) (hts _ q1119) (fun _ h9 => h9) rfl d_Model_readTrace_26 ?_
    refine lv_if_eq (tgt := 140) hx hb d_Model_readTrace_29 (by decide) (fun hc_22 => ?_) (fun hc_22 => ?_)
    · have _nhc_22 := hc_22
      have ni_23 := (fa_eq _ _).mp hc_22
      rw [li_0] at ni_23
      have hv_24 : zI x_16 0 0 := zI.eq_l hx_16 zc_0 hc_22
      exact z_vret hx hb hr hlocks (hP.sub [1, 2, 0, 3, 4] rfl) (hD.sub [1, 2, 0, 3, 4] (by decide) rfl) hS (Nat.le_of_ble_eq_true rfl) (Nat.le_of_ble_eq_true rfl) d_Model_readTrace_140 ⟨x_14, x_15, x_16, x_17, b56, f_18, f_19, rfl, rfl, hx_14, (zI.wk (l' := 0) (h' := 1) hv_24 (by decide)), hx_17, hb56, hf_18, (by omega), (fun si R0 R h1 hE h3 h4 => (hfx_21 si R0 R (zA_to (p' := x_3.toInt) h1 ⟨by omega, by omega, by omega⟩ hfx_6) (by have e9 := congrArg Int32.toInt ev_9; rw [z_n0] at e9; have e8 := congrArg Int32.toInt hE.1; exact ⟨by omega, by omega⟩) (by omega) h4).elim (fun ⟨g1, _⟩ => absurd g1 (by omega)) (fun g9 => Or.inr g9))⟩
    · have _nhc_22 := hc_22
      have ni_25 : ¬ (x_16 : Int32).toInt = (0 : Int32).toInt := fun z => hc_22 ((fa_eq _ _).mpr z)
      simp only [li_0] at ni_25
      have hv_26 : zI x_16 1 1 := zI.ne_lo hx_16 zc_0 hc_22 (by decide)
      refine lv_aload_n hx hb d_Model_readTrace_32 rfl (lv_at hl 0 rfl) ?_
      refine va_get (D := G.1) (ci := 12) (v := .ref b12) (C := R_Model) (T := F_Model) (N := 54) hx hb hts i_Model hown hK hP 1 rfl rfl 11 (by decide) (hts _ q1120) (fun _ h9 => h9) rfl d_Model_readTrace_33 ?_
      refine lv_iconst (v := 0) hx hb d_Model_readTrace_36 (by decide) ?_
      refine va_iald hx hb hK hP 0 0 rfl rfl (i := 0) (z_in rfl) d_Model_readTrace_37 ?_
      refine lv_topi (fun v_27 ev_27 => ?_)
      obtain rfl : v_9 = v_27 := ev_9.trans ev_27.symm
      refine lv_istore_n (lv' := [(1, .int v_9), (0, .ref b0)]) hx hb d_Model_readTrace_38 rfl hl (by decide) rfl (fun ls hl => ?_)
      refine lv_aload_n hx hb d_Model_readTrace_39 rfl (lv_at hl 1 rfl) ?_
      refine va_get (D := G.1) (ci := 12) (v := .ref b12) (C := R_Model) (T := F_Model) (N := 54) hx hb hts i_Model hown hK hP 1 rfl rfl 11 (by decide) (hts _ q1120) (fun _ h9 => h9) rfl d_Model_readTrace_40 ?_
      refine lv_iconst (v := 1) hx hb d_Model_readTrace_43 (by decide) ?_
      refine lv_iload_n hx hb d_Model_readTrace_44 rfl (lv_at hl 0 rfl) ?_
      refine lv_iadd hx hb d_Model_readTrace_45 ?_
      refine lv_topi (fun v_28 ev_28 => ?_)
      obtain ⟨qv_28, hv_28⟩ := zI_add (l := 1) (h := 20) zc_1 hv_12 ev_28 (by decide)
      rw [li_1] at qv_28
      refine lv_aload_n hx hb d_Model_readTrace_46 rfl (lv_at hl 1 rfl) ?_
      refine va_get (D := G.1) (ci := 12) (v := .int x_17) (C := R_Model) (T := F_Model) (N := 54) hx hb hts i_Model hown hK hP 1 rfl rfl 14 (by decide) (hts _ q1123) (fun _ h9 => h9) rfl d_Model_readTrace_47 ?_
      refine va_iast hx hb hK hP hD hS 0 0 rfl rfl (zI.inn hv_28 (by decide)) d_Model_readTrace_50 (fun H locs hP hD hS => ?_)
      obtain ⟨f_29, hf_29, gf_29, uf_29, hP, hD⟩ := z_newfw 0 hP hD rfl hb56 (zRk_v hv_28 hx_17 (by decide))
      have hP : va_P G.1 classes [(b12, .inl (G.2 0, 503, .inl f_29)), (b0, .inr (12, [.int b1, .ref b2, .ref b3, .ref b4, .ref b5, .int b6, .ref b7, .int b8, .int x_14, .int x_15, .int x_16, .ref b12, .ref b13, .ref b14, .int x_17, .ref b16, .ref b17, .ref b18, .ref b19, .ref b20, .ref b21, .ref b22, .ref b23, .ref b24, .ref b25, .ref b26, .ref b27, .int b28, .ref b29, .ref b30, .int b31, .int b32, .int b33, .int b34, .ref b35, .ref b36, .ref b37, .ref b38, .ref b39, .ref b40, .ref b41, .int b42, .ref b43, .ref b44, .int b45, .ref b46, .ref b47, .ref b48, .ref b49, .ref b50, .int b51, .ref b52, .ref b53, .ref b54])), (b7, .inl (G.2 3, 240, .inl b55)), (b13, .inl (G.2 0, 12, .inl f_18)), (b14, .inl (G.2 0, 12, .inl f_19))] H := hP
      have hD := z_tie hP hD rfl
      refine lv_iconst (v := 0) hx hb d_Model_readTrace_51 (by decide) ?_
      refine lv_istore_n (lv' := [(2, .int 0), (1, .int v_9), (0, .ref b0)]) hx hb d_Model_readTrace_52 rfl hl (by decide) rfl (fun ls hl => ?_)
      suffices key : ∀ (k_78 : Nat) (y_79 : Int32) (y_80 : Nat → Int32) (H : Heap) (locs : List Loc) (ls : Array Slot), (zI y_79 0 12) → (zW5 y_80) → ((y_80 (0 : Int32).toNatClampNeg).toInt ≤ 19) → (zDr (v_9 : Int32).toInt (y_79 : Int32).toInt (x_17 : Int32).toInt x_17 f_18 f_19 b56 y_80) → (12 : Int) - y_79.toInt < (k_78 : Int) → va_P G.1 classes [(b12, .inl (G.2 0, 503, .inl y_80)), (b0, .inr (12, [.int b1, .ref b2, .ref b3, .ref b4, .ref b5, .int b6, .ref b7, .int b8, .int x_14, .int x_15, .int x_16, .ref b12, .ref b13, .ref b14, .int x_17, .ref b16, .ref b17, .ref b18, .ref b19, .ref b20, .ref b21, .ref b22, .ref b23, .ref b24, .ref b25, .ref b26, .ref b27, .int b28, .ref b29, .ref b30, .int b31, .int b32, .int b33, .int b34, .ref b35, .ref b36, .ref b37, .ref b38, .ref b39, .ref b40, .ref b41, .int b42, .ref b43, .ref b44, .int b45, .ref b46, .ref b47, .ref b48, .ref b49, .ref b50, .int b51, .ref b52, .ref b53, .ref b54])), (b7, .inl (G.2 3, 240, .inl b55)), (b13, .inl (G.2 0, 12, .inl f_18)), (b14, .inl (G.2 0, 12, .inl f_19))] H → va_D A [(b12, .inl (G.2 0, 503, .inl y_80)), (b0, .inr (12, [.int b1, .ref b2, .ref b3, .ref b4, .ref b5, .int b6, .ref b7, .int b8, .int x_14, .int x_15, .int x_16, .ref b12, .ref b13, .ref b14, .int x_17, .ref b16, .ref b17, .ref b18, .ref b19, .ref b20, .ref b21, .ref b22, .ref b23, .ref b24, .ref b25, .ref b26, .ref b27, .int b28, .ref b29, .ref b30, .int b31, .int b32, .int b33, .int b34, .ref b35, .ref b36, .ref b37, .ref b38, .ref b39, .ref b40, .ref b41, .int b42, .ref b43, .ref b44, .int b45, .ref b46, .ref b47, .ref b48, .ref b49, .ref b50, .int b51, .ref b52, .ref b53, .ref b54])), (b7, .inl (G.2 3, 240, .inl b55)), (b13, .inl (G.2 0, 12, .inl f_18)), (b14, .inl (G.2 0, 12, .inl f_19))] → va_S A s.heap H locs → lv_has ls 3 [(2, .int y_79), (1, .int v_9), (0, .ref b0)] → W p l e m_s2_Model_readTrace s m ([.ref b0] : List Value).toArray below meth c H locs 0 0 (MQ below (zQ G (fun v w => ∃ (e0 : Int32), ∃ (e1 : Int32), ∃ (e2 : Int32), ∃ (e3 : Int32), ∃ (e4 : Nat → Int32), ∃ (e5 : Nat → Int32), ∃ (e6 : Nat → Int32), v = none ∧ w = [(b0, .inr (12, [.int b1, .ref b2, .ref b3, .ref b4, .ref b5, .int b6, .ref b7, .int b8, .int e0, .int e1, .int e2, .ref b12, .ref b13, .ref b14, .int e3, .ref b16, .ref b17, .ref b18, .ref b19, .ref b20, .ref b21, .ref b22, .ref b23, .ref b24, .ref b25, .ref b26, .ref b27, .int b28, .ref b29, .ref b30, .int b31, .int b32, .int b33, .int b34, .ref b35, .ref b36, .ref b37, .ref b38, .ref b39, .ref b40, .ref b41, .int b42, .ref b43, .ref b44, .int b45, .ref b46, .ref b47, .ref b48, .ref b49, .ref b50, .int b51, .ref b52, .ref b53, .ref b54])), (b7, .inl (G.2 3, 240, .inl b55)), (b12, .inl (G.2 0, 503, .inl e4)), (b13, .inl (G.2 0, 12, .inl e5)), (b14, .inl (G.2 0, 12, .inl e6))] ∧ (zI e0 0 240) ∧ (zI e2 0 1) ∧ (zI e3 0 12) ∧ (zW5 e4) ∧ (zR e5 0 9) ∧ (b9.toInt ≤ e0.toInt) ∧ (∀ (si : Int) (R0 R : Nat → Int32), zA si b55 R0 (b8 : Int32).toInt (b9 : Int32).toInt 0 R → zE R b56 → (b9 : Int32).toInt ≤ (b8 : Int32).toInt → (b11 : Int32).toInt = 1 → ((e2 : Int32).toInt = 1 ∧ zB si b55 R0 (b8 : Int32).toInt (e0 : Int32).toInt e4 ∧ (e0 : Int32).toInt ≤ (b8 : Int32).toInt ∧ ((e0 : Int32).toInt < (b8 : Int32).toInt → ¬ ((b55 (e0 : Int32).toInt.toNat)).toInt = 32 ∧ ¬ (97 ≤ ((b55 (e0 : Int32).toInt.toNat)).toInt ∧ ((b55 (e0 : Int32).toInt.toNat)).toInt ≤ 106))) ∨ ((e2 : Int32).toInt = 0 ∧ zX si b55 R0 (b8 : Int32).toInt (e1 : Int32).toInt))) A) ([.ref b0] : List Value).toArray s m_s2_Model_readTrace.cells m_s2_Model_readTrace.slots A) (F0 m 53 ls []) by
        exact key 13 (0) (f_29) _ _ _ (zI.wk (l' := 0) (h' := 12) zc_0 (by decide)) hf_29 (by have p0_ := z_pl zc_0 (by decide); have _l0 := li_0; have p1_ := z_pl hv_28 (by decide); rw [uf_29, z_at, if_neg (by omega)]; rw [← ev_9]; omega) (zDr_0 uf_29 (by omega) (by omega) li_0) (zm_upi (zI.wk (l' := 0) (h' := 12) zc_0 (by decide)) (by decide)) hP hD hS (lv_sub hl [0, 1, 2] rfl)
      intro k_78
      induction k_78 with
      | zero =>
        intro y_79 y_80 H locs ls hy_79 hy_80 hli_81 hli_82 hmk_78 hP hD hS hl
        exact (zm_up0 hy_79 hmk_78).elim
      | succ k_78 ihk_78 =>
        intro y_79 y_80 H locs ls hy_79 hy_80 hli_81 hli_82 hmk_78 hP hD hS hl
        refine lv_iload_n hx hb d_Model_readTrace_53 rfl (lv_at hl 0 rfl) ?_
        refine lv_bipush (v := 12) hx hb d_Model_readTrace_54 (by decide) ?_
        refine lv_icmp_ge (tgt := 130) hx hb d_Model_readTrace_56 (by decide) (fun hc_83 => ?_) (fun hc_83 => ?_)
        · have _nhc_83 := hc_83
          have ni_84 := (fa_le _ _).mp hc_83
          rw [li_12] at ni_84
          have hv_85 : zI y_79 12 12 := zI.le_r zc_12 hy_79 hc_83 (by decide)
          refine lv_aload_n hx hb d_Model_readTrace_130 rfl (lv_at hl 2 rfl) ?_
          refine va_get (D := G.1) (ci := 12) (v := .ref b12) (C := R_Model) (T := F_Model) (N := 54) hx hb hts i_Model hown hK hP 1 rfl rfl 11 (by decide) (hts _ q1120) (fun _ h9 => h9) rfl d_Model_readTrace_131 ?_
          refine lv_iconst (v := 0) hx hb d_Model_readTrace_134 (by decide) ?_
          refine lv_dup2_11 hx hb d_Model_readTrace_135 rfl rfl ?_
          refine va_iald hx hb hK hP 0 0 rfl rfl (i := 0) (z_in rfl) d_Model_readTrace_136 ?_
          refine lv_topi (fun v_86 ev_86 => ?_)
          have hv_86 : zI v_86 0 20 := zW5.ld hy_80 zc_0 ev_86 (by decide)
          have hv_87 : zI v_86 0 19 := ⟨hv_86.1, by rw [ev_86]; exact hli_81⟩
          refine lv_iconst (v := 1) hx hb d_Model_readTrace_137 (by decide) ?_
          refine lv_iadd hx hb d_Model_readTrace_138 ?_
          refine lv_topi (fun v_88 ev_88 => ?_)
          obtain ⟨qv_88, hv_88⟩ := zI_add (l := 1) (h := 20) hv_87 zc_1 ev_88 (by decide)
          rw [li_1] at qv_88
          refine va_iast hx hb hK hP hD hS 0 0 rfl rfl (i := 0) (z_in rfl) d_Model_readTrace_139 (fun H locs hP hD hS => ?_)
          obtain ⟨f_89, hf_89, gf_89, uf_89, hP, hD⟩ := z_newfw 0 hP hD rfl hy_80 (zRk_v zc_0 hv_88 (by decide))
          have hP : va_P G.1 classes [(b12, .inl (G.2 0, 503, .inl f_89)), (b0, .inr (12, [.int b1, .ref b2, .ref b3, .ref b4, .ref b5, .int b6, .ref b7, .int b8, .int x_14, .int x_15, .int x_16, .ref b12, .ref b13, .ref b14, .int x_17, .ref b16, .ref b17, .ref b18, .ref b19, .ref b20, .ref b21, .ref b22, .ref b23, .ref b24, .ref b25, .ref b26, .ref b27, .int b28, .ref b29, .ref b30, .int b31, .int b32, .int b33, .int b34, .ref b35, .ref b36, .ref b37, .ref b38, .ref b39, .ref b40, .ref b41, .int b42, .ref b43, .ref b44, .int b45, .ref b46, .ref b47, .ref b48, .ref b49, .ref b50, .int b51, .ref b52, .ref b53, .ref b54])), (b7, .inl (G.2 3, 240, .inl b55)), (b13, .inl (G.2 0, 12, .inl f_18)), (b14, .inl (G.2 0, 12, .inl f_19))] H := hP
          have hD := z_tie hP hD rfl
          exact z_vret hx hb hr hlocks (hP.sub [1, 2, 0, 3, 4] rfl) (hD.sub [1, 2, 0, 3, 4] (by decide) rfl) hS (Nat.le_of_ble_eq_true rfl) (Nat.le_of_ble_eq_true rfl) d_Model_readTrace_140 ⟨x_14, x_15, x_16, x_17, f_89, f_18, f_19, rfl, rfl, hx_14, (zI.wk (l' := 0) (h' := 1) hv_26 (by decide)), hx_17, hf_89, hf_18, (by omega), (fun si R0 R h1 hE h3 h4 => (hfx_21 si R0 R (zA_to (p' := x_3.toInt) h1 ⟨by omega, by omega, by omega⟩ hfx_6) (by have e9 := congrArg Int32.toInt ev_9; rw [z_n0] at e9; have e8 := congrArg Int32.toInt hE.1; exact ⟨by omega, by omega⟩) (by omega) h4).elim (fun ⟨g1, g2, g3, g4⟩ => Or.inl ⟨g1, zB_dr (t := v_9.toInt) g2 hE (by have e9 := congrArg Int32.toInt ev_9; rw [z_n0] at e9; have e8 := congrArg Int32.toInt hE.1; exact ⟨by omega, by omega⟩) ⟨by omega, by omega⟩ hb56 (by have e9 := congrArg Int32.toInt ev_9; rw [z_n0] at e9; exact e9) (by have g9 := hli_82; rw [show y_79.toInt = 12 by omega] at g9; exact g9) rfl uf_89 li_0 (by have e9 := ev_86; rw [z_n0] at e9; exact e9) ev_88, g3, g4⟩) (fun ⟨g1, _⟩ => absurd g1 (by omega)))⟩
        · have _nhc_83 := hc_83
          have ni_90 := (fa_lt _ _).mp (zi_nle hc_83)
          rw [li_12] at ni_90
          have hv_91 : zI y_79 0 11 := zI.lt_l hy_79 zc_12 (zi_nle hc_83) (by decide)
          refine lv_aload_n hx hb d_Model_readTrace_59 rfl (lv_at hl 2 rfl) ?_
          refine va_get (D := G.1) (ci := 12) (v := .ref b12) (C := R_Model) (T := F_Model) (N := 54) hx hb hts i_Model hown hK hP 1 rfl rfl 11 (by decide) (hts _ q1120) (fun _ h9 => h9) rfl d_Model_readTrace_60 ?_
          refine lv_bipush (v := 21) hx hb d_Model_readTrace_63 (by decide) ?_
          refine lv_bipush (v := 12) hx hb d_Model_readTrace_65 (by decide) ?_
          refine lv_iload_n hx hb d_Model_readTrace_67 rfl (lv_at hl 1 rfl) ?_
          refine lv_imul hx hb d_Model_readTrace_68 ?_
          refine lv_topi (fun v_92 ev_92 => ?_)
          obtain ⟨qv_92, hv_92⟩ := zI_mul (l := 0) (h := 228) zc_12 hv_12 ev_92 (by decide)
          rw [li_12] at qv_92
          refine lv_iadd hx hb d_Model_readTrace_69 ?_
          refine lv_topi (fun v_93 ev_93 => ?_)
          obtain ⟨qv_93, hv_93⟩ := zI_add (l := 21) (h := 249) zc_21 hv_92 ev_93 (by decide)
          rw [li_21] at qv_93
          refine lv_iload_n hx hb d_Model_readTrace_70 rfl (lv_at hl 0 rfl) ?_
          refine lv_iadd hx hb d_Model_readTrace_71 ?_
          refine lv_topi (fun v_94 ev_94 => ?_)
          obtain ⟨qv_94, hv_94⟩ := zI_add (l := 21) (h := 260) hv_93 hv_91 ev_94 (by decide)
          refine lv_iload_n hx hb d_Model_readTrace_72 rfl (lv_at hl 0 rfl) ?_
          refine lv_aload_n hx hb d_Model_readTrace_73 rfl (lv_at hl 2 rfl) ?_
          refine va_get (D := G.1) (ci := 12) (v := .int x_17) (C := R_Model) (T := F_Model) (N := 54) hx hb hts i_Model hown hK hP 1 rfl rfl 14 (by decide) (hts _ q1123) (fun _ h9 => h9) rfl d_Model_readTrace_74 ?_
          refine lv_icmp_ge (tgt := 89) hx hb d_Model_readTrace_77 (by decide) (fun hc_95 => ?_) (fun hc_95 => ?_)
          · have _nhc_95 := hc_95
            have ni_96 := (fa_le _ _).mp hc_95
            have hv_97 : zI x_17 0 11 := zI.le_l hx_17 hv_91 hc_95 (by decide)
            refine lv_iconst (v := 0) hx hb d_Model_readTrace_89 (by decide) ?_
            refine va_iast hx hb hK hP hD hS 0 0 rfl rfl (zI.inn hv_94 (by decide)) d_Model_readTrace_90 (fun H locs hP hD hS => ?_)
            obtain ⟨f_98, hf_98, gf_98, uf_98, hP, hD⟩ := z_newfw 0 hP hD rfl hy_80 (zRk_v hv_94 zc_0 (by decide))
            have hP : va_P G.1 classes [(b12, .inl (G.2 0, 503, .inl f_98)), (b0, .inr (12, [.int b1, .ref b2, .ref b3, .ref b4, .ref b5, .int b6, .ref b7, .int b8, .int x_14, .int x_15, .int x_16, .ref b12, .ref b13, .ref b14, .int x_17, .ref b16, .ref b17, .ref b18, .ref b19, .ref b20, .ref b21, .ref b22, .ref b23, .ref b24, .ref b25, .ref b26, .ref b27, .int b28, .ref b29, .ref b30, .int b31, .int b32, .int b33, .int b34, .ref b35, .ref b36, .ref b37, .ref b38, .ref b39, .ref b40, .ref b41, .int b42, .ref b43, .ref b44, .int b45, .ref b46, .ref b47, .ref b48, .ref b49, .ref b50, .int b51, .ref b52, .ref b53, .ref b54])), (b7, .inl (G.2 3, 240, .inl b55)), (b13, .inl (G.2 0, 12, .inl f_18)), (b14, .inl (G.2 0, 12, .inl f_19))] H := hP
            have hD := z_tie hP hD rfl
            refine lv_aload_n hx hb d_Model_readTrace_91 rfl (lv_at hl 2 rfl) ?_
            refine va_get (D := G.1) (ci := 12) (v := .ref b12) (C := R_Model) (T := F_Model) (N := 54) hx hb hts i_Model hown hK hP 1 rfl rfl 11 (by decide) (hts _ q1120) (fun _ h9 => h9) rfl d_Model_readTrace_92 ?_
            refine lv_sipush (v := 261) hx hb d_Model_readTrace_95 (by decide) ?_
            refine lv_bipush (v := 12) hx hb d_Model_readTrace_98 (by decide) ?_
            refine lv_iload_n hx hb d_Model_readTrace_100 rfl (lv_at hl 1 rfl) ?_
            refine lv_imul hx hb d_Model_readTrace_101 ?_
            refine lv_topi (fun v_99 ev_99 => ?_)
            obtain rfl : v_92 = v_99 := ev_92.trans ev_99.symm
            refine lv_iadd hx hb d_Model_readTrace_102 ?_
            refine lv_topi (fun v_100 ev_100 => ?_)
            obtain ⟨qv_100, hv_100⟩ := zI_add (l := 261) (h := 489) zc_261 hv_92 ev_100 (by decide)
            rw [li_261] at qv_100
            refine lv_iload_n hx hb d_Model_readTrace_103 rfl (lv_at hl 0 rfl) ?_
            refine lv_iadd hx hb d_Model_readTrace_104 ?_
            refine lv_topi (fun v_101 ev_101 => ?_)
            obtain ⟨qv_101, hv_101⟩ := zI_add (l := 261) (h := 500) hv_100 hv_91 ev_101 (by decide)
            refine lv_iload_n hx hb d_Model_readTrace_105 rfl (lv_at hl 0 rfl) ?_
            refine lv_aload_n hx hb d_Model_readTrace_106 rfl (lv_at hl 2 rfl) ?_
            refine va_get (D := G.1) (ci := 12) (v := .int x_17) (C := R_Model) (T := F_Model) (N := 54) hx hb hts i_Model hown hK hP 1 rfl rfl 14 (by decide) (hts _ q1123) (fun _ h9 => h9) rfl d_Model_readTrace_107 ?_
            refine lv_icmp_ge (tgt := 122) hx hb d_Model_readTrace_110 (by decide) (fun hc_102 => ?_) (fun hc_102 => ?_)
            · have _nhc_102 := hc_102
              have ni_103 := (fa_le _ _).mp hc_102
              refine lv_iconst (v := 0) hx hb d_Model_readTrace_122 (by decide) ?_
              refine va_iast hx hb hK hP hD hS 0 0 rfl rfl (zI.inn hv_101 (by decide)) d_Model_readTrace_123 (fun H locs hP hD hS => ?_)
              obtain ⟨f_104, hf_104, gf_104, uf_104, hP, hD⟩ := z_newfw 0 hP hD rfl hf_98 (zRk_v hv_101 zc_0 (by decide))
              have hP : va_P G.1 classes [(b12, .inl (G.2 0, 503, .inl f_104)), (b0, .inr (12, [.int b1, .ref b2, .ref b3, .ref b4, .ref b5, .int b6, .ref b7, .int b8, .int x_14, .int x_15, .int x_16, .ref b12, .ref b13, .ref b14, .int x_17, .ref b16, .ref b17, .ref b18, .ref b19, .ref b20, .ref b21, .ref b22, .ref b23, .ref b24, .ref b25, .ref b26, .ref b27, .int b28, .ref b29, .ref b30, .int b31, .int b32, .int b33, .int b34, .ref b35, .ref b36, .ref b37, .ref b38, .ref b39, .ref b40, .ref b41, .int b42, .ref b43, .ref b44, .int b45, .ref b46, .ref b47, .ref b48, .ref b49, .ref b50, .int b51, .ref b52, .ref b53, .ref b54])), (b7, .inl (G.2 3, 240, .inl b55)), (b13, .inl (G.2 0, 12, .inl f_18)), (b14, .inl (G.2 0, 12, .inl f_19))] H := hP
              have hD := z_tie hP hD rfl
              obtain ⟨v_105, ev_105⟩ : ∃ z : Int32, z = y_79 + 1 := ⟨_, rfl⟩
              obtain ⟨qv_105, hv_105⟩ := zI_add (l := 1) (h := 12) hv_91 zc_1 ev_105 (by decide)
              rw [li_1] at qv_105
              refine lv_iinc (v := v_105) (lv' := [(2, .int v_105), (1, .int v_9), (0, .ref b0)]) hx hb d_Model_readTrace_124 hl (k := 0) rfl (by rw [ev_105]; rfl) (by decide) rfl (fun ls hl => ?_)
              refine lv_goto (tgt := 53) hx hb d_Model_readTrace_127 (by decide) ?_
              exact ihk_78 (v_105) (f_104) _ _ _ (zI.wk (l' := 0) (h' := 12) hv_105 (by decide)) hf_104 (by have p0_ := z_pl zc_0 (by decide); have _l0 := li_0; have p1_ := z_pl hv_101 (by decide); have p2_ := z_pl hv_94 (by decide); rw [uf_104, z_at, if_neg (by omega)]; rw [uf_98, z_at, if_neg (by omega)]; exact hli_81) (zDr_s hli_82 uf_98 uf_104 (by omega) (by omega) ⟨by omega, by omega⟩ ⟨by omega, by omega⟩ (fun h9 => by exfalso; omega) (fun h9 => by exfalso; omega) (by omega)) (zm_up qv_105 hmk_78 (by decide)) hP hD hS (lv_sub hl [0, 1, 2] rfl)
            · have _nhc_102 := hc_102
              have ni_106 := (fa_lt _ _).mp (zi_nle hc_102)
              have hv_107 : zI y_79 0 10 := zI.lt_l hv_91 hv_97 (zi_nle hc_102) (by decide)
              have hv_108 : zI x_17 1 11 := zI.lt_r hv_91 hv_97 (zi_nle hc_102) (by decide)
              refine lv_aload_n hx hb d_Model_readTrace_113 rfl (lv_at hl 2 rfl) ?_
              refine va_get (D := G.1) (ci := 12) (v := .ref b14) (C := R_Model) (T := F_Model) (N := 54) hx hb hts i_Model hown hK hP 1 rfl rfl 13 (by decide) (hts _ q1122) (fun _ h9 => h9) rfl d_Model_readTrace_114 ?_
              refine lv_iload_n hx hb d_Model_readTrace_117 rfl (lv_at hl 0 rfl) ?_
              refine va_iald hx hb hK hP 4 0 rfl rfl (zI.inn hv_107 (by decide)) d_Model_readTrace_118 ?_
              refine lv_topi (fun v_109 ev_109 => ?_)
              refine lv_goto (tgt := 123) hx hb d_Model_readTrace_119 (by decide) ?_
              refine va_iast hx hb hK hP hD hS 0 0 rfl rfl (zI.inn hv_101 (by decide)) d_Model_readTrace_123 (fun H locs hP hD hS => ?_)
              obtain ⟨f_110, hf_110, gf_110, uf_110, hP, hD⟩ := z_newfw 0 hP hD rfl hf_98 (zRk_v hv_101 (zI_all v_109) (by decide))
              have hP : va_P G.1 classes [(b12, .inl (G.2 0, 503, .inl f_110)), (b0, .inr (12, [.int b1, .ref b2, .ref b3, .ref b4, .ref b5, .int b6, .ref b7, .int b8, .int x_14, .int x_15, .int x_16, .ref b12, .ref b13, .ref b14, .int x_17, .ref b16, .ref b17, .ref b18, .ref b19, .ref b20, .ref b21, .ref b22, .ref b23, .ref b24, .ref b25, .ref b26, .ref b27, .int b28, .ref b29, .ref b30, .int b31, .int b32, .int b33, .int b34, .ref b35, .ref b36, .ref b37, .ref b38, .ref b39, .ref b40, .ref b41, .int b42, .ref b43, .ref b44, .int b45, .ref b46, .ref b47, .ref b48, .ref b49, .ref b50, .int b51, .ref b52, .ref b53, .ref b54])), (b7, .inl (G.2 3, 240, .inl b55)), (b13, .inl (G.2 0, 12, .inl f_18)), (b14, .inl (G.2 0, 12, .inl f_19))] H := hP
              have hD := z_tie hP hD rfl
              obtain ⟨v_111, ev_111⟩ : ∃ z : Int32, z = y_79 + 1 := ⟨_, rfl⟩
              obtain ⟨qv_111, hv_111⟩ := zI_add (l := 1) (h := 11) hv_107 zc_1 ev_111 (by decide)
              rw [li_1] at qv_111
              refine lv_iinc (v := v_111) (lv' := [(2, .int v_111), (1, .int v_9), (0, .ref b0)]) hx hb d_Model_readTrace_124 hl (k := 0) rfl (by rw [ev_111]; rfl) (by decide) rfl (fun ls hl => ?_)
              refine lv_goto (tgt := 53) hx hb d_Model_readTrace_127 (by decide) ?_
              exact ihk_78 (v_111) (f_110) _ _ _ (zI.wk (l' := 0) (h' := 12) hv_111 (by decide)) hf_110 (by have p0_ := z_pl zc_0 (by decide); have _l0 := li_0; have p1_ := z_pl hv_101 (by decide); have p2_ := z_pl hv_94 (by decide); rw [uf_110, z_at, if_neg (by omega)]; rw [uf_98, z_at, if_neg (by omega)]; exact hli_81) (zDr_s hli_82 uf_98 uf_110 (by omega) (by omega) ⟨by omega, by omega⟩ ⟨by omega, by omega⟩ (fun h9 => by exfalso; omega) (fun h9 => by rw [ev_109, z_plf hv_107 (by decide)]) (by omega)) (zm_up qv_111 hmk_78 (by decide)) hP hD hS (lv_sub hl [0, 1, 2] rfl)
          · have _nhc_95 := hc_95
            have ni_112 := (fa_lt _ _).mp (zi_nle hc_95)
            have hv_113 : zI x_17 1 12 := zI.lt_r hv_91 hx_17 (zi_nle hc_95) (by decide)
            refine lv_aload_n hx hb d_Model_readTrace_80 rfl (lv_at hl 2 rfl) ?_
            refine va_get (D := G.1) (ci := 12) (v := .ref b13) (C := R_Model) (T := F_Model) (N := 54) hx hb hts i_Model hown hK hP 1 rfl rfl 12 (by decide) (hts _ q1121) (fun _ h9 => h9) rfl d_Model_readTrace_81 ?_
            refine lv_iload_n hx hb d_Model_readTrace_84 rfl (lv_at hl 0 rfl) ?_
            refine va_iald hx hb hK hP 3 0 rfl rfl (zI.inn hv_91 (by decide)) d_Model_readTrace_85 ?_
            refine lv_topi (fun v_114 ev_114 => ?_)
            have hv_114 : zI v_114 0 9 := (hf_18 _).eq ev_114
            refine lv_goto (tgt := 90) hx hb d_Model_readTrace_86 (by decide) ?_
            refine va_iast hx hb hK hP hD hS 0 0 rfl rfl (zI.inn hv_94 (by decide)) d_Model_readTrace_90 (fun H locs hP hD hS => ?_)
            obtain ⟨f_115, hf_115, gf_115, uf_115, hP, hD⟩ := z_newfw 0 hP hD rfl hy_80 (zRk_v hv_94 hv_114 (by decide))
            have hP : va_P G.1 classes [(b12, .inl (G.2 0, 503, .inl f_115)), (b0, .inr (12, [.int b1, .ref b2, .ref b3, .ref b4, .ref b5, .int b6, .ref b7, .int b8, .int x_14, .int x_15, .int x_16, .ref b12, .ref b13, .ref b14, .int x_17, .ref b16, .ref b17, .ref b18, .ref b19, .ref b20, .ref b21, .ref b22, .ref b23, .ref b24, .ref b25, .ref b26, .ref b27, .int b28, .ref b29, .ref b30, .int b31, .int b32, .int b33, .int b34, .ref b35, .ref b36, .ref b37, .ref b38, .ref b39, .ref b40, .ref b41, .int b42, .ref b43, .ref b44, .int b45, .ref b46, .ref b47, .ref b48, .ref b49, .ref b50, .int b51, .ref b52, .ref b53, .ref b54])), (b7, .inl (G.2 3, 240, .inl b55)), (b13, .inl (G.2 0, 12, .inl f_18)), (b14, .inl (G.2 0, 12, .inl f_19))] H := hP
            have hD := z_tie hP hD rfl
            refine lv_aload_n hx hb d_Model_readTrace_91 rfl (lv_at hl 2 rfl) ?_
            refine va_get (D := G.1) (ci := 12) (v := .ref b12) (C := R_Model) (T := F_Model) (N := 54) hx hb hts i_Model hown hK hP 1 rfl rfl 11 (by decide) (hts _ q1120) (fun _ h9 => h9) rfl d_Model_readTrace_92 ?_
            refine lv_sipush (v := 261) hx hb d_Model_readTrace_95 (by decide) ?_
            refine lv_bipush (v := 12) hx hb d_Model_readTrace_98 (by decide) ?_
            refine lv_iload_n hx hb d_Model_readTrace_100 rfl (lv_at hl 1 rfl) ?_
            refine lv_imul hx hb d_Model_readTrace_101 ?_
            refine lv_topi (fun v_116 ev_116 => ?_)
            obtain rfl : v_92 = v_116 := ev_92.trans ev_116.symm
            refine lv_iadd hx hb d_Model_readTrace_102 ?_
            refine lv_topi (fun v_117 ev_117 => ?_)
            obtain ⟨qv_117, hv_117⟩ := zI_add (l := 261) (h := 489) zc_261 hv_92 ev_117 (by decide)
            rw [li_261] at qv_117
            refine lv_iload_n hx hb d_Model_readTrace_103 rfl (lv_at hl 0 rfl) ?_
            refine lv_iadd hx hb d_Model_readTrace_104 ?_
            refine lv_topi (fun v_118 ev_118 => ?_)
            obtain ⟨qv_118, hv_118⟩ := zI_add (l := 261) (h := 500) hv_117 hv_91 ev_118 (by decide)
            refine lv_iload_n hx hb d_Model_readTrace_105 rfl (lv_at hl 0 rfl) ?_
            refine lv_aload_n hx hb d_Model_readTrace_106 rfl (lv_at hl 2 rfl) ?_
            refine va_get (D := G.1) (ci := 12) (v := .int x_17) (C := R_Model) (T := F_Model) (N := 54) hx hb hts i_Model hown hK hP 1 rfl rfl 14 (by decide) (hts _ q1123) (fun _ h9 => h9) rfl d_Model_readTrace_107 ?_
            refine lv_icmp_ge (tgt := 122) hx hb d_Model_readTrace_110 (by decide) (fun hc_119 => ?_) (fun hc_119 => ?_)
            · have _nhc_119 := hc_119
              have ni_120 := (fa_le _ _).mp hc_119
              have hv_121 : zI x_17 1 11 := zI.le_l hv_113 hv_91 hc_119 (by decide)
              have hv_122 : zI y_79 1 11 := zI.le_r hv_113 hv_91 hc_119 (by decide)
              refine lv_iconst (v := 0) hx hb d_Model_readTrace_122 (by decide) ?_
              refine va_iast hx hb hK hP hD hS 0 0 rfl rfl (zI.inn hv_118 (by decide)) d_Model_readTrace_123 (fun H locs hP hD hS => ?_)
              obtain ⟨f_123, hf_123, gf_123, uf_123, hP, hD⟩ := z_newfw 0 hP hD rfl hf_115 (zRk_v hv_118 zc_0 (by decide))
              have hP : va_P G.1 classes [(b12, .inl (G.2 0, 503, .inl f_123)), (b0, .inr (12, [.int b1, .ref b2, .ref b3, .ref b4, .ref b5, .int b6, .ref b7, .int b8, .int x_14, .int x_15, .int x_16, .ref b12, .ref b13, .ref b14, .int x_17, .ref b16, .ref b17, .ref b18, .ref b19, .ref b20, .ref b21, .ref b22, .ref b23, .ref b24, .ref b25, .ref b26, .ref b27, .int b28, .ref b29, .ref b30, .int b31, .int b32, .int b33, .int b34, .ref b35, .ref b36, .ref b37, .ref b38, .ref b39, .ref b40, .ref b41, .int b42, .ref b43, .ref b44, .int b45, .ref b46, .ref b47, .ref b48, .ref b49, .ref b50, .int b51, .ref b52, .ref b53, .ref b54])), (b7, .inl (G.2 3, 240, .inl b55)), (b13, .inl (G.2 0, 12, .inl f_18)), (b14, .inl (G.2 0, 12, .inl f_19))] H := hP
              have hD := z_tie hP hD rfl
              obtain ⟨v_124, ev_124⟩ : ∃ z : Int32, z = y_79 + 1 := ⟨_, rfl⟩
              obtain ⟨qv_124, hv_124⟩ := zI_add (l := 2) (h := 12) hv_122 zc_1 ev_124 (by decide)
              rw [li_1] at qv_124
              refine lv_iinc (v := v_124) (lv' := [(2, .int v_124), (1, .int v_9), (0, .ref b0)]) hx hb d_Model_readTrace_124 hl (k := 0) rfl (by rw [ev_124]; rfl) (by decide) rfl (fun ls hl => ?_)
              refine lv_goto (tgt := 53) hx hb d_Model_readTrace_127 (by decide) ?_
              exact ihk_78 (v_124) (f_123) _ _ _ (zI.wk (l' := 0) (h' := 12) hv_124 (by decide)) hf_123 (by have p0_ := z_pl zc_0 (by decide); have _l0 := li_0; have p1_ := z_pl hv_118 (by decide); have p2_ := z_pl hv_94 (by decide); rw [uf_123, z_at, if_neg (by omega)]; rw [uf_115, z_at, if_neg (by omega)]; exact hli_81) (zDr_s hli_82 uf_115 uf_123 (by omega) (by omega) ⟨by omega, by omega⟩ ⟨by omega, by omega⟩ (fun h9 => by rw [ev_114, z_plf hv_122 (by decide)]) (fun h9 => by exfalso; omega) (by omega)) (zm_up qv_124 hmk_78 (by decide)) hP hD hS (lv_sub hl [0, 1, 2] rfl)
            · have _nhc_119 := hc_119
              have ni_125 := (fa_lt _ _).mp (zi_nle hc_119)
              refine lv_aload_n hx hb d_Model_readTrace_113 rfl (lv_at hl 2 rfl) ?_
              refine va_get (D := G.1) (ci := 12) (v := .ref b14) (C := R_Model) (T := F_Model) (N := 54) hx hb hts i_Model hown hK hP 1 rfl rfl 13 (by decide) (hts _ q1122) (fun _ h9 => h9) rfl d_Model_readTrace_114 ?_
              refine lv_iload_n hx hb d_Model_readTrace_117 rfl (lv_at hl 0 rfl) ?_
              refine va_iald hx hb hK hP 4 0 rfl rfl (zI.inn hv_91 (by decide)) d_Model_readTrace_118 ?_
              refine lv_topi (fun v_126 ev_126 => ?_)
              refine lv_goto (tgt := 123) hx hb d_Model_readTrace_119 (by decide) ?_
              refine va_iast hx hb hK hP hD hS 0 0 rfl rfl (zI.inn hv_118 (by decide)) d_Model_readTrace_123 (fun H locs hP hD hS => ?_)
              obtain ⟨f_127, hf_127, gf_127, uf_127, hP, hD⟩ := z_newfw 0 hP hD rfl hf_115 (zRk_v hv_118 (zI_all v_126) (by decide))
              have hP : va_P G.1 classes [(b12, .inl (G.2 0, 503, .inl f_127)), (b0, .inr (12, [.int b1, .ref b2, .ref b3, .ref b4, .ref b5, .int b6, .ref b7, .int b8, .int x_14, .int x_15, .int x_16, .ref b12, .ref b13, .ref b14, .int x_17, .ref b16, .ref b17, .ref b18, .ref b19, .ref b20, .ref b21, .ref b22, .ref b23, .ref b24, .ref b25, .ref b26, .ref b27, .int b28, .ref b29, .ref b30, .int b31, .int b32, .int b33, .int b34, .ref b35, .ref b36, .ref b37, .ref b38, .ref b39, .ref b40, .ref b41, .int b42, .ref b43, .ref b44, .int b45, .ref b46, .ref b47, .ref b48, .ref b49, .ref b50, .int b51, .ref b52, .ref b53, .ref b54])), (b7, .inl (G.2 3, 240, .inl b55)), (b13, .inl (G.2 0, 12, .inl f_18)), (b14, .inl (G.2 0, 12, .inl f_19))] H := hP
              have hD := z_tie hP hD rfl
              obtain ⟨v_128, ev_128⟩ : ∃ z : Int32, z = y_79 + 1 := ⟨_, rfl⟩
              obtain ⟨qv_128, hv_128⟩ := zI_add (l := 1) (h := 12) hv_91 zc_1 ev_128 (by decide)
              rw [li_1] at qv_128
              refine lv_iinc (v := v_128) (lv' := [(2, .int v_128), (1, .int v_9), (0, .ref b0)]) hx hb d_Model_readTrace_124 hl (k := 0) rfl (by rw [ev_128]; rfl) (by decide) rfl (fun ls hl => ?_)
              refine lv_goto (tgt := 53) hx hb d_Model_readTrace_127 (by decide) ?_
              exact ihk_78 (v_128) (f_127) _ _ _ (zI.wk (l' := 0) (h' := 12) hv_128 (by decide)) hf_127 (by have p0_ := z_pl zc_0 (by decide); have _l0 := li_0; have p1_ := z_pl hv_118 (by decide); have p2_ := z_pl hv_94 (by decide); rw [uf_127, z_at, if_neg (by omega)]; rw [uf_115, z_at, if_neg (by omega)]; exact hli_81) (zDr_s hli_82 uf_115 uf_127 (by omega) (by omega) ⟨by omega, by omega⟩ ⟨by omega, by omega⟩ (fun h9 => by rw [ev_114, z_plf hv_91 (by decide)]) (fun h9 => by rw [ev_126, z_plf hv_91 (by decide)]) (by omega)) (zm_up qv_128 hmk_78 (by decide)) hP hD hS (lv_sub hl [0, 1, 2] rfl)
  · have _nhc_10 := hc_10
    have ni_129 := (fa_eq _ _).mp hc_10
    rw [li_20] at ni_129
    have hv_130 : zI v_9 20 20 := zI.eq_l hv_9 zc_20 hc_10
    refine lv_aload_n hx hb d_Model_readTrace_16 rfl (lv_at hl 0 rfl) ?_
    refine z_callV (index := 169) (As := []) (rest := []) (wr := [(b12, .inl (G.2 0, 503, .inl b56)), (b13, .inl (G.2 0, 12, .inl b57)), (b14, .inl (G.2 0, 12, .inl b58)), (b7, .inl (G.2 3, 240, .inl b55))]) Z (s2_Model_wrong l G (b0) (b1) (b2) (b3) (b4) (b5) (b6) (b7) (b8) (x_3) (b10) (b11) (b12) (b13) (b14) (b15) (b16) (b17) (b18) (b19) (b20) (b21) (b22) (b23) (b24) (b25) (b26) (b27) (b28) (b29) (b30) (b31) (b32) (b33) (b34) (b35) (b36) (b37) (b38) (b39) (b40) (b41) (b42) (b43) (b44) (b45) (b46) (b47) (b48) (b49) (b50) (b51) (b52) (b53) (b54) hb6 hb8 hx_3 hb11 hb15 hb28 hb31 hb42 hb45 hb51) hl.1 q1296 q1298 qs46 q14 q1299 ⟨by decide, by decide, by show _ = some 0; decide +kernel⟩ ⟨Nat.le_of_ble_eq_true rfl, Nat.le_of_ble_eq_true rfl⟩ ⟨Nat.le_of_ble_eq_true rfl, Nat.le_of_ble_eq_true rfl⟩ rfl (Nat.le_of_ble_eq_true rfl) d_Model_readTrace_17 hP hD hS hA 3 12 rfl rfl rfl [3] [0, 1, 2, 4] rfl rfl rfl rfl (by decide) (fun v w1 H locs hw_131 hP hD hS => ?_)
    obtain ⟨x_132, rfl, rfl, hfx_133, hfx_134⟩ := hw_131
    have hP : va_P G.1 classes [(b12, .inl (G.2 0, 503, .inl b56)), (b13, .inl (G.2 0, 12, .inl b57)), (b14, .inl (G.2 0, 12, .inl b58)), (b7, .inl (G.2 3, 240, .inl b55)), (b0, .inr (12, [.int b1, .ref b2, .ref b3, .ref b4, .ref b5, .int b6, .ref b7, .int b8, .int x_3, .int x_132, .int 0, .ref b12, .ref b13, .ref b14, .int b15, .ref b16, .ref b17, .ref b18, .ref b19, .ref b20, .ref b21, .ref b22, .ref b23, .ref b24, .ref b25, .ref b26, .ref b27, .int b28, .ref b29, .ref b30, .int b31, .int b32, .int b33, .int b34, .ref b35, .ref b36, .ref b37, .ref b38, .ref b39, .ref b40, .ref b41, .int b42, .ref b43, .ref b44, .int b45, .ref b46, .ref b47, .ref b48, .ref b49, .ref b50, .int b51, .ref b52, .ref b53, .ref b54]))] H := hP
    have hD := z_tie hP hD rfl
    refine W.widen (k := 0) (n := 0) (Nat.le_of_ble_eq_true rfl) (Nat.le_of_ble_eq_true rfl) ?_
    exact z_vret hx hb hr hlocks (hP.sub [4, 3, 0, 1, 2] rfl) (hD.sub [4, 3, 0, 1, 2] (by decide) rfl) hS (Nat.le_of_ble_eq_true rfl) (Nat.le_of_ble_eq_true rfl) d_Model_readTrace_20 ⟨x_3, x_132, 0, b15, b56, b57, b58, rfl, rfl, hx_3, (zI.wk (l' := 0) (h' := 1) zc_0 (by decide)), hb15, hb56, hb57, (by omega), (fun si R0 R h1 hE h3 h4 => Or.inr ⟨li_0, zA_full (zA_to (p' := x_3.toInt) h1 ⟨by omega, by omega, by omega⟩ hfx_6) (by omega) (by have e9 := congrArg Int32.toInt ev_9; rw [z_n0] at e9; have e8 := congrArg Int32.toInt hE.1; omega) (fun h8 => by have a2 := hfx_7; omega) (by have a3 := hfx_133 (by omega); rw [a3])⟩)⟩
abbrev m_s2_Model_endsReading : Room := { frames := 1, cells := 0, slots := 0, locals := 20 }
set_option maxHeartbeats 4000000 in
set_option maxRecDepth 100000 in
theorem s2_Model_endsReading (l : Launch) (G : zG) (b0 : Nat) (b1 : Int32) (b2 : Nat) (b3 : Nat) (b4 : Nat) (b5 : Nat) (b6 : Int32) (b7 : Nat) (b8 : Int32) (b9 : Int32) (b10 : Int32) (b11 : Int32) (b12 : Nat) (b13 : Nat) (b14 : Nat) (b15 : Int32) (b16 : Nat) (b17 : Nat) (b18 : Nat) (b19 : Nat) (b20 : Nat) (b21 : Nat) (b22 : Nat) (b23 : Nat) (b24 : Nat) (b25 : Nat) (b26 : Nat) (b27 : Nat) (b28 : Int32) (b29 : Nat) (b30 : Nat) (b31 : Int32) (b32 : Int32) (b33 : Int32) (b34 : Int32) (b35 : Nat) (b36 : Nat) (b37 : Nat) (b38 : Nat) (b39 : Nat) (b40 : Nat) (b41 : Nat) (b42 : Int32) (b43 : Nat) (b44 : Nat) (b45 : Int32) (b46 : Nat) (b47 : Nat) (b48 : Nat) (b49 : Nat) (b50 : Nat) (b51 : Int32) (b52 : Nat) (b53 : Nat) (b54 : Nat) (b55 : Nat → Int32) (hb6 : zI b6 0 8) (hb8 : zI b8 0 240) (hb9 : zI b9 0 240) (hb11 : zI b11 0 1) (hb15 : zI b15 0 12) (hb28 : zI b28 0 1) (hb31 : zI b31 0 1) (hb42 : zI b42 0 1000) (hb45 : zI b45 0 1000) (hb51 : zI b51 0 400) : zM l G y_Model_endsReading prog_14_method_17_code 1 (Option.none : Option Jvm.ClassFile.FieldType) m_s2_Model_endsReading [.ref b0] [(b0, .inr (12, [.int b1, .ref b2, .ref b3, .ref b4, .ref b5, .int b6, .ref b7, .int b8, .int b9, .int b10, .int b11, .ref b12, .ref b13, .ref b14, .int b15, .ref b16, .ref b17, .ref b18, .ref b19, .ref b20, .ref b21, .ref b22, .ref b23, .ref b24, .ref b25, .ref b26, .ref b27, .int b28, .ref b29, .ref b30, .int b31, .int b32, .int b33, .int b34, .ref b35, .ref b36, .ref b37, .ref b38, .ref b39, .ref b40, .ref b41, .int b42, .ref b43, .ref b44, .int b45, .ref b46, .ref b47, .ref b48, .ref b49, .ref b50, .int b51, .ref b52, .ref b53, .ref b54])), (b7, .inl (G.2 3, 240, .inl b55))] (fun v w => ∃ (e0 : Int32), ∃ (e1 : Int32), ∃ (e2 : Int32), v = none ∧ w = [(b0, .inr (12, [.int b1, .ref b2, .ref b3, .ref b4, .ref b5, .int b6, .ref b7, .int 0, .int e0, .int e1, .int e2, .ref b12, .ref b13, .ref b14, .int b15, .ref b16, .ref b17, .ref b18, .ref b19, .ref b20, .ref b21, .ref b22, .ref b23, .ref b24, .ref b25, .ref b26, .ref b27, .int b28, .ref b29, .ref b30, .int b31, .int b32, .int b33, .int b34, .ref b35, .ref b36, .ref b37, .ref b38, .ref b39, .ref b40, .ref b41, .int b42, .ref b43, .ref b44, .int b45, .ref b46, .ref b47, .ref b48, .ref b49, .ref b50, .int b51, .ref b52, .ref b53, .ref b54])), (b7, .inl (G.2 3, 240, .inl b55))] ∧ (zI e0 0 240) ∧ (zI e2 0 1) ∧ ((b11 : Int32).toInt = 1 → ((b9 : Int32).toInt < (b8 : Int32).toInt → ¬ ((b55 (b9 : Int32).toInt.toNat)).toInt = 32) → ((b9 : Int32).toInt < (b8 : Int32).toInt → (e2 : Int32).toInt = 0 ∧ (e1 : Int32).toInt = (b9 : Int32).toInt) ∧ (¬ (b9 : Int32).toInt < (b8 : Int32).toInt → (e2 : Int32).toInt = 1)) ∧ ((b11 : Int32).toInt = 0 → (e2 : Int32).toInt = 0 ∧ e1 = b10)) := by
  refine z_start (by decide +kernel) (Nat.le_of_ble_eq_true rfl) ?_
  intro p e s m below meth c A Z hr hnm hA hP hD hS ls hl
  have Z : zC p s m _ meth c prog_14_method_17_code 1 "TraceMachinesModel" G := Z
  obtain ⟨hx, hb, hml, hown, hts, hK, hN, hlocks⟩ := id Z
  have hl : lv_has ls 1 [(0, .ref b0)] := hl
  refine lv_aload_n hx hb d_Model_endsReading_0 rfl (lv_at hl 0 rfl) ?_
  refine va_get (D := G.1) (ci := 12) (v := .int b11) (C := R_Model) (T := F_Model) (N := 54) hx hb hts i_Model hown hK hP 0 rfl rfl 10 (by decide) (hts _ q1119) (fun _ h9 => h9) rfl d_Model_endsReading_1 ?_
  refine lv_if_eq (tgt := 29) hx hb d_Model_endsReading_4 (by decide) (fun hc_1 => ?_) (fun hc_1 => ?_)
  · have _nhc_1 := hc_1
    have ni_2 := (fa_eq _ _).mp hc_1
    rw [li_0] at ni_2
    have hv_3 : zI b11 0 0 := zI.eq_l hb11 zc_0 hc_1
    refine lv_aload_n hx hb d_Model_endsReading_29 rfl (lv_at hl 0 rfl) ?_
    refine lv_iconst (v := 0) hx hb d_Model_endsReading_30 (by decide) ?_
    refine va_put (D := G.1) (ci := 12) (v := .int 0) (ty := .int) (C := R_Model) (T := F_Model) (N := 54) hx hb hts i_Model t_Model t_Model_ok n_Model hown hK hP hD hS 0 rfl rfl 7 (by decide) (hts _ q1116) (fun _ h9 => h9) rfl (by decide +kernel) rfl rfl (Nat.le_of_ble_eq_true rfl) d_Model_endsReading_31 (fun H locs hP hD hS => ?_)
    have hP : va_P G.1 classes [(b0, .inr (12, [.int b1, .ref b2, .ref b3, .ref b4, .ref b5, .int b6, .ref b7, .int 0, .int b9, .int b10, .int b11, .ref b12, .ref b13, .ref b14, .int b15, .ref b16, .ref b17, .ref b18, .ref b19, .ref b20, .ref b21, .ref b22, .ref b23, .ref b24, .ref b25, .ref b26, .ref b27, .int b28, .ref b29, .ref b30, .int b31, .int b32, .int b33, .int b34, .ref b35, .ref b36, .ref b37, .ref b38, .ref b39, .ref b40, .ref b41, .int b42, .ref b43, .ref b44, .int b45, .ref b46, .ref b47, .ref b48, .ref b49, .ref b50, .int b51, .ref b52, .ref b53, .ref b54])), (b7, .inl (G.2 3, 240, .inl b55))] H := hP
    have hD := z_tie hP hD rfl
    exact z_vret hx hb hr hlocks hP hD hS (Nat.le_of_ble_eq_true rfl) (Nat.le_of_ble_eq_true rfl) d_Model_endsReading_34 ⟨b9, b10, b11, rfl, rfl, hb9, (zI.wk (l' := 0) (h' := 1) hv_3 (by decide)), (fun h9 => by exfalso; omega), (fun h9 => ⟨h9, rfl⟩)⟩
  · have _nhc_1 := hc_1
    have ni_4 : ¬ (b11 : Int32).toInt = (0 : Int32).toInt := fun z => hc_1 ((fa_eq _ _).mpr z)
    simp only [li_0] at ni_4
    have hv_5 : zI b11 1 1 := zI.ne_lo hb11 zc_0 hc_1 (by decide)
    refine lv_aload_n hx hb d_Model_endsReading_7 rfl (lv_at hl 0 rfl) ?_
    refine z_callV (index := 162) (As := []) (rest := []) (wr := []) Z (s2_Model_next l G (b0) (b1) (b2) (b3) (b4) (b5) (b6) (b7) (b8) (b9) (b10) (b11) (b12) (b13) (b14) (b15) (b16) (b17) (b18) (b19) (b20) (b21) (b22) (b23) (b24) (b25) (b26) (b27) (b28) (b29) (b30) (b31) (b32) (b33) (b34) (b35) (b36) (b37) (b38) (b39) (b40) (b41) (b42) (b43) (b44) (b45) (b46) (b47) (b48) (b49) (b50) (b51) (b52) (b53) (b54) (b55) hb6 hb8 hb9 (zI.wk (l' := 0) (h' := 1) hv_5 (by decide)) hb15 hb28 hb31 hb42 hb45 hb51) hl.1 q1292 q1294 qs45 q14 q1295 ⟨by decide, by decide, by show _ = some 0; decide +kernel⟩ ⟨Nat.le_of_ble_eq_true rfl, Nat.le_of_ble_eq_true rfl⟩ ⟨Nat.le_of_ble_eq_true rfl, Nat.le_of_ble_eq_true rfl⟩ rfl (Nat.le_of_ble_eq_true rfl) d_Model_endsReading_8 hP hD hS hA 0 12 rfl rfl rfl [0, 1] [] rfl rfl rfl rfl (by decide) (fun v w1 H locs hw_6 hP hD hS => ?_)
    obtain ⟨x_7, x_8, rfl, rfl, hx_8, hfx_9, hfx_10, hfx_11, hfx_12, hfx_13⟩ := hw_6
    have hP : va_P G.1 classes [(b0, .inr (12, [.int b1, .ref b2, .ref b3, .ref b4, .ref b5, .int b6, .ref b7, .int b8, .int x_8, .int b10, .int b11, .ref b12, .ref b13, .ref b14, .int b15, .ref b16, .ref b17, .ref b18, .ref b19, .ref b20, .ref b21, .ref b22, .ref b23, .ref b24, .ref b25, .ref b26, .ref b27, .int b28, .ref b29, .ref b30, .int b31, .int b32, .int b33, .int b34, .ref b35, .ref b36, .ref b37, .ref b38, .ref b39, .ref b40, .ref b41, .int b42, .ref b43, .ref b44, .int b45, .ref b46, .ref b47, .ref b48, .ref b49, .ref b50, .int b51, .ref b52, .ref b53, .ref b54])), (b7, .inl (G.2 3, 240, .inl b55))] H := hP
    have hD := z_tie hP hD rfl
    refine W.widen (k := 0) (n := 0) (Nat.le_of_ble_eq_true rfl) (Nat.le_of_ble_eq_true rfl) ?_
    refine lv_if_ne (tgt := 25) hx hb d_Model_endsReading_11 (by decide) (fun hc_14 => ?_) (fun hc_14 => ?_)
    · have _nhc_14 := hc_14
      have ni_15 : ¬ (x_7 : Int32).toInt = (0 : Int32).toInt := fun z => hc_14 ((fa_eq _ _).mpr z)
      simp only [li_0] at ni_15
      refine lv_aload_n hx hb d_Model_endsReading_25 rfl (lv_at hl 0 rfl) ?_
      refine z_callV (index := 169) (As := []) (rest := []) (wr := [(b7, .inl (G.2 3, 240, .inl b55))]) Z (s2_Model_wrong l G (b0) (b1) (b2) (b3) (b4) (b5) (b6) (b7) (b8) (x_8) (b10) (b11) (b12) (b13) (b14) (b15) (b16) (b17) (b18) (b19) (b20) (b21) (b22) (b23) (b24) (b25) (b26) (b27) (b28) (b29) (b30) (b31) (b32) (b33) (b34) (b35) (b36) (b37) (b38) (b39) (b40) (b41) (b42) (b43) (b44) (b45) (b46) (b47) (b48) (b49) (b50) (b51) (b52) (b53) (b54) hb6 hb8 hx_8 (zI.wk (l' := 0) (h' := 1) hv_5 (by decide)) hb15 hb28 hb31 hb42 hb45 hb51) hl.1 q1296 q1298 qs46 q14 q1299 ⟨by decide, by decide, by show _ = some 0; decide +kernel⟩ ⟨Nat.le_of_ble_eq_true rfl, Nat.le_of_ble_eq_true rfl⟩ ⟨Nat.le_of_ble_eq_true rfl, Nat.le_of_ble_eq_true rfl⟩ rfl (Nat.le_of_ble_eq_true rfl) d_Model_endsReading_26 hP hD hS hA 0 12 rfl rfl rfl [0] [1] rfl rfl rfl rfl (by decide) (fun v w1 H locs hw_16 hP hD hS => ?_)
      obtain ⟨x_17, rfl, rfl, hfx_18, hfx_19⟩ := hw_16
      have hP : va_P G.1 classes [(b7, .inl (G.2 3, 240, .inl b55)), (b0, .inr (12, [.int b1, .ref b2, .ref b3, .ref b4, .ref b5, .int b6, .ref b7, .int b8, .int x_8, .int x_17, .int 0, .ref b12, .ref b13, .ref b14, .int b15, .ref b16, .ref b17, .ref b18, .ref b19, .ref b20, .ref b21, .ref b22, .ref b23, .ref b24, .ref b25, .ref b26, .ref b27, .int b28, .ref b29, .ref b30, .int b31, .int b32, .int b33, .int b34, .ref b35, .ref b36, .ref b37, .ref b38, .ref b39, .ref b40, .ref b41, .int b42, .ref b43, .ref b44, .int b45, .ref b46, .ref b47, .ref b48, .ref b49, .ref b50, .int b51, .ref b52, .ref b53, .ref b54]))] H := hP
      have hD := z_tie hP hD rfl
      refine W.widen (k := 0) (n := 0) (Nat.le_of_ble_eq_true rfl) (Nat.le_of_ble_eq_true rfl) ?_
      refine lv_aload_n hx hb d_Model_endsReading_29 rfl (lv_at hl 0 rfl) ?_
      refine lv_iconst (v := 0) hx hb d_Model_endsReading_30 (by decide) ?_
      refine va_put (D := G.1) (ci := 12) (v := .int 0) (ty := .int) (C := R_Model) (T := F_Model) (N := 54) hx hb hts i_Model t_Model t_Model_ok n_Model hown hK hP hD hS 1 rfl rfl 7 (by decide) (hts _ q1116) (fun _ h9 => h9) rfl (by decide +kernel) rfl rfl (Nat.le_of_ble_eq_true rfl) d_Model_endsReading_31 (fun H locs hP hD hS => ?_)
      have hP : va_P G.1 classes [(b7, .inl (G.2 3, 240, .inl b55)), (b0, .inr (12, [.int b1, .ref b2, .ref b3, .ref b4, .ref b5, .int b6, .ref b7, .int 0, .int x_8, .int x_17, .int 0, .ref b12, .ref b13, .ref b14, .int b15, .ref b16, .ref b17, .ref b18, .ref b19, .ref b20, .ref b21, .ref b22, .ref b23, .ref b24, .ref b25, .ref b26, .ref b27, .int b28, .ref b29, .ref b30, .int b31, .int b32, .int b33, .int b34, .ref b35, .ref b36, .ref b37, .ref b38, .ref b39, .ref b40, .ref b41, .int b42, .ref b43, .ref b44, .int b45, .ref b46, .ref b47, .ref b48, .ref b49, .ref b50, .int b51, .ref b52, .ref b53, .ref b54]))] H := hP
      have hD := z_tie hP hD rfl
      exact z_vret hx hb hr hlocks (hP.sub [1, 0] rfl) (hD.sub [1, 0] (by decide) rfl) hS (Nat.le_of_ble_eq_true rfl) (Nat.le_of_ble_eq_true rfl) d_Model_endsReading_34 ⟨x_8, x_17, 0, rfl, rfl, hx_8, (zI.wk (l' := 0) (h' := 1) zc_0 (by decide)), (fun h9 h8 => by have a5 : x_8.toInt = b9.toInt := (by rcases Decidable.em (b9.toInt < x_8.toInt) with h6 | h6; (exfalso; have a4 := hfx_11 b9.toInt.toNat (by omega) (by omega); exact h8 (by omega) a4); omega); have a2 := hfx_12; have a3 := hfx_18 (by omega); exact ⟨fun h7 => ⟨li_0, by rw [a3]; exact a5⟩, fun h7 => by exfalso; omega⟩), (fun h9 => by exfalso; omega)⟩
    · have _nhc_14 := hc_14
      have ni_20 := (fa_eq _ _).mp hc_14
      rw [li_0] at ni_20
      have hv_21 : zI x_7 0 0 := zI.eq_l (zI_all x_7) zc_0 hc_14
      refine lv_aload_n hx hb d_Model_endsReading_14 rfl (lv_at hl 0 rfl) ?_
      refine va_get (D := G.1) (ci := 12) (v := .int x_8) (C := R_Model) (T := F_Model) (N := 54) hx hb hts i_Model hown hK hP 0 rfl rfl 8 (by decide) (hts _ q1117) (fun _ h9 => h9) rfl d_Model_endsReading_15 ?_
      refine lv_aload_n hx hb d_Model_endsReading_18 rfl (lv_at hl 0 rfl) ?_
      refine va_get (D := G.1) (ci := 12) (v := .int b8) (C := R_Model) (T := F_Model) (N := 54) hx hb hts i_Model hown hK hP 0 rfl rfl 7 (by decide) (hts _ q1116) (fun _ h9 => h9) rfl d_Model_endsReading_19 ?_
      refine lv_icmp_ge (tgt := 29) hx hb d_Model_endsReading_22 (by decide) (fun hc_22 => ?_) (fun hc_22 => ?_)
      · have _nhc_22 := hc_22
        have ni_23 := (fa_le _ _).mp hc_22
        refine lv_aload_n hx hb d_Model_endsReading_29 rfl (lv_at hl 0 rfl) ?_
        refine lv_iconst (v := 0) hx hb d_Model_endsReading_30 (by decide) ?_
        refine va_put (D := G.1) (ci := 12) (v := .int 0) (ty := .int) (C := R_Model) (T := F_Model) (N := 54) hx hb hts i_Model t_Model t_Model_ok n_Model hown hK hP hD hS 0 rfl rfl 7 (by decide) (hts _ q1116) (fun _ h9 => h9) rfl (by decide +kernel) rfl rfl (Nat.le_of_ble_eq_true rfl) d_Model_endsReading_31 (fun H locs hP hD hS => ?_)
        have hP : va_P G.1 classes [(b0, .inr (12, [.int b1, .ref b2, .ref b3, .ref b4, .ref b5, .int b6, .ref b7, .int 0, .int x_8, .int b10, .int b11, .ref b12, .ref b13, .ref b14, .int b15, .ref b16, .ref b17, .ref b18, .ref b19, .ref b20, .ref b21, .ref b22, .ref b23, .ref b24, .ref b25, .ref b26, .ref b27, .int b28, .ref b29, .ref b30, .int b31, .int b32, .int b33, .int b34, .ref b35, .ref b36, .ref b37, .ref b38, .ref b39, .ref b40, .ref b41, .int b42, .ref b43, .ref b44, .int b45, .ref b46, .ref b47, .ref b48, .ref b49, .ref b50, .int b51, .ref b52, .ref b53, .ref b54])), (b7, .inl (G.2 3, 240, .inl b55))] H := hP
        have hD := z_tie hP hD rfl
        exact z_vret hx hb hr hlocks hP hD hS (Nat.le_of_ble_eq_true rfl) (Nat.le_of_ble_eq_true rfl) d_Model_endsReading_34 ⟨x_8, b10, b11, rfl, rfl, hx_8, (zI.wk (l' := 0) (h' := 1) hv_5 (by decide)), (fun h9 h8 => by have a5 : x_8.toInt = b9.toInt := (by rcases Decidable.em (b9.toInt < x_8.toInt) with h6 | h6; (exfalso; have a4 := hfx_11 b9.toInt.toNat (by omega) (by omega); exact h8 (by omega) a4); omega); have a2 := hfx_12; exact ⟨fun h7 => by exfalso; omega, fun h7 => by omega⟩), (fun h9 => by exfalso; omega)⟩
      · have _nhc_22 := hc_22
        have ni_24 := (fa_lt _ _).mp (zi_nle hc_22)
        have hv_25 : zI x_8 0 239 := zI.lt_l hx_8 hb8 (zi_nle hc_22) (by decide)
        have hv_26 : zI b8 1 240 := zI.lt_r hx_8 hb8 (zi_nle hc_22) (by decide)
        refine lv_aload_n hx hb d_Model_endsReading_25 rfl (lv_at hl 0 rfl) ?_
        refine z_callV (index := 169) (As := []) (rest := []) (wr := [(b7, .inl (G.2 3, 240, .inl b55))]) Z (s2_Model_wrong l G (b0) (b1) (b2) (b3) (b4) (b5) (b6) (b7) (b8) (x_8) (b10) (b11) (b12) (b13) (b14) (b15) (b16) (b17) (b18) (b19) (b20) (b21) (b22) (b23) (b24) (b25) (b26) (b27) (b28) (b29) (b30) (b31) (b32) (b33) (b34) (b35) (b36) (b37) (b38) (b39) (b40) (b41) (b42) (b43) (b44) (b45) (b46) (b47) (b48) (b49) (b50) (b51) (b52) (b53) (b54) hb6 (zI.wk (l' := 0) (h' := 240) hv_26 (by decide)) (zI.wk (l' := 0) (h' := 240) hv_25 (by decide)) (zI.wk (l' := 0) (h' := 1) hv_5 (by decide)) hb15 hb28 hb31 hb42 hb45 hb51) hl.1 q1296 q1298 qs46 q14 q1299 ⟨by decide, by decide, by show _ = some 0; decide +kernel⟩ ⟨Nat.le_of_ble_eq_true rfl, Nat.le_of_ble_eq_true rfl⟩ ⟨Nat.le_of_ble_eq_true rfl, Nat.le_of_ble_eq_true rfl⟩ rfl (Nat.le_of_ble_eq_true rfl) d_Model_endsReading_26 hP hD hS hA 0 12 rfl rfl rfl [0] [1] rfl rfl rfl rfl (by decide) (fun v w1 H locs hw_27 hP hD hS => ?_)
        obtain ⟨x_28, rfl, rfl, hfx_29, hfx_30⟩ := hw_27
        have hP : va_P G.1 classes [(b7, .inl (G.2 3, 240, .inl b55)), (b0, .inr (12, [.int b1, .ref b2, .ref b3, .ref b4, .ref b5, .int b6, .ref b7, .int b8, .int x_8, .int x_28, .int 0, .ref b12, .ref b13, .ref b14, .int b15, .ref b16, .ref b17, .ref b18, .ref b19, .ref b20, .ref b21, .ref b22, .ref b23, .ref b24, .ref b25, .ref b26, .ref b27, .int b28, .ref b29, .ref b30, .int b31, .int b32, .int b33, .int b34, .ref b35, .ref b36, .ref b37, .ref b38, .ref b39, .ref b40, .ref b41, .int b42, .ref b43, .ref b44, .int b45, .ref b46, .ref b47, .ref b48, .ref b49, .ref b50, .int b51, .ref b52, .ref b53, .ref b54]))] H := hP
        have hD := z_tie hP hD rfl
        refine W.widen (k := 0) (n := 0) (Nat.le_of_ble_eq_true rfl) (Nat.le_of_ble_eq_true rfl) ?_
        refine lv_aload_n hx hb d_Model_endsReading_29 rfl (lv_at hl 0 rfl) ?_
        refine lv_iconst (v := 0) hx hb d_Model_endsReading_30 (by decide) ?_
        refine va_put (D := G.1) (ci := 12) (v := .int 0) (ty := .int) (C := R_Model) (T := F_Model) (N := 54) hx hb hts i_Model t_Model t_Model_ok n_Model hown hK hP hD hS 1 rfl rfl 7 (by decide) (hts _ q1116) (fun _ h9 => h9) rfl (by decide +kernel) rfl rfl (Nat.le_of_ble_eq_true rfl) d_Model_endsReading_31 (fun H locs hP hD hS => ?_)
        have hP : va_P G.1 classes [(b7, .inl (G.2 3, 240, .inl b55)), (b0, .inr (12, [.int b1, .ref b2, .ref b3, .ref b4, .ref b5, .int b6, .ref b7, .int 0, .int x_8, .int x_28, .int 0, .ref b12, .ref b13, .ref b14, .int b15, .ref b16, .ref b17, .ref b18, .ref b19, .ref b20, .ref b21, .ref b22, .ref b23, .ref b24, .ref b25, .ref b26, .ref b27, .int b28, .ref b29, .ref b30, .int b31, .int b32, .int b33, .int b34, .ref b35, .ref b36, .ref b37, .ref b38, .ref b39, .ref b40, .ref b41, .int b42, .ref b43, .ref b44, .int b45, .ref b46, .ref b47, .ref b48, .ref b49, .ref b50, .int b51, .ref b52, .ref b53, .ref b54]))] H := hP
        have hD := z_tie hP hD rfl
        exact z_vret hx hb hr hlocks (hP.sub [1, 0] rfl) (hD.sub [1, 0] (by decide) rfl) hS (Nat.le_of_ble_eq_true rfl) (Nat.le_of_ble_eq_true rfl) d_Model_endsReading_34 ⟨x_8, x_28, 0, rfl, rfl, (zI.wk (l' := 0) (h' := 240) hv_25 (by decide)), (zI.wk (l' := 0) (h' := 1) zc_0 (by decide)), (fun h9 h8 => by have a5 : x_8.toInt = b9.toInt := (by rcases Decidable.em (b9.toInt < x_8.toInt) with h6 | h6; (exfalso; have a4 := hfx_11 b9.toInt.toNat (by omega) (by omega); exact h8 (by omega) a4); omega); have a2 := hfx_12; have a3 := hfx_29 (by omega); exact ⟨fun h7 => ⟨li_0, by rw [a3]; exact a5⟩, fun h7 => by exfalso; omega⟩), (fun h9 => by exfalso; omega)⟩
abbrev m_s2_Model_remember : Room := { frames := 0, cells := 0, slots := 0, locals := 0 }
set_option maxHeartbeats 4000000 in
set_option maxRecDepth 100000 in
theorem s2_Model_remember (l : Launch) (G : zG) (b0 : Nat) (b1 : Int32) (b2 : Nat) (b3 : Nat) (b4 : Nat) (b5 : Nat) (b6 : Int32) (b7 : Nat) (b8 : Int32) (b9 : Int32) (b10 : Int32) (b11 : Int32) (b12 : Nat) (b13 : Nat) (b14 : Nat) (b15 : Int32) (b16 : Nat) (b17 : Nat) (b18 : Nat) (b19 : Nat) (b20 : Nat) (b21 : Nat) (b22 : Nat) (b23 : Nat) (b24 : Nat) (b25 : Nat) (b26 : Nat) (b27 : Nat) (b28 : Int32) (b29 : Nat) (b30 : Nat) (b31 : Int32) (b32 : Int32) (b33 : Int32) (b34 : Int32) (b35 : Nat) (b36 : Nat) (b37 : Nat) (b38 : Nat) (b39 : Nat) (b40 : Nat) (b41 : Nat) (b42 : Int32) (b43 : Nat) (b44 : Nat) (b45 : Int32) (b46 : Nat) (b47 : Nat) (b48 : Nat) (b49 : Nat) (b50 : Nat) (b51 : Int32) (b52 : Nat) (b53 : Nat) (b54 : Nat) (b55 : Nat → Int32) (b56 : Nat → Int32) (hb6 : zI b6 0 8) (hb8 : zI b8 0 240) (hb9 : zI b9 0 240) (hb11 : zI b11 0 1) (hb15 : zI b15 0 12) (hb28 : zI b28 0 1) (hb31 : zI b31 0 1) (hb42 : zI b42 0 1000) (hb45 : zI b45 0 1000) (hb51 : zI b51 0 400) (hb55 : zW5 b55) (hb56 : zW5 b56) : zM l G y_Model_remember prog_14_method_16_code 2 (Option.none : Option Jvm.ClassFile.FieldType) m_s2_Model_remember [.ref b0] [(b0, .inr (12, [.int b1, .ref b2, .ref b3, .ref b4, .ref b5, .int b6, .ref b7, .int b8, .int b9, .int b10, .int b11, .ref b12, .ref b13, .ref b14, .int b15, .ref b16, .ref b17, .ref b18, .ref b19, .ref b20, .ref b21, .ref b22, .ref b23, .ref b24, .ref b25, .ref b26, .ref b27, .int b28, .ref b29, .ref b30, .int b31, .int b32, .int b33, .int b34, .ref b35, .ref b36, .ref b37, .ref b38, .ref b39, .ref b40, .ref b41, .int b42, .ref b43, .ref b44, .int b45, .ref b46, .ref b47, .ref b48, .ref b49, .ref b50, .int b51, .ref b52, .ref b53, .ref b54])), (b2, .inl (G.2 0, 503, .inl b55)), (b5, .inl (G.2 0, 4024, .inl b56))] (fun v w => ∃ (e0 : Int32), ∃ (e1 : Nat → Int32), v = none ∧ w = [(b0, .inr (12, [.int b1, .ref b2, .ref b3, .ref b4, .ref b5, .int e0, .ref b7, .int b8, .int b9, .int b10, .int b11, .ref b12, .ref b13, .ref b14, .int b15, .ref b16, .ref b17, .ref b18, .ref b19, .ref b20, .ref b21, .ref b22, .ref b23, .ref b24, .ref b25, .ref b26, .ref b27, .int b28, .ref b29, .ref b30, .int b31, .int b32, .int b33, .int b34, .ref b35, .ref b36, .ref b37, .ref b38, .ref b39, .ref b40, .ref b41, .int b42, .ref b43, .ref b44, .int b45, .ref b46, .ref b47, .ref b48, .ref b49, .ref b50, .int b51, .ref b52, .ref b53, .ref b54])), (b2, .inl (G.2 0, 503, .inl b55)), (b5, .inl (G.2 0, 4024, .inl e1))] ∧ (zI e0 0 8) ∧ (zW5 e1) ∧ (zRem b55 b56 (b6 : Int32).toInt e1 (e0 : Int32).toInt)) := by
  refine z_start (by decide +kernel) (Nat.le_of_ble_eq_true rfl) ?_
  intro p e s m below meth c A Z hr hnm hA hP hD hS ls hl
  have Z : zC p s m _ meth c prog_14_method_16_code 2 "TraceMachinesModel" G := Z
  obtain ⟨hx, hb, hml, hown, hts, hK, hN, hlocks⟩ := id Z
  have hl : lv_has ls 2 [(0, .ref b0)] := hl
  refine lv_aload_n hx hb d_Model_remember_0 rfl (lv_at hl 0 rfl) ?_
  refine va_get (D := G.1) (ci := 12) (v := .int b6) (C := R_Model) (T := F_Model) (N := 54) hx hb hts i_Model hown hK hP 0 rfl rfl 5 (by decide) (hts _ q1114) (fun _ h9 => h9) rfl d_Model_remember_1 ?_
  refine lv_bipush (v := 8) hx hb d_Model_remember_4 (by decide) ?_
  refine lv_icmp_ne (tgt := 55) hx hb d_Model_remember_6 (by decide) (fun hc_1 => ?_) (fun hc_1 => ?_)
  · have _nhc_1 := hc_1
    have ni_2 : ¬ (b6 : Int32).toInt = (8 : Int32).toInt := fun z => hc_1 ((fa_eq _ _).mpr z)
    simp only [li_8] at ni_2
    have hv_3 : zI b6 0 7 := zI.ne_hi hb6 zc_8 hc_1 (by decide)
    refine lv_iconst (v := 0) hx hb d_Model_remember_55 (by decide) ?_
    refine lv_istore_n (lv' := [(1, .int 0), (0, .ref b0)]) hx hb d_Model_remember_56 rfl hl (by decide) rfl (fun ls hl => ?_)
    suffices key : ∀ (k_17 : Nat) (y_18 : Int32) (y_19 : Nat → Int32) (H : Heap) (locs : List Loc) (ls : Array Slot), (zI y_18 0 503) → (zW5 y_19) → (∀ j : Nat, (503 * (b6 : Int32).toInt ≤ (j : Int) → (j : Int) < 503 * (b6 : Int32).toInt + (y_18 : Int32).toInt → y_19 j = b55 (j - 503 * (b6 : Int32).toInt.toNat)) ∧ ((j : Int) < 503 * (b6 : Int32).toInt → y_19 j = b56 (j + if (b6 : Int32).toInt = 8 then 503 else 0))) → (503 : Int) - y_18.toInt < (k_17 : Int) → va_P G.1 classes [(b0, .inr (12, [.int b1, .ref b2, .ref b3, .ref b4, .ref b5, .int b6, .ref b7, .int b8, .int b9, .int b10, .int b11, .ref b12, .ref b13, .ref b14, .int b15, .ref b16, .ref b17, .ref b18, .ref b19, .ref b20, .ref b21, .ref b22, .ref b23, .ref b24, .ref b25, .ref b26, .ref b27, .int b28, .ref b29, .ref b30, .int b31, .int b32, .int b33, .int b34, .ref b35, .ref b36, .ref b37, .ref b38, .ref b39, .ref b40, .ref b41, .int b42, .ref b43, .ref b44, .int b45, .ref b46, .ref b47, .ref b48, .ref b49, .ref b50, .int b51, .ref b52, .ref b53, .ref b54])), (b2, .inl (G.2 0, 503, .inl b55)), (b5, .inl (G.2 0, 4024, .inl y_19))] H → va_D A [(b0, .inr (12, [.int b1, .ref b2, .ref b3, .ref b4, .ref b5, .int b6, .ref b7, .int b8, .int b9, .int b10, .int b11, .ref b12, .ref b13, .ref b14, .int b15, .ref b16, .ref b17, .ref b18, .ref b19, .ref b20, .ref b21, .ref b22, .ref b23, .ref b24, .ref b25, .ref b26, .ref b27, .int b28, .ref b29, .ref b30, .int b31, .int b32, .int b33, .int b34, .ref b35, .ref b36, .ref b37, .ref b38, .ref b39, .ref b40, .ref b41, .int b42, .ref b43, .ref b44, .int b45, .ref b46, .ref b47, .ref b48, .ref b49, .ref b50, .int b51, .ref b52, .ref b53, .ref b54])), (b2, .inl (G.2 0, 503, .inl b55)), (b5, .inl (G.2 0, 4024, .inl y_19))] → va_S A s.heap H locs → lv_has ls 2 [(1, .int y_18), (0, .ref b0)] → W p l e m_s2_Model_remember s m ([.ref b0] : List Value).toArray below meth c H locs 0 0 (MQ below (zQ G (fun v w => ∃ (e0 : Int32), ∃ (e1 : Nat → Int32), v = none ∧ w = [(b0, .inr (12, [.int b1, .ref b2, .ref b3, .ref b4, .ref b5, .int e0, .ref b7, .int b8, .int b9, .int b10, .int b11, .ref b12, .ref b13, .ref b14, .int b15, .ref b16, .ref b17, .ref b18, .ref b19, .ref b20, .ref b21, .ref b22, .ref b23, .ref b24, .ref b25, .ref b26, .ref b27, .int b28, .ref b29, .ref b30, .int b31, .int b32, .int b33, .int b34, .ref b35, .ref b36, .ref b37, .ref b38, .ref b39, .ref b40, .ref b41, .int b42, .ref b43, .ref b44, .int b45, .ref b46, .ref b47, .ref b48, .ref b49, .ref b50, .int b51, .ref b52, .ref b53, .ref b54])), (b2, .inl (G.2 0, 503, .inl b55)), (b5, .inl (G.2 0, 4024, .inl e1))] ∧ (zI e0 0 8) ∧ (zW5 e1) ∧ (zRem b55 b56 (b6 : Int32).toInt e1 (e0 : Int32).toInt)) A) ([.ref b0] : List Value).toArray s m_s2_Model_remember.cells m_s2_Model_remember.slots A) (F0 m 57 ls []) by
      exact key 504 (0) (b56) _ _ _ (zI.wk (l' := 0) (h' := 503) zc_0 (by decide)) hb56 (by have _l := li_0; intro j; refine ⟨fun h1 h2 => by exfalso; omega, fun h1 => ?_⟩; rw [if_neg (by omega)]; rfl) (zm_upi (zI.wk (l' := 0) (h' := 503) zc_0 (by decide)) (by decide)) hP hD hS (lv_sub hl [0, 1] rfl)
    intro k_17
    induction k_17 with
    | zero =>
      intro y_18 y_19 H locs ls hy_18 hy_19 hli_20 hmk_17 hP hD hS hl
      exact (zm_up0 hy_18 hmk_17).elim
    | succ k_17 ihk_17 =>
      intro y_18 y_19 H locs ls hy_18 hy_19 hli_20 hmk_17 hP hD hS hl
      refine lv_iload_n hx hb d_Model_remember_57 rfl (lv_at hl 0 rfl) ?_
      refine lv_sipush (v := 503) hx hb d_Model_remember_58 (by decide) ?_
      refine lv_icmp_ge (tgt := 91) hx hb d_Model_remember_61 (by decide) (fun hc_21 => ?_) (fun hc_21 => ?_)
      · have _nhc_21 := hc_21
        have ni_22 := (fa_le _ _).mp hc_21
        rw [li_503] at ni_22
        have hv_23 : zI y_18 503 503 := zI.le_r zc_503 hy_18 hc_21 (by decide)
        refine lv_aload_n hx hb d_Model_remember_91 rfl (lv_at hl 1 rfl) ?_
        refine lv_dup hx hb d_Model_remember_92 rfl ?_
        refine va_get (D := G.1) (ci := 12) (v := .int b6) (C := R_Model) (T := F_Model) (N := 54) hx hb hts i_Model hown hK hP 0 rfl rfl 5 (by decide) (hts _ q1114) (fun _ h9 => h9) rfl d_Model_remember_93 ?_
        refine lv_iconst (v := 1) hx hb d_Model_remember_96 (by decide) ?_
        refine lv_iadd hx hb d_Model_remember_97 ?_
        refine lv_topi (fun v_24 ev_24 => ?_)
        obtain ⟨qv_24, hv_24⟩ := zI_add (l := 1) (h := 8) hv_3 zc_1 ev_24 (by decide)
        rw [li_1] at qv_24
        refine va_put (D := G.1) (ci := 12) (v := .int v_24) (ty := .int) (C := R_Model) (T := F_Model) (N := 54) hx hb hts i_Model t_Model t_Model_ok n_Model hown hK hP hD hS 0 rfl rfl 5 (by decide) (hts _ q1114) (fun _ h9 => h9) rfl (by decide +kernel) rfl rfl (Nat.le_of_ble_eq_true rfl) d_Model_remember_98 (fun H locs hP hD hS => ?_)
        have hP : va_P G.1 classes [(b0, .inr (12, [.int b1, .ref b2, .ref b3, .ref b4, .ref b5, .int v_24, .ref b7, .int b8, .int b9, .int b10, .int b11, .ref b12, .ref b13, .ref b14, .int b15, .ref b16, .ref b17, .ref b18, .ref b19, .ref b20, .ref b21, .ref b22, .ref b23, .ref b24, .ref b25, .ref b26, .ref b27, .int b28, .ref b29, .ref b30, .int b31, .int b32, .int b33, .int b34, .ref b35, .ref b36, .ref b37, .ref b38, .ref b39, .ref b40, .ref b41, .int b42, .ref b43, .ref b44, .int b45, .ref b46, .ref b47, .ref b48, .ref b49, .ref b50, .int b51, .ref b52, .ref b53, .ref b54])), (b2, .inl (G.2 0, 503, .inl b55)), (b5, .inl (G.2 0, 4024, .inl y_19))] H := hP
        have hD := z_tie hP hD rfl
        exact z_vret hx hb hr hlocks hP hD hS (Nat.le_of_ble_eq_true rfl) (Nat.le_of_ble_eq_true rfl) d_Model_remember_101 ⟨v_24, y_19, rfl, rfl, (zI.wk (l' := 0) (h' := 8) hv_24 (by decide)), hy_19, (by refine ⟨by split <;> omega, fun j hj => ?_, fun j hj => ?_⟩; (rw [(hli_20 (503 * (v_24.toInt - 1).toNat + j)).1 (by omega) (by omega)]; congr 1; omega); exact (hli_20 j).2 (by omega))⟩
      · have _nhc_21 := hc_21
        have ni_25 := (fa_lt _ _).mp (zi_nle hc_21)
        rw [li_503] at ni_25
        have hv_26 : zI y_18 0 502 := zI.lt_l hy_18 zc_503 (zi_nle hc_21) (by decide)
        refine lv_aload_n hx hb d_Model_remember_64 rfl (lv_at hl 1 rfl) ?_
        refine va_get (D := G.1) (ci := 12) (v := .ref b5) (C := R_Model) (T := F_Model) (N := 54) hx hb hts i_Model hown hK hP 0 rfl rfl 4 (by decide) (hts _ q1113) (fun _ h9 => h9) rfl d_Model_remember_65 ?_
        refine lv_sipush (v := 503) hx hb d_Model_remember_68 (by decide) ?_
        refine lv_aload_n hx hb d_Model_remember_71 rfl (lv_at hl 1 rfl) ?_
        refine va_get (D := G.1) (ci := 12) (v := .int b6) (C := R_Model) (T := F_Model) (N := 54) hx hb hts i_Model hown hK hP 0 rfl rfl 5 (by decide) (hts _ q1114) (fun _ h9 => h9) rfl d_Model_remember_72 ?_
        refine lv_imul hx hb d_Model_remember_75 ?_
        refine lv_topi (fun v_27 ev_27 => ?_)
        obtain ⟨qv_27, hv_27⟩ := zI_mul (l := 0) (h := 3521) zc_503 hv_3 ev_27 (by decide)
        rw [li_503] at qv_27
        refine lv_iload_n hx hb d_Model_remember_76 rfl (lv_at hl 0 rfl) ?_
        refine lv_iadd hx hb d_Model_remember_77 ?_
        refine lv_topi (fun v_28 ev_28 => ?_)
        obtain ⟨qv_28, hv_28⟩ := zI_add (l := 0) (h := 4023) hv_27 hv_26 ev_28 (by decide)
        refine lv_aload_n hx hb d_Model_remember_78 rfl (lv_at hl 1 rfl) ?_
        refine va_get (D := G.1) (ci := 12) (v := .ref b2) (C := R_Model) (T := F_Model) (N := 54) hx hb hts i_Model hown hK hP 0 rfl rfl 1 (by decide) (hts _ q1110) (fun _ h9 => h9) rfl d_Model_remember_79 ?_
        refine lv_iload_n hx hb d_Model_remember_82 rfl (lv_at hl 0 rfl) ?_
        refine va_iald hx hb hK hP 1 0 rfl rfl (zI.inn hv_26 (by decide)) d_Model_remember_83 ?_
        refine lv_topi (fun v_29 ev_29 => ?_)
        refine va_iast hx hb hK hP hD hS 2 0 rfl rfl (zI.inn hv_28 (by decide)) d_Model_remember_84 (fun H locs hP hD hS => ?_)
        obtain ⟨f_30, hf_30, gf_30, uf_30, hP, hD⟩ := z_newfw 2 hP hD rfl hy_19 (zRk_s hb55 ev_29 hv_26 hv_28 (by decide) (by omega))
        have hP : va_P G.1 classes [(b0, .inr (12, [.int b1, .ref b2, .ref b3, .ref b4, .ref b5, .int b6, .ref b7, .int b8, .int b9, .int b10, .int b11, .ref b12, .ref b13, .ref b14, .int b15, .ref b16, .ref b17, .ref b18, .ref b19, .ref b20, .ref b21, .ref b22, .ref b23, .ref b24, .ref b25, .ref b26, .ref b27, .int b28, .ref b29, .ref b30, .int b31, .int b32, .int b33, .int b34, .ref b35, .ref b36, .ref b37, .ref b38, .ref b39, .ref b40, .ref b41, .int b42, .ref b43, .ref b44, .int b45, .ref b46, .ref b47, .ref b48, .ref b49, .ref b50, .int b51, .ref b52, .ref b53, .ref b54])), (b2, .inl (G.2 0, 503, .inl b55)), (b5, .inl (G.2 0, 4024, .inl f_30))] H := hP
        have hD := z_tie hP hD rfl
        obtain ⟨v_31, ev_31⟩ : ∃ z : Int32, z = y_18 + 1 := ⟨_, rfl⟩
        obtain ⟨qv_31, hv_31⟩ := zI_add (l := 1) (h := 503) hv_26 zc_1 ev_31 (by decide)
        rw [li_1] at qv_31
        refine lv_iinc (v := v_31) (lv' := [(1, .int v_31), (0, .ref b0)]) hx hb d_Model_remember_85 hl (k := 0) rfl (by rw [ev_31]; rfl) (by decide) rfl (fun ls hl => ?_)
        refine lv_goto (tgt := 57) hx hb d_Model_remember_88 (by decide) ?_
        exact ihk_17 (v_31) (f_30) _ _ _ (zI.wk (l' := 0) (h' := 503) hv_31 (by decide)) hf_30 (by have p9 := z_pl hv_28 (by decide); have p8 := z_pl hv_26 (by decide); intro j; rw [uf_30, z_at]; refine ⟨fun h1 h2 => ?_, fun h1 => ?_⟩; (by_cases c : j = v_28.toNatClampNeg; (rw [if_pos c, ev_29, show j - 503 * b6.toInt.toNat = y_18.toNatClampNeg by omega]); (rw [if_neg c]; exact (hli_20 j).1 h1 (by omega))); (rw [if_neg (by omega)]; exact (hli_20 j).2 h1)) (zm_up qv_31 hmk_17 (by decide)) hP hD hS (lv_sub hl [0, 1] rfl)
  · have _nhc_1 := hc_1
    have ni_32 := (fa_eq _ _).mp hc_1
    rw [li_8] at ni_32
    have hv_33 : zI b6 8 8 := zI.eq_l hb6 zc_8 hc_1
    refine lv_aload_n hx hb d_Model_remember_9 rfl (lv_at hl 0 rfl) ?_
    refine lv_dup hx hb d_Model_remember_10 rfl ?_
    refine va_get (D := G.1) (ci := 12) (v := .int b6) (C := R_Model) (T := F_Model) (N := 54) hx hb hts i_Model hown hK hP 0 rfl rfl 5 (by decide) (hts _ q1114) (fun _ h9 => h9) rfl d_Model_remember_11 ?_
    refine lv_iconst (v := 1) hx hb d_Model_remember_14 (by decide) ?_
    refine lv_isub hx hb d_Model_remember_15 ?_
    refine lv_topi (fun v_34 ev_34 => ?_)
    obtain ⟨qv_34, hv_34⟩ := zI_sub (l := 7) (h := 7) hv_33 zc_1 ev_34 (by decide)
    rw [li_1] at qv_34
    refine va_put (D := G.1) (ci := 12) (v := .int v_34) (ty := .int) (C := R_Model) (T := F_Model) (N := 54) hx hb hts i_Model t_Model t_Model_ok n_Model hown hK hP hD hS 0 rfl rfl 5 (by decide) (hts _ q1114) (fun _ h9 => h9) rfl (by decide +kernel) rfl rfl (Nat.le_of_ble_eq_true rfl) d_Model_remember_16 (fun H locs hP hD hS => ?_)
    have hP : va_P G.1 classes [(b0, .inr (12, [.int b1, .ref b2, .ref b3, .ref b4, .ref b5, .int v_34, .ref b7, .int b8, .int b9, .int b10, .int b11, .ref b12, .ref b13, .ref b14, .int b15, .ref b16, .ref b17, .ref b18, .ref b19, .ref b20, .ref b21, .ref b22, .ref b23, .ref b24, .ref b25, .ref b26, .ref b27, .int b28, .ref b29, .ref b30, .int b31, .int b32, .int b33, .int b34, .ref b35, .ref b36, .ref b37, .ref b38, .ref b39, .ref b40, .ref b41, .int b42, .ref b43, .ref b44, .int b45, .ref b46, .ref b47, .ref b48, .ref b49, .ref b50, .int b51, .ref b52, .ref b53, .ref b54])), (b2, .inl (G.2 0, 503, .inl b55)), (b5, .inl (G.2 0, 4024, .inl b56))] H := hP
    have hD := z_tie hP hD rfl
    refine lv_iconst (v := 0) hx hb d_Model_remember_19 (by decide) ?_
    refine lv_istore_n (lv' := [(1, .int 0), (0, .ref b0)]) hx hb d_Model_remember_20 rfl hl (by decide) rfl (fun ls hl => ?_)
    suffices key : ∀ (k_73 : Nat) (y_74 : Int32) (y_75 : Nat → Int32) (H : Heap) (locs : List Loc) (ls : Array Slot), (zI y_74 0 3521) → (zW5 y_75) → (∀ j : Nat, y_75 j = if (j : Int) < (y_74 : Int32).toInt then b56 (j + 503) else b56 j) → (3521 : Int) - y_74.toInt < (k_73 : Int) → va_P G.1 classes [(b0, .inr (12, [.int b1, .ref b2, .ref b3, .ref b4, .ref b5, .int v_34, .ref b7, .int b8, .int b9, .int b10, .int b11, .ref b12, .ref b13, .ref b14, .int b15, .ref b16, .ref b17, .ref b18, .ref b19, .ref b20, .ref b21, .ref b22, .ref b23, .ref b24, .ref b25, .ref b26, .ref b27, .int b28, .ref b29, .ref b30, .int b31, .int b32, .int b33, .int b34, .ref b35, .ref b36, .ref b37, .ref b38, .ref b39, .ref b40, .ref b41, .int b42, .ref b43, .ref b44, .int b45, .ref b46, .ref b47, .ref b48, .ref b49, .ref b50, .int b51, .ref b52, .ref b53, .ref b54])), (b2, .inl (G.2 0, 503, .inl b55)), (b5, .inl (G.2 0, 4024, .inl y_75))] H → va_D A [(b0, .inr (12, [.int b1, .ref b2, .ref b3, .ref b4, .ref b5, .int v_34, .ref b7, .int b8, .int b9, .int b10, .int b11, .ref b12, .ref b13, .ref b14, .int b15, .ref b16, .ref b17, .ref b18, .ref b19, .ref b20, .ref b21, .ref b22, .ref b23, .ref b24, .ref b25, .ref b26, .ref b27, .int b28, .ref b29, .ref b30, .int b31, .int b32, .int b33, .int b34, .ref b35, .ref b36, .ref b37, .ref b38, .ref b39, .ref b40, .ref b41, .int b42, .ref b43, .ref b44, .int b45, .ref b46, .ref b47, .ref b48, .ref b49, .ref b50, .int b51, .ref b52, .ref b53, .ref b54])), (b2, .inl (G.2 0, 503, .inl b55)), (b5, .inl (G.2 0, 4024, .inl y_75))] → va_S A s.heap H locs → lv_has ls 2 [(1, .int y_74), (0, .ref b0)] → W p l e m_s2_Model_remember s m ([.ref b0] : List Value).toArray below meth c H locs 0 0 (MQ below (zQ G (fun v w => ∃ (e0 : Int32), ∃ (e1 : Nat → Int32), v = none ∧ w = [(b0, .inr (12, [.int b1, .ref b2, .ref b3, .ref b4, .ref b5, .int e0, .ref b7, .int b8, .int b9, .int b10, .int b11, .ref b12, .ref b13, .ref b14, .int b15, .ref b16, .ref b17, .ref b18, .ref b19, .ref b20, .ref b21, .ref b22, .ref b23, .ref b24, .ref b25, .ref b26, .ref b27, .int b28, .ref b29, .ref b30, .int b31, .int b32, .int b33, .int b34, .ref b35, .ref b36, .ref b37, .ref b38, .ref b39, .ref b40, .ref b41, .int b42, .ref b43, .ref b44, .int b45, .ref b46, .ref b47, .ref b48, .ref b49, .ref b50, .int b51, .ref b52, .ref b53, .ref b54])), (b2, .inl (G.2 0, 503, .inl b55)), (b5, .inl (G.2 0, 4024, .inl e1))] ∧ (zI e0 0 8) ∧ (zW5 e1) ∧ (zRem b55 b56 (b6 : Int32).toInt e1 (e0 : Int32).toInt)) A) ([.ref b0] : List Value).toArray s m_s2_Model_remember.cells m_s2_Model_remember.slots A) (F0 m 21 ls []) by
      exact key 3522 (0) (b56) _ _ _ (zI.wk (l' := 0) (h' := 3521) zc_0 (by decide)) hb56 (by intro j; rw [if_neg (by have _l := li_0; omega)]) (zm_upi (zI.wk (l' := 0) (h' := 3521) zc_0 (by decide)) (by decide)) hP hD hS (lv_sub hl [0, 1] rfl)
    intro k_73
    induction k_73 with
    | zero =>
      intro y_74 y_75 H locs ls hy_74 hy_75 hli_76 hmk_73 hP hD hS hl
      exact (zm_up0 hy_74 hmk_73).elim
    | succ k_73 ihk_73 =>
      intro y_74 y_75 H locs ls hy_74 hy_75 hli_76 hmk_73 hP hD hS hl
      refine lv_iload_n hx hb d_Model_remember_21 rfl (lv_at hl 0 rfl) ?_
      refine lv_sipush (v := 503) hx hb d_Model_remember_22 (by decide) ?_
      refine lv_aload_n hx hb d_Model_remember_25 rfl (lv_at hl 1 rfl) ?_
      refine va_get (D := G.1) (ci := 12) (v := .int v_34) (C := R_Model) (T := F_Model) (N := 54) hx hb hts i_Model hown hK hP 0 rfl rfl 5 (by decide) (hts _ q1114) (fun _ h9 => h9) rfl d_Model_remember_26 ?_
      refine lv_imul hx hb d_Model_remember_29 ?_
      refine lv_topi (fun v_77 ev_77 => ?_)
      obtain ⟨qv_77, hv_77⟩ := zI_mul (l := 3521) (h := 3521) zc_503 hv_34 ev_77 (by decide)
      rw [li_503] at qv_77
      refine lv_icmp_ge (tgt := 55) hx hb d_Model_remember_30 (by decide) (fun hc_78 => ?_) (fun hc_78 => ?_)
      · have _nhc_78 := hc_78
        have ni_79 := (fa_le _ _).mp hc_78
        have hv_80 : zI y_74 3521 3521 := zI.le_r hv_77 hy_74 hc_78 (by decide)
        refine lv_iconst (v := 0) hx hb d_Model_remember_55 (by decide) ?_
        refine lv_istore_n (lv' := [(1, .int 0), (0, .ref b0)]) hx hb d_Model_remember_56 rfl hl (by decide) rfl (fun ls hl => ?_)
        suffices key : ∀ (k_94 : Nat) (y_95 : Int32) (y_96 : Nat → Int32) (H : Heap) (locs : List Loc) (ls : Array Slot), (zI y_95 0 503) → (zW5 y_96) → (∀ j : Nat, (503 * (v_34 : Int32).toInt ≤ (j : Int) → (j : Int) < 503 * (v_34 : Int32).toInt + (y_95 : Int32).toInt → y_96 j = b55 (j - 503 * (v_34 : Int32).toInt.toNat)) ∧ ((j : Int) < 503 * (v_34 : Int32).toInt → y_96 j = b56 (j + if (b6 : Int32).toInt = 8 then 503 else 0))) → (503 : Int) - y_95.toInt < (k_94 : Int) → va_P G.1 classes [(b0, .inr (12, [.int b1, .ref b2, .ref b3, .ref b4, .ref b5, .int v_34, .ref b7, .int b8, .int b9, .int b10, .int b11, .ref b12, .ref b13, .ref b14, .int b15, .ref b16, .ref b17, .ref b18, .ref b19, .ref b20, .ref b21, .ref b22, .ref b23, .ref b24, .ref b25, .ref b26, .ref b27, .int b28, .ref b29, .ref b30, .int b31, .int b32, .int b33, .int b34, .ref b35, .ref b36, .ref b37, .ref b38, .ref b39, .ref b40, .ref b41, .int b42, .ref b43, .ref b44, .int b45, .ref b46, .ref b47, .ref b48, .ref b49, .ref b50, .int b51, .ref b52, .ref b53, .ref b54])), (b2, .inl (G.2 0, 503, .inl b55)), (b5, .inl (G.2 0, 4024, .inl y_96))] H → va_D A [(b0, .inr (12, [.int b1, .ref b2, .ref b3, .ref b4, .ref b5, .int v_34, .ref b7, .int b8, .int b9, .int b10, .int b11, .ref b12, .ref b13, .ref b14, .int b15, .ref b16, .ref b17, .ref b18, .ref b19, .ref b20, .ref b21, .ref b22, .ref b23, .ref b24, .ref b25, .ref b26, .ref b27, .int b28, .ref b29, .ref b30, .int b31, .int b32, .int b33, .int b34, .ref b35, .ref b36, .ref b37, .ref b38, .ref b39, .ref b40, .ref b41, .int b42, .ref b43, .ref b44, .int b45, .ref b46, .ref b47, .ref b48, .ref b49, .ref b50, .int b51, .ref b52, .ref b53, .ref b54])), (b2, .inl (G.2 0, 503, .inl b55)), (b5, .inl (G.2 0, 4024, .inl y_96))] → va_S A s.heap H locs → lv_has ls 2 [(1, .int y_95), (0, .ref b0)] → W p l e m_s2_Model_remember s m ([.ref b0] : List Value).toArray below meth c H locs 0 0 (MQ below (zQ G (fun v w => ∃ (e0 : Int32), ∃ (e1 : Nat → Int32), v = none ∧ w = [(b0, .inr (12, [.int b1, .ref b2, .ref b3, .ref b4, .ref b5, .int e0, .ref b7, .int b8, .int b9, .int b10, .int b11, .ref b12, .ref b13, .ref b14, .int b15, .ref b16, .ref b17, .ref b18, .ref b19, .ref b20, .ref b21, .ref b22, .ref b23, .ref b24, .ref b25, .ref b26, .ref b27, .int b28, .ref b29, .ref b30, .int b31, .int b32, .int b33, .int b34, .ref b35, .ref b36, .ref b37, .ref b38, .ref b39, .ref b40, .ref b41, .int b42, .ref b43, .ref b44, .int b45, .ref b46, .ref b47, .ref b48, .ref b49, .ref b50, .int b51, .ref b52, .ref b53, .ref b54])), (b2, .inl (G.2 0, 503, .inl b55)), (b5, .inl (G.2 0, 4024, .inl e1))] ∧ (zI e0 0 8) ∧ (zW5 e1) ∧ (zRem b55 b56 (b6 : Int32).toInt e1 (e0 : Int32).toInt)) A) ([.ref b0] : List Value).toArray s m_s2_Model_remember.cells m_s2_Model_remember.slots A) (F0 m 57 ls []) by
          exact key 504 (0) (y_75) _ _ _ (zI.wk (l' := 0) (h' := 503) zc_0 (by decide)) hy_75 (by have _l := li_0; intro j; refine ⟨fun h1 h2 => by exfalso; omega, fun h1 => ?_⟩; rw [hli_76, if_pos (by omega), if_pos (by omega)]) (zm_upi (zI.wk (l' := 0) (h' := 503) zc_0 (by decide)) (by decide)) hP hD hS (lv_sub hl [0, 1] rfl)
        intro k_94
        induction k_94 with
        | zero =>
          intro y_95 y_96 H locs ls hy_95 hy_96 hli_97 hmk_94 hP hD hS hl
          exact (zm_up0 hy_95 hmk_94).elim
        | succ k_94 ihk_94 =>
          intro y_95 y_96 H locs ls hy_95 hy_96 hli_97 hmk_94 hP hD hS hl
          refine lv_iload_n hx hb d_Model_remember_57 rfl (lv_at hl 0 rfl) ?_
          refine lv_sipush (v := 503) hx hb d_Model_remember_58 (by decide) ?_
          refine lv_icmp_ge (tgt := 91) hx hb d_Model_remember_61 (by decide) (fun hc_98 => ?_) (fun hc_98 => ?_)
          · have _nhc_98 := hc_98
            have ni_99 := (fa_le _ _).mp hc_98
            rw [li_503] at ni_99
            have hv_100 : zI y_95 503 503 := zI.le_r zc_503 hy_95 hc_98 (by decide)
            refine lv_aload_n hx hb d_Model_remember_91 rfl (lv_at hl 1 rfl) ?_
            refine lv_dup hx hb d_Model_remember_92 rfl ?_
            refine va_get (D := G.1) (ci := 12) (v := .int v_34) (C := R_Model) (T := F_Model) (N := 54) hx hb hts i_Model hown hK hP 0 rfl rfl 5 (by decide) (hts _ q1114) (fun _ h9 => h9) rfl d_Model_remember_93 ?_
            refine lv_iconst (v := 1) hx hb d_Model_remember_96 (by decide) ?_
            refine lv_iadd hx hb d_Model_remember_97 ?_
            refine lv_topi (fun v_101 ev_101 => ?_)
            obtain ⟨qv_101, hv_101⟩ := zI_add (l := 8) (h := 8) hv_34 zc_1 ev_101 (by decide)
            rw [li_1] at qv_101
            refine va_put (D := G.1) (ci := 12) (v := .int v_101) (ty := .int) (C := R_Model) (T := F_Model) (N := 54) hx hb hts i_Model t_Model t_Model_ok n_Model hown hK hP hD hS 0 rfl rfl 5 (by decide) (hts _ q1114) (fun _ h9 => h9) rfl (by decide +kernel) rfl rfl (Nat.le_of_ble_eq_true rfl) d_Model_remember_98 (fun H locs hP hD hS => ?_)
            have hP : va_P G.1 classes [(b0, .inr (12, [.int b1, .ref b2, .ref b3, .ref b4, .ref b5, .int v_101, .ref b7, .int b8, .int b9, .int b10, .int b11, .ref b12, .ref b13, .ref b14, .int b15, .ref b16, .ref b17, .ref b18, .ref b19, .ref b20, .ref b21, .ref b22, .ref b23, .ref b24, .ref b25, .ref b26, .ref b27, .int b28, .ref b29, .ref b30, .int b31, .int b32, .int b33, .int b34, .ref b35, .ref b36, .ref b37, .ref b38, .ref b39, .ref b40, .ref b41, .int b42, .ref b43, .ref b44, .int b45, .ref b46, .ref b47, .ref b48, .ref b49, .ref b50, .int b51, .ref b52, .ref b53, .ref b54])), (b2, .inl (G.2 0, 503, .inl b55)), (b5, .inl (G.2 0, 4024, .inl y_96))] H := hP
            have hD := z_tie hP hD rfl
            exact z_vret hx hb hr hlocks hP hD hS (Nat.le_of_ble_eq_true rfl) (Nat.le_of_ble_eq_true rfl) d_Model_remember_101 ⟨v_101, y_96, rfl, rfl, (zI.wk (l' := 0) (h' := 8) hv_101 (by decide)), hy_96, (by refine ⟨by split <;> omega, fun j hj => ?_, fun j hj => ?_⟩; (rw [(hli_97 (503 * (v_101.toInt - 1).toNat + j)).1 (by omega) (by omega)]; congr 1; omega); exact (hli_97 j).2 (by omega))⟩
          · have _nhc_98 := hc_98
            have ni_102 := (fa_lt _ _).mp (zi_nle hc_98)
            rw [li_503] at ni_102
            have hv_103 : zI y_95 0 502 := zI.lt_l hy_95 zc_503 (zi_nle hc_98) (by decide)
            refine lv_aload_n hx hb d_Model_remember_64 rfl (lv_at hl 1 rfl) ?_
            refine va_get (D := G.1) (ci := 12) (v := .ref b5) (C := R_Model) (T := F_Model) (N := 54) hx hb hts i_Model hown hK hP 0 rfl rfl 4 (by decide) (hts _ q1113) (fun _ h9 => h9) rfl d_Model_remember_65 ?_
            refine lv_sipush (v := 503) hx hb d_Model_remember_68 (by decide) ?_
            refine lv_aload_n hx hb d_Model_remember_71 rfl (lv_at hl 1 rfl) ?_
            refine va_get (D := G.1) (ci := 12) (v := .int v_34) (C := R_Model) (T := F_Model) (N := 54) hx hb hts i_Model hown hK hP 0 rfl rfl 5 (by decide) (hts _ q1114) (fun _ h9 => h9) rfl d_Model_remember_72 ?_
            refine lv_imul hx hb d_Model_remember_75 ?_
            refine lv_topi (fun v_104 ev_104 => ?_)
            obtain rfl : v_77 = v_104 := ev_77.trans ev_104.symm
            refine lv_iload_n hx hb d_Model_remember_76 rfl (lv_at hl 0 rfl) ?_
            refine lv_iadd hx hb d_Model_remember_77 ?_
            refine lv_topi (fun v_105 ev_105 => ?_)
            obtain ⟨qv_105, hv_105⟩ := zI_add (l := 3521) (h := 4023) hv_77 hv_103 ev_105 (by decide)
            refine lv_aload_n hx hb d_Model_remember_78 rfl (lv_at hl 1 rfl) ?_
            refine va_get (D := G.1) (ci := 12) (v := .ref b2) (C := R_Model) (T := F_Model) (N := 54) hx hb hts i_Model hown hK hP 0 rfl rfl 1 (by decide) (hts _ q1110) (fun _ h9 => h9) rfl d_Model_remember_79 ?_
            refine lv_iload_n hx hb d_Model_remember_82 rfl (lv_at hl 0 rfl) ?_
            refine va_iald hx hb hK hP 1 0 rfl rfl (zI.inn hv_103 (by decide)) d_Model_remember_83 ?_
            refine lv_topi (fun v_106 ev_106 => ?_)
            refine va_iast hx hb hK hP hD hS 2 0 rfl rfl (zI.inn hv_105 (by decide)) d_Model_remember_84 (fun H locs hP hD hS => ?_)
            obtain ⟨f_107, hf_107, gf_107, uf_107, hP, hD⟩ := z_newfw 2 hP hD rfl hy_96 (zRk_s hb55 ev_106 hv_103 hv_105 (by decide) (by omega))
            have hP : va_P G.1 classes [(b0, .inr (12, [.int b1, .ref b2, .ref b3, .ref b4, .ref b5, .int v_34, .ref b7, .int b8, .int b9, .int b10, .int b11, .ref b12, .ref b13, .ref b14, .int b15, .ref b16, .ref b17, .ref b18, .ref b19, .ref b20, .ref b21, .ref b22, .ref b23, .ref b24, .ref b25, .ref b26, .ref b27, .int b28, .ref b29, .ref b30, .int b31, .int b32, .int b33, .int b34, .ref b35, .ref b36, .ref b37, .ref b38, .ref b39, .ref b40, .ref b41, .int b42, .ref b43, .ref b44, .int b45, .ref b46, .ref b47, .ref b48, .ref b49, .ref b50, .int b51, .ref b52, .ref b53, .ref b54])), (b2, .inl (G.2 0, 503, .inl b55)), (b5, .inl (G.2 0, 4024, .inl f_107))] H := hP
            have hD := z_tie hP hD rfl
            obtain ⟨v_108, ev_108⟩ : ∃ z : Int32, z = y_95 + 1 := ⟨_, rfl⟩
            obtain ⟨qv_108, hv_108⟩ := zI_add (l := 1) (h := 503) hv_103 zc_1 ev_108 (by decide)
            rw [li_1] at qv_108
            refine lv_iinc (v := v_108) (lv' := [(1, .int v_108), (0, .ref b0)]) hx hb d_Model_remember_85 hl (k := 0) rfl (by rw [ev_108]; rfl) (by decide) rfl (fun ls hl => ?_)
            refine lv_goto (tgt := 57) hx hb d_Model_remember_88 (by decide) ?_
            exact ihk_94 (v_108) (f_107) _ _ _ (zI.wk (l' := 0) (h' := 503) hv_108 (by decide)) hf_107 (by have p9 := z_pl hv_105 (by decide); have p8 := z_pl hv_103 (by decide); intro j; rw [uf_107, z_at]; refine ⟨fun h1 h2 => ?_, fun h1 => ?_⟩; (by_cases c : j = v_105.toNatClampNeg; (rw [if_pos c, ev_106, show j - 503 * v_34.toInt.toNat = y_95.toNatClampNeg by omega]); (rw [if_neg c]; exact (hli_97 j).1 h1 (by omega))); (rw [if_neg (by omega)]; exact (hli_97 j).2 h1)) (zm_up qv_108 hmk_94 (by decide)) hP hD hS (lv_sub hl [0, 1] rfl)
      · have _nhc_78 := hc_78
        have ni_109 := (fa_lt _ _).mp (zi_nle hc_78)
        have hv_110 : zI y_74 0 3520 := zI.lt_l hy_74 hv_77 (zi_nle hc_78) (by decide)
        refine lv_aload_n hx hb d_Model_remember_33 rfl (lv_at hl 1 rfl) ?_
        refine va_get (D := G.1) (ci := 12) (v := .ref b5) (C := R_Model) (T := F_Model) (N := 54) hx hb hts i_Model hown hK hP 0 rfl rfl 4 (by decide) (hts _ q1113) (fun _ h9 => h9) rfl d_Model_remember_34 ?_
        refine lv_iload_n hx hb d_Model_remember_37 rfl (lv_at hl 0 rfl) ?_
        refine lv_aload_n hx hb d_Model_remember_38 rfl (lv_at hl 1 rfl) ?_
        refine va_get (D := G.1) (ci := 12) (v := .ref b5) (C := R_Model) (T := F_Model) (N := 54) hx hb hts i_Model hown hK hP 0 rfl rfl 4 (by decide) (hts _ q1113) (fun _ h9 => h9) rfl d_Model_remember_39 ?_
        refine lv_iload_n hx hb d_Model_remember_42 rfl (lv_at hl 0 rfl) ?_
        refine lv_sipush (v := 503) hx hb d_Model_remember_43 (by decide) ?_
        refine lv_iadd hx hb d_Model_remember_46 ?_
        refine lv_topi (fun v_111 ev_111 => ?_)
        obtain ⟨qv_111, hv_111⟩ := zI_add (l := 503) (h := 4023) hv_110 zc_503 ev_111 (by decide)
        rw [li_503] at qv_111
        refine va_iald hx hb hK hP 2 0 rfl rfl (zI.inn hv_111 (by decide)) d_Model_remember_47 ?_
        refine lv_topi (fun v_112 ev_112 => ?_)
        refine va_iast hx hb hK hP hD hS 2 0 rfl rfl (zI.inn hv_110 (by decide)) d_Model_remember_48 (fun H locs hP hD hS => ?_)
        obtain ⟨f_113, hf_113, gf_113, uf_113, hP, hD⟩ := z_newfw 2 hP hD rfl hy_75 (zRk_s hy_75 ev_112 hv_111 hv_110 (by decide) (by omega))
        have hP : va_P G.1 classes [(b0, .inr (12, [.int b1, .ref b2, .ref b3, .ref b4, .ref b5, .int v_34, .ref b7, .int b8, .int b9, .int b10, .int b11, .ref b12, .ref b13, .ref b14, .int b15, .ref b16, .ref b17, .ref b18, .ref b19, .ref b20, .ref b21, .ref b22, .ref b23, .ref b24, .ref b25, .ref b26, .ref b27, .int b28, .ref b29, .ref b30, .int b31, .int b32, .int b33, .int b34, .ref b35, .ref b36, .ref b37, .ref b38, .ref b39, .ref b40, .ref b41, .int b42, .ref b43, .ref b44, .int b45, .ref b46, .ref b47, .ref b48, .ref b49, .ref b50, .int b51, .ref b52, .ref b53, .ref b54])), (b2, .inl (G.2 0, 503, .inl b55)), (b5, .inl (G.2 0, 4024, .inl f_113))] H := hP
        have hD := z_tie hP hD rfl
        obtain ⟨v_114, ev_114⟩ : ∃ z : Int32, z = y_74 + 1 := ⟨_, rfl⟩
        obtain ⟨qv_114, hv_114⟩ := zI_add (l := 1) (h := 3521) hv_110 zc_1 ev_114 (by decide)
        rw [li_1] at qv_114
        refine lv_iinc (v := v_114) (lv' := [(1, .int v_114), (0, .ref b0)]) hx hb d_Model_remember_49 hl (k := 0) rfl (by rw [ev_114]; rfl) (by decide) rfl (fun ls hl => ?_)
        refine lv_goto (tgt := 21) hx hb d_Model_remember_52 (by decide) ?_
        exact ihk_73 (v_114) (f_113) _ _ _ (zI.wk (l' := 0) (h' := 3521) hv_114 (by decide)) hf_113 (by have p9 := z_pl hv_110 (by decide); have p8 := z_pl hv_111 (by decide); intro j; rw [uf_113, z_at]; by_cases c : j = y_74.toNatClampNeg; (rw [if_pos c, if_pos (by omega), ev_112, hli_76, if_neg (by omega), show v_111.toNatClampNeg = j + 503 by omega]); rw [if_neg c, hli_76]; by_cases c2 : (j : Int) < y_74.toInt; (rw [if_pos c2, if_pos (by omega)]); rw [if_neg c2, if_neg (by omega)]) (zm_up qv_114 hmk_73 (by decide)) hP hD hS (lv_sub hl [0, 1] rfl)
