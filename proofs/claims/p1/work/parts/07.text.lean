def a_end (n : Int) : Int32 := if n = 0 then 1 else 0
theorem d_Text_init_0 : decode prog_9_method_1_code 0 = .ok (.aload_n 0, 1) := by decide +kernel
theorem d_Text_init_1 : decode prog_9_method_1_code 1 = .ok (.invokespecial 3, 3) := by decide +kernel
theorem d_Text_init_4 : decode prog_9_method_1_code 4 = .ok (.aload_n 0, 1) := by decide +kernel
theorem d_Text_init_5 : decode prog_9_method_1_code 5 = .ok (.sipush 240, 3) := by decide +kernel
theorem d_Text_init_8 : decode prog_9_method_1_code 8 = .ok (.newarray .char, 2) := by decide +kernel
theorem d_Text_init_10 : decode prog_9_method_1_code 10 = .ok (.putfield 9, 3) := by decide +kernel
theorem d_Text_init_13 : decode prog_9_method_1_code 13 = .ok (.return_, 1) := by decide +kernel
abbrev m_c_Text_init : Room := { frames := 1, cells := 1, slots := 240, locals := 12 }
set_option maxHeartbeats 4000000 in
set_option maxRecDepth 100000 in
theorem c_Text_init (l : Launch) (G : zG) (h0 : Nat)  : zM l G y_Text_init prog_9_method_1_code 1 (Option.none : Option Jvm.ClassFile.FieldType) m_c_Text_init [.ref h0] [(h0, .inr (1, [.int 0, .null]))] (fun v w => ∃ (q_1 : Nat), v = none ∧ w = [(h0, .inr (1, [.int 0, .ref q_1])), (q_1, .inl (G.2 2, 240, .inl (fun _ => 0)))]) := by
  refine z_start (by decide +kernel) (Nat.le_of_ble_eq_true rfl) ?_
  intro p e s m below meth c A Z hr hnm hA hP hD hS ls hl
  have Z : zC p s m _ meth c prog_9_method_1_code 1 "TraceMachines$Text" G := Z
  obtain ⟨hx, hb, hml, hown, hts, hK, hN, hlocks⟩ := id Z
  have hl : lv_has ls 1 [(0, .ref h0)] := hl
  refine lv_aload_n hx hb d_Text_init_0 rfl (lv_at hl 0 rfl) ?_
  refine W.objInit hx hb hown (hts _ q36) (hts _ q29) (hts _ q30) rfl (by rw [hml]; exact hl.1) rfl d_Text_init_1 (Nat.le_of_ble_eq_true rfl) (Nat.le_of_ble_eq_true rfl) ?_
  refine W.eq (g2 := F0 m 4 ls []) rfl ?_
  refine lv_aload_n hx hb d_Text_init_4 rfl (lv_at hl 0 rfl) ?_
  refine lv_sipush (v := 240) hx hb d_Text_init_5 (by decide) ?_
  refine z_newa (atype := .char) (ty := .char) (a0 := (240, .inl (fun _ => 0))) Z hP hD hS hA q45 rfl 2 rfl (fun _ h => by cases h) (fun _ => by rfl) (by decide +kernel) (N' := 240) (by decide +kernel) (by decide +kernel) (Nat.le_of_ble_eq_true rfl) (Nat.le_of_ble_eq_true rfl) d_Text_init_8 (fun q_1 H hP hD hS => ?_)
  have hP : va_P G.1 classes [(h0, .inr (1, [.int 0, .null])), (q_1, .inl (G.2 2, 240, .inl (fun _ => 0)))] H := hP
  have hD : va_D A [(h0, .inr (1, [.int 0, .null])), (q_1, .inl (G.2 2, 240, .inl (fun _ => 0)))] := hD
  refine W.widen (k := 1) (n := 240) (Nat.le_of_ble_eq_true rfl) (Nat.le_of_ble_eq_true rfl) ?_
  refine va_putF (D := G.1) (ci := 1) (v := .ref q_1) (ty := .array .char) (C := R_Text) (T := F_Text) (N := 2) hx hb hts i_Text t_Text t_Text_ok n_Text hown hK hP hD hS 0 rfl rfl 1 (by decide) (hts _ q39) (fun _ h9 => h9) rfl hnm rfl (by decide +kernel) rfl rfl (Nat.le_of_ble_eq_true rfl) d_Text_init_10 (fun H locs hP hD hS => ?_)
  have hP : va_P G.1 classes [(h0, .inr (1, [.int 0, .ref q_1])), (q_1, .inl (G.2 2, 240, .inl (fun _ => 0)))] H := hP
  have hD : va_D A [(h0, .inr (1, [.int 0, .ref q_1])), (q_1, .inl (G.2 2, 240, .inl (fun _ => 0)))] := hD
  exact z_vret hx hb hr hlocks hP hD hS (Nat.le_of_ble_eq_true rfl) (Nat.le_of_ble_eq_true rfl) d_Text_init_13 ⟨q_1, rfl, rfl⟩
theorem d_Text_cut_0 : decode prog_9_method_3_code 0 = .ok (.iload_n 1, 1) := by decide +kernel
theorem d_Text_cut_1 : decode prog_9_method_3_code 1 = .ok (.ifCond .lt 11, 3) := by decide +kernel
theorem d_Text_cut_4 : decode prog_9_method_3_code 4 = .ok (.iload_n 1, 1) := by decide +kernel
theorem d_Text_cut_5 : decode prog_9_method_3_code 5 = .ok (.aload_n 0, 1) := by decide +kernel
theorem d_Text_cut_6 : decode prog_9_method_3_code 6 = .ok (.getfield 15, 3) := by decide +kernel
theorem d_Text_cut_9 : decode prog_9_method_3_code 9 = .ok (.if_icmp .le 5, 3) := by decide +kernel
theorem d_Text_cut_12 : decode prog_9_method_3_code 12 = .ok (.iconst 0, 1) := by decide +kernel
theorem d_Text_cut_13 : decode prog_9_method_3_code 13 = .ok (.ireturn, 1) := by decide +kernel
theorem d_Text_cut_14 : decode prog_9_method_3_code 14 = .ok (.aload_n 0, 1) := by decide +kernel
theorem d_Text_cut_15 : decode prog_9_method_3_code 15 = .ok (.iload_n 1, 1) := by decide +kernel
theorem d_Text_cut_16 : decode prog_9_method_3_code 16 = .ok (.putfield 15, 3) := by decide +kernel
theorem d_Text_cut_19 : decode prog_9_method_3_code 19 = .ok (.iconst 1, 1) := by decide +kernel
theorem d_Text_cut_20 : decode prog_9_method_3_code 20 = .ok (.ireturn, 1) := by decide +kernel
abbrev m_c_Text_cut : Room := { frames := 0, cells := 0, slots := 0, locals := 0 }
set_option maxHeartbeats 4000000 in
set_option maxRecDepth 100000 in
theorem c_Text_cut (l : Launch) (G : zG) (h0 : Nat) (h1 : Nat) (p0 : Int32)  : zM l G y_Text_cut prog_9_method_3_code 2 (Option.some Jvm.ClassFile.FieldType.boolean) m_c_Text_cut [.ref h0, .int p0] [(h0, .inr (1, [.int 0, .ref h1]))] (fun v _ => v = some (.int (a_end p0.toInt))) := by
  refine z_start (by decide +kernel) (Nat.le_of_ble_eq_true rfl) ?_
  intro p e s m below meth c A Z hr hnm hA hP hD hS ls hl
  have Z : zC p s m _ meth c prog_9_method_3_code 2 "TraceMachines$Text" G := Z
  obtain ⟨hx, hb, hml, hown, hts, hK, hN, hlocks⟩ := id Z
  have hl : lv_has ls 2 [(0, .ref h0), (1, .int p0)] := hl
  refine lv_iload_n hx hb d_Text_cut_0 rfl (lv_at hl 1 rfl) ?_
  refine lv_if_lt (tgt := 12) hx hb d_Text_cut_1 (by decide) (fun hc_1 => ?_) (fun hc_1 => ?_)
  · refine lv_iconst (v := 0) hx hb d_Text_cut_12 (by decide) ?_
    exact z_zret hx hb hr hlocks rfl hP hD hS (Nat.le_of_ble_eq_true rfl) (Nat.le_of_ble_eq_true rfl) d_Text_cut_13 (by simp only [fa_lt, fa_le, fa_eq, show (0 : Int32).toInt = 0 from by decide +kernel] at hc_1; unfold a_end; (first | rfl | (repeat (first | rw [if_pos (by omega)] | rw [if_neg (by omega)]))))
  · refine lv_iload_n hx hb d_Text_cut_4 rfl (lv_at hl 1 rfl) ?_
    refine lv_aload_n hx hb d_Text_cut_5 rfl (lv_at hl 0 rfl) ?_
    refine va_get (D := G.1) (ci := 1) (v := .int 0) (C := R_Text) (T := F_Text) (N := 2) hx hb hts i_Text hown hK hP 0 rfl rfl 0 (by decide) (hts _ q37) (fun _ h9 => h9) rfl d_Text_cut_6 ?_
    refine lv_icmp_le (tgt := 14) hx hb d_Text_cut_9 (by decide) (fun hc_2 => ?_) (fun hc_2 => ?_)
    · refine lv_aload_n hx hb d_Text_cut_14 rfl (lv_at hl 0 rfl) ?_
      refine lv_iload_n hx hb d_Text_cut_15 rfl (lv_at hl 1 rfl) ?_
      refine va_put (D := G.1) (ci := 1) (v := .int p0) (ty := .int) (C := R_Text) (T := F_Text) (N := 2) hx hb hts i_Text t_Text t_Text_ok n_Text hown hK hP hD hS 0 rfl rfl 0 (by decide) (hts _ q37) (fun _ h9 => h9) rfl (by decide +kernel) rfl rfl (Nat.le_of_ble_eq_true rfl) d_Text_cut_16 (fun H locs hP hD hS => ?_)
      have hP : va_P G.1 classes [(h0, .inr (1, [.int p0, .ref h1]))] H := hP
      have hD : va_D A [(h0, .inr (1, [.int p0, .ref h1]))] := hD
      refine lv_iconst (v := 1) hx hb d_Text_cut_19 (by decide) ?_
      exact z_zret hx hb hr hlocks rfl hP hD hS (Nat.le_of_ble_eq_true rfl) (Nat.le_of_ble_eq_true rfl) d_Text_cut_20 (by simp only [fa_lt, fa_le, fa_eq, show (0 : Int32).toInt = 0 from by decide +kernel] at hc_1 hc_2; unfold a_end; (first | rfl | (repeat (first | rw [if_pos (by omega)] | rw [if_neg (by omega)]))))
    · refine lv_iconst (v := 0) hx hb d_Text_cut_12 (by decide) ?_
      exact z_zret hx hb hr hlocks rfl hP hD hS (Nat.le_of_ble_eq_true rfl) (Nat.le_of_ble_eq_true rfl) d_Text_cut_13 (by simp only [fa_lt, fa_le, fa_eq, show (0 : Int32).toInt = 0 from by decide +kernel] at hc_1 hc_2; unfold a_end; (first | rfl | (repeat (first | rw [if_pos (by omega)] | rw [if_neg (by omega)]))))
theorem d_Text_put_0 : decode prog_9_method_2_code 0 = .ok (.aload_n 0, 1) := by decide +kernel
theorem d_Text_put_1 : decode prog_9_method_2_code 1 = .ok (.getfield 15, 3) := by decide +kernel
theorem d_Text_put_4 : decode prog_9_method_2_code 4 = .ok (.iconst 4, 1) := by decide +kernel
theorem d_Text_put_5 : decode prog_9_method_2_code 5 = .ok (.iadd, 1) := by decide +kernel
theorem d_Text_put_6 : decode prog_9_method_2_code 6 = .ok (.sipush 240, 3) := by decide +kernel
theorem d_Text_put_9 : decode prog_9_method_2_code 9 = .ok (.if_icmp .le 5, 3) := by decide +kernel
theorem d_Text_put_14 : decode prog_9_method_2_code 14 = .ok (.bipush 24, 2) := by decide +kernel
theorem d_Text_put_16 : decode prog_9_method_2_code 16 = .ok (.istore_n 2, 1) := by decide +kernel
theorem d_Text_put_17 : decode prog_9_method_2_code 17 = .ok (.iload_n 2, 1) := by decide +kernel
theorem d_Text_put_18 : decode prog_9_method_2_code 18 = .ok (.ifCond .lt 36, 3) := by decide +kernel
theorem d_Text_put_21 : decode prog_9_method_2_code 21 = .ok (.aload_n 0, 1) := by decide +kernel
theorem d_Text_put_22 : decode prog_9_method_2_code 22 = .ok (.getfield 9, 3) := by decide +kernel
theorem d_Text_put_25 : decode prog_9_method_2_code 25 = .ok (.aload_n 0, 1) := by decide +kernel
theorem d_Text_put_26 : decode prog_9_method_2_code 26 = .ok (.getfield 15, 3) := by decide +kernel
theorem d_Text_put_29 : decode prog_9_method_2_code 29 = .ok (.iload_n 1, 1) := by decide +kernel
theorem d_Text_put_30 : decode prog_9_method_2_code 30 = .ok (.iload_n 2, 1) := by decide +kernel
theorem d_Text_put_31 : decode prog_9_method_2_code 31 = .ok (.iushr, 1) := by decide +kernel
theorem d_Text_put_32 : decode prog_9_method_2_code 32 = .ok (.sipush 255, 3) := by decide +kernel
theorem d_Text_put_35 : decode prog_9_method_2_code 35 = .ok (.iand, 1) := by decide +kernel
theorem d_Text_put_36 : decode prog_9_method_2_code 36 = .ok (.i2c, 1) := by decide +kernel
theorem d_Text_put_37 : decode prog_9_method_2_code 37 = .ok (.castore, 1) := by decide +kernel
theorem d_Text_put_38 : decode prog_9_method_2_code 38 = .ok (.aload_n 0, 1) := by decide +kernel
theorem d_Text_put_39 : decode prog_9_method_2_code 39 = .ok (.dup, 1) := by decide +kernel
theorem d_Text_put_40 : decode prog_9_method_2_code 40 = .ok (.getfield 15, 3) := by decide +kernel
theorem d_Text_put_43 : decode prog_9_method_2_code 43 = .ok (.iconst 1, 1) := by decide +kernel
theorem d_Text_put_44 : decode prog_9_method_2_code 44 = .ok (.iadd, 1) := by decide +kernel
theorem d_Text_put_45 : decode prog_9_method_2_code 45 = .ok (.putfield 15, 3) := by decide +kernel
theorem d_Text_put_48 : decode prog_9_method_2_code 48 = .ok (.iinc 2 (-8), 3) := by decide +kernel
theorem d_Text_put_51 : decode prog_9_method_2_code 51 = .ok (.goto (-34), 3) := by decide +kernel
theorem d_Text_put_54 : decode prog_9_method_2_code 54 = .ok (.iconst 1, 1) := by decide +kernel
theorem d_Text_put_55 : decode prog_9_method_2_code 55 = .ok (.ireturn, 1) := by decide +kernel
abbrev m_c_Text_put : Room := { frames := 0, cells := 0, slots := 0, locals := 0 }
set_option maxHeartbeats 4000000 in
set_option maxRecDepth 100000 in
theorem c_Text_put (l : Launch) (G : zG) (h0 : Nat) (h1 : Nat) (p0 : Int32)  : zM l G y_Text_put prog_9_method_2_code 3 (Option.some Jvm.ClassFile.FieldType.boolean) m_c_Text_put [.ref h0, .int p0] [(h0, .inr (1, [.int 0, .ref h1])), (h1, .inl (G.2 2, 240, .inl (fun _ => 0)))] (fun v w => ∃ (f : Nat → Int32), v = some (.int 1) ∧ w = [(h0, .inr (1, [.int 4, .ref h1])), (h1, .inl (G.2 2, 240, .inl f))]) := by
  refine z_start (by decide +kernel) (Nat.le_of_ble_eq_true rfl) ?_
  intro p e s m below meth c A Z hr hnm hA hP hD hS ls hl
  have Z : zC p s m _ meth c prog_9_method_2_code 3 "TraceMachines$Text" G := Z
  obtain ⟨hx, hb, hml, hown, hts, hK, hN, hlocks⟩ := id Z
  have hl : lv_has ls 3 [(0, .ref h0), (1, .int p0)] := hl
  refine lv_aload_n hx hb d_Text_put_0 rfl (lv_at hl 0 rfl) ?_
  refine va_get (D := G.1) (ci := 1) (v := .int 0) (C := R_Text) (T := F_Text) (N := 2) hx hb hts i_Text hown hK hP 0 rfl rfl 0 (by decide) (hts _ q37) (fun _ h9 => h9) rfl d_Text_put_1 ?_
  refine lv_iconst (v := 4) hx hb d_Text_put_4 (by decide) ?_
  refine lv_iadd hx hb d_Text_put_5 ?_
  refine z_topi (y := 4) (by decide +kernel) ?_
  refine lv_sipush (v := 240) hx hb d_Text_put_6 (by decide) ?_
  refine lv_icmp_le (tgt := 14) hx hb d_Text_put_9 (by decide) (fun _ => ?_) (fun hc => absurd hc (by decide +kernel))
  refine lv_bipush (v := 24) hx hb d_Text_put_14 (by decide) ?_
  refine lv_istore_n (lv' := [(2, .int 24), (0, .ref h0), (1, .int p0)]) hx hb d_Text_put_16 rfl hl (by decide) rfl (fun ls hl => ?_)
  refine lv_iload_n hx hb d_Text_put_17 rfl (lv_at hl 0 rfl) ?_
  refine lv_if_lt (tgt := 54) hx hb d_Text_put_18 (by decide) (fun hc => absurd hc (by decide +kernel)) (fun _ => ?_)
  refine lv_aload_n hx hb d_Text_put_21 rfl (lv_at hl 1 rfl) ?_
  refine va_get (D := G.1) (ci := 1) (v := .ref h1) (C := R_Text) (T := F_Text) (N := 2) hx hb hts i_Text hown hK hP 0 rfl rfl 1 (by decide) (hts _ q39) (fun _ h9 => h9) rfl d_Text_put_22 ?_
  refine lv_aload_n hx hb d_Text_put_25 rfl (lv_at hl 1 rfl) ?_
  refine va_get (D := G.1) (ci := 1) (v := .int 0) (C := R_Text) (T := F_Text) (N := 2) hx hb hts i_Text hown hK hP 0 rfl rfl 0 (by decide) (hts _ q37) (fun _ h9 => h9) rfl d_Text_put_26 ?_
  refine lv_iload_n hx hb d_Text_put_29 rfl (lv_at hl 2 rfl) ?_
  refine lv_iload_n hx hb d_Text_put_30 rfl (lv_at hl 0 rfl) ?_
  obtain ⟨v_1, ev_1⟩ : ∃ z : Int32, z = ((p0).toUInt32 >>> ((24 : Int32).toUInt32 &&& Int32.toUInt32 31)).toInt32 := ⟨_, rfl⟩
  refine lv_iushr (v := v_1) hx hb d_Text_put_31 ev_1.symm ?_
  refine lv_sipush (v := 255) hx hb d_Text_put_32 (by decide) ?_
  refine lv_iand hx hb d_Text_put_35 ?_
  refine lv_topi (fun v_2 ev_2 => ?_)
  obtain ⟨v_3, ev_3⟩ : ∃ z : Int32, z = ((v_2).toUInt32 % 65536).toInt32 := ⟨_, rfl⟩
  refine lv_i2c (v := v_3) hx hb d_Text_put_36 ev_3.symm ?_
  refine va_cast hx hb hK hP hD hS 1 2 rfl rfl (i := 0) (z_in rfl) d_Text_put_37 (fun H locs hP hD hS => ?_)
  have hP : va_P G.1 classes [(h0, .inr (1, [.int 0, .ref h1])), (h1, .inl (G.2 2, 240, .inl (upd (fun _ => 0) 0 (vp_nar .char v_3))))] H := hP
  have hD : va_D A [(h0, .inr (1, [.int 0, .ref h1])), (h1, .inl (G.2 2, 240, .inl (upd (fun _ => 0) 0 (vp_nar .char v_3))))] := hD
  refine lv_aload_n hx hb d_Text_put_38 rfl (lv_at hl 1 rfl) ?_
  refine lv_dup hx hb d_Text_put_39 rfl ?_
  refine va_get (D := G.1) (ci := 1) (v := .int 0) (C := R_Text) (T := F_Text) (N := 2) hx hb hts i_Text hown hK hP 0 rfl rfl 0 (by decide) (hts _ q37) (fun _ h9 => h9) rfl d_Text_put_40 ?_
  refine lv_iconst (v := 1) hx hb d_Text_put_43 (by decide) ?_
  refine lv_iadd hx hb d_Text_put_44 ?_
  refine z_topi (y := 1) (by decide +kernel) ?_
  refine va_put (D := G.1) (ci := 1) (v := .int 1) (ty := .int) (C := R_Text) (T := F_Text) (N := 2) hx hb hts i_Text t_Text t_Text_ok n_Text hown hK hP hD hS 0 rfl rfl 0 (by decide) (hts _ q37) (fun _ h9 => h9) rfl (by decide +kernel) rfl rfl (Nat.le_of_ble_eq_true rfl) d_Text_put_45 (fun H locs hP hD hS => ?_)
  have hP : va_P G.1 classes [(h0, .inr (1, [.int 1, .ref h1])), (h1, .inl (G.2 2, 240, .inl (upd (fun _ => 0) 0 (vp_nar .char v_3))))] H := hP
  have hD : va_D A [(h0, .inr (1, [.int 1, .ref h1])), (h1, .inl (G.2 2, 240, .inl (upd (fun _ => 0) 0 (vp_nar .char v_3))))] := hD
  refine lv_iinc (v := 16) (lv' := [(2, .int 16), (0, .ref h0), (1, .int p0)]) hx hb d_Text_put_48 hl (k := 0) rfl (by decide +kernel) (by decide) rfl (fun ls hl => ?_)
  refine lv_goto (tgt := 17) hx hb d_Text_put_51 (by decide) ?_
  refine lv_iload_n hx hb d_Text_put_17 rfl (lv_at hl 0 rfl) ?_
  refine lv_if_lt (tgt := 54) hx hb d_Text_put_18 (by decide) (fun hc => absurd hc (by decide +kernel)) (fun _ => ?_)
  refine lv_aload_n hx hb d_Text_put_21 rfl (lv_at hl 1 rfl) ?_
  refine va_get (D := G.1) (ci := 1) (v := .ref h1) (C := R_Text) (T := F_Text) (N := 2) hx hb hts i_Text hown hK hP 0 rfl rfl 1 (by decide) (hts _ q39) (fun _ h9 => h9) rfl d_Text_put_22 ?_
  refine lv_aload_n hx hb d_Text_put_25 rfl (lv_at hl 1 rfl) ?_
  refine va_get (D := G.1) (ci := 1) (v := .int 1) (C := R_Text) (T := F_Text) (N := 2) hx hb hts i_Text hown hK hP 0 rfl rfl 0 (by decide) (hts _ q37) (fun _ h9 => h9) rfl d_Text_put_26 ?_
  refine lv_iload_n hx hb d_Text_put_29 rfl (lv_at hl 2 rfl) ?_
  refine lv_iload_n hx hb d_Text_put_30 rfl (lv_at hl 0 rfl) ?_
  obtain ⟨v_4, ev_4⟩ : ∃ z : Int32, z = ((p0).toUInt32 >>> ((16 : Int32).toUInt32 &&& Int32.toUInt32 31)).toInt32 := ⟨_, rfl⟩
  refine lv_iushr (v := v_4) hx hb d_Text_put_31 ev_4.symm ?_
  refine lv_sipush (v := 255) hx hb d_Text_put_32 (by decide) ?_
  refine lv_iand hx hb d_Text_put_35 ?_
  refine lv_topi (fun v_5 ev_5 => ?_)
  obtain ⟨v_6, ev_6⟩ : ∃ z : Int32, z = ((v_5).toUInt32 % 65536).toInt32 := ⟨_, rfl⟩
  refine lv_i2c (v := v_6) hx hb d_Text_put_36 ev_6.symm ?_
  refine va_cast hx hb hK hP hD hS 1 2 rfl rfl (i := 1) (z_in rfl) d_Text_put_37 (fun H locs hP hD hS => ?_)
  have hP : va_P G.1 classes [(h0, .inr (1, [.int 1, .ref h1])), (h1, .inl (G.2 2, 240, .inl (upd (upd (fun _ => 0) 0 (vp_nar .char v_3)) 1 (vp_nar .char v_6))))] H := hP
  have hD : va_D A [(h0, .inr (1, [.int 1, .ref h1])), (h1, .inl (G.2 2, 240, .inl (upd (upd (fun _ => 0) 0 (vp_nar .char v_3)) 1 (vp_nar .char v_6))))] := hD
  refine lv_aload_n hx hb d_Text_put_38 rfl (lv_at hl 1 rfl) ?_
  refine lv_dup hx hb d_Text_put_39 rfl ?_
  refine va_get (D := G.1) (ci := 1) (v := .int 1) (C := R_Text) (T := F_Text) (N := 2) hx hb hts i_Text hown hK hP 0 rfl rfl 0 (by decide) (hts _ q37) (fun _ h9 => h9) rfl d_Text_put_40 ?_
  refine lv_iconst (v := 1) hx hb d_Text_put_43 (by decide) ?_
  refine lv_iadd hx hb d_Text_put_44 ?_
  refine z_topi (y := 2) (by decide +kernel) ?_
  refine va_put (D := G.1) (ci := 1) (v := .int 2) (ty := .int) (C := R_Text) (T := F_Text) (N := 2) hx hb hts i_Text t_Text t_Text_ok n_Text hown hK hP hD hS 0 rfl rfl 0 (by decide) (hts _ q37) (fun _ h9 => h9) rfl (by decide +kernel) rfl rfl (Nat.le_of_ble_eq_true rfl) d_Text_put_45 (fun H locs hP hD hS => ?_)
  have hP : va_P G.1 classes [(h0, .inr (1, [.int 2, .ref h1])), (h1, .inl (G.2 2, 240, .inl (upd (upd (fun _ => 0) 0 (vp_nar .char v_3)) 1 (vp_nar .char v_6))))] H := hP
  have hD : va_D A [(h0, .inr (1, [.int 2, .ref h1])), (h1, .inl (G.2 2, 240, .inl (upd (upd (fun _ => 0) 0 (vp_nar .char v_3)) 1 (vp_nar .char v_6))))] := hD
  refine lv_iinc (v := 8) (lv' := [(2, .int 8), (0, .ref h0), (1, .int p0)]) hx hb d_Text_put_48 hl (k := 0) rfl (by decide +kernel) (by decide) rfl (fun ls hl => ?_)
  refine lv_goto (tgt := 17) hx hb d_Text_put_51 (by decide) ?_
  refine lv_iload_n hx hb d_Text_put_17 rfl (lv_at hl 0 rfl) ?_
  refine lv_if_lt (tgt := 54) hx hb d_Text_put_18 (by decide) (fun hc => absurd hc (by decide +kernel)) (fun _ => ?_)
  refine lv_aload_n hx hb d_Text_put_21 rfl (lv_at hl 1 rfl) ?_
  refine va_get (D := G.1) (ci := 1) (v := .ref h1) (C := R_Text) (T := F_Text) (N := 2) hx hb hts i_Text hown hK hP 0 rfl rfl 1 (by decide) (hts _ q39) (fun _ h9 => h9) rfl d_Text_put_22 ?_
  refine lv_aload_n hx hb d_Text_put_25 rfl (lv_at hl 1 rfl) ?_
  refine va_get (D := G.1) (ci := 1) (v := .int 2) (C := R_Text) (T := F_Text) (N := 2) hx hb hts i_Text hown hK hP 0 rfl rfl 0 (by decide) (hts _ q37) (fun _ h9 => h9) rfl d_Text_put_26 ?_
  refine lv_iload_n hx hb d_Text_put_29 rfl (lv_at hl 2 rfl) ?_
  refine lv_iload_n hx hb d_Text_put_30 rfl (lv_at hl 0 rfl) ?_
  obtain ⟨v_7, ev_7⟩ : ∃ z : Int32, z = ((p0).toUInt32 >>> ((8 : Int32).toUInt32 &&& Int32.toUInt32 31)).toInt32 := ⟨_, rfl⟩
  refine lv_iushr (v := v_7) hx hb d_Text_put_31 ev_7.symm ?_
  refine lv_sipush (v := 255) hx hb d_Text_put_32 (by decide) ?_
  refine lv_iand hx hb d_Text_put_35 ?_
  refine lv_topi (fun v_8 ev_8 => ?_)
  obtain ⟨v_9, ev_9⟩ : ∃ z : Int32, z = ((v_8).toUInt32 % 65536).toInt32 := ⟨_, rfl⟩
  refine lv_i2c (v := v_9) hx hb d_Text_put_36 ev_9.symm ?_
  refine va_cast hx hb hK hP hD hS 1 2 rfl rfl (i := 2) (z_in rfl) d_Text_put_37 (fun H locs hP hD hS => ?_)
  have hP : va_P G.1 classes [(h0, .inr (1, [.int 2, .ref h1])), (h1, .inl (G.2 2, 240, .inl (upd (upd (upd (fun _ => 0) 0 (vp_nar .char v_3)) 1 (vp_nar .char v_6)) 2 (vp_nar .char v_9))))] H := hP
  have hD : va_D A [(h0, .inr (1, [.int 2, .ref h1])), (h1, .inl (G.2 2, 240, .inl (upd (upd (upd (fun _ => 0) 0 (vp_nar .char v_3)) 1 (vp_nar .char v_6)) 2 (vp_nar .char v_9))))] := hD
  refine lv_aload_n hx hb d_Text_put_38 rfl (lv_at hl 1 rfl) ?_
  refine lv_dup hx hb d_Text_put_39 rfl ?_
  refine va_get (D := G.1) (ci := 1) (v := .int 2) (C := R_Text) (T := F_Text) (N := 2) hx hb hts i_Text hown hK hP 0 rfl rfl 0 (by decide) (hts _ q37) (fun _ h9 => h9) rfl d_Text_put_40 ?_
  refine lv_iconst (v := 1) hx hb d_Text_put_43 (by decide) ?_
  refine lv_iadd hx hb d_Text_put_44 ?_
  refine z_topi (y := 3) (by decide +kernel) ?_
  refine va_put (D := G.1) (ci := 1) (v := .int 3) (ty := .int) (C := R_Text) (T := F_Text) (N := 2) hx hb hts i_Text t_Text t_Text_ok n_Text hown hK hP hD hS 0 rfl rfl 0 (by decide) (hts _ q37) (fun _ h9 => h9) rfl (by decide +kernel) rfl rfl (Nat.le_of_ble_eq_true rfl) d_Text_put_45 (fun H locs hP hD hS => ?_)
  have hP : va_P G.1 classes [(h0, .inr (1, [.int 3, .ref h1])), (h1, .inl (G.2 2, 240, .inl (upd (upd (upd (fun _ => 0) 0 (vp_nar .char v_3)) 1 (vp_nar .char v_6)) 2 (vp_nar .char v_9))))] H := hP
  have hD : va_D A [(h0, .inr (1, [.int 3, .ref h1])), (h1, .inl (G.2 2, 240, .inl (upd (upd (upd (fun _ => 0) 0 (vp_nar .char v_3)) 1 (vp_nar .char v_6)) 2 (vp_nar .char v_9))))] := hD
  refine lv_iinc (v := 0) (lv' := [(2, .int 0), (0, .ref h0), (1, .int p0)]) hx hb d_Text_put_48 hl (k := 0) rfl (by decide +kernel) (by decide) rfl (fun ls hl => ?_)
  refine lv_goto (tgt := 17) hx hb d_Text_put_51 (by decide) ?_
  refine lv_iload_n hx hb d_Text_put_17 rfl (lv_at hl 0 rfl) ?_
  refine lv_if_lt (tgt := 54) hx hb d_Text_put_18 (by decide) (fun hc => absurd hc (by decide +kernel)) (fun _ => ?_)
  refine lv_aload_n hx hb d_Text_put_21 rfl (lv_at hl 1 rfl) ?_
  refine va_get (D := G.1) (ci := 1) (v := .ref h1) (C := R_Text) (T := F_Text) (N := 2) hx hb hts i_Text hown hK hP 0 rfl rfl 1 (by decide) (hts _ q39) (fun _ h9 => h9) rfl d_Text_put_22 ?_
  refine lv_aload_n hx hb d_Text_put_25 rfl (lv_at hl 1 rfl) ?_
  refine va_get (D := G.1) (ci := 1) (v := .int 3) (C := R_Text) (T := F_Text) (N := 2) hx hb hts i_Text hown hK hP 0 rfl rfl 0 (by decide) (hts _ q37) (fun _ h9 => h9) rfl d_Text_put_26 ?_
  refine lv_iload_n hx hb d_Text_put_29 rfl (lv_at hl 2 rfl) ?_
  refine lv_iload_n hx hb d_Text_put_30 rfl (lv_at hl 0 rfl) ?_
  obtain ⟨v_10, ev_10⟩ : ∃ z : Int32, z = ((p0).toUInt32 >>> ((0 : Int32).toUInt32 &&& Int32.toUInt32 31)).toInt32 := ⟨_, rfl⟩
  refine lv_iushr (v := v_10) hx hb d_Text_put_31 ev_10.symm ?_
  refine lv_sipush (v := 255) hx hb d_Text_put_32 (by decide) ?_
  refine lv_iand hx hb d_Text_put_35 ?_
  refine lv_topi (fun v_11 ev_11 => ?_)
  obtain ⟨v_12, ev_12⟩ : ∃ z : Int32, z = ((v_11).toUInt32 % 65536).toInt32 := ⟨_, rfl⟩
  refine lv_i2c (v := v_12) hx hb d_Text_put_36 ev_12.symm ?_
  refine va_cast hx hb hK hP hD hS 1 2 rfl rfl (i := 3) (z_in rfl) d_Text_put_37 (fun H locs hP hD hS => ?_)
  have hP : va_P G.1 classes [(h0, .inr (1, [.int 3, .ref h1])), (h1, .inl (G.2 2, 240, .inl (upd (upd (upd (upd (fun _ => 0) 0 (vp_nar .char v_3)) 1 (vp_nar .char v_6)) 2 (vp_nar .char v_9)) 3 (vp_nar .char v_12))))] H := hP
  have hD : va_D A [(h0, .inr (1, [.int 3, .ref h1])), (h1, .inl (G.2 2, 240, .inl (upd (upd (upd (upd (fun _ => 0) 0 (vp_nar .char v_3)) 1 (vp_nar .char v_6)) 2 (vp_nar .char v_9)) 3 (vp_nar .char v_12))))] := hD
  refine lv_aload_n hx hb d_Text_put_38 rfl (lv_at hl 1 rfl) ?_
  refine lv_dup hx hb d_Text_put_39 rfl ?_
  refine va_get (D := G.1) (ci := 1) (v := .int 3) (C := R_Text) (T := F_Text) (N := 2) hx hb hts i_Text hown hK hP 0 rfl rfl 0 (by decide) (hts _ q37) (fun _ h9 => h9) rfl d_Text_put_40 ?_
  refine lv_iconst (v := 1) hx hb d_Text_put_43 (by decide) ?_
  refine lv_iadd hx hb d_Text_put_44 ?_
  refine z_topi (y := 4) (by decide +kernel) ?_
  refine va_put (D := G.1) (ci := 1) (v := .int 4) (ty := .int) (C := R_Text) (T := F_Text) (N := 2) hx hb hts i_Text t_Text t_Text_ok n_Text hown hK hP hD hS 0 rfl rfl 0 (by decide) (hts _ q37) (fun _ h9 => h9) rfl (by decide +kernel) rfl rfl (Nat.le_of_ble_eq_true rfl) d_Text_put_45 (fun H locs hP hD hS => ?_)
  have hP : va_P G.1 classes [(h0, .inr (1, [.int 4, .ref h1])), (h1, .inl (G.2 2, 240, .inl (upd (upd (upd (upd (fun _ => 0) 0 (vp_nar .char v_3)) 1 (vp_nar .char v_6)) 2 (vp_nar .char v_9)) 3 (vp_nar .char v_12))))] H := hP
  have hD : va_D A [(h0, .inr (1, [.int 4, .ref h1])), (h1, .inl (G.2 2, 240, .inl (upd (upd (upd (upd (fun _ => 0) 0 (vp_nar .char v_3)) 1 (vp_nar .char v_6)) 2 (vp_nar .char v_9)) 3 (vp_nar .char v_12))))] := hD
  refine lv_iinc (v := (-8)) (lv' := [(2, .int (-8)), (0, .ref h0), (1, .int p0)]) hx hb d_Text_put_48 hl (k := 0) rfl (by decide +kernel) (by decide) rfl (fun ls hl => ?_)
  refine lv_goto (tgt := 17) hx hb d_Text_put_51 (by decide) ?_
  refine lv_iload_n hx hb d_Text_put_17 rfl (lv_at hl 0 rfl) ?_
  refine lv_if_lt (tgt := 54) hx hb d_Text_put_18 (by decide) (fun _ => ?_) (fun hc => absurd hc (by decide +kernel))
  refine lv_iconst (v := 1) hx hb d_Text_put_54 (by decide) ?_
  exact z_zret hx hb hr hlocks rfl hP hD hS (Nat.le_of_ble_eq_true rfl) (Nat.le_of_ble_eq_true rfl) d_Text_put_55 ⟨_, rfl, rfl⟩
theorem d_Arrays_fill1_0 : decode prog_24_method_103_code 0 = .ok (.iconst 0, 1) := by decide +kernel
theorem d_Arrays_fill1_1 : decode prog_24_method_103_code 1 = .ok (.istore_n 2, 1) := by decide +kernel
theorem d_Arrays_fill1_2 : decode prog_24_method_103_code 2 = .ok (.aload_n 0, 1) := by decide +kernel
theorem d_Arrays_fill1_3 : decode prog_24_method_103_code 3 = .ok (.arraylength, 1) := by decide +kernel
theorem d_Arrays_fill1_4 : decode prog_24_method_103_code 4 = .ok (.istore_n 3, 1) := by decide +kernel
theorem d_Arrays_fill1_5 : decode prog_24_method_103_code 5 = .ok (.iload_n 2, 1) := by decide +kernel
theorem d_Arrays_fill1_6 : decode prog_24_method_103_code 6 = .ok (.iload_n 3, 1) := by decide +kernel
theorem d_Arrays_fill1_7 : decode prog_24_method_103_code 7 = .ok (.if_icmp .ge 13, 3) := by decide +kernel
theorem d_Arrays_fill1_10 : decode prog_24_method_103_code 10 = .ok (.aload_n 0, 1) := by decide +kernel
theorem d_Arrays_fill1_11 : decode prog_24_method_103_code 11 = .ok (.iload_n 2, 1) := by decide +kernel
theorem d_Arrays_fill1_12 : decode prog_24_method_103_code 12 = .ok (.iload_n 1, 1) := by decide +kernel
theorem d_Arrays_fill1_13 : decode prog_24_method_103_code 13 = .ok (.iastore, 1) := by decide +kernel
theorem d_Arrays_fill1_14 : decode prog_24_method_103_code 14 = .ok (.iinc 2 1, 3) := by decide +kernel
theorem d_Arrays_fill1_17 : decode prog_24_method_103_code 17 = .ok (.goto (-12), 3) := by decide +kernel
theorem d_Arrays_fill1_20 : decode prog_24_method_103_code 20 = .ok (.return_, 1) := by decide +kernel
abbrev m_c_fill_I : Room := { frames := 0, cells := 0, slots := 0, locals := 0 }
set_option maxHeartbeats 4000000 in
set_option maxRecDepth 100000 in
theorem c_fill_I (l : Launch) (G : zG) (h0 : Nat) (n : Nat) (f : Nat → Int32) (x : Int32) (hn : n < 2 ^ 31) : zM l G y_Arrays_fill1 prog_24_method_103_code 4 (Option.none : Option Jvm.ClassFile.FieldType) m_c_fill_I [.ref h0, .int x] [(h0, .inl (G.2 0, n, .inl f))] (fun v w => v = none ∧ w = [(h0, .inl (G.2 0, n, .inl (fun _ => x)))]) := by
  refine z_start (by decide +kernel) (Nat.le_of_ble_eq_true rfl) ?_
  intro p e s m below meth c A Z hr hnm hA hP hD hS ls hl
  have Z : zC p s m _ meth c prog_24_method_103_code 4 "java/util/Arrays" G := Z
  obtain ⟨hx, hb, hml, hown, hts, hK, hN, hlocks⟩ := id Z
  have hl : lv_has ls 4 [(0, .ref h0), (1, .int x)] := hl
  refine lv_iconst (v := 0) hx hb d_Arrays_fill1_0 (by decide) ?_
  refine lv_istore_n (lv' := [(2, .int 0), (0, .ref h0), (1, .int x)]) hx hb d_Arrays_fill1_1 rfl hl (by decide) rfl (fun ls hl => ?_)
  refine lv_aload_n hx hb d_Arrays_fill1_2 rfl (lv_at hl 1 rfl) ?_
  refine va_alen hx hb hK hP 0 0 rfl rfl (v := (nI n)) rfl d_Arrays_fill1_3 ?_
  refine lv_istore_n (lv' := [(3, .int (nI n)), (2, .int 0), (0, .ref h0), (1, .int x)]) hx hb d_Arrays_fill1_4 rfl hl (by decide) rfl (fun ls hl => ?_)
  suffices key : ∀ (k_2 i_1 : Nat) (g_3 : Nat → Int32) (H : Heap) (locs : List Loc) (ls : Array Slot), i_1 + k_2 = n → (∀ j, j < i_1 → g_3 j = x) → va_P G.1 classes [(h0, .inl (G.2 0, n, .inl g_3))] H → va_D A [(h0, .inl (G.2 0, n, .inl g_3))] → va_S A s.heap H locs → lv_has ls 4 [(3, .int (nI n)), (2, .int (nI i_1)), (0, .ref h0), (1, .int x)] → W p l e m_c_fill_I s m ([.ref h0, .int x] : List Value).toArray below meth c H locs 0 0 (MQ below (zQ G (fun v w => v = none ∧ w = [(h0, .inl (G.2 0, n, .inl (fun _ => x)))]) A) ([.ref h0, .int x] : List Value).toArray s m_c_fill_I.cells m_c_fill_I.slots A) (F0 m 5 ls []) by
    exact key (n) 0 (f) _ _ _ (by omega) (fun j h => absurd h (Nat.not_lt_zero j)) hP hD hS (lv_sub hl [0, 1, 2, 3] rfl)
  intro k_2
  induction k_2 with
  | zero =>
    intro i_1 g_3 H locs ls hik hg_4 hP hD hS hl
    obtain rfl : n = i_1 := by omega
    obtain ⟨hP, hD⟩ := z_exti (g := fun _ => x) 0 hP hD rfl hg_4
    have hP : va_P G.1 classes [(h0, .inl (G.2 0, n, .inl (fun _ => x)))] H := hP
    have hD : va_D A [(h0, .inl (G.2 0, n, .inl (fun _ => x)))] := hD
    refine lv_iload_n hx hb d_Arrays_fill1_5 rfl (lv_at hl 1 rfl) ?_
    refine lv_iload_n hx hb d_Arrays_fill1_6 rfl (lv_at hl 0 rfl) ?_
    refine lv_icmp_ge (tgt := 20) hx hb d_Arrays_fill1_7 (by decide) (fun _ => ?_) (fun hc => absurd (Int32.le_refl _) hc)
    exact z_vret hx hb hr hlocks hP hD hS (Nat.le_of_ble_eq_true rfl) (Nat.le_of_ble_eq_true rfl) d_Arrays_fill1_20 ⟨rfl, rfl⟩
  | succ k_2 ih =>
    intro i_1 g_3 H locs ls hik hg_4 hP hD hS hl
    have hilt : i_1 < n := by omega
    refine lv_iload_n hx hb d_Arrays_fill1_5 rfl (lv_at hl 1 rfl) ?_
    refine lv_iload_n hx hb d_Arrays_fill1_6 rfl (lv_at hl 0 rfl) ?_
    refine lv_icmp_ge (tgt := 20) hx hb d_Arrays_fill1_7 (by decide) (fun hc => absurd hc (nI_ge hilt hn)) (fun _ => ?_)
    refine lv_aload_n hx hb d_Arrays_fill1_10 rfl (lv_at hl 2 rfl) ?_
    refine lv_iload_n hx hb d_Arrays_fill1_11 rfl (lv_at hl 1 rfl) ?_
    refine lv_iload_n hx hb d_Arrays_fill1_12 rfl (lv_at hl 3 rfl) ?_
    refine va_iast hx hb hK hP hD hS 0 0 rfl rfl (z_inN hilt hn) d_Arrays_fill1_13 (fun H locs hP hD hS => ?_)
    rw [nI_clamp (by omega)] at hP hD
    have hP : va_P G.1 classes [(h0, .inl (G.2 0, n, .inl (upd g_3 i_1 x)))] H := hP
    have hD : va_D A [(h0, .inl (G.2 0, n, .inl (upd g_3 i_1 x)))] := hD
    refine lv_iinc (v := (nI (i_1 + 1))) (lv' := [(2, .int (nI (i_1 + 1))), (3, .int (nI n)), (0, .ref h0), (1, .int x)]) hx hb d_Arrays_fill1_14 hl (k := 1) rfl (nI_1 i_1) (by decide) rfl (fun ls hl => ?_)
    refine lv_goto (tgt := 5) hx hb d_Arrays_fill1_17 (by decide) ?_
    exact ih (i_1 + 1) (upd g_3 i_1 x) _ _ _ (by omega) (z_up (P := fun _ y => y = x) hg_4 rfl) hP hD hS (lv_sub hl [1, 0, 2, 3] rfl)
theorem d_Arrays_fill2_0 : decode prog_24_method_101_code 0 = .ok (.iconst 0, 1) := by decide +kernel
theorem d_Arrays_fill2_1 : decode prog_24_method_101_code 1 = .ok (.istore_n 3, 1) := by decide +kernel
theorem d_Arrays_fill2_2 : decode prog_24_method_101_code 2 = .ok (.aload_n 0, 1) := by decide +kernel
theorem d_Arrays_fill2_3 : decode prog_24_method_101_code 3 = .ok (.arraylength, 1) := by decide +kernel
theorem d_Arrays_fill2_4 : decode prog_24_method_101_code 4 = .ok (.istore 4, 2) := by decide +kernel
theorem d_Arrays_fill2_6 : decode prog_24_method_101_code 6 = .ok (.iload_n 3, 1) := by decide +kernel
theorem d_Arrays_fill2_7 : decode prog_24_method_101_code 7 = .ok (.iload 4, 2) := by decide +kernel
theorem d_Arrays_fill2_9 : decode prog_24_method_101_code 9 = .ok (.if_icmp .ge 13, 3) := by decide +kernel
theorem d_Arrays_fill2_12 : decode prog_24_method_101_code 12 = .ok (.aload_n 0, 1) := by decide +kernel
theorem d_Arrays_fill2_13 : decode prog_24_method_101_code 13 = .ok (.iload_n 3, 1) := by decide +kernel
theorem d_Arrays_fill2_14 : decode prog_24_method_101_code 14 = .ok (.lload_n 1, 1) := by decide +kernel
theorem d_Arrays_fill2_15 : decode prog_24_method_101_code 15 = .ok (.lastore, 1) := by decide +kernel
theorem d_Arrays_fill2_16 : decode prog_24_method_101_code 16 = .ok (.iinc 3 1, 3) := by decide +kernel
theorem d_Arrays_fill2_19 : decode prog_24_method_101_code 19 = .ok (.goto (-13), 3) := by decide +kernel
theorem d_Arrays_fill2_22 : decode prog_24_method_101_code 22 = .ok (.return_, 1) := by decide +kernel
abbrev m_c_fill_J : Room := { frames := 0, cells := 0, slots := 0, locals := 0 }
set_option maxHeartbeats 4000000 in
set_option maxRecDepth 100000 in
theorem c_fill_J (l : Launch) (G : zG) (h0 : Nat) (n : Nat) (f : Nat → Int64) (x : Int64) (hn : n < 2 ^ 31) : zM l G y_Arrays_fill2 prog_24_method_101_code 5 (Option.none : Option Jvm.ClassFile.FieldType) m_c_fill_J [.ref h0, .long x] [(h0, .inl (G.2 1, n, .inr (.inl f)))] (fun v w => v = none ∧ w = [(h0, .inl (G.2 1, n, .inr (.inl (fun _ => x))))]) := by
  refine z_start (by decide +kernel) (Nat.le_of_ble_eq_true rfl) ?_
  intro p e s m below meth c A Z hr hnm hA hP hD hS ls hl
  have Z : zC p s m _ meth c prog_24_method_101_code 5 "java/util/Arrays" G := Z
  obtain ⟨hx, hb, hml, hown, hts, hK, hN, hlocks⟩ := id Z
  have hl : lv_has ls 5 [(0, .ref h0), (1, .long x)] := hl
  refine lv_iconst (v := 0) hx hb d_Arrays_fill2_0 (by decide) ?_
  refine lv_istore_n (lv' := [(3, .int 0), (0, .ref h0), (1, .long x)]) hx hb d_Arrays_fill2_1 rfl hl (by decide) rfl (fun ls hl => ?_)
  refine lv_aload_n hx hb d_Arrays_fill2_2 rfl (lv_at hl 1 rfl) ?_
  refine va_alen hx hb hK hP 0 1 rfl rfl (v := (nI n)) rfl d_Arrays_fill2_3 ?_
  refine lv_istore (lv' := [(4, .int (nI n)), (3, .int 0), (0, .ref h0), (1, .long x)]) hx hb d_Arrays_fill2_4 hl (by decide) rfl (fun ls hl => ?_)
  suffices key : ∀ (k_2 i_1 : Nat) (g_3 : Nat → Int64) (H : Heap) (locs : List Loc) (ls : Array Slot), i_1 + k_2 = n → (∀ j, j < i_1 → g_3 j = x) → va_P G.1 classes [(h0, .inl (G.2 1, n, .inr (.inl g_3)))] H → va_D A [(h0, .inl (G.2 1, n, .inr (.inl g_3)))] → va_S A s.heap H locs → lv_has ls 5 [(4, .int (nI n)), (3, .int (nI i_1)), (0, .ref h0), (1, .long x)] → W p l e m_c_fill_J s m ([.ref h0, .long x] : List Value).toArray below meth c H locs 0 0 (MQ below (zQ G (fun v w => v = none ∧ w = [(h0, .inl (G.2 1, n, .inr (.inl (fun _ => x))))]) A) ([.ref h0, .long x] : List Value).toArray s m_c_fill_J.cells m_c_fill_J.slots A) (F0 m 6 ls []) by
    exact key (n) 0 (f) _ _ _ (by omega) (fun j h => absurd h (Nat.not_lt_zero j)) hP hD hS (lv_sub hl [0, 1, 2, 3] rfl)
  intro k_2
  induction k_2 with
  | zero =>
    intro i_1 g_3 H locs ls hik hg_4 hP hD hS hl
    obtain rfl : n = i_1 := by omega
    obtain ⟨hP, hD⟩ := z_extl (g := fun _ => x) 0 hP hD rfl hg_4
    have hP : va_P G.1 classes [(h0, .inl (G.2 1, n, .inr (.inl (fun _ => x))))] H := hP
    have hD : va_D A [(h0, .inl (G.2 1, n, .inr (.inl (fun _ => x))))] := hD
    refine lv_iload_n hx hb d_Arrays_fill2_6 rfl (lv_at hl 1 rfl) ?_
    refine lv_iload hx hb d_Arrays_fill2_7 (lv_at hl 0 rfl) ?_
    refine lv_icmp_ge (tgt := 22) hx hb d_Arrays_fill2_9 (by decide) (fun _ => ?_) (fun hc => absurd (Int32.le_refl _) hc)
    exact z_vret hx hb hr hlocks hP hD hS (Nat.le_of_ble_eq_true rfl) (Nat.le_of_ble_eq_true rfl) d_Arrays_fill2_22 ⟨rfl, rfl⟩
  | succ k_2 ih =>
    intro i_1 g_3 H locs ls hik hg_4 hP hD hS hl
    have hilt : i_1 < n := by omega
    refine lv_iload_n hx hb d_Arrays_fill2_6 rfl (lv_at hl 1 rfl) ?_
    refine lv_iload hx hb d_Arrays_fill2_7 (lv_at hl 0 rfl) ?_
    refine lv_icmp_ge (tgt := 22) hx hb d_Arrays_fill2_9 (by decide) (fun hc => absurd hc (nI_ge hilt hn)) (fun _ => ?_)
    refine lv_aload_n hx hb d_Arrays_fill2_12 rfl (lv_at hl 2 rfl) ?_
    refine lv_iload_n hx hb d_Arrays_fill2_13 rfl (lv_at hl 1 rfl) ?_
    refine lv_lload_n hx hb d_Arrays_fill2_14 rfl (lv_at hl 3 rfl) ?_
    refine va_last hx hb hK hP hD hS 0 1 rfl rfl (z_inN hilt hn) d_Arrays_fill2_15 (fun H locs hP hD hS => ?_)
    rw [nI_clamp (by omega)] at hP hD
    have hP : va_P G.1 classes [(h0, .inl (G.2 1, n, .inr (.inl (vp_updL g_3 i_1 x))))] H := hP
    have hD : va_D A [(h0, .inl (G.2 1, n, .inr (.inl (vp_updL g_3 i_1 x))))] := hD
    refine lv_iinc (v := (nI (i_1 + 1))) (lv' := [(3, .int (nI (i_1 + 1))), (4, .int (nI n)), (0, .ref h0), (1, .long x)]) hx hb d_Arrays_fill2_16 hl (k := 1) rfl (nI_1 i_1) (by decide) rfl (fun ls hl => ?_)
    refine lv_goto (tgt := 6) hx hb d_Arrays_fill2_19 (by decide) ?_
    exact ih (i_1 + 1) (vp_updL g_3 i_1 x) _ _ _ (by omega) (z_upL (P := fun _ y => y = x) hg_4 rfl) hP hD hS (lv_sub hl [1, 0, 2, 3] rfl)
