abbrev m_s2_Traces_open : Room := { frames := 0, cells := 0, slots := 0, locals := 0 }
set_option maxHeartbeats 4000000 in
set_option maxRecDepth 100000 in
theorem s2_Traces_open (l : Launch) (G : zG) (b0 : Nat) (b1 : Int32) (b2 : Int32) (b3 : Int32) (b4 : Nat) (b5 : Nat) (b6 : Nat) (b7 : Nat → Int32) (b8 : Nat → Int32) (b9 : Nat → Int32) (hb1 : zI b1 0 20) (hb2 : zI b2 0 3) (hb3 : zI b3 0 20) (hb7 : zR b7 0 12) (hb8 : zR b8 0 9) : zM l G y_Traces_open prog_10_method_7_code 1 (Option.some Jvm.ClassFile.FieldType.boolean) m_s2_Traces_open [.ref b0] [(b0, .inr (2, [.int b1, .int b2, .int b3, .ref b4, .ref b5, .ref b6])), (b4, .inl (G.2 0, 20, .inl b7)), (b5, .inl (G.2 0, 240, .inl b8)), (b6, .inl (G.2 0, 240, .inl b9))] (fun v w => ∃ (e0 : Int32), ∃ (e1 : Int32), ∃ (e2 : Nat → Int32), v = some (.int e0) ∧ w = [(b0, .inr (2, [.int e1, .int b2, .int b3, .ref b4, .ref b5, .ref b6])), (b4, .inl (G.2 0, 20, .inl e2)), (b5, .inl (G.2 0, 240, .inl b8)), (b6, .inl (G.2 0, 240, .inl b9))] ∧ (zI e0 0 1) ∧ (zI e1 0 20) ∧ (zR e2 0 12) ∧ ((b1 : Int32).toInt = 20 ∧ (e0 : Int32).toInt = 0 ∧ (zrow e1 b2 b3 e2 b8 b9) = (zrow b1 b2 b3 b7 b8 b9) ∨ ¬ (b1 : Int32).toInt = 20 ∧ (e0 : Int32).toInt = 1 ∧ (zrow e1 b2 b3 e2 b8 b9) = zop (zrow b1 b2 b3 b7 b8 b9))) := by
  refine z_start (by decide +kernel) (Nat.le_of_ble_eq_true rfl) ?_
  intro p e s m below meth c A Z hr hnm hA hP hD hS ls hl
  have Z : zC p s m _ meth c prog_10_method_7_code 1 "TraceMachines$Traces" G := Z
  obtain ⟨hx, hb, hml, hown, hts, hK, hN, hlocks⟩ := id Z
  have hl : lv_has ls 1 [(0, .ref b0)] := hl
  refine lv_aload_n hx hb d_Traces_open_0 rfl (lv_at hl 0 rfl) ?_
  refine va_get (D := G.1) (ci := 2) (v := .int b1) (C := R_Traces) (T := F_Traces) (N := 6) hx hb hts i_Traces hown hK hP 0 rfl rfl 0 (by decide) (hts _ q52) (fun _ h9 => h9) rfl d_Traces_open_1 ?_
  refine lv_bipush (v := 20) hx hb d_Traces_open_4 (by decide) ?_
  refine lv_icmp_ne (tgt := 11) hx hb d_Traces_open_6 (by decide) (fun hc_1 => ?_) (fun hc_1 => ?_)
  · have _nhc_1 := hc_1
    have ni_2 : ¬ (b1 : Int32).toInt = (20 : Int32).toInt := fun z => hc_1 ((fa_eq _ _).mpr z)
    simp only [li_20] at ni_2
    have hv_3 : zI b1 0 19 := zI.ne_hi hb1 zc_20 hc_1 (by decide)
    refine lv_aload_n hx hb d_Traces_open_11 rfl (lv_at hl 0 rfl) ?_
    refine va_get (D := G.1) (ci := 2) (v := .ref b4) (C := R_Traces) (T := F_Traces) (N := 6) hx hb hts i_Traces hown hK hP 0 rfl rfl 3 (by decide) (hts _ q63) (fun _ h9 => h9) rfl d_Traces_open_12 ?_
    refine lv_aload_n hx hb d_Traces_open_15 rfl (lv_at hl 0 rfl) ?_
    refine va_get (D := G.1) (ci := 2) (v := .int b1) (C := R_Traces) (T := F_Traces) (N := 6) hx hb hts i_Traces hown hK hP 0 rfl rfl 0 (by decide) (hts _ q52) (fun _ h9 => h9) rfl d_Traces_open_16 ?_
    refine lv_iconst (v := 0) hx hb d_Traces_open_19 (by decide) ?_
    refine va_iast hx hb hK hP hD hS 1 0 rfl rfl (zI.inn hv_3 (by decide)) d_Traces_open_20 (fun H locs hP hD hS => ?_)
    obtain ⟨f_4, hf_4, gf_4, uf_4, hP, hD⟩ := z_newfu 1 hP hD rfl hb7 (zI.wk (l' := 0) (h' := 12) zc_0 (by decide))
    have hP : va_P G.1 classes [(b0, .inr (2, [.int b1, .int b2, .int b3, .ref b4, .ref b5, .ref b6])), (b4, .inl (G.2 0, 20, .inl f_4)), (b5, .inl (G.2 0, 240, .inl b8)), (b6, .inl (G.2 0, 240, .inl b9))] H := hP
    have hD := z_tie hP hD rfl
    refine lv_aload_n hx hb d_Traces_open_21 rfl (lv_at hl 0 rfl) ?_
    refine lv_dup hx hb d_Traces_open_22 rfl ?_
    refine va_get (D := G.1) (ci := 2) (v := .int b1) (C := R_Traces) (T := F_Traces) (N := 6) hx hb hts i_Traces hown hK hP 0 rfl rfl 0 (by decide) (hts _ q52) (fun _ h9 => h9) rfl d_Traces_open_23 ?_
    refine lv_iconst (v := 1) hx hb d_Traces_open_26 (by decide) ?_
    refine lv_iadd hx hb d_Traces_open_27 ?_
    refine lv_topi (fun v_5 ev_5 => ?_)
    obtain ⟨qv_5, hv_5⟩ := zI_add (l := 1) (h := 20) hv_3 zc_1 ev_5 (by decide)
    rw [li_1] at qv_5
    refine va_put (D := G.1) (ci := 2) (v := .int v_5) (ty := .int) (C := R_Traces) (T := F_Traces) (N := 6) hx hb hts i_Traces t_Traces t_Traces_ok n_Traces hown hK hP hD hS 0 rfl rfl 0 (by decide) (hts _ q52) (fun _ h9 => h9) rfl (by decide +kernel) rfl rfl (Nat.le_of_ble_eq_true rfl) d_Traces_open_28 (fun H locs hP hD hS => ?_)
    have hP : va_P G.1 classes [(b0, .inr (2, [.int v_5, .int b2, .int b3, .ref b4, .ref b5, .ref b6])), (b4, .inl (G.2 0, 20, .inl f_4)), (b5, .inl (G.2 0, 240, .inl b8)), (b6, .inl (G.2 0, 240, .inl b9))] H := hP
    have hD := z_tie hP hD rfl
    refine lv_iconst (v := 1) hx hb d_Traces_open_31 (by decide) ?_
    exact z_zret hx hb hr hlocks rfl hP hD hS (Nat.le_of_ble_eq_true rfl) (Nat.le_of_ble_eq_true rfl) d_Traces_open_32 ⟨1, v_5, f_4, rfl, rfl, (zI.wk (l' := 0) (h' := 1) zc_1 (by decide)), (zI.wk (l' := 0) (h' := 20) hv_5 (by decide)), hf_4, (Or.inr ⟨by omega, li_1, zrow_op ev_5 ⟨by omega, by omega⟩ uf_4⟩)⟩
  · have _nhc_1 := hc_1
    have ni_6 := (fa_eq _ _).mp hc_1
    rw [li_20] at ni_6
    have hv_7 : zI b1 20 20 := zI.eq_l hb1 zc_20 hc_1
    refine lv_iconst (v := 0) hx hb d_Traces_open_9 (by decide) ?_
    exact z_zret hx hb hr hlocks rfl hP hD hS (Nat.le_of_ble_eq_true rfl) (Nat.le_of_ble_eq_true rfl) d_Traces_open_10 ⟨0, b1, b7, rfl, rfl, (zI.wk (l' := 0) (h' := 1) zc_0 (by decide)), (zI.wk (l' := 0) (h' := 20) hv_7 (by decide)), hb7, (Or.inl ⟨by omega, li_0, rfl⟩)⟩
abbrev m_s2_Traces_add : Room := { frames := 0, cells := 0, slots := 0, locals := 0 }
set_option maxHeartbeats 4000000 in
set_option maxRecDepth 100000 in
theorem s2_Traces_add (l : Launch) (G : zG) (b0 : Nat) (b1 : Int32) (b2 : Int32) (b3 : Int32) (b4 : Int32) (b5 : Nat) (b6 : Nat) (b7 : Nat) (b8 : Nat → Int32) (b9 : Nat → Int32) (b10 : Nat → Int32) (hb1 : zI b1 0 9) (hb2 : zI b2 0 20) (hb3 : zI b3 0 3) (hb4 : zI b4 0 20) (hb8 : zR b8 0 12) (hb9 : zR b9 0 9) : zM l G y_Traces_add prog_10_method_8_code 4 (Option.some Jvm.ClassFile.FieldType.boolean) m_s2_Traces_add [.ref b0, .int b1] [(b0, .inr (2, [.int b2, .int b3, .int b4, .ref b5, .ref b6, .ref b7])), (b5, .inl (G.2 0, 20, .inl b8)), (b6, .inl (G.2 0, 240, .inl b9)), (b7, .inl (G.2 0, 240, .inl b10))] (fun v w => ∃ (e0 : Int32), ∃ (e1 : Nat → Int32), ∃ (e2 : Nat → Int32), ∃ (e3 : Nat → Int32), v = some (.int e0) ∧ w = [(b0, .inr (2, [.int b2, .int b3, .int b4, .ref b5, .ref b6, .ref b7])), (b5, .inl (G.2 0, 20, .inl e1)), (b6, .inl (G.2 0, 240, .inl e2)), (b7, .inl (G.2 0, 240, .inl e3))] ∧ (zI e0 0 1) ∧ (zR e1 0 12) ∧ (zR e2 0 9) ∧ (¬ (1 ≤ ((zrow b2 b3 b4 b8 b9 b10) 0).toInt ∧ zll (zrow b2 b3 b4 b8 b9 b10) ≠ 12) ∧ (e0 : Int32).toInt = 0 ∧ (zrow b2 b3 b4 e1 e2 e3) = (zrow b2 b3 b4 b8 b9 b10) ∨ (1 ≤ ((zrow b2 b3 b4 b8 b9 b10) 0).toInt ∧ zll (zrow b2 b3 b4 b8 b9 b10) ≠ 12) ∧ (e0 : Int32).toInt = 1 ∧ (zrow b2 b3 b4 e1 e2 e3) = zad (zrow b2 b3 b4 b8 b9 b10) b1)) := by
  refine z_start (by decide +kernel) (Nat.le_of_ble_eq_true rfl) ?_
  intro p e s m below meth c A Z hr hnm hA hP hD hS ls hl
  have Z : zC p s m _ meth c prog_10_method_8_code 4 "TraceMachines$Traces" G := Z
  obtain ⟨hx, hb, hml, hown, hts, hK, hN, hlocks⟩ := id Z
  have hl : lv_has ls 4 [(0, .ref b0), (1, .int b1)] := hl
  refine lv_aload_n hx hb d_Traces_add_0 rfl (lv_at hl 0 rfl) ?_
  refine va_get (D := G.1) (ci := 2) (v := .int b2) (C := R_Traces) (T := F_Traces) (N := 6) hx hb hts i_Traces hown hK hP 0 rfl rfl 0 (by decide) (hts _ q52) (fun _ h9 => h9) rfl d_Traces_add_1 ?_
  refine lv_iconst (v := 1) hx hb d_Traces_add_4 (by decide) ?_
  refine lv_isub hx hb d_Traces_add_5 ?_
  refine lv_topi (fun v_1 ev_1 => ?_)
  obtain ⟨qv_1, hv_1⟩ := zI_sub (l := -1) (h := 19) hb2 zc_1 ev_1 (by decide)
  rw [li_1] at qv_1
  refine lv_istore_n (lv' := [(2, .int v_1), (0, .ref b0), (1, .int b1)]) hx hb d_Traces_add_6 rfl hl (by decide) rfl (fun ls hl => ?_)
  refine lv_iload_n hx hb d_Traces_add_7 rfl (lv_at hl 0 rfl) ?_
  refine lv_if_lt (tgt := 22) hx hb d_Traces_add_8 (by decide) (fun hc_2 => ?_) (fun hc_2 => ?_)
  · have _nhc_2 := hc_2
    have ni_3 := (fa_lt _ _).mp hc_2
    rw [li_0] at ni_3
    have hv_4 : zI v_1 (-1) (-1) := zI.lt_l hv_1 zc_0 hc_2 (by decide)
    refine lv_iconst (v := 0) hx hb d_Traces_add_22 (by decide) ?_
    exact z_zret hx hb hr hlocks rfl hP hD hS (Nat.le_of_ble_eq_true rfl) (Nat.le_of_ble_eq_true rfl) d_Traces_add_23 ⟨0, b8, b9, b10, rfl, rfl, (zI.wk (l' := 0) (h' := 1) zc_0 (by decide)), hb8, hb9, (Or.inl ⟨fun h9 => by (have h8 : 1 ≤ b2.toInt := h9.1); omega, li_0, rfl⟩)⟩
  · have _nhc_2 := hc_2
    have ni_5 := (fa_le _ _).mp (zi_nlt hc_2)
    rw [li_0] at ni_5
    have hv_6 : zI v_1 0 19 := zI.le_r zc_0 hv_1 (zi_nlt hc_2) (by decide)
    refine lv_aload_n hx hb d_Traces_add_11 rfl (lv_at hl 1 rfl) ?_
    refine va_get (D := G.1) (ci := 2) (v := .ref b5) (C := R_Traces) (T := F_Traces) (N := 6) hx hb hts i_Traces hown hK hP 0 rfl rfl 3 (by decide) (hts _ q63) (fun _ h9 => h9) rfl d_Traces_add_12 ?_
    refine lv_iload_n hx hb d_Traces_add_15 rfl (lv_at hl 0 rfl) ?_
    refine va_iald hx hb hK hP 1 0 rfl rfl (zI.inn hv_6 (by decide)) d_Traces_add_16 ?_
    refine lv_topi (fun v_7 ev_7 => ?_)
    have hv_7 : zI v_7 0 12 := (hb8 _).eq ev_7
    refine lv_bipush (v := 12) hx hb d_Traces_add_17 (by decide) ?_
    refine lv_icmp_ne (tgt := 24) hx hb d_Traces_add_19 (by decide) (fun hc_8 => ?_) (fun hc_8 => ?_)
    · have _nhc_8 := hc_8
      have ni_9 : ¬ (v_7 : Int32).toInt = (12 : Int32).toInt := fun z => hc_8 ((fa_eq _ _).mpr z)
      simp only [li_12] at ni_9
      have hv_10 : zI v_7 0 11 := zI.ne_hi hv_7 zc_12 hc_8 (by decide)
      refine lv_iload_n hx hb d_Traces_add_24 rfl (lv_at hl 0 rfl) ?_
      refine lv_bipush (v := 12) hx hb d_Traces_add_25 (by decide) ?_
      refine lv_imul hx hb d_Traces_add_27 ?_
      refine lv_topi (fun v_11 ev_11 => ?_)
      obtain ⟨qv_11, hv_11⟩ := zI_mul (l := 0) (h := 228) hv_6 zc_12 ev_11 (by decide)
      rw [li_12] at qv_11
      refine lv_aload_n hx hb d_Traces_add_28 rfl (lv_at hl 1 rfl) ?_
      refine va_get (D := G.1) (ci := 2) (v := .ref b5) (C := R_Traces) (T := F_Traces) (N := 6) hx hb hts i_Traces hown hK hP 0 rfl rfl 3 (by decide) (hts _ q63) (fun _ h9 => h9) rfl d_Traces_add_29 ?_
      refine lv_iload_n hx hb d_Traces_add_32 rfl (lv_at hl 0 rfl) ?_
      refine va_iald hx hb hK hP 1 0 rfl rfl (zI.inn hv_6 (by decide)) d_Traces_add_33 ?_
      refine lv_topi (fun v_12 ev_12 => ?_)
      obtain rfl : v_7 = v_12 := ev_7.trans ev_12.symm
      refine lv_iadd hx hb d_Traces_add_34 ?_
      refine lv_topi (fun v_13 ev_13 => ?_)
      obtain ⟨qv_13, hv_13⟩ := zI_add (l := 0) (h := 239) hv_11 hv_10 ev_13 (by decide)
      refine lv_istore_n (lv' := [(3, .int v_13), (2, .int v_1), (0, .ref b0), (1, .int b1)]) hx hb d_Traces_add_35 rfl hl (by decide) rfl (fun ls hl => ?_)
      refine lv_aload_n hx hb d_Traces_add_36 rfl (lv_at hl 2 rfl) ?_
      refine va_get (D := G.1) (ci := 2) (v := .ref b6) (C := R_Traces) (T := F_Traces) (N := 6) hx hb hts i_Traces hown hK hP 0 rfl rfl 4 (by decide) (hts _ q72) (fun _ h9 => h9) rfl d_Traces_add_37 ?_
      refine lv_iload_n hx hb d_Traces_add_40 rfl (lv_at hl 0 rfl) ?_
      refine lv_iload_n hx hb d_Traces_add_41 rfl (lv_at hl 3 rfl) ?_
      refine va_iast hx hb hK hP hD hS 2 0 rfl rfl (zI.inn hv_13 (by decide)) d_Traces_add_42 (fun H locs hP hD hS => ?_)
      obtain ⟨f_14, hf_14, gf_14, uf_14, hP, hD⟩ := z_newfu 2 hP hD rfl hb9 hb1
      have hP : va_P G.1 classes [(b0, .inr (2, [.int b2, .int b3, .int b4, .ref b5, .ref b6, .ref b7])), (b5, .inl (G.2 0, 20, .inl b8)), (b6, .inl (G.2 0, 240, .inl f_14)), (b7, .inl (G.2 0, 240, .inl b10))] H := hP
      have hD := z_tie hP hD rfl
      refine lv_aload_n hx hb d_Traces_add_43 rfl (lv_at hl 2 rfl) ?_
      refine va_get (D := G.1) (ci := 2) (v := .ref b7) (C := R_Traces) (T := F_Traces) (N := 6) hx hb hts i_Traces hown hK hP 0 rfl rfl 5 (by decide) (hts _ q73) (fun _ h9 => h9) rfl d_Traces_add_44 ?_
      refine lv_iload_n hx hb d_Traces_add_47 rfl (lv_at hl 0 rfl) ?_
      refine lv_iconst (v := 0) hx hb d_Traces_add_48 (by decide) ?_
      refine va_iast hx hb hK hP hD hS 3 0 rfl rfl (zI.inn hv_13 (by decide)) d_Traces_add_49 (fun H locs hP hD hS => ?_)
      obtain ⟨f_15, gf_15, uf_15, hP, hD⟩ := z_newFu 3 hP hD rfl
      have hP : va_P G.1 classes [(b0, .inr (2, [.int b2, .int b3, .int b4, .ref b5, .ref b6, .ref b7])), (b5, .inl (G.2 0, 20, .inl b8)), (b6, .inl (G.2 0, 240, .inl f_14)), (b7, .inl (G.2 0, 240, .inl f_15))] H := hP
      have hD := z_tie hP hD rfl
      refine lv_aload_n hx hb d_Traces_add_50 rfl (lv_at hl 2 rfl) ?_
      refine va_get (D := G.1) (ci := 2) (v := .ref b5) (C := R_Traces) (T := F_Traces) (N := 6) hx hb hts i_Traces hown hK hP 0 rfl rfl 3 (by decide) (hts _ q63) (fun _ h9 => h9) rfl d_Traces_add_51 ?_
      refine lv_iload_n hx hb d_Traces_add_54 rfl (lv_at hl 1 rfl) ?_
      refine lv_dup2_11 hx hb d_Traces_add_55 rfl rfl ?_
      refine va_iald hx hb hK hP 1 0 rfl rfl (zI.inn hv_6 (by decide)) d_Traces_add_56 ?_
      refine lv_topi (fun v_16 ev_16 => ?_)
      obtain rfl : v_7 = v_16 := ev_7.trans ev_16.symm
      refine lv_iconst (v := 1) hx hb d_Traces_add_57 (by decide) ?_
      refine lv_iadd hx hb d_Traces_add_58 ?_
      refine lv_topi (fun v_17 ev_17 => ?_)
      obtain ⟨qv_17, hv_17⟩ := zI_add (l := 1) (h := 12) hv_10 zc_1 ev_17 (by decide)
      rw [li_1] at qv_17
      refine va_iast hx hb hK hP hD hS 1 0 rfl rfl (zI.inn hv_6 (by decide)) d_Traces_add_59 (fun H locs hP hD hS => ?_)
      obtain ⟨f_18, hf_18, gf_18, uf_18, hP, hD⟩ := z_newfu 1 hP hD rfl hb8 (zI.wk (l' := 0) (h' := 12) hv_17 (by decide))
      have hP : va_P G.1 classes [(b0, .inr (2, [.int b2, .int b3, .int b4, .ref b5, .ref b6, .ref b7])), (b5, .inl (G.2 0, 20, .inl f_18)), (b6, .inl (G.2 0, 240, .inl f_14)), (b7, .inl (G.2 0, 240, .inl f_15))] H := hP
      have hD := z_tie hP hD rfl
      refine lv_iconst (v := 1) hx hb d_Traces_add_60 (by decide) ?_
      exact z_zret hx hb hr hlocks rfl hP hD hS (Nat.le_of_ble_eq_true rfl) (Nat.le_of_ble_eq_true rfl) d_Traces_add_61 ⟨1, f_18, f_14, f_15, rfl, rfl, (zI.wk (l' := 0) (h' := 1) zc_1 (by decide)), hf_18, hf_14, (by have h9 := zrow_ad (n := b2) (d := b3) (mg := b4) ⟨by omega, by omega⟩ (by omega) ev_7 ⟨by omega, by omega⟩ (by omega) uf_14 uf_15 uf_18 ev_17; exact Or.inr ⟨h9.1, li_1, h9.2⟩)⟩
    · have _nhc_8 := hc_8
      have ni_19 := (fa_eq _ _).mp hc_8
      rw [li_12] at ni_19
      have hv_20 : zI v_7 12 12 := zI.eq_l hv_7 zc_12 hc_8
      refine lv_iconst (v := 0) hx hb d_Traces_add_22 (by decide) ?_
      exact z_zret hx hb hr hlocks rfl hP hD hS (Nat.le_of_ble_eq_true rfl) (Nat.le_of_ble_eq_true rfl) d_Traces_add_23 ⟨0, b8, b9, b10, rfl, rfl, (zI.wk (l' := 0) (h' := 1) zc_0 (by decide)), hb8, hb9, (Or.inl ⟨fun h9 => h9.2 (by rw [zll_ld (la := v_1) ⟨by omega, by omega⟩ (by omega) ev_7]; omega), li_0, rfl⟩)⟩
abbrev m_s2_Traces_addDigit : Room := { frames := 0, cells := 0, slots := 0, locals := 0 }
set_option maxHeartbeats 4000000 in
set_option maxRecDepth 100000 in
theorem s2_Traces_addDigit (l : Launch) (G : zG) (b0 : Nat) (b1 : Int32) (b2 : Int32) (b3 : Int32) (b4 : Int32) (b5 : Nat) (b6 : Nat) (b7 : Nat) (b8 : Nat → Int32) (b9 : Nat → Int32) (b10 : Nat → Int32) (hb1 : zI b1 0 9) (hb2 : zI b2 0 20) (hb3 : zI b3 0 3) (hb4 : zI b4 0 20) (hb8 : zR b8 0 12) (hb9 : zR b9 0 9) : zM l G y_Traces_addDigit prog_10_method_9_code 4 (Option.none : Option Jvm.ClassFile.FieldType) m_s2_Traces_addDigit [.ref b0, .int b1] [(b0, .inr (2, [.int b2, .int b3, .int b4, .ref b5, .ref b6, .ref b7])), (b5, .inl (G.2 0, 20, .inl b8)), (b6, .inl (G.2 0, 240, .inl b9)), (b7, .inl (G.2 0, 240, .inl b10))] (fun v w => ∃ (e0 : Nat → Int32), v = none ∧ w = [(b0, .inr (2, [.int b2, .int b3, .int b4, .ref b5, .ref b6, .ref b7])), (b5, .inl (G.2 0, 20, .inl b8)), (b6, .inl (G.2 0, 240, .inl b9)), (b7, .inl (G.2 0, 240, .inl e0))] ∧ ((zrow b2 b3 b4 b8 b9 e0) = zdg (zrow b2 b3 b4 b8 b9 b10) b1)) := by
  refine z_start (by decide +kernel) (Nat.le_of_ble_eq_true rfl) ?_
  intro p e s m below meth c A Z hr hnm hA hP hD hS ls hl
  have Z : zC p s m _ meth c prog_10_method_9_code 4 "TraceMachines$Traces" G := Z
  obtain ⟨hx, hb, hml, hown, hts, hK, hN, hlocks⟩ := id Z
  have hl : lv_has ls 4 [(0, .ref b0), (1, .int b1)] := hl
  refine lv_aload_n hx hb d_Traces_addDigit_0 rfl (lv_at hl 0 rfl) ?_
  refine va_get (D := G.1) (ci := 2) (v := .int b2) (C := R_Traces) (T := F_Traces) (N := 6) hx hb hts i_Traces hown hK hP 0 rfl rfl 0 (by decide) (hts _ q52) (fun _ h9 => h9) rfl d_Traces_addDigit_1 ?_
  refine lv_iconst (v := 1) hx hb d_Traces_addDigit_4 (by decide) ?_
  refine lv_isub hx hb d_Traces_addDigit_5 ?_
  refine lv_topi (fun v_1 ev_1 => ?_)
  obtain ⟨qv_1, hv_1⟩ := zI_sub (l := -1) (h := 19) hb2 zc_1 ev_1 (by decide)
  rw [li_1] at qv_1
  refine lv_istore_n (lv' := [(2, .int v_1), (0, .ref b0), (1, .int b1)]) hx hb d_Traces_addDigit_6 rfl hl (by decide) rfl (fun ls hl => ?_)
  refine lv_iload_n hx hb d_Traces_addDigit_7 rfl (lv_at hl 0 rfl) ?_
  refine lv_if_lt (tgt := 51) hx hb d_Traces_addDigit_8 (by decide) (fun hc_2 => ?_) (fun hc_2 => ?_)
  · have _nhc_2 := hc_2
    have ni_3 := (fa_lt _ _).mp hc_2
    rw [li_0] at ni_3
    have hv_4 : zI v_1 (-1) (-1) := zI.lt_l hv_1 zc_0 hc_2 (by decide)
    exact z_vret hx hb hr hlocks hP hD hS (Nat.le_of_ble_eq_true rfl) (Nat.le_of_ble_eq_true rfl) d_Traces_addDigit_51 ⟨b10, rfl, rfl, (zrow_dn (fun h9 => by (have h8 : 1 ≤ b2.toInt := h9.1); omega))⟩
  · have _nhc_2 := hc_2
    have ni_5 := (fa_le _ _).mp (zi_nlt hc_2)
    rw [li_0] at ni_5
    have hv_6 : zI v_1 0 19 := zI.le_r zc_0 hv_1 (zi_nlt hc_2) (by decide)
    refine lv_aload_n hx hb d_Traces_addDigit_11 rfl (lv_at hl 1 rfl) ?_
    refine va_get (D := G.1) (ci := 2) (v := .ref b5) (C := R_Traces) (T := F_Traces) (N := 6) hx hb hts i_Traces hown hK hP 0 rfl rfl 3 (by decide) (hts _ q63) (fun _ h9 => h9) rfl d_Traces_addDigit_12 ?_
    refine lv_iload_n hx hb d_Traces_addDigit_15 rfl (lv_at hl 0 rfl) ?_
    refine va_iald hx hb hK hP 1 0 rfl rfl (zI.inn hv_6 (by decide)) d_Traces_addDigit_16 ?_
    refine lv_topi (fun v_7 ev_7 => ?_)
    have hv_7 : zI v_7 0 12 := (hb8 _).eq ev_7
    refine lv_if_le (tgt := 51) hx hb d_Traces_addDigit_17 (by decide) (fun hc_8 => ?_) (fun hc_8 => ?_)
    · have _nhc_8 := hc_8
      have ni_9 := (fa_le _ _).mp hc_8
      rw [li_0] at ni_9
      have hv_10 : zI v_7 0 0 := zI.le_l hv_7 zc_0 hc_8 (by decide)
      exact z_vret hx hb hr hlocks hP hD hS (Nat.le_of_ble_eq_true rfl) (Nat.le_of_ble_eq_true rfl) d_Traces_addDigit_51 ⟨b10, rfl, rfl, (zrow_dn (fun h9 => by (have h8 := h9.2); rw [zll_ld (la := v_1) ⟨by omega, by omega⟩ (by omega) ev_7] at h8; omega))⟩
    · have _nhc_8 := hc_8
      have ni_11 := (fa_lt _ _).mp (zi_nle hc_8)
      rw [li_0] at ni_11
      have hv_12 : zI v_7 1 12 := zI.lt_r zc_0 hv_7 (zi_nle hc_8) (by decide)
      refine lv_iload_n hx hb d_Traces_addDigit_20 rfl (lv_at hl 0 rfl) ?_
      refine lv_bipush (v := 12) hx hb d_Traces_addDigit_21 (by decide) ?_
      refine lv_imul hx hb d_Traces_addDigit_23 ?_
      refine lv_topi (fun v_13 ev_13 => ?_)
      obtain ⟨qv_13, hv_13⟩ := zI_mul (l := 0) (h := 228) hv_6 zc_12 ev_13 (by decide)
      rw [li_12] at qv_13
      refine lv_aload_n hx hb d_Traces_addDigit_24 rfl (lv_at hl 1 rfl) ?_
      refine va_get (D := G.1) (ci := 2) (v := .ref b5) (C := R_Traces) (T := F_Traces) (N := 6) hx hb hts i_Traces hown hK hP 0 rfl rfl 3 (by decide) (hts _ q63) (fun _ h9 => h9) rfl d_Traces_addDigit_25 ?_
      refine lv_iload_n hx hb d_Traces_addDigit_28 rfl (lv_at hl 0 rfl) ?_
      refine va_iald hx hb hK hP 1 0 rfl rfl (zI.inn hv_6 (by decide)) d_Traces_addDigit_29 ?_
      refine lv_topi (fun v_14 ev_14 => ?_)
      obtain rfl : v_7 = v_14 := ev_7.trans ev_14.symm
      refine lv_iadd hx hb d_Traces_addDigit_30 ?_
      refine lv_topi (fun v_15 ev_15 => ?_)
      obtain ⟨qv_15, hv_15⟩ := zI_add (l := 1) (h := 240) hv_13 hv_12 ev_15 (by decide)
      refine lv_iconst (v := 1) hx hb d_Traces_addDigit_31 (by decide) ?_
      refine lv_isub hx hb d_Traces_addDigit_32 ?_
      refine lv_topi (fun v_16 ev_16 => ?_)
      obtain ⟨qv_16, hv_16⟩ := zI_sub (l := 0) (h := 239) hv_15 zc_1 ev_16 (by decide)
      rw [li_1] at qv_16
      refine lv_istore_n (lv' := [(3, .int v_16), (2, .int v_1), (0, .ref b0), (1, .int b1)]) hx hb d_Traces_addDigit_33 rfl hl (by decide) rfl (fun ls hl => ?_)
      refine lv_aload_n hx hb d_Traces_addDigit_34 rfl (lv_at hl 2 rfl) ?_
      refine va_get (D := G.1) (ci := 2) (v := .ref b7) (C := R_Traces) (T := F_Traces) (N := 6) hx hb hts i_Traces hown hK hP 0 rfl rfl 5 (by decide) (hts _ q73) (fun _ h9 => h9) rfl d_Traces_addDigit_35 ?_
      refine lv_iload_n hx hb d_Traces_addDigit_38 rfl (lv_at hl 0 rfl) ?_
      refine lv_bipush (v := 10) hx hb d_Traces_addDigit_39 (by decide) ?_
      refine lv_aload_n hx hb d_Traces_addDigit_41 rfl (lv_at hl 2 rfl) ?_
      refine va_get (D := G.1) (ci := 2) (v := .ref b7) (C := R_Traces) (T := F_Traces) (N := 6) hx hb hts i_Traces hown hK hP 0 rfl rfl 5 (by decide) (hts _ q73) (fun _ h9 => h9) rfl d_Traces_addDigit_42 ?_
      refine lv_iload_n hx hb d_Traces_addDigit_45 rfl (lv_at hl 0 rfl) ?_
      refine va_iald hx hb hK hP 3 0 rfl rfl (zI.inn hv_16 (by decide)) d_Traces_addDigit_46 ?_
      refine lv_topi (fun v_17 ev_17 => ?_)
      refine lv_imul hx hb d_Traces_addDigit_47 ?_
      refine lv_topi (fun v_18 ev_18 => ?_)
      refine lv_iload_n hx hb d_Traces_addDigit_48 rfl (lv_at hl 3 rfl) ?_
      refine lv_iadd hx hb d_Traces_addDigit_49 ?_
      refine lv_topi (fun v_19 ev_19 => ?_)
      refine va_iast hx hb hK hP hD hS 3 0 rfl rfl (zI.inn hv_16 (by decide)) d_Traces_addDigit_50 (fun H locs hP hD hS => ?_)
      obtain ⟨f_20, gf_20, uf_20, hP, hD⟩ := z_newFu 3 hP hD rfl
      have hP : va_P G.1 classes [(b0, .inr (2, [.int b2, .int b3, .int b4, .ref b5, .ref b6, .ref b7])), (b5, .inl (G.2 0, 20, .inl b8)), (b6, .inl (G.2 0, 240, .inl b9)), (b7, .inl (G.2 0, 240, .inl f_20))] H := hP
      have hD := z_tie hP hD rfl
      exact z_vret hx hb hr hlocks hP hD hS (Nat.le_of_ble_eq_true rfl) (Nat.le_of_ble_eq_true rfl) d_Traces_addDigit_51 ⟨f_20, rfl, rfl, (zrow_dg ⟨by omega, by omega⟩ (by omega) ev_7 ⟨by omega, by omega⟩ (by omega) ev_17 ev_18 ev_19 uf_20)⟩
abbrev m_s2_Traces_copyFrom : Room := { frames := 1, cells := 0, slots := 0, locals := 18 }
set_option maxHeartbeats 4000000 in
set_option maxRecDepth 100000 in
theorem s2_Traces_copyFrom (l : Launch) (G : zG) (b0 : Nat) (b1 : Nat) (b2 : Int32) (b3 : Int32) (b4 : Int32) (b5 : Nat) (b6 : Nat) (b7 : Nat) (b8 : Nat → Int32) (b9 : Nat → Int32) (b10 : Nat → Int32) (b11 : Int32) (b12 : Int32) (b13 : Int32) (b14 : Nat) (b15 : Nat) (b16 : Nat) (b17 : Nat → Int32) (b18 : Nat → Int32) (b19 : Nat → Int32) (hb2 : zI b2 0 20) (hb3 : zI b3 0 3) (hb4 : zI b4 0 20) (hb11 : zI b11 0 20) (hb12 : zI b12 0 3) (hb13 : zI b13 0 20) (hb8 : zR b8 0 12) (hb9 : zR b9 0 9) (hb17 : zR b17 0 12) (hb18 : zR b18 0 9) : zM l G y_Traces_copyFrom prog_10_method_2_code 2 (Option.none : Option Jvm.ClassFile.FieldType) m_s2_Traces_copyFrom [.ref b0, .ref b1] [(b0, .inr (2, [.int b2, .int b3, .int b4, .ref b5, .ref b6, .ref b7])), (b5, .inl (G.2 0, 20, .inl b8)), (b6, .inl (G.2 0, 240, .inl b9)), (b7, .inl (G.2 0, 240, .inl b10)), (b1, .inr (2, [.int b11, .int b12, .int b13, .ref b14, .ref b15, .ref b16])), (b14, .inl (G.2 0, 20, .inl b17)), (b15, .inl (G.2 0, 240, .inl b18)), (b16, .inl (G.2 0, 240, .inl b19))] (fun v w => ∃ (e0 : Nat → Int32), ∃ (e1 : Nat → Int32), ∃ (e2 : Nat → Int32), v = none ∧ w = [(b0, .inr (2, [.int b11, .int b12, .int b13, .ref b5, .ref b6, .ref b7])), (b5, .inl (G.2 0, 20, .inl e0)), (b6, .inl (G.2 0, 240, .inl e1)), (b7, .inl (G.2 0, 240, .inl e2)), (b1, .inr (2, [.int b11, .int b12, .int b13, .ref b14, .ref b15, .ref b16])), (b14, .inl (G.2 0, 20, .inl b17)), (b15, .inl (G.2 0, 240, .inl b18)), (b16, .inl (G.2 0, 240, .inl b19))] ∧ (zR e0 0 12) ∧ (zR e1 0 9) ∧ (zE (zrow b11 b12 b13 e0 e1 e2) (zrow b11 b12 b13 b17 b18 b19))) := by
  refine z_start (by decide +kernel) (Nat.le_of_ble_eq_true rfl) ?_
  intro p e s m below meth c A Z hr hnm hA hP hD hS ls hl
  have Z : zC p s m _ meth c prog_10_method_2_code 2 "TraceMachines$Traces" G := Z
  obtain ⟨hx, hb, hml, hown, hts, hK, hN, hlocks⟩ := id Z
  have hl : lv_has ls 2 [(0, .ref b0), (1, .ref b1)] := hl
  refine lv_aload_n hx hb d_Traces_copyFrom_0 rfl (lv_at hl 0 rfl) ?_
  refine lv_aload_n hx hb d_Traces_copyFrom_1 rfl (lv_at hl 1 rfl) ?_
  refine va_get (D := G.1) (ci := 2) (v := .int b11) (C := R_Traces) (T := F_Traces) (N := 6) hx hb hts i_Traces hown hK hP 4 rfl rfl 0 (by decide) (hts _ q52) (fun _ h9 => h9) rfl d_Traces_copyFrom_2 ?_
  refine va_put (D := G.1) (ci := 2) (v := .int b11) (ty := .int) (C := R_Traces) (T := F_Traces) (N := 6) hx hb hts i_Traces t_Traces t_Traces_ok n_Traces hown hK hP hD hS 0 rfl rfl 0 (by decide) (hts _ q52) (fun _ h9 => h9) rfl (by decide +kernel) rfl rfl (Nat.le_of_ble_eq_true rfl) d_Traces_copyFrom_5 (fun H locs hP hD hS => ?_)
  have hP : va_P G.1 classes [(b0, .inr (2, [.int b11, .int b3, .int b4, .ref b5, .ref b6, .ref b7])), (b5, .inl (G.2 0, 20, .inl b8)), (b6, .inl (G.2 0, 240, .inl b9)), (b7, .inl (G.2 0, 240, .inl b10)), (b1, .inr (2, [.int b11, .int b12, .int b13, .ref b14, .ref b15, .ref b16])), (b14, .inl (G.2 0, 20, .inl b17)), (b15, .inl (G.2 0, 240, .inl b18)), (b16, .inl (G.2 0, 240, .inl b19))] H := hP
  have hD := z_tie hP hD rfl
  refine lv_aload_n hx hb d_Traces_copyFrom_8 rfl (lv_at hl 0 rfl) ?_
  refine lv_aload_n hx hb d_Traces_copyFrom_9 rfl (lv_at hl 1 rfl) ?_
  refine va_get (D := G.1) (ci := 2) (v := .int b12) (C := R_Traces) (T := F_Traces) (N := 6) hx hb hts i_Traces hown hK hP 4 rfl rfl 1 (by decide) (hts _ q59) (fun _ h9 => h9) rfl d_Traces_copyFrom_10 ?_
  refine va_put (D := G.1) (ci := 2) (v := .int b12) (ty := .int) (C := R_Traces) (T := F_Traces) (N := 6) hx hb hts i_Traces t_Traces t_Traces_ok n_Traces hown hK hP hD hS 0 rfl rfl 1 (by decide) (hts _ q59) (fun _ h9 => h9) rfl (by decide +kernel) rfl rfl (Nat.le_of_ble_eq_true rfl) d_Traces_copyFrom_13 (fun H locs hP hD hS => ?_)
  have hP : va_P G.1 classes [(b0, .inr (2, [.int b11, .int b12, .int b4, .ref b5, .ref b6, .ref b7])), (b5, .inl (G.2 0, 20, .inl b8)), (b6, .inl (G.2 0, 240, .inl b9)), (b7, .inl (G.2 0, 240, .inl b10)), (b1, .inr (2, [.int b11, .int b12, .int b13, .ref b14, .ref b15, .ref b16])), (b14, .inl (G.2 0, 20, .inl b17)), (b15, .inl (G.2 0, 240, .inl b18)), (b16, .inl (G.2 0, 240, .inl b19))] H := hP
  have hD := z_tie hP hD rfl
  refine lv_aload_n hx hb d_Traces_copyFrom_16 rfl (lv_at hl 0 rfl) ?_
  refine lv_aload_n hx hb d_Traces_copyFrom_17 rfl (lv_at hl 1 rfl) ?_
  refine va_get (D := G.1) (ci := 2) (v := .int b13) (C := R_Traces) (T := F_Traces) (N := 6) hx hb hts i_Traces hown hK hP 4 rfl rfl 2 (by decide) (hts _ q61) (fun _ h9 => h9) rfl d_Traces_copyFrom_18 ?_
  refine va_put (D := G.1) (ci := 2) (v := .int b13) (ty := .int) (C := R_Traces) (T := F_Traces) (N := 6) hx hb hts i_Traces t_Traces t_Traces_ok n_Traces hown hK hP hD hS 0 rfl rfl 2 (by decide) (hts _ q61) (fun _ h9 => h9) rfl (by decide +kernel) rfl rfl (Nat.le_of_ble_eq_true rfl) d_Traces_copyFrom_21 (fun H locs hP hD hS => ?_)
  have hP : va_P G.1 classes [(b0, .inr (2, [.int b11, .int b12, .int b13, .ref b5, .ref b6, .ref b7])), (b5, .inl (G.2 0, 20, .inl b8)), (b6, .inl (G.2 0, 240, .inl b9)), (b7, .inl (G.2 0, 240, .inl b10)), (b1, .inr (2, [.int b11, .int b12, .int b13, .ref b14, .ref b15, .ref b16])), (b14, .inl (G.2 0, 20, .inl b17)), (b15, .inl (G.2 0, 240, .inl b18)), (b16, .inl (G.2 0, 240, .inl b19))] H := hP
  have hD := z_tie hP hD rfl
  refine lv_aload_n hx hb d_Traces_copyFrom_24 rfl (lv_at hl 1 rfl) ?_
  refine va_get (D := G.1) (ci := 2) (v := .ref b14) (C := R_Traces) (T := F_Traces) (N := 6) hx hb hts i_Traces hown hK hP 4 rfl rfl 3 (by decide) (hts _ q63) (fun _ h9 => h9) rfl d_Traces_copyFrom_25 ?_
  refine lv_iconst (v := 0) hx hb d_Traces_copyFrom_28 (by decide) ?_
  refine lv_aload_n hx hb d_Traces_copyFrom_29 rfl (lv_at hl 0 rfl) ?_
  refine va_get (D := G.1) (ci := 2) (v := .ref b5) (C := R_Traces) (T := F_Traces) (N := 6) hx hb hts i_Traces hown hK hP 0 rfl rfl 3 (by decide) (hts _ q63) (fun _ h9 => h9) rfl d_Traces_copyFrom_30 ?_
  refine lv_iconst (v := 0) hx hb d_Traces_copyFrom_33 (by decide) ?_
  refine lv_aload_n hx hb d_Traces_copyFrom_34 rfl (lv_at hl 0 rfl) ?_
  refine va_get (D := G.1) (ci := 2) (v := .int b11) (C := R_Traces) (T := F_Traces) (N := 6) hx hb hts i_Traces hown hK hP 0 rfl rfl 0 (by decide) (hts _ q52) (fun _ h9 => h9) rfl d_Traces_copyFrom_35 ?_
  refine va_copyi hx hb (hml.trans hl.1.symm) hown (hts _ q502) (hts _ q504) (hts _ q503) (hts _ q15) hK hP hD hS 5 1 0 0 rfl rfl rfl rfl rfl (zi_nn zc_0 (by decide)) (zi_nn zc_0 (by decide)) (zi_nn hb11 (by decide)) (zi_cp zc_0 hb11 (by decide) (by decide) (by decide)) (zi_cp zc_0 hb11 (by decide) (by decide) (by decide)) (fun _ _ => rfl) (Nat.le_of_ble_eq_true rfl) (Nat.le_of_ble_eq_true rfl) d_Traces_copyFrom_38 (fun H locs hP hD hS => ?_)
  obtain ⟨f_1, hf_1, uf_1, hP, hD⟩ := z_newfe 1 hP hD rfl (zR.cpy hb17 hb8)
  have hP : va_P G.1 classes [(b0, .inr (2, [.int b11, .int b12, .int b13, .ref b5, .ref b6, .ref b7])), (b5, .inl (G.2 0, 20, .inl f_1)), (b6, .inl (G.2 0, 240, .inl b9)), (b7, .inl (G.2 0, 240, .inl b10)), (b1, .inr (2, [.int b11, .int b12, .int b13, .ref b14, .ref b15, .ref b16])), (b14, .inl (G.2 0, 20, .inl b17)), (b15, .inl (G.2 0, 240, .inl b18)), (b16, .inl (G.2 0, 240, .inl b19))] H := hP
  have hD := z_tie hP hD rfl
  refine lv_aload_n hx hb d_Traces_copyFrom_41 rfl (lv_at hl 1 rfl) ?_
  refine va_get (D := G.1) (ci := 2) (v := .ref b15) (C := R_Traces) (T := F_Traces) (N := 6) hx hb hts i_Traces hown hK hP 4 rfl rfl 4 (by decide) (hts _ q72) (fun _ h9 => h9) rfl d_Traces_copyFrom_42 ?_
  refine lv_iconst (v := 0) hx hb d_Traces_copyFrom_45 (by decide) ?_
  refine lv_aload_n hx hb d_Traces_copyFrom_46 rfl (lv_at hl 0 rfl) ?_
  refine va_get (D := G.1) (ci := 2) (v := .ref b6) (C := R_Traces) (T := F_Traces) (N := 6) hx hb hts i_Traces hown hK hP 0 rfl rfl 4 (by decide) (hts _ q72) (fun _ h9 => h9) rfl d_Traces_copyFrom_47 ?_
  refine lv_iconst (v := 0) hx hb d_Traces_copyFrom_50 (by decide) ?_
  refine lv_aload_n hx hb d_Traces_copyFrom_51 rfl (lv_at hl 0 rfl) ?_
  refine va_get (D := G.1) (ci := 2) (v := .int b11) (C := R_Traces) (T := F_Traces) (N := 6) hx hb hts i_Traces hown hK hP 0 rfl rfl 0 (by decide) (hts _ q52) (fun _ h9 => h9) rfl d_Traces_copyFrom_52 ?_
  refine lv_bipush (v := 12) hx hb d_Traces_copyFrom_55 (by decide) ?_
  refine lv_imul hx hb d_Traces_copyFrom_57 ?_
  refine lv_topi (fun v_2 ev_2 => ?_)
  obtain ⟨qv_2, hv_2⟩ := zI_mul (l := 0) (h := 240) hb11 zc_12 ev_2 (by decide)
  rw [li_12] at qv_2
  refine va_copyi hx hb (hml.trans hl.1.symm) hown (hts _ q502) (hts _ q504) (hts _ q503) (hts _ q15) hK hP hD hS 6 2 0 0 rfl rfl rfl rfl rfl (zi_nn zc_0 (by decide)) (zi_nn zc_0 (by decide)) (zi_nn hv_2 (by decide)) (zi_cp zc_0 hv_2 (by decide) (by decide) (by decide)) (zi_cp zc_0 hv_2 (by decide) (by decide) (by decide)) (fun _ _ => rfl) (Nat.le_of_ble_eq_true rfl) (Nat.le_of_ble_eq_true rfl) d_Traces_copyFrom_58 (fun H locs hP hD hS => ?_)
  obtain ⟨f_3, hf_3, uf_3, hP, hD⟩ := z_newfe 2 hP hD rfl (zR.cpy hb18 hb9)
  have hP : va_P G.1 classes [(b0, .inr (2, [.int b11, .int b12, .int b13, .ref b5, .ref b6, .ref b7])), (b5, .inl (G.2 0, 20, .inl f_1)), (b6, .inl (G.2 0, 240, .inl f_3)), (b7, .inl (G.2 0, 240, .inl b10)), (b1, .inr (2, [.int b11, .int b12, .int b13, .ref b14, .ref b15, .ref b16])), (b14, .inl (G.2 0, 20, .inl b17)), (b15, .inl (G.2 0, 240, .inl b18)), (b16, .inl (G.2 0, 240, .inl b19))] H := hP
  have hD := z_tie hP hD rfl
  refine lv_aload_n hx hb d_Traces_copyFrom_61 rfl (lv_at hl 1 rfl) ?_
  refine va_get (D := G.1) (ci := 2) (v := .ref b16) (C := R_Traces) (T := F_Traces) (N := 6) hx hb hts i_Traces hown hK hP 4 rfl rfl 5 (by decide) (hts _ q73) (fun _ h9 => h9) rfl d_Traces_copyFrom_62 ?_
  refine lv_iconst (v := 0) hx hb d_Traces_copyFrom_65 (by decide) ?_
  refine lv_aload_n hx hb d_Traces_copyFrom_66 rfl (lv_at hl 0 rfl) ?_
  refine va_get (D := G.1) (ci := 2) (v := .ref b7) (C := R_Traces) (T := F_Traces) (N := 6) hx hb hts i_Traces hown hK hP 0 rfl rfl 5 (by decide) (hts _ q73) (fun _ h9 => h9) rfl d_Traces_copyFrom_67 ?_
  refine lv_iconst (v := 0) hx hb d_Traces_copyFrom_70 (by decide) ?_
  refine lv_aload_n hx hb d_Traces_copyFrom_71 rfl (lv_at hl 0 rfl) ?_
  refine va_get (D := G.1) (ci := 2) (v := .int b11) (C := R_Traces) (T := F_Traces) (N := 6) hx hb hts i_Traces hown hK hP 0 rfl rfl 0 (by decide) (hts _ q52) (fun _ h9 => h9) rfl d_Traces_copyFrom_72 ?_
  refine lv_bipush (v := 12) hx hb d_Traces_copyFrom_75 (by decide) ?_
  refine lv_imul hx hb d_Traces_copyFrom_77 ?_
  refine lv_topi (fun v_4 ev_4 => ?_)
  obtain rfl : v_2 = v_4 := ev_2.trans ev_4.symm
  refine va_copyi hx hb (hml.trans hl.1.symm) hown (hts _ q502) (hts _ q504) (hts _ q503) (hts _ q15) hK hP hD hS 7 3 0 0 rfl rfl rfl rfl rfl (zi_nn zc_0 (by decide)) (zi_nn zc_0 (by decide)) (zi_nn hv_2 (by decide)) (zi_cp zc_0 hv_2 (by decide) (by decide) (by decide)) (zi_cp zc_0 hv_2 (by decide) (by decide) (by decide)) (fun _ _ => rfl) (Nat.le_of_ble_eq_true rfl) (Nat.le_of_ble_eq_true rfl) d_Traces_copyFrom_78 (fun H locs hP hD hS => ?_)
  obtain ⟨f_5, uf_5, hP, hD⟩ := z_newFe 3 hP hD rfl
  have hP : va_P G.1 classes [(b0, .inr (2, [.int b11, .int b12, .int b13, .ref b5, .ref b6, .ref b7])), (b5, .inl (G.2 0, 20, .inl f_1)), (b6, .inl (G.2 0, 240, .inl f_3)), (b7, .inl (G.2 0, 240, .inl f_5)), (b1, .inr (2, [.int b11, .int b12, .int b13, .ref b14, .ref b15, .ref b16])), (b14, .inl (G.2 0, 20, .inl b17)), (b15, .inl (G.2 0, 240, .inl b18)), (b16, .inl (G.2 0, 240, .inl b19))] H := hP
  have hD := z_tie hP hD rfl
  exact z_vret hx hb hr hlocks hP hD hS (Nat.le_of_ble_eq_true rfl) (Nat.le_of_ble_eq_true rfl) d_Traces_copyFrom_81 ⟨f_1, f_3, f_5, rfl, rfl, hf_1, hf_3, (zE_cpy uf_1 uf_3 uf_5 ⟨⟨by decide +kernel, by decide +kernel, by decide +kernel, by decide +kernel⟩, by decide +kernel, by decide +kernel⟩ ⟨by omega, (by have p9 := z_pl hb11 (by decide); omega), (by have p9 := z_pl hv_2 (by decide); omega), (by have p9 := z_pl hv_2 (by decide); omega)⟩ hb17)⟩
abbrev m_s2_Traces_remove : Room := { frames := 1, cells := 0, slots := 0, locals := 18 }
set_option maxHeartbeats 4000000 in
set_option maxRecDepth 100000 in
theorem s2_Traces_remove (l : Launch) (G : zG) (b0 : Nat) (b1 : Int32) (b2 : Int32) (b3 : Int32) (b4 : Int32) (b5 : Nat) (b6 : Nat) (b7 : Nat) (b8 : Nat → Int32) (b9 : Nat → Int32) (b10 : Nat → Int32) (hb1 : zI b1 0 19) (hb2 : zI b2 0 20) (hb3 : zI b3 0 3) (hb4 : zI b4 0 20) (hb8 : zR b8 0 12) (hb9 : zR b9 0 9) (hrm : b1.toInt < b2.toInt) : zM l G y_Traces_remove prog_10_method_10_code 4 (Option.none : Option Jvm.ClassFile.FieldType) m_s2_Traces_remove [.ref b0, .int b1] [(b0, .inr (2, [.int b2, .int b3, .int b4, .ref b5, .ref b6, .ref b7])), (b5, .inl (G.2 0, 20, .inl b8)), (b6, .inl (G.2 0, 240, .inl b9)), (b7, .inl (G.2 0, 240, .inl b10))] (fun v w => ∃ (e0 : Int32), ∃ (e1 : Nat → Int32), ∃ (e2 : Nat → Int32), ∃ (e3 : Nat → Int32), v = none ∧ w = [(b0, .inr (2, [.int e0, .int b3, .int b4, .ref b5, .ref b6, .ref b7])), (b5, .inl (G.2 0, 20, .inl e1)), (b6, .inl (G.2 0, 240, .inl e2)), (b7, .inl (G.2 0, 240, .inl e3))] ∧ (zI e0 0 20) ∧ (zR e1 0 12) ∧ (zR e2 0 9) ∧ (zE (zrow e0 b3 b4 e1 e2 e3) (zrm (zrow b2 b3 b4 b8 b9 b10) b1.toNatClampNeg))) := by
  refine z_start (by decide +kernel) (Nat.le_of_ble_eq_true rfl) ?_
  intro p e s m below meth c A Z hr hnm hA hP hD hS ls hl
  have Z : zC p s m _ meth c prog_10_method_10_code 4 "TraceMachines$Traces" G := Z
  obtain ⟨hx, hb, hml, hown, hts, hK, hN, hlocks⟩ := id Z
  have hl : lv_has ls 4 [(0, .ref b0), (1, .int b1)] := hl
  have hv_1 : zI b2 1 20 := ⟨by omega, by omega⟩
  refine lv_aload_n hx hb d_Traces_remove_0 rfl (lv_at hl 0 rfl) ?_
  refine va_get (D := G.1) (ci := 2) (v := .int b2) (C := R_Traces) (T := F_Traces) (N := 6) hx hb hts i_Traces hown hK hP 0 rfl rfl 0 (by decide) (hts _ q52) (fun _ h9 => h9) rfl d_Traces_remove_1 ?_
  refine lv_iload_n hx hb d_Traces_remove_4 rfl (lv_at hl 1 rfl) ?_
  refine lv_isub hx hb d_Traces_remove_5 ?_
  refine lv_topi (fun v_2 ev_2 => ?_)
  obtain ⟨qv_2, hv_2⟩ := zI_sub (l := -18) (h := 20) hv_1 hb1 ev_2 (by decide)
  refine lv_iconst (v := 1) hx hb d_Traces_remove_6 (by decide) ?_
  refine lv_isub hx hb d_Traces_remove_7 ?_
  refine lv_topi (fun v_3 ev_3 => ?_)
  obtain ⟨qv_3, hv_3⟩ := zI_sub (l := -19) (h := 19) hv_2 zc_1 ev_3 (by decide)
  rw [li_1] at qv_3
  refine lv_istore_n (lv' := [(2, .int v_3), (0, .ref b0), (1, .int b1)]) hx hb d_Traces_remove_8 rfl hl (by decide) rfl (fun ls hl => ?_)
  refine lv_iload_n hx hb d_Traces_remove_9 rfl (lv_at hl 2 rfl) ?_
  refine lv_bipush (v := 12) hx hb d_Traces_remove_10 (by decide) ?_
  refine lv_imul hx hb d_Traces_remove_12 ?_
  refine lv_topi (fun v_4 ev_4 => ?_)
  obtain ⟨qv_4, hv_4⟩ := zI_mul (l := 0) (h := 228) hb1 zc_12 ev_4 (by decide)
  rw [li_12] at qv_4
  refine lv_istore_n (lv' := [(3, .int v_4), (2, .int v_3), (0, .ref b0), (1, .int b1)]) hx hb d_Traces_remove_13 rfl hl (by decide) rfl (fun ls hl => ?_)
  refine lv_aload_n hx hb d_Traces_remove_14 rfl (lv_at hl 2 rfl) ?_
  refine va_get (D := G.1) (ci := 2) (v := .ref b5) (C := R_Traces) (T := F_Traces) (N := 6) hx hb hts i_Traces hown hK hP 0 rfl rfl 3 (by decide) (hts _ q63) (fun _ h9 => h9) rfl d_Traces_remove_15 ?_
  refine lv_iload_n hx hb d_Traces_remove_18 rfl (lv_at hl 3 rfl) ?_
  refine lv_iconst (v := 1) hx hb d_Traces_remove_19 (by decide) ?_
  refine lv_iadd hx hb d_Traces_remove_20 ?_
  refine lv_topi (fun v_5 ev_5 => ?_)
  obtain ⟨qv_5, hv_5⟩ := zI_add (l := 1) (h := 20) hb1 zc_1 ev_5 (by decide)
  rw [li_1] at qv_5
  refine lv_aload_n hx hb d_Traces_remove_21 rfl (lv_at hl 2 rfl) ?_
  refine va_get (D := G.1) (ci := 2) (v := .ref b5) (C := R_Traces) (T := F_Traces) (N := 6) hx hb hts i_Traces hown hK hP 0 rfl rfl 3 (by decide) (hts _ q63) (fun _ h9 => h9) rfl d_Traces_remove_22 ?_
  refine lv_iload_n hx hb d_Traces_remove_25 rfl (lv_at hl 3 rfl) ?_
  refine lv_iload_n hx hb d_Traces_remove_26 rfl (lv_at hl 1 rfl) ?_
  have hv_6 : zI v_3 0 19 := ⟨by omega, by omega⟩
  refine va_copyi hx hb (hml.trans hl.1.symm) hown (hts _ q502) (hts _ q504) (hts _ q503) (hts _ q15) hK hP hD hS 1 1 0 0 rfl rfl rfl rfl rfl (zi_nn hv_5 (by decide)) (zi_nn hb1 (by decide)) (zi_nn hv_6 (by decide)) (zi_cpo hv_5 hv_6 (by decide) (by decide) (by have _u := hv_5; have _w := hv_6; omega)) (zi_cpo hb1 hv_6 (by decide) (by decide) (by have _u := hb1; have _w := hv_6; omega)) (fun _ _ => rfl) (Nat.le_of_ble_eq_true rfl) (Nat.le_of_ble_eq_true rfl) d_Traces_remove_27 (fun H locs hP hD hS => ?_)
  obtain ⟨f_7, hf_7, uf_7, hP, hD⟩ := z_newfe 1 hP hD rfl (zR.cpy hb8 hb8)
  have hP : va_P G.1 classes [(b0, .inr (2, [.int b2, .int b3, .int b4, .ref b5, .ref b6, .ref b7])), (b5, .inl (G.2 0, 20, .inl f_7)), (b6, .inl (G.2 0, 240, .inl b9)), (b7, .inl (G.2 0, 240, .inl b10))] H := hP
  have hD := z_tie hP hD rfl
  refine lv_aload_n hx hb d_Traces_remove_30 rfl (lv_at hl 2 rfl) ?_
  refine va_get (D := G.1) (ci := 2) (v := .ref b6) (C := R_Traces) (T := F_Traces) (N := 6) hx hb hts i_Traces hown hK hP 0 rfl rfl 4 (by decide) (hts _ q72) (fun _ h9 => h9) rfl d_Traces_remove_31 ?_
  refine lv_iload_n hx hb d_Traces_remove_34 rfl (lv_at hl 0 rfl) ?_
  refine lv_bipush (v := 12) hx hb d_Traces_remove_35 (by decide) ?_
  refine lv_iadd hx hb d_Traces_remove_37 ?_
  refine lv_topi (fun v_8 ev_8 => ?_)
  obtain ⟨qv_8, hv_8⟩ := zI_add (l := 12) (h := 240) hv_4 zc_12 ev_8 (by decide)
  rw [li_12] at qv_8
  refine lv_aload_n hx hb d_Traces_remove_38 rfl (lv_at hl 2 rfl) ?_
  refine va_get (D := G.1) (ci := 2) (v := .ref b6) (C := R_Traces) (T := F_Traces) (N := 6) hx hb hts i_Traces hown hK hP 0 rfl rfl 4 (by decide) (hts _ q72) (fun _ h9 => h9) rfl d_Traces_remove_39 ?_
  refine lv_iload_n hx hb d_Traces_remove_42 rfl (lv_at hl 0 rfl) ?_
  refine lv_iload_n hx hb d_Traces_remove_43 rfl (lv_at hl 1 rfl) ?_
  refine lv_bipush (v := 12) hx hb d_Traces_remove_44 (by decide) ?_
  refine lv_imul hx hb d_Traces_remove_46 ?_
  refine lv_topi (fun v_9 ev_9 => ?_)
  obtain ⟨qv_9, hv_9⟩ := zI_mul (l := 0) (h := 228) hv_6 zc_12 ev_9 (by decide)
  rw [li_12] at qv_9
  refine va_copyi hx hb (hml.trans hl.1.symm) hown (hts _ q502) (hts _ q504) (hts _ q503) (hts _ q15) hK hP hD hS 2 2 0 0 rfl rfl rfl rfl rfl (zi_nn hv_8 (by decide)) (zi_nn hv_4 (by decide)) (zi_nn hv_9 (by decide)) (zi_cpo hv_8 hv_9 (by decide) (by decide) (by have _u := hv_8; have _w := hv_9; omega)) (zi_cpo hv_4 hv_9 (by decide) (by decide) (by have _u := hv_4; have _w := hv_9; omega)) (fun _ _ => rfl) (Nat.le_of_ble_eq_true rfl) (Nat.le_of_ble_eq_true rfl) d_Traces_remove_47 (fun H locs hP hD hS => ?_)
  obtain ⟨f_10, hf_10, uf_10, hP, hD⟩ := z_newfe 2 hP hD rfl (zR.cpy hb9 hb9)
  have hP : va_P G.1 classes [(b0, .inr (2, [.int b2, .int b3, .int b4, .ref b5, .ref b6, .ref b7])), (b5, .inl (G.2 0, 20, .inl f_7)), (b6, .inl (G.2 0, 240, .inl f_10)), (b7, .inl (G.2 0, 240, .inl b10))] H := hP
  have hD := z_tie hP hD rfl
  refine lv_aload_n hx hb d_Traces_remove_50 rfl (lv_at hl 2 rfl) ?_
  refine va_get (D := G.1) (ci := 2) (v := .ref b7) (C := R_Traces) (T := F_Traces) (N := 6) hx hb hts i_Traces hown hK hP 0 rfl rfl 5 (by decide) (hts _ q73) (fun _ h9 => h9) rfl d_Traces_remove_51 ?_
  refine lv_iload_n hx hb d_Traces_remove_54 rfl (lv_at hl 0 rfl) ?_
  refine lv_bipush (v := 12) hx hb d_Traces_remove_55 (by decide) ?_
  refine lv_iadd hx hb d_Traces_remove_57 ?_
  refine lv_topi (fun v_11 ev_11 => ?_)
  obtain rfl : v_8 = v_11 := ev_8.trans ev_11.symm
  refine lv_aload_n hx hb d_Traces_remove_58 rfl (lv_at hl 2 rfl) ?_
  refine va_get (D := G.1) (ci := 2) (v := .ref b7) (C := R_Traces) (T := F_Traces) (N := 6) hx hb hts i_Traces hown hK hP 0 rfl rfl 5 (by decide) (hts _ q73) (fun _ h9 => h9) rfl d_Traces_remove_59 ?_
  refine lv_iload_n hx hb d_Traces_remove_62 rfl (lv_at hl 0 rfl) ?_
  refine lv_iload_n hx hb d_Traces_remove_63 rfl (lv_at hl 1 rfl) ?_
  refine lv_bipush (v := 12) hx hb d_Traces_remove_64 (by decide) ?_
  refine lv_imul hx hb d_Traces_remove_66 ?_
  refine lv_topi (fun v_12 ev_12 => ?_)
  obtain rfl : v_9 = v_12 := ev_9.trans ev_12.symm
  refine va_copyi hx hb (hml.trans hl.1.symm) hown (hts _ q502) (hts _ q504) (hts _ q503) (hts _ q15) hK hP hD hS 3 3 0 0 rfl rfl rfl rfl rfl (zi_nn hv_8 (by decide)) (zi_nn hv_4 (by decide)) (zi_nn hv_9 (by decide)) (zi_cpo hv_8 hv_9 (by decide) (by decide) (by have _u := hv_8; have _w := hv_9; omega)) (zi_cpo hv_4 hv_9 (by decide) (by decide) (by have _u := hv_4; have _w := hv_9; omega)) (fun _ _ => rfl) (Nat.le_of_ble_eq_true rfl) (Nat.le_of_ble_eq_true rfl) d_Traces_remove_67 (fun H locs hP hD hS => ?_)
  obtain ⟨f_13, uf_13, hP, hD⟩ := z_newFe 3 hP hD rfl
  have hP : va_P G.1 classes [(b0, .inr (2, [.int b2, .int b3, .int b4, .ref b5, .ref b6, .ref b7])), (b5, .inl (G.2 0, 20, .inl f_7)), (b6, .inl (G.2 0, 240, .inl f_10)), (b7, .inl (G.2 0, 240, .inl f_13))] H := hP
  have hD := z_tie hP hD rfl
  refine lv_aload_n hx hb d_Traces_remove_70 rfl (lv_at hl 2 rfl) ?_
  refine lv_dup hx hb d_Traces_remove_71 rfl ?_
  refine va_get (D := G.1) (ci := 2) (v := .int b2) (C := R_Traces) (T := F_Traces) (N := 6) hx hb hts i_Traces hown hK hP 0 rfl rfl 0 (by decide) (hts _ q52) (fun _ h9 => h9) rfl d_Traces_remove_72 ?_
  refine lv_iconst (v := 1) hx hb d_Traces_remove_75 (by decide) ?_
  refine lv_isub hx hb d_Traces_remove_76 ?_
  refine lv_topi (fun v_14 ev_14 => ?_)
  obtain ⟨qv_14, hv_14⟩ := zI_sub (l := 0) (h := 19) hv_1 zc_1 ev_14 (by decide)
  rw [li_1] at qv_14
  refine va_put (D := G.1) (ci := 2) (v := .int v_14) (ty := .int) (C := R_Traces) (T := F_Traces) (N := 6) hx hb hts i_Traces t_Traces t_Traces_ok n_Traces hown hK hP hD hS 0 rfl rfl 0 (by decide) (hts _ q52) (fun _ h9 => h9) rfl (by decide +kernel) rfl rfl (Nat.le_of_ble_eq_true rfl) d_Traces_remove_77 (fun H locs hP hD hS => ?_)
  have hP : va_P G.1 classes [(b0, .inr (2, [.int v_14, .int b3, .int b4, .ref b5, .ref b6, .ref b7])), (b5, .inl (G.2 0, 20, .inl f_7)), (b6, .inl (G.2 0, 240, .inl f_10)), (b7, .inl (G.2 0, 240, .inl f_13))] H := hP
  have hD := z_tie hP hD rfl
  exact z_vret hx hb hr hlocks hP hD hS (Nat.le_of_ble_eq_true rfl) (Nat.le_of_ble_eq_true rfl) d_Traces_remove_80 ⟨v_14, f_7, f_10, f_13, rfl, rfl, (zI.wk (l' := 0) (h' := 20) hv_14 (by decide)), hf_7, hf_10, (zE_rm uf_7 uf_10 uf_13 (k := b1.toNatClampNeg) ⟨by have p9 := z_pl hb1 (by decide); omega, by omega⟩ ev_14 ⟨by have p0_ := z_pl hv_5 (by decide); have p1_ := z_pl hb1 (by decide); have p2_ := z_pl hv_6 (by decide); have p8_ := z_pl hb1 (by decide); have p9_ := z_pl hv_6 (by decide); omega, by have p0_ := z_pl hv_5 (by decide); have p1_ := z_pl hb1 (by decide); have p2_ := z_pl hv_6 (by decide); have p8_ := z_pl hb1 (by decide); have p9_ := z_pl hv_6 (by decide); omega, by have p0_ := z_pl hv_5 (by decide); have p1_ := z_pl hb1 (by decide); have p2_ := z_pl hv_6 (by decide); have p8_ := z_pl hb1 (by decide); have p9_ := z_pl hv_6 (by decide); omega⟩ ⟨by have p0_ := z_pl hv_8 (by decide); have p1_ := z_pl hv_4 (by decide); have p2_ := z_pl hv_9 (by decide); have p8_ := z_pl hb1 (by decide); have p9_ := z_pl hv_6 (by decide); omega, by have p0_ := z_pl hv_8 (by decide); have p1_ := z_pl hv_4 (by decide); have p2_ := z_pl hv_9 (by decide); have p8_ := z_pl hb1 (by decide); have p9_ := z_pl hv_6 (by decide); omega, by have p0_ := z_pl hv_8 (by decide); have p1_ := z_pl hv_4 (by decide); have p2_ := z_pl hv_9 (by decide); have p8_ := z_pl hb1 (by decide); have p9_ := z_pl hv_6 (by decide); omega⟩ ⟨by have p0_ := z_pl hv_8 (by decide); have p1_ := z_pl hv_4 (by decide); have p2_ := z_pl hv_9 (by decide); have p8_ := z_pl hb1 (by decide); have p9_ := z_pl hv_6 (by decide); omega, by have p0_ := z_pl hv_8 (by decide); have p1_ := z_pl hv_4 (by decide); have p2_ := z_pl hv_9 (by decide); have p8_ := z_pl hb1 (by decide); have p9_ := z_pl hv_6 (by decide); omega, by have p0_ := z_pl hv_8 (by decide); have p1_ := z_pl hv_4 (by decide); have p2_ := z_pl hv_9 (by decide); have p8_ := z_pl hb1 (by decide); have p9_ := z_pl hv_6 (by decide); omega⟩ hb8)⟩
abbrev m_s2_Text_put : Room := { frames := 0, cells := 0, slots := 0, locals := 0 }
set_option maxHeartbeats 4000000 in
set_option maxRecDepth 100000 in
theorem s2_Text_put (l : Launch) (G : zG) (b0 : Nat) (b1 : Int32) (b2 : Int32) (b3 : Nat) (b4 : Nat → Int32) (hb2 : zI b2 0 240) : zM l G y_Text_put prog_9_method_2_code 3 (Option.some Jvm.ClassFile.FieldType.boolean) m_s2_Text_put [.ref b0, .int b1] [(b0, .inr (1, [.int b2, .ref b3])), (b3, .inl (G.2 2, 240, .inl b4))] (fun v w => ∃ (e0 : Int32), ∃ (e1 : Int32), ∃ (e2 : Nat → Int32), v = some (.int e0) ∧ w = [(b0, .inr (1, [.int e1, .ref b3])), (b3, .inl (G.2 2, 240, .inl e2))] ∧ (zI e0 0 1) ∧ (zI e1 0 240) ∧ ((b2 : Int32).toInt ≤ 236 → (e0 : Int32).toInt = 1 ∧ (e1 : Int32).toInt = (b2 : Int32).toInt + 4) ∧ (¬ (b2 : Int32).toInt ≤ 236 → (e0 : Int32).toInt = 0 ∧ (e1 : Int32).toInt = (b2 : Int32).toInt) ∧ ((b2 : Int32).toInt ≤ 236 → e2 = zsg4 b4 (b2 : Int32).toInt.toNat (zch b1 24) (zch b1 16) (zch b1 8) (zch b1 0)) ∧ (¬ (b2 : Int32).toInt ≤ 236 → e2 = b4)) := by
  refine z_start (by decide +kernel) (Nat.le_of_ble_eq_true rfl) ?_
  intro p e s m below meth c A Z hr hnm hA hP hD hS ls hl
  have Z : zC p s m _ meth c prog_9_method_2_code 3 "TraceMachines$Text" G := Z
  obtain ⟨hx, hb, hml, hown, hts, hK, hN, hlocks⟩ := id Z
  have hl : lv_has ls 3 [(0, .ref b0), (1, .int b1)] := hl
  refine lv_aload_n hx hb d_Text_put_0 rfl (lv_at hl 0 rfl) ?_
  refine va_get (D := G.1) (ci := 1) (v := .int b2) (C := R_Text) (T := F_Text) (N := 2) hx hb hts i_Text hown hK hP 0 rfl rfl 0 (by decide) (hts _ q37) (fun _ h9 => h9) rfl d_Text_put_1 ?_
  refine lv_iconst (v := 4) hx hb d_Text_put_4 (by decide) ?_
  refine lv_iadd hx hb d_Text_put_5 ?_
  refine lv_topi (fun v_1 ev_1 => ?_)
  obtain ⟨qv_1, hv_1⟩ := zI_add (l := 4) (h := 244) hb2 zc_4 ev_1 (by decide)
  rw [li_4] at qv_1
  refine lv_sipush (v := 240) hx hb d_Text_put_6 (by decide) ?_
  refine lv_icmp_le (tgt := 14) hx hb d_Text_put_9 (by decide) (fun hc_2 => ?_) (fun hc_2 => ?_)
  · have _nhc_2 := hc_2
    have ni_3 := (fa_le _ _).mp hc_2
    rw [li_240] at ni_3
    have hv_4 : zI v_1 4 240 := zI.le_l hv_1 zc_240 hc_2 (by decide)
    have hv_5 : zI b2 0 236 := by have _a := hv_4; have _b := qv_1; have _c := zc_4; have _d := hb2; exact ⟨by omega, by omega⟩
    refine lv_bipush (v := 24) hx hb d_Text_put_14 (by decide) ?_
    refine lv_istore_n (lv' := [(2, .int 24), (0, .ref b0), (1, .int b1)]) hx hb d_Text_put_16 rfl hl (by decide) rfl (fun ls hl => ?_)
    refine lv_iload_n hx hb d_Text_put_17 rfl (lv_at hl 0 rfl) ?_
    refine lv_if_lt (tgt := 54) hx hb d_Text_put_18 (by decide) (fun hc => absurd hc (by decide +kernel)) (fun _ => ?_)
    refine lv_aload_n hx hb d_Text_put_21 rfl (lv_at hl 1 rfl) ?_
    refine va_get (D := G.1) (ci := 1) (v := .ref b3) (C := R_Text) (T := F_Text) (N := 2) hx hb hts i_Text hown hK hP 0 rfl rfl 1 (by decide) (hts _ q39) (fun _ h9 => h9) rfl d_Text_put_22 ?_
    refine lv_aload_n hx hb d_Text_put_25 rfl (lv_at hl 1 rfl) ?_
    refine va_get (D := G.1) (ci := 1) (v := .int b2) (C := R_Text) (T := F_Text) (N := 2) hx hb hts i_Text hown hK hP 0 rfl rfl 0 (by decide) (hts _ q37) (fun _ h9 => h9) rfl d_Text_put_26 ?_
    refine lv_iload_n hx hb d_Text_put_29 rfl (lv_at hl 2 rfl) ?_
    refine lv_iload_n hx hb d_Text_put_30 rfl (lv_at hl 0 rfl) ?_
    obtain ⟨v_6, ev_6⟩ : ∃ z : Int32, z = ((b1).toUInt32 >>> ((24 : Int32).toUInt32 &&& Int32.toUInt32 31)).toInt32 := ⟨_, rfl⟩
    refine lv_iushr (v := v_6) hx hb d_Text_put_31 ev_6.symm ?_
    refine lv_sipush (v := 255) hx hb d_Text_put_32 (by decide) ?_
    refine lv_iand hx hb d_Text_put_35 ?_
    refine lv_topi (fun v_7 ev_7 => ?_)
    have hv_7 := zI_and (k := 8) (h := 255) (by decide +kernel) ev_7 (by decide)
    obtain ⟨v_8, ev_8⟩ : ∃ z : Int32, z = ((v_7).toUInt32 % 65536).toInt32 := ⟨_, rfl⟩
    refine lv_i2c (v := v_8) hx hb d_Text_put_36 ev_8.symm ?_
    refine va_cast hx hb hK hP hD hS 1 2 rfl rfl (zI.inn hv_5 (by decide)) d_Text_put_37 (fun H locs hP hD hS => ?_)
    obtain ⟨f_9, gf_9, uf_9, hP, hD⟩ := z_newFu 1 hP hD rfl
    have hP : va_P G.1 classes [(b0, .inr (1, [.int b2, .ref b3])), (b3, .inl (G.2 2, 240, .inl f_9))] H := hP
    have hD := z_tie hP hD rfl
    refine lv_aload_n hx hb d_Text_put_38 rfl (lv_at hl 1 rfl) ?_
    refine lv_dup hx hb d_Text_put_39 rfl ?_
    refine va_get (D := G.1) (ci := 1) (v := .int b2) (C := R_Text) (T := F_Text) (N := 2) hx hb hts i_Text hown hK hP 0 rfl rfl 0 (by decide) (hts _ q37) (fun _ h9 => h9) rfl d_Text_put_40 ?_
    refine lv_iconst (v := 1) hx hb d_Text_put_43 (by decide) ?_
    refine lv_iadd hx hb d_Text_put_44 ?_
    refine lv_topi (fun v_10 ev_10 => ?_)
    obtain ⟨qv_10, hv_10⟩ := zI_add (l := 1) (h := 237) hv_5 zc_1 ev_10 (by decide)
    rw [li_1] at qv_10
    refine va_put (D := G.1) (ci := 1) (v := .int v_10) (ty := .int) (C := R_Text) (T := F_Text) (N := 2) hx hb hts i_Text t_Text t_Text_ok n_Text hown hK hP hD hS 0 rfl rfl 0 (by decide) (hts _ q37) (fun _ h9 => h9) rfl (by decide +kernel) rfl rfl (Nat.le_of_ble_eq_true rfl) d_Text_put_45 (fun H locs hP hD hS => ?_)
    have hP : va_P G.1 classes [(b0, .inr (1, [.int v_10, .ref b3])), (b3, .inl (G.2 2, 240, .inl f_9))] H := hP
    have hD := z_tie hP hD rfl
    refine lv_iinc (v := 16) (lv' := [(2, .int 16), (0, .ref b0), (1, .int b1)]) hx hb d_Text_put_48 hl (k := 0) rfl (by decide +kernel) (by decide) rfl (fun ls hl => ?_)
    refine lv_goto (tgt := 17) hx hb d_Text_put_51 (by decide) ?_
    refine lv_iload_n hx hb d_Text_put_17 rfl (lv_at hl 0 rfl) ?_
    refine lv_if_lt (tgt := 54) hx hb d_Text_put_18 (by decide) (fun hc => absurd hc (by decide +kernel)) (fun _ => ?_)
    refine lv_aload_n hx hb d_Text_put_21 rfl (lv_at hl 1 rfl) ?_
    refine va_get (D := G.1) (ci := 1) (v := .ref b3) (C := R_Text) (T := F_Text) (N := 2) hx hb hts i_Text hown hK hP 0 rfl rfl 1 (by decide) (hts _ q39) (fun _ h9 => h9) rfl d_Text_put_22 ?_
    refine lv_aload_n hx hb d_Text_put_25 rfl (lv_at hl 1 rfl) ?_
    refine va_get (D := G.1) (ci := 1) (v := .int v_10) (C := R_Text) (T := F_Text) (N := 2) hx hb hts i_Text hown hK hP 0 rfl rfl 0 (by decide) (hts _ q37) (fun _ h9 => h9) rfl d_Text_put_26 ?_
    refine lv_iload_n hx hb d_Text_put_29 rfl (lv_at hl 2 rfl) ?_
    refine lv_iload_n hx hb d_Text_put_30 rfl (lv_at hl 0 rfl) ?_
    obtain ⟨v_11, ev_11⟩ : ∃ z : Int32, z = ((b1).toUInt32 >>> ((16 : Int32).toUInt32 &&& Int32.toUInt32 31)).toInt32 := ⟨_, rfl⟩
    refine lv_iushr (v := v_11) hx hb d_Text_put_31 ev_11.symm ?_
    refine lv_sipush (v := 255) hx hb d_Text_put_32 (by decide) ?_
    refine lv_iand hx hb d_Text_put_35 ?_
    refine lv_topi (fun v_12 ev_12 => ?_)
    have hv_12 := zI_and (k := 8) (h := 255) (by decide +kernel) ev_12 (by decide)
    obtain ⟨v_13, ev_13⟩ : ∃ z : Int32, z = ((v_12).toUInt32 % 65536).toInt32 := ⟨_, rfl⟩
    refine lv_i2c (v := v_13) hx hb d_Text_put_36 ev_13.symm ?_
    refine va_cast hx hb hK hP hD hS 1 2 rfl rfl (zI.inn hv_10 (by decide)) d_Text_put_37 (fun H locs hP hD hS => ?_)
    obtain ⟨f_14, gf_14, uf_14, hP, hD⟩ := z_newFu 1 hP hD rfl
    have hP : va_P G.1 classes [(b0, .inr (1, [.int v_10, .ref b3])), (b3, .inl (G.2 2, 240, .inl f_14))] H := hP
    have hD := z_tie hP hD rfl
    refine lv_aload_n hx hb d_Text_put_38 rfl (lv_at hl 1 rfl) ?_
    refine lv_dup hx hb d_Text_put_39 rfl ?_
    refine va_get (D := G.1) (ci := 1) (v := .int v_10) (C := R_Text) (T := F_Text) (N := 2) hx hb hts i_Text hown hK hP 0 rfl rfl 0 (by decide) (hts _ q37) (fun _ h9 => h9) rfl d_Text_put_40 ?_
    refine lv_iconst (v := 1) hx hb d_Text_put_43 (by decide) ?_
    refine lv_iadd hx hb d_Text_put_44 ?_
    refine lv_topi (fun v_15 ev_15 => ?_)
    obtain ⟨qv_15, hv_15⟩ := zI_add (l := 2) (h := 238) hv_10 zc_1 ev_15 (by decide)
    rw [li_1] at qv_15
    refine va_put (D := G.1) (ci := 1) (v := .int v_15) (ty := .int) (C := R_Text) (T := F_Text) (N := 2) hx hb hts i_Text t_Text t_Text_ok n_Text hown hK hP hD hS 0 rfl rfl 0 (by decide) (hts _ q37) (fun _ h9 => h9) rfl (by decide +kernel) rfl rfl (Nat.le_of_ble_eq_true rfl) d_Text_put_45 (fun H locs hP hD hS => ?_)
    have hP : va_P G.1 classes [(b0, .inr (1, [.int v_15, .ref b3])), (b3, .inl (G.2 2, 240, .inl f_14))] H := hP
    have hD := z_tie hP hD rfl
    refine lv_iinc (v := 8) (lv' := [(2, .int 8), (0, .ref b0), (1, .int b1)]) hx hb d_Text_put_48 hl (k := 0) rfl (by decide +kernel) (by decide) rfl (fun ls hl => ?_)
    refine lv_goto (tgt := 17) hx hb d_Text_put_51 (by decide) ?_
    refine lv_iload_n hx hb d_Text_put_17 rfl (lv_at hl 0 rfl) ?_
    refine lv_if_lt (tgt := 54) hx hb d_Text_put_18 (by decide) (fun hc => absurd hc (by decide +kernel)) (fun _ => ?_)
    refine lv_aload_n hx hb d_Text_put_21 rfl (lv_at hl 1 rfl) ?_
    refine va_get (D := G.1) (ci := 1) (v := .ref b3) (C := R_Text) (T := F_Text) (N := 2) hx hb hts i_Text hown hK hP 0 rfl rfl 1 (by decide) (hts _ q39) (fun _ h9 => h9) rfl d_Text_put_22 ?_
    refine lv_aload_n hx hb d_Text_put_25 rfl (lv_at hl 1 rfl) ?_
    refine va_get (D := G.1) (ci := 1) (v := .int v_15) (C := R_Text) (T := F_Text) (N := 2) hx hb hts i_Text hown hK hP 0 rfl rfl 0 (by decide) (hts _ q37) (fun _ h9 => h9) rfl d_Text_put_26 ?_
    refine lv_iload_n hx hb d_Text_put_29 rfl (lv_at hl 2 rfl) ?_
    refine lv_iload_n hx hb d_Text_put_30 rfl (lv_at hl 0 rfl) ?_
    obtain ⟨v_16, ev_16⟩ : ∃ z : Int32, z = ((b1).toUInt32 >>> ((8 : Int32).toUInt32 &&& Int32.toUInt32 31)).toInt32 := ⟨_, rfl⟩
    refine lv_iushr (v := v_16) hx hb d_Text_put_31 ev_16.symm ?_
    refine lv_sipush (v := 255) hx hb d_Text_put_32 (by decide) ?_
    refine lv_iand hx hb d_Text_put_35 ?_
    refine lv_topi (fun v_17 ev_17 => ?_)
    have hv_17 := zI_and (k := 8) (h := 255) (by decide +kernel) ev_17 (by decide)
    obtain ⟨v_18, ev_18⟩ : ∃ z : Int32, z = ((v_17).toUInt32 % 65536).toInt32 := ⟨_, rfl⟩
    refine lv_i2c (v := v_18) hx hb d_Text_put_36 ev_18.symm ?_
    refine va_cast hx hb hK hP hD hS 1 2 rfl rfl (zI.inn hv_15 (by decide)) d_Text_put_37 (fun H locs hP hD hS => ?_)
    obtain ⟨f_19, gf_19, uf_19, hP, hD⟩ := z_newFu 1 hP hD rfl
    have hP : va_P G.1 classes [(b0, .inr (1, [.int v_15, .ref b3])), (b3, .inl (G.2 2, 240, .inl f_19))] H := hP
    have hD := z_tie hP hD rfl
    refine lv_aload_n hx hb d_Text_put_38 rfl (lv_at hl 1 rfl) ?_
    refine lv_dup hx hb d_Text_put_39 rfl ?_
    refine va_get (D := G.1) (ci := 1) (v := .int v_15) (C := R_Text) (T := F_Text) (N := 2) hx hb hts i_Text hown hK hP 0 rfl rfl 0 (by decide) (hts _ q37) (fun _ h9 => h9) rfl d_Text_put_40 ?_
    refine lv_iconst (v := 1) hx hb d_Text_put_43 (by decide) ?_
    refine lv_iadd hx hb d_Text_put_44 ?_
    refine lv_topi (fun v_20 ev_20 => ?_)
    obtain ⟨qv_20, hv_20⟩ := zI_add (l := 3) (h := 239) hv_15 zc_1 ev_20 (by decide)
    rw [li_1] at qv_20
    refine va_put (D := G.1) (ci := 1) (v := .int v_20) (ty := .int) (C := R_Text) (T := F_Text) (N := 2) hx hb hts i_Text t_Text t_Text_ok n_Text hown hK hP hD hS 0 rfl rfl 0 (by decide) (hts _ q37) (fun _ h9 => h9) rfl (by decide +kernel) rfl rfl (Nat.le_of_ble_eq_true rfl) d_Text_put_45 (fun H locs hP hD hS => ?_)
    have hP : va_P G.1 classes [(b0, .inr (1, [.int v_20, .ref b3])), (b3, .inl (G.2 2, 240, .inl f_19))] H := hP
    have hD := z_tie hP hD rfl
    refine lv_iinc (v := 0) (lv' := [(2, .int 0), (0, .ref b0), (1, .int b1)]) hx hb d_Text_put_48 hl (k := 0) rfl (by decide +kernel) (by decide) rfl (fun ls hl => ?_)
    refine lv_goto (tgt := 17) hx hb d_Text_put_51 (by decide) ?_
    refine lv_iload_n hx hb d_Text_put_17 rfl (lv_at hl 0 rfl) ?_
    refine lv_if_lt (tgt := 54) hx hb d_Text_put_18 (by decide) (fun hc => absurd hc (by decide +kernel)) (fun _ => ?_)
    refine lv_aload_n hx hb d_Text_put_21 rfl (lv_at hl 1 rfl) ?_
    refine va_get (D := G.1) (ci := 1) (v := .ref b3) (C := R_Text) (T := F_Text) (N := 2) hx hb hts i_Text hown hK hP 0 rfl rfl 1 (by decide) (hts _ q39) (fun _ h9 => h9) rfl d_Text_put_22 ?_
    refine lv_aload_n hx hb d_Text_put_25 rfl (lv_at hl 1 rfl) ?_
    refine va_get (D := G.1) (ci := 1) (v := .int v_20) (C := R_Text) (T := F_Text) (N := 2) hx hb hts i_Text hown hK hP 0 rfl rfl 0 (by decide) (hts _ q37) (fun _ h9 => h9) rfl d_Text_put_26 ?_
    refine lv_iload_n hx hb d_Text_put_29 rfl (lv_at hl 2 rfl) ?_
    refine lv_iload_n hx hb d_Text_put_30 rfl (lv_at hl 0 rfl) ?_
    obtain ⟨v_21, ev_21⟩ : ∃ z : Int32, z = ((b1).toUInt32 >>> ((0 : Int32).toUInt32 &&& Int32.toUInt32 31)).toInt32 := ⟨_, rfl⟩
    refine lv_iushr (v := v_21) hx hb d_Text_put_31 ev_21.symm ?_
    refine lv_sipush (v := 255) hx hb d_Text_put_32 (by decide) ?_
    refine lv_iand hx hb d_Text_put_35 ?_
    refine lv_topi (fun v_22 ev_22 => ?_)
    have hv_22 := zI_and (k := 8) (h := 255) (by decide +kernel) ev_22 (by decide)
    obtain ⟨v_23, ev_23⟩ : ∃ z : Int32, z = ((v_22).toUInt32 % 65536).toInt32 := ⟨_, rfl⟩
    refine lv_i2c (v := v_23) hx hb d_Text_put_36 ev_23.symm ?_
    refine va_cast hx hb hK hP hD hS 1 2 rfl rfl (zI.inn hv_20 (by decide)) d_Text_put_37 (fun H locs hP hD hS => ?_)
    obtain ⟨f_24, gf_24, uf_24, hP, hD⟩ := z_newFu 1 hP hD rfl
    have hP : va_P G.1 classes [(b0, .inr (1, [.int v_20, .ref b3])), (b3, .inl (G.2 2, 240, .inl f_24))] H := hP
    have hD := z_tie hP hD rfl
    refine lv_aload_n hx hb d_Text_put_38 rfl (lv_at hl 1 rfl) ?_
    refine lv_dup hx hb d_Text_put_39 rfl ?_
    refine va_get (D := G.1) (ci := 1) (v := .int v_20) (C := R_Text) (T := F_Text) (N := 2) hx hb hts i_Text hown hK hP 0 rfl rfl 0 (by decide) (hts _ q37) (fun _ h9 => h9) rfl d_Text_put_40 ?_
    refine lv_iconst (v := 1) hx hb d_Text_put_43 (by decide) ?_
    refine lv_iadd hx hb d_Text_put_44 ?_
    refine lv_topi (fun v_25 ev_25 => ?_)
    obtain ⟨qv_25, hv_25⟩ := zI_add (l := 4) (h := 240) hv_20 zc_1 ev_25 (by decide)
    rw [li_1] at qv_25
    refine va_put (D := G.1) (ci := 1) (v := .int v_25) (ty := .int) (C := R_Text) (T := F_Text) (N := 2) hx hb hts i_Text t_Text t_Text_ok n_Text hown hK hP hD hS 0 rfl rfl 0 (by decide) (hts _ q37) (fun _ h9 => h9) rfl (by decide +kernel) rfl rfl (Nat.le_of_ble_eq_true rfl) d_Text_put_45 (fun H locs hP hD hS => ?_)
    have hP : va_P G.1 classes [(b0, .inr (1, [.int v_25, .ref b3])), (b3, .inl (G.2 2, 240, .inl f_24))] H := hP
    have hD := z_tie hP hD rfl
    refine lv_iinc (v := (-8)) (lv' := [(2, .int (-8)), (0, .ref b0), (1, .int b1)]) hx hb d_Text_put_48 hl (k := 0) rfl (by decide +kernel) (by decide) rfl (fun ls hl => ?_)
    refine lv_goto (tgt := 17) hx hb d_Text_put_51 (by decide) ?_
    refine lv_iload_n hx hb d_Text_put_17 rfl (lv_at hl 0 rfl) ?_
    refine lv_if_lt (tgt := 54) hx hb d_Text_put_18 (by decide) (fun _ => ?_) (fun hc => absurd hc (by decide +kernel))
    refine lv_iconst (v := 1) hx hb d_Text_put_54 (by decide) ?_
    exact z_zret hx hb hr hlocks rfl hP hD hS (Nat.le_of_ble_eq_true rfl) (Nat.le_of_ble_eq_true rfl) d_Text_put_55 ⟨1, v_25, f_24, rfl, rfl, (zI.wk (l' := 0) (h' := 1) zc_1 (by decide)), (zI.wk (l' := 0) (h' := 240) hv_25 (by decide)), (by have _l0 := li_0; have _l1 := li_1; have _l2 := li_m1; intro h9; omega), (by have _l0 := li_0; have _l1 := li_1; have _l2 := li_m1; intro h9; omega), (fun _ => zsg4_mk uf_9 uf_14 uf_19 uf_24 ⟨by omega, by omega, by omega, by omega⟩ (by subst_vars; rfl) (by subst_vars; rfl) (by subst_vars; rfl) (by subst_vars; rfl)), (fun h9 => by exfalso; omega)⟩
  · have _nhc_2 := hc_2
    have ni_26 := (fa_lt _ _).mp (zi_nle hc_2)
    rw [li_240] at ni_26
    have hv_27 : zI v_1 241 244 := zI.lt_r zc_240 hv_1 (zi_nle hc_2) (by decide)
    have hv_28 : zI b2 237 240 := by have _a := hv_27; have _b := qv_1; have _c := zc_4; have _d := hb2; exact ⟨by omega, by omega⟩
    refine lv_iconst (v := 0) hx hb d_Text_put_12 (by decide) ?_
    exact z_zret hx hb hr hlocks rfl hP hD hS (Nat.le_of_ble_eq_true rfl) (Nat.le_of_ble_eq_true rfl) d_Text_put_13 ⟨0, b2, b4, rfl, rfl, (zI.wk (l' := 0) (h' := 1) zc_0 (by decide)), (zI.wk (l' := 0) (h' := 240) hv_28 (by decide)), (by have _l0 := li_0; have _l1 := li_1; have _l2 := li_m1; intro h9; omega), (by have _l0 := li_0; have _l1 := li_1; have _l2 := li_m1; intro h9; omega), (fun h9 => by exfalso; omega), (fun _ => rfl)⟩
abbrev m_s2_Text_parse : Room := { frames := 1, cells := 0, slots := 0, locals := 23 }
set_option maxHeartbeats 4000000 in
set_option maxRecDepth 100000 in
theorem s2_Text_parse (l : Launch) (G : zG) (b0 : Nat) (b1 : Nat) (b2 : Int32) (b3 : Int32) (b4 : Nat) (b5 : Nat → Int32) (b6 : Int32) (b7 : Int32) (b8 : Int32) (b9 : Nat) (b10 : Nat) (b11 : Nat) (b12 : Nat → Int32) (b13 : Nat → Int32) (b14 : Nat → Int32) (hb2 : zI b2 0 1) (hb3 : zI b3 0 240) (hb6 : zI b6 0 20) (hb7 : zI b7 0 3) (hb8 : zI b8 0 20) (hb12 : zR b12 0 12) (hb13 : zR b13 0 9) : zM l G y_Text_parse prog_9_method_4_code 7 (Option.some Jvm.ClassFile.FieldType.int) m_s2_Text_parse [.ref b0, .ref b1, .int b2] [(b0, .inr (1, [.int b3, .ref b4])), (b4, .inl (G.2 2, 240, .inl b5)), (b1, .inr (2, [.int b6, .int b7, .int b8, .ref b9, .ref b10, .ref b11])), (b9, .inl (G.2 0, 20, .inl b12)), (b10, .inl (G.2 0, 240, .inl b13)), (b11, .inl (G.2 0, 240, .inl b14))] (fun v w => ∃ (e0 : Int32), ∃ (e1 : Int32), ∃ (e2 : Nat → Int32), ∃ (e3 : Nat → Int32), ∃ (e4 : Nat → Int32), v = some (.int e0) ∧ w = [(b0, .inr (1, [.int b3, .ref b4])), (b4, .inl (G.2 2, 240, .inl b5)), (b1, .inr (2, [.int e1, .int b7, .int b8, .ref b9, .ref b10, .ref b11])), (b9, .inl (G.2 0, 20, .inl e2)), (b10, .inl (G.2 0, 240, .inl e3)), (b11, .inl (G.2 0, 240, .inl e4))] ∧ (zI e0 (-1) 240) ∧ (zI e1 0 20) ∧ (zR e2 0 12) ∧ (zR e3 0 9) ∧ ((e0 : Int32).toInt = (zfin (b2 : Int32).toInt b5 (zrow b6 b7 b8 b12 b13 b14) (b3 : Int32).toInt.toNat).1) ∧ ((e0 : Int32).toInt = -1 → (zrow e1 b7 b8 e2 e3 e4) = (zfin (b2 : Int32).toInt b5 (zrow b6 b7 b8 b12 b13 b14) (b3 : Int32).toInt.toNat).2)) := by
  refine z_start (by decide +kernel) (Nat.le_of_ble_eq_true rfl) ?_
  intro p e s m below meth c A Z hr hnm hA hP hD hS ls hl
  have Z : zC p s m _ meth c prog_9_method_4_code 7 "TraceMachines$Text" G := Z
  obtain ⟨hx, hb, hml, hown, hts, hK, hN, hlocks⟩ := id Z
  have hl : lv_has ls 7 [(0, .ref b0), (1, .ref b1), (2, .int b2)] := hl
  refine lv_iconst (v := 0) hx hb d_Text_parse_0 (by decide) ?_
  refine lv_istore_n (lv' := [(3, .int 0), (0, .ref b0), (1, .ref b1), (2, .int b2)]) hx hb d_Text_parse_1 rfl hl (by decide) rfl (fun ls hl => ?_)
  refine lv_iconst (v := 0) hx hb d_Text_parse_2 (by decide) ?_
  refine lv_istore (lv' := [(4, .int 0), (3, .int 0), (0, .ref b0), (1, .ref b1), (2, .int b2)]) hx hb d_Text_parse_3 hl (by decide) rfl (fun ls hl => ?_)
  refine lv_iconst (v := 0) hx hb d_Text_parse_5 (by decide) ?_
  refine lv_istore (lv' := [(5, .int 0), (4, .int 0), (3, .int 0), (0, .ref b0), (1, .ref b1), (2, .int b2)]) hx hb d_Text_parse_6 hl (by decide) rfl (fun ls hl => ?_)
  suffices key : ∀ (k_323 : Nat) (y_324 : Int32) (y_325 : Int32) (y_326 : Int32) (y_327 : Int32) (y_328 : Nat → Int32) (y_329 : Nat → Int32) (y_330 : Nat → Int32) (H : Heap) (locs : List Loc) (ls : Array Slot), (zI y_324 0 240) → (zI y_325 0 2) → (zI y_326 0 1) → (zI y_327 0 20) → (zR y_328 0 9) → (zR y_330 0 12) → ((y_324 : Int32).toInt ≤ (b3 : Int32).toInt) → (zrun (b2 : Int32).toInt b5 (zrow b6 b7 b8 b12 b13 b14) (y_324 : Int32).toInt.toNat = (-1, (y_326 : Int32).toInt, (y_325 : Int32).toInt, (zrow y_327 b7 b8 y_330 y_328 y_329))) → (240 : Int) - y_324.toInt < (k_323 : Int) → va_P G.1 classes [(b0, .inr (1, [.int b3, .ref b4])), (b4, .inl (G.2 2, 240, .inl b5)), (b1, .inr (2, [.int y_327, .int b7, .int b8, .ref b9, .ref b10, .ref b11])), (b9, .inl (G.2 0, 20, .inl y_330)), (b10, .inl (G.2 0, 240, .inl y_328)), (b11, .inl (G.2 0, 240, .inl y_329))] H → va_D A [(b0, .inr (1, [.int b3, .ref b4])), (b4, .inl (G.2 2, 240, .inl b5)), (b1, .inr (2, [.int y_327, .int b7, .int b8, .ref b9, .ref b10, .ref b11])), (b9, .inl (G.2 0, 20, .inl y_330)), (b10, .inl (G.2 0, 240, .inl y_328)), (b11, .inl (G.2 0, 240, .inl y_329))] → va_S A s.heap H locs → lv_has ls 7 [(5, .int y_324), (4, .int y_325), (3, .int y_326), (0, .ref b0), (1, .ref b1), (2, .int b2)] → W p l e m_s2_Text_parse s m ([.ref b0, .ref b1, .int b2] : List Value).toArray below meth c H locs 0 0 (MQ below (zQ G (fun v w => ∃ (e0 : Int32), ∃ (e1 : Int32), ∃ (e2 : Nat → Int32), ∃ (e3 : Nat → Int32), ∃ (e4 : Nat → Int32), v = some (.int e0) ∧ w = [(b0, .inr (1, [.int b3, .ref b4])), (b4, .inl (G.2 2, 240, .inl b5)), (b1, .inr (2, [.int e1, .int b7, .int b8, .ref b9, .ref b10, .ref b11])), (b9, .inl (G.2 0, 20, .inl e2)), (b10, .inl (G.2 0, 240, .inl e3)), (b11, .inl (G.2 0, 240, .inl e4))] ∧ (zI e0 (-1) 240) ∧ (zI e1 0 20) ∧ (zR e2 0 12) ∧ (zR e3 0 9) ∧ ((e0 : Int32).toInt = (zfin (b2 : Int32).toInt b5 (zrow b6 b7 b8 b12 b13 b14) (b3 : Int32).toInt.toNat).1) ∧ ((e0 : Int32).toInt = -1 → (zrow e1 b7 b8 e2 e3 e4) = (zfin (b2 : Int32).toInt b5 (zrow b6 b7 b8 b12 b13 b14) (b3 : Int32).toInt.toNat).2)) A) ([.ref b0, .ref b1, .int b2] : List Value).toArray s m_s2_Text_parse.cells m_s2_Text_parse.slots A) (F0 m 8 ls []) by
    exact key 241 (0) (0) (0) (b6) (b13) (b14) (b12) _ _ _ (zI.wk (l' := 0) (h' := 240) zc_0 (by decide)) (zI.wk (l' := 0) (h' := 2) zc_0 (by decide)) (zI.wk (l' := 0) (h' := 1) zc_0 (by decide)) hb6 hb13 hb12 (by have _l0 := li_0; omega) (by rw [li_0]; rfl) (zm_upi (zI.wk (l' := 0) (h' := 240) zc_0 (by decide)) (by decide)) hP hD hS (lv_sub hl [0, 1, 2, 3, 4, 5] rfl)
  intro k_323
  induction k_323 with
  | zero =>
    intro y_324 y_325 y_326 y_327 y_328 y_329 y_330 H locs ls hy_324 hy_325 hy_326 hy_327 hy_328 hy_330 hli_331 hli_332 hmk_323 hP hD hS hl
    exact (zm_up0 hy_324 hmk_323).elim
  | succ k_323 ihk_323 =>
    intro y_324 y_325 y_326 y_327 y_328 y_329 y_330 H locs ls hy_324 hy_325 hy_326 hy_327 hy_328 hy_330 hli_331 hli_332 hmk_323 hP hD hS hl
    refine lv_iload hx hb d_Text_parse_8 (lv_at hl 0 rfl) ?_
    refine lv_aload_n hx hb d_Text_parse_10 rfl (lv_at hl 3 rfl) ?_
    refine va_get (D := G.1) (ci := 1) (v := .int b3) (C := R_Text) (T := F_Text) (N := 2) hx hb hts i_Text hown hK hP 0 rfl rfl 0 (by decide) (hts _ q37) (fun _ h9 => h9) rfl d_Text_parse_11 ?_
    refine lv_icmp_ge (tgt := 143) hx hb d_Text_parse_14 (by decide) (fun hc_333 => ?_) (fun hc_333 => ?_)
    · have _nhc_333 := hc_333
      have ni_334 := (fa_le _ _).mp hc_333
      refine lv_iload_n hx hb d_Text_parse_143 rfl (lv_at hl 2 rfl) ?_
      refine lv_if_ne (tgt := 154) hx hb d_Text_parse_144 (by decide) (fun hc_335 => ?_) (fun hc_335 => ?_)
      · have _nhc_335 := hc_335
        have ni_336 : ¬ (y_326 : Int32).toInt = (0 : Int32).toInt := fun z => hc_335 ((fa_eq _ _).mpr z)
        simp only [li_0] at ni_336
        have hv_337 : zI y_326 1 1 := zI.ne_lo hy_326 zc_0 hc_335 (by decide)
        refine lv_iconst (v := (-1)) hx hb d_Text_parse_154 (by decide) ?_
        refine lv_goto (tgt := 162) hx hb d_Text_parse_155 (by decide) ?_
        exact z_iret hx hb hr hlocks hP hD hS (Nat.le_of_ble_eq_true rfl) (Nat.le_of_ble_eq_true rfl) d_Text_parse_162 ⟨(-1), y_327, y_330, y_328, y_329, rfl, rfl, (zI.wk (l' := (-1)) (h' := 240) zc_m1 (by decide)), hy_327, hy_330, hy_328, (by have g9 : y_324.toInt.toNat = b3.toInt.toNat := (by omega); have g8 := hli_332; rw [g9] at g8; rw [zfin_g g8 (fun h9 => by (have h8 := h9.1); omega)]; exact li_m1), (fun _ => by have g9 : y_324.toInt.toNat = b3.toInt.toNat := (by omega); have g8 := hli_332; rw [g9] at g8; rw [zfin_g g8 (fun h9 => by (have h8 := h9.1); omega)]; exact ((zo1_1 (by omega)) : zo1 y_326.toInt (zrow y_327 b7 b8 y_330 y_328 y_329) = (zrow y_327 b7 b8 y_330 y_328 y_329)).symm)⟩
      · have _nhc_335 := hc_335
        have ni_338 := (fa_eq _ _).mp hc_335
        rw [li_0] at ni_338
        have hv_339 : zI y_326 0 0 := zI.eq_l hy_326 zc_0 hc_335
        refine lv_aload_n hx hb d_Text_parse_147 rfl (lv_at hl 4 rfl) ?_
        refine z_callV (index := 25) (As := []) (rest := []) (wr := [(b0, .inr (1, [.int b3, .ref b4])), (b4, .inl (G.2 2, 240, .inl b5))]) Z (s2_Traces_open l G (b1) (y_327) (b7) (b8) (b9) (b10) (b11) (y_330) (y_328) (y_329) hy_327 hb7 hb8 hy_330 hy_328) hl.1 q513 q514 q515 q3 q516 ⟨by decide, by decide, by show _ = some 0; decide +kernel⟩ ⟨Nat.le_of_ble_eq_true rfl, Nat.le_of_ble_eq_true rfl⟩ ⟨Nat.le_of_ble_eq_true rfl, Nat.le_of_ble_eq_true rfl⟩ rfl (Nat.le_of_ble_eq_true rfl) d_Text_parse_148 hP hD hS hA 2 2 rfl rfl rfl [2, 3, 4, 5] [0, 1] rfl rfl rfl rfl (by decide) (fun v w1 H locs hw_340 hP hD hS => ?_)
        obtain ⟨x_341, x_342, f_343, rfl, rfl, hx_341, hx_342, hf_343, hfx_344⟩ := hw_340
        have hP : va_P G.1 classes [(b0, .inr (1, [.int b3, .ref b4])), (b4, .inl (G.2 2, 240, .inl b5)), (b1, .inr (2, [.int x_342, .int b7, .int b8, .ref b9, .ref b10, .ref b11])), (b9, .inl (G.2 0, 20, .inl f_343)), (b10, .inl (G.2 0, 240, .inl y_328)), (b11, .inl (G.2 0, 240, .inl y_329))] H := hP
        have hD := z_tie hP hD rfl
        refine W.widen (k := 0) (n := 0) (Nat.le_of_ble_eq_true rfl) (Nat.le_of_ble_eq_true rfl) ?_
        refine lv_if_eq (tgt := 158) hx hb d_Text_parse_151 (by decide) (fun hc_345 => ?_) (fun hc_345 => ?_)
        · have _nhc_345 := hc_345
          have ni_346 := (fa_eq _ _).mp hc_345
          rw [li_0] at ni_346
          have hv_347 : zI x_341 0 0 := zI.eq_l hx_341 zc_0 hc_345
          refine lv_aload_n hx hb d_Text_parse_158 rfl (lv_at hl 3 rfl) ?_
          refine va_get (D := G.1) (ci := 1) (v := .int b3) (C := R_Text) (T := F_Text) (N := 2) hx hb hts i_Text hown hK hP 0 rfl rfl 0 (by decide) (hts _ q37) (fun _ h9 => h9) rfl d_Text_parse_159 ?_
          exact z_iret hx hb hr hlocks hP hD hS (Nat.le_of_ble_eq_true rfl) (Nat.le_of_ble_eq_true rfl) d_Text_parse_162 ⟨b3, x_342, f_343, y_328, y_329, rfl, rfl, (zI.wk (l' := (-1)) (h' := 240) hb3 (by decide)), hx_342, hf_343, hy_328, (by have g9 : y_324.toInt.toNat = b3.toInt.toNat := (by omega); have g8 := hli_332; rw [g9] at g8; rw [zfin_e g8 ⟨by omega, (show y_327.toInt = 20 by rcases hfx_344 with ⟨h9, _, _⟩ | ⟨_, h9, _⟩ <;> omega)⟩]; omega), (fun h9 => by exfalso; omega)⟩
        · have _nhc_345 := hc_345
          have ni_348 : ¬ (x_341 : Int32).toInt = (0 : Int32).toInt := fun z => hc_345 ((fa_eq _ _).mpr z)
          simp only [li_0] at ni_348
          have hv_349 : zI x_341 1 1 := zI.ne_lo hx_341 zc_0 hc_345 (by decide)
          refine lv_iconst (v := (-1)) hx hb d_Text_parse_154 (by decide) ?_
          refine lv_goto (tgt := 162) hx hb d_Text_parse_155 (by decide) ?_
          exact z_iret hx hb hr hlocks hP hD hS (Nat.le_of_ble_eq_true rfl) (Nat.le_of_ble_eq_true rfl) d_Text_parse_162 ⟨(-1), x_342, f_343, y_328, y_329, rfl, rfl, (zI.wk (l' := (-1)) (h' := 240) zc_m1 (by decide)), hx_342, hf_343, hy_328, (by have g9 : y_324.toInt.toNat = b3.toInt.toNat := (by omega); have g8 := hli_332; rw [g9] at g8; rw [zfin_g g8 (fun h9 => by (have h8 : y_327.toInt = 20 := h9.2); rcases hfx_344 with ⟨h7, h6, _⟩ | ⟨h7, _, _⟩ <;> omega)]; exact li_m1), (fun _ => by have g9 : y_324.toInt.toNat = b3.toInt.toNat := (by omega); have g8 := hli_332; rw [g9] at g8; rw [zfin_g g8 (fun h9 => by (have h8 : y_327.toInt = 20 := h9.2); rcases hfx_344 with ⟨h7, h6, _⟩ | ⟨h7, _, _⟩ <;> omega)]; exact ((by rcases hfx_344 with ⟨h9, h8, _⟩ | ⟨_, _, h9⟩; (exfalso; omega); rw [zo1_0 (by omega)]; exact h9.symm) : zo1 y_326.toInt (zrow y_327 b7 b8 y_330 y_328 y_329) = (zrow x_342 b7 b8 f_343 y_328 y_329)).symm)⟩
    · have _nhc_333 := hc_333
      have ni_350 := (fa_lt _ _).mp (zi_nle hc_333)
      have hv_351 : zI y_324 0 239 := zI.lt_l hy_324 hb3 (zi_nle hc_333) (by decide)
      have hv_352 : zI b3 1 240 := zI.lt_r hy_324 hb3 (zi_nle hc_333) (by decide)
      refine lv_aload_n hx hb d_Text_parse_17 rfl (lv_at hl 3 rfl) ?_
      refine va_get (D := G.1) (ci := 1) (v := .ref b4) (C := R_Text) (T := F_Text) (N := 2) hx hb hts i_Text hown hK hP 0 rfl rfl 1 (by decide) (hts _ q39) (fun _ h9 => h9) rfl d_Text_parse_18 ?_
      refine lv_iload hx hb d_Text_parse_21 (lv_at hl 0 rfl) ?_
      refine va_cald hx hb hK hP 1 2 rfl rfl (zI.inn hv_351 (by decide)) d_Text_parse_23 ?_
      refine lv_topi (fun v_353 ev_353 => ?_)
      refine lv_istore (lv' := [(6, .int v_353), (5, .int y_324), (4, .int y_325), (3, .int y_326), (0, .ref b0), (1, .ref b1), (2, .int b2)]) hx hb d_Text_parse_24 hl (by decide) rfl (fun ls hl => ?_)
      refine lv_iload hx hb d_Text_parse_26 (lv_at hl 2 rfl) ?_
      refine lv_if_le (tgt := 60) hx hb d_Text_parse_28 (by decide) (fun hc_354 => ?_) (fun hc_354 => ?_)
      · have _nhc_354 := hc_354
        have ni_355 := (fa_le _ _).mp hc_354
        rw [li_0] at ni_355
        have hv_356 : zI y_325 0 0 := zI.le_l hy_325 zc_0 hc_354 (by decide)
        refine lv_iconst (v := 0) hx hb d_Text_parse_60 (by decide) ?_
        refine lv_istore (lv' := [(4, .int 0), (6, .int v_353), (5, .int y_324), (3, .int y_326), (0, .ref b0), (1, .ref b1), (2, .int b2)]) hx hb d_Text_parse_61 hl (by decide) rfl (fun ls hl => ?_)
        refine lv_iload hx hb d_Text_parse_63 (lv_at hl 1 rfl) ?_
        refine lv_bipush (v := 32) hx hb d_Text_parse_65 (by decide) ?_
        refine lv_icmp_ne (tgt := 73) hx hb d_Text_parse_67 (by decide) (fun hc_357 => ?_) (fun hc_357 => ?_)
        · have _nhc_357 := hc_357
          have ni_358 : ¬ (v_353 : Int32).toInt = (32 : Int32).toInt := fun z => hc_357 ((fa_eq _ _).mpr z)
          simp only [li_32] at ni_358
          refine lv_iload_n hx hb d_Text_parse_73 rfl (lv_at hl 3 rfl) ?_
          refine lv_if_ne (tgt := 87) hx hb d_Text_parse_74 (by decide) (fun hc_359 => ?_) (fun hc_359 => ?_)
          · have _nhc_359 := hc_359
            have ni_360 : ¬ (y_326 : Int32).toInt = (0 : Int32).toInt := fun z => hc_359 ((fa_eq _ _).mpr z)
            simp only [li_0] at ni_360
            have hv_361 : zI y_326 1 1 := zI.ne_lo hy_326 zc_0 hc_359 (by decide)
            refine lv_iconst (v := 1) hx hb d_Text_parse_87 (by decide) ?_
            refine lv_istore_n (lv' := [(3, .int 1), (4, .int 0), (6, .int v_353), (5, .int y_324), (0, .ref b0), (1, .ref b1), (2, .int b2)]) hx hb d_Text_parse_88 rfl hl (by decide) rfl (fun ls hl => ?_)
            refine lv_iload hx hb d_Text_parse_89 (lv_at hl 2 rfl) ?_
            refine lv_bipush (v := 59) hx hb d_Text_parse_91 (by decide) ?_
            refine lv_icmp_ne (tgt := 105) hx hb d_Text_parse_93 (by decide) (fun hc_362 => ?_) (fun hc_362 => ?_)
            · have _nhc_362 := hc_362
              have ni_363 : ¬ (v_353 : Int32).toInt = (59 : Int32).toInt := fun z => hc_362 ((fa_eq _ _).mpr z)
              simp only [li_59] at ni_363
              refine lv_iload hx hb d_Text_parse_105 (lv_at hl 2 rfl) ?_
              refine lv_bipush (v := 97) hx hb d_Text_parse_107 (by decide) ?_
              refine lv_isub hx hb d_Text_parse_109 ?_
              refine lv_topi (fun v_364 ev_364 => ?_)
              have wv_364 := zs97 ev_364
              refine z_callSN (host := "TraceMachines") (index := 29) (As := [.int v_364]) (rest := []) (wr := [(b0, .inr (1, [.int b3, .ref b4])), (b4, .inl (G.2 2, 240, .inl b5)), (b1, .inr (2, [.int y_327, .int b7, .int b8, .ref b9, .ref b10, .ref b11])), (b9, .inl (G.2 0, 20, .inl y_330)), (b10, .inl (G.2 0, 240, .inl y_328)), (b11, .inl (G.2 0, 240, .inl y_329))]) Z (s2_X_isLetter l G (v_364)) hl.1 (by decide +kernel) q518 q1 q519 ⟨by decide, by decide, by show _ = some 1; decide +kernel⟩ ⟨Nat.le_of_ble_eq_true rfl, Nat.le_of_ble_eq_true rfl⟩ ⟨Nat.le_of_ble_eq_true rfl, Nat.le_of_ble_eq_true rfl⟩ rfl (Nat.le_of_ble_eq_true rfl) d_Text_parse_110 hP hD hS hA [] [0, 1, 2, 3, 4, 5] rfl rfl rfl rfl (by decide) (fun v w1 H locs hw_365 hP hD hS => ?_)
              rcases hw_365 with ⟨rfl, rfl, hq_366⟩ | ⟨rfl, rfl, hq_367, hq_368⟩ | ⟨rfl, rfl, hq_369, hq_370⟩
              · have hP : va_P G.1 classes [(b0, .inr (1, [.int b3, .ref b4])), (b4, .inl (G.2 2, 240, .inl b5)), (b1, .inr (2, [.int y_327, .int b7, .int b8, .ref b9, .ref b10, .ref b11])), (b9, .inl (G.2 0, 20, .inl y_330)), (b10, .inl (G.2 0, 240, .inl y_328)), (b11, .inl (G.2 0, 240, .inl y_329))] H := hP
                have hD := z_tie hP hD rfl
                have hv_371 : zI v_364 (-2147483648) (-1) := by have _a := hq_366; have _b := (zI_all v_364); have _c := zc_0; exact ⟨by omega, by omega⟩
                refine W.widen (k := 0) (n := 0) (Nat.le_of_ble_eq_true rfl) (Nat.le_of_ble_eq_true rfl) ?_
                refine lv_if_eq (tgt := 134) hx hb d_Text_parse_113 (by decide) (fun _ => ?_) (fun hc => absurd hc (by decide +kernel))
                refine lv_iload hx hb d_Text_parse_134 (lv_at hl 3 rfl) ?_
                exact z_iret hx hb hr hlocks hP hD hS (Nat.le_of_ble_eq_true rfl) (Nat.le_of_ble_eq_true rfl) d_Text_parse_136 ⟨y_324, y_327, y_330, y_328, y_329, rfl, rfl, (zI.wk (l' := (-1)) (h' := 240) hv_351 (by decide)), hy_327, hy_330, hy_328, (by have g9 := ((zo1_1 (by omega)) : zo1 y_326.toInt (zrow y_327 b7 b8 y_330 y_328 y_329) = (zrow y_327 b7 b8 y_330 y_328 y_329)); rw [zfin_f (zrun_w hli_332 rfl (ev_353.trans (by rw [z_plf hv_351 (by decide)])) (by omega) (by omega) (fun h9 => by (have h8 := h9.1); omega) (by omega) (fun h9 => absurd h9.1 (by omega))) (by omega)]; omega), (fun h9 => by exfalso; omega)⟩
              · have hP : va_P G.1 classes [(b0, .inr (1, [.int b3, .ref b4])), (b4, .inl (G.2 2, 240, .inl b5)), (b1, .inr (2, [.int y_327, .int b7, .int b8, .ref b9, .ref b10, .ref b11])), (b9, .inl (G.2 0, 20, .inl y_330)), (b10, .inl (G.2 0, 240, .inl y_328)), (b11, .inl (G.2 0, 240, .inl y_329))] H := hP
                have hD := z_tie hP hD rfl
                have hv_372 : zI v_364 0 2147483647 := by have _a := hq_367; have _b := (zI_all v_364); have _c := zc_0; exact ⟨by omega, by omega⟩
                have hv_373 : zI v_364 10 2147483647 := by have _a := hq_368; have _b := hv_372; have _c := zc_10; exact ⟨by omega, by omega⟩
                refine W.widen (k := 0) (n := 0) (Nat.le_of_ble_eq_true rfl) (Nat.le_of_ble_eq_true rfl) ?_
                refine lv_if_eq (tgt := 134) hx hb d_Text_parse_113 (by decide) (fun _ => ?_) (fun hc => absurd hc (by decide +kernel))
                refine lv_iload hx hb d_Text_parse_134 (lv_at hl 3 rfl) ?_
                exact z_iret hx hb hr hlocks hP hD hS (Nat.le_of_ble_eq_true rfl) (Nat.le_of_ble_eq_true rfl) d_Text_parse_136 ⟨y_324, y_327, y_330, y_328, y_329, rfl, rfl, (zI.wk (l' := (-1)) (h' := 240) hv_351 (by decide)), hy_327, hy_330, hy_328, (by have g9 := ((zo1_1 (by omega)) : zo1 y_326.toInt (zrow y_327 b7 b8 y_330 y_328 y_329) = (zrow y_327 b7 b8 y_330 y_328 y_329)); rw [zfin_f (zrun_w hli_332 rfl (ev_353.trans (by rw [z_plf hv_351 (by decide)])) (by omega) (by omega) (fun h9 => by (have h8 := h9.1); omega) (by omega) (fun h9 => absurd h9.1 (by omega))) (by omega)]; omega), (fun h9 => by exfalso; omega)⟩
              · have hP : va_P G.1 classes [(b0, .inr (1, [.int b3, .ref b4])), (b4, .inl (G.2 2, 240, .inl b5)), (b1, .inr (2, [.int y_327, .int b7, .int b8, .ref b9, .ref b10, .ref b11])), (b9, .inl (G.2 0, 20, .inl y_330)), (b10, .inl (G.2 0, 240, .inl y_328)), (b11, .inl (G.2 0, 240, .inl y_329))] H := hP
                have hD := z_tie hP hD rfl
                have hv_374 : zI v_364 0 2147483647 := by have _a := hq_369; have _b := (zI_all v_364); have _c := zc_0; exact ⟨by omega, by omega⟩
                have hv_375 : zI v_364 0 9 := by have _a := hq_370; have _b := hv_374; have _c := zc_10; exact ⟨by omega, by omega⟩
                refine W.widen (k := 0) (n := 0) (Nat.le_of_ble_eq_true rfl) (Nat.le_of_ble_eq_true rfl) ?_
                refine lv_if_eq (tgt := 134) hx hb d_Text_parse_113 (by decide) (fun hc => absurd hc (by decide +kernel)) (fun _ => ?_)
                refine lv_aload_n hx hb d_Text_parse_116 rfl (lv_at hl 5 rfl) ?_
                refine lv_iload hx hb d_Text_parse_117 (lv_at hl 2 rfl) ?_
                refine lv_bipush (v := 97) hx hb d_Text_parse_119 (by decide) ?_
                refine lv_isub hx hb d_Text_parse_121 ?_
                refine lv_topi (fun v_376 ev_376 => ?_)
                obtain rfl : v_364 = v_376 := ev_364.trans ev_376.symm
                refine z_callV (index := 33) (As := [.int v_364]) (rest := []) (wr := [(b0, .inr (1, [.int b3, .ref b4])), (b4, .inl (G.2 2, 240, .inl b5))]) Z (s2_Traces_add l G (b1) (v_364) (y_327) (b7) (b8) (b9) (b10) (b11) (y_330) (y_328) (y_329) hv_375 hy_327 hb7 hb8 hy_330 hy_328) hl.1 q520 q521 q522 q3 q523 ⟨by decide, by decide, by show _ = some 1; decide +kernel⟩ ⟨Nat.le_of_ble_eq_true rfl, Nat.le_of_ble_eq_true rfl⟩ ⟨Nat.le_of_ble_eq_true rfl, Nat.le_of_ble_eq_true rfl⟩ rfl (Nat.le_of_ble_eq_true rfl) d_Text_parse_122 hP hD hS hA 2 2 rfl rfl rfl [2, 3, 4, 5] [0, 1] rfl rfl rfl rfl (by decide) (fun v w1 H locs hw_377 hP hD hS => ?_)
                obtain ⟨x_378, f_379, f_380, f_381, rfl, rfl, hx_378, hf_379, hf_380, hfx_382⟩ := hw_377
                have hP : va_P G.1 classes [(b0, .inr (1, [.int b3, .ref b4])), (b4, .inl (G.2 2, 240, .inl b5)), (b1, .inr (2, [.int y_327, .int b7, .int b8, .ref b9, .ref b10, .ref b11])), (b9, .inl (G.2 0, 20, .inl f_379)), (b10, .inl (G.2 0, 240, .inl f_380)), (b11, .inl (G.2 0, 240, .inl f_381))] H := hP
                have hD := z_tie hP hD rfl
                refine W.widen (k := 0) (n := 0) (Nat.le_of_ble_eq_true rfl) (Nat.le_of_ble_eq_true rfl) ?_
                refine lv_if_eq (tgt := 134) hx hb d_Text_parse_125 (by decide) (fun hc_383 => ?_) (fun hc_383 => ?_)
                · have _nhc_383 := hc_383
                  have ni_384 := (fa_eq _ _).mp hc_383
                  rw [li_0] at ni_384
                  have hv_385 : zI x_378 0 0 := zI.eq_l hx_378 zc_0 hc_383
                  refine lv_iload hx hb d_Text_parse_134 (lv_at hl 3 rfl) ?_
                  exact z_iret hx hb hr hlocks hP hD hS (Nat.le_of_ble_eq_true rfl) (Nat.le_of_ble_eq_true rfl) d_Text_parse_136 ⟨y_324, y_327, f_379, f_380, f_381, rfl, rfl, (zI.wk (l' := (-1)) (h' := 240) hv_351 (by decide)), hy_327, hf_379, hf_380, (by have g9 := ((zo1_1 (by omega)) : zo1 y_326.toInt (zrow y_327 b7 b8 y_330 y_328 y_329) = (zrow y_327 b7 b8 y_330 y_328 y_329)); rw [zfin_f (zrun_w hli_332 rfl (ev_353.trans (by rw [z_plf hv_351 (by decide)])) (by omega) (by omega) (fun h9 => by (have h8 := h9.1); omega) (by omega) (fun h9 => by (have h8 := h9.2); rw [show zo1 _ _ = (zrow y_327 b7 b8 y_330 y_328 y_329) from g9] at h8; rcases hfx_382 with ⟨h7, _, _⟩ | ⟨_, h7, _⟩; exact h7 h8; omega)) (by omega)]; omega), (fun h9 => by exfalso; omega)⟩
                · have _nhc_383 := hc_383
                  have ni_386 : ¬ (x_378 : Int32).toInt = (0 : Int32).toInt := fun z => hc_383 ((fa_eq _ _).mpr z)
                  simp only [li_0] at ni_386
                  have hv_387 : zI x_378 1 1 := zI.ne_lo hx_378 zc_0 hc_383 (by decide)
                  refine lv_iconst (v := 2) hx hb d_Text_parse_128 (by decide) ?_
                  refine lv_istore (lv' := [(4, .int 2), (3, .int 1), (6, .int v_353), (5, .int y_324), (0, .ref b0), (1, .ref b1), (2, .int b2)]) hx hb d_Text_parse_129 hl (by decide) rfl (fun ls hl => ?_)
                  refine lv_goto (tgt := 137) hx hb d_Text_parse_131 (by decide) ?_
                  obtain ⟨v_388, ev_388⟩ : ∃ z : Int32, z = y_324 + 1 := ⟨_, rfl⟩
                  obtain ⟨qv_388, hv_388⟩ := zI_add (l := 1) (h := 240) hv_351 zc_1 ev_388 (by decide)
                  rw [li_1] at qv_388
                  refine lv_iinc (v := v_388) (lv' := [(5, .int v_388), (4, .int 2), (3, .int 1), (6, .int v_353), (0, .ref b0), (1, .ref b1), (2, .int b2)]) hx hb d_Text_parse_137 hl (k := 3) rfl (by rw [ev_388]; rfl) (by decide) rfl (fun ls hl => ?_)
                  refine lv_goto (tgt := 8) hx hb d_Text_parse_140 (by decide) ?_
                  exact ihk_323 (v_388) (2) (1) (y_327) (f_380) (f_381) (f_379) _ _ _ (zI.wk (l' := 0) (h' := 240) hv_388 (by decide)) (zI.wk (l' := 0) (h' := 2) zc_2 (by decide)) (zI.wk (l' := 0) (h' := 1) zc_1 (by decide)) hy_327 hf_380 hf_379 (by omega) (by have g9 := ((zo1_1 (by omega)) : zo1 y_326.toInt (zrow y_327 b7 b8 y_330 y_328 y_329) = (zrow y_327 b7 b8 y_330 y_328 y_329)); refine zrun_l hli_332 (by omega) (ev_353.trans (by rw [z_plf hv_351 (by decide)])) ⟨by omega, by omega⟩ (fun h9 => by (have h8 := h9.1); omega) ?_ li_1 li_2 ?_; (rw [show zo1 _ _ = (zrow y_327 b7 b8 y_330 y_328 y_329) from g9]; rcases hfx_382 with ⟨_, h8, _⟩ | ⟨h9, _, _⟩; (exfalso; omega); exact h9); (rw [show zo1 _ _ = (zrow y_327 b7 b8 y_330 y_328 y_329) from g9, ← ev_364]; rcases hfx_382 with ⟨_, h8, _⟩ | ⟨_, _, h9⟩; (exfalso; omega); exact h9)) (zm_up qv_388 hmk_323 (by decide)) hP hD hS (lv_sub hl [0, 1, 2, 4, 5, 6] rfl)
            · have _nhc_362 := hc_362
              have ni_389 := (fa_eq _ _).mp hc_362
              rw [li_59] at ni_389
              have hv_390 : zI v_353 59 59 := zI.eq_l (zI_all v_353) zc_59 hc_362
              refine lv_iload_n hx hb d_Text_parse_96 rfl (lv_at hl 6 rfl) ?_
              refine lv_if_ne (tgt := 105) hx hb d_Text_parse_97 (by decide) (fun hc_391 => ?_) (fun hc_391 => ?_)
              · have _nhc_391 := hc_391
                have ni_392 : ¬ (b2 : Int32).toInt = (0 : Int32).toInt := fun z => hc_391 ((fa_eq _ _).mpr z)
                simp only [li_0] at ni_392
                have hv_393 : zI b2 1 1 := zI.ne_lo hb2 zc_0 hc_391 (by decide)
                refine lv_iload hx hb d_Text_parse_105 (lv_at hl 2 rfl) ?_
                refine lv_bipush (v := 97) hx hb d_Text_parse_107 (by decide) ?_
                refine lv_isub hx hb d_Text_parse_109 ?_
                refine lv_topi (fun v_394 ev_394 => ?_)
                obtain ⟨qv_394, hv_394⟩ := zI_sub (l := -38) (h := -38) hv_390 zc_97 ev_394 (by decide)
                rw [li_97] at qv_394
                have wv_394 := zs97 ev_394
                refine z_callSN (host := "TraceMachines") (index := 29) (As := [.int v_394]) (rest := []) (wr := [(b0, .inr (1, [.int b3, .ref b4])), (b4, .inl (G.2 2, 240, .inl b5)), (b1, .inr (2, [.int y_327, .int b7, .int b8, .ref b9, .ref b10, .ref b11])), (b9, .inl (G.2 0, 20, .inl y_330)), (b10, .inl (G.2 0, 240, .inl y_328)), (b11, .inl (G.2 0, 240, .inl y_329))]) Z (s2_X_isLetter l G (v_394)) hl.1 (by decide +kernel) q518 q1 q519 ⟨by decide, by decide, by show _ = some 1; decide +kernel⟩ ⟨Nat.le_of_ble_eq_true rfl, Nat.le_of_ble_eq_true rfl⟩ ⟨Nat.le_of_ble_eq_true rfl, Nat.le_of_ble_eq_true rfl⟩ rfl (Nat.le_of_ble_eq_true rfl) d_Text_parse_110 hP hD hS hA [] [0, 1, 2, 3, 4, 5] rfl rfl rfl rfl (by decide) (fun v w1 H locs hw_395 hP hD hS => ?_)
                rcases hw_395 with ⟨rfl, rfl, hq_396⟩ | ⟨rfl, rfl, hq_397, hq_398⟩ | ⟨rfl, rfl, hq_399, hq_400⟩
                · have hP : va_P G.1 classes [(b0, .inr (1, [.int b3, .ref b4])), (b4, .inl (G.2 2, 240, .inl b5)), (b1, .inr (2, [.int y_327, .int b7, .int b8, .ref b9, .ref b10, .ref b11])), (b9, .inl (G.2 0, 20, .inl y_330)), (b10, .inl (G.2 0, 240, .inl y_328)), (b11, .inl (G.2 0, 240, .inl y_329))] H := hP
                  have hD := z_tie hP hD rfl
                  refine W.widen (k := 0) (n := 0) (Nat.le_of_ble_eq_true rfl) (Nat.le_of_ble_eq_true rfl) ?_
                  refine lv_if_eq (tgt := 134) hx hb d_Text_parse_113 (by decide) (fun _ => ?_) (fun hc => absurd hc (by decide +kernel))
                  refine lv_iload hx hb d_Text_parse_134 (lv_at hl 3 rfl) ?_
                  exact z_iret hx hb hr hlocks hP hD hS (Nat.le_of_ble_eq_true rfl) (Nat.le_of_ble_eq_true rfl) d_Text_parse_136 ⟨y_324, y_327, y_330, y_328, y_329, rfl, rfl, (zI.wk (l' := (-1)) (h' := 240) hv_351 (by decide)), hy_327, hy_330, hy_328, (by have g9 := ((zo1_1 (by omega)) : zo1 y_326.toInt (zrow y_327 b7 b8 y_330 y_328 y_329) = (zrow y_327 b7 b8 y_330 y_328 y_329)); rw [zfin_f (zrun_w hli_332 rfl (ev_353.trans (by rw [z_plf hv_351 (by decide)])) (by omega) (by omega) (fun h9 => by (have h8 := h9.1); omega) (by omega) (fun h9 => absurd h9.1 (by omega))) (by omega)]; omega), (fun h9 => by exfalso; omega)⟩
                · exfalso; have _q := hq_397; have _u0 := hv_394; omega
                · exfalso; have _q := hq_399; have _u0 := hv_394; omega
              · have _nhc_391 := hc_391
                have ni_401 := (fa_eq _ _).mp hc_391
                rw [li_0] at ni_401
                have hv_402 : zI b2 0 0 := zI.eq_l hb2 zc_0 hc_391
                refine lv_iconst (v := 0) hx hb d_Text_parse_100 (by decide) ?_
                refine lv_istore_n (lv' := [(3, .int 0), (4, .int 0), (6, .int v_353), (5, .int y_324), (0, .ref b0), (1, .ref b1), (2, .int b2)]) hx hb d_Text_parse_101 rfl hl (by decide) rfl (fun ls hl => ?_)
                refine lv_goto (tgt := 137) hx hb d_Text_parse_102 (by decide) ?_
                obtain ⟨v_403, ev_403⟩ : ∃ z : Int32, z = y_324 + 1 := ⟨_, rfl⟩
                obtain ⟨qv_403, hv_403⟩ := zI_add (l := 1) (h := 240) hv_351 zc_1 ev_403 (by decide)
                rw [li_1] at qv_403
                refine lv_iinc (v := v_403) (lv' := [(5, .int v_403), (3, .int 0), (4, .int 0), (6, .int v_353), (0, .ref b0), (1, .ref b1), (2, .int b2)]) hx hb d_Text_parse_137 hl (k := 3) rfl (by rw [ev_403]; rfl) (by decide) rfl (fun ls hl => ?_)
                refine lv_goto (tgt := 8) hx hb d_Text_parse_140 (by decide) ?_
                exact ihk_323 (v_403) (0) (0) (y_327) (y_328) (y_329) (y_330) _ _ _ (zI.wk (l' := 0) (h' := 240) hv_403 (by decide)) (zI.wk (l' := 0) (h' := 2) zc_0 (by decide)) (zI.wk (l' := 0) (h' := 1) zc_0 (by decide)) hy_327 hy_328 hy_330 (by omega) (zrun_s hli_332 (by omega) (ev_353.trans (by rw [z_plf hv_351 (by decide)])) ⟨by omega, by omega⟩ (fun h9 => by (have h8 := h9.1); omega) li_0 li_0 ((zo1_1 (by omega)) : zo1 y_326.toInt (zrow y_327 b7 b8 y_330 y_328 y_329) = (zrow y_327 b7 b8 y_330 y_328 y_329)).symm) (zm_up qv_403 hmk_323 (by decide)) hP hD hS (lv_sub hl [0, 2, 1, 4, 5, 6] rfl)
          · have _nhc_359 := hc_359
            have ni_404 := (fa_eq _ _).mp hc_359
            rw [li_0] at ni_404
            have hv_405 : zI y_326 0 0 := zI.eq_l hy_326 zc_0 hc_359
            refine lv_aload_n hx hb d_Text_parse_77 rfl (lv_at hl 5 rfl) ?_
            refine z_callV (index := 25) (As := []) (rest := []) (wr := [(b0, .inr (1, [.int b3, .ref b4])), (b4, .inl (G.2 2, 240, .inl b5))]) Z (s2_Traces_open l G (b1) (y_327) (b7) (b8) (b9) (b10) (b11) (y_330) (y_328) (y_329) hy_327 hb7 hb8 hy_330 hy_328) hl.1 q513 q514 q515 q3 q516 ⟨by decide, by decide, by show _ = some 0; decide +kernel⟩ ⟨Nat.le_of_ble_eq_true rfl, Nat.le_of_ble_eq_true rfl⟩ ⟨Nat.le_of_ble_eq_true rfl, Nat.le_of_ble_eq_true rfl⟩ rfl (Nat.le_of_ble_eq_true rfl) d_Text_parse_78 hP hD hS hA 2 2 rfl rfl rfl [2, 3, 4, 5] [0, 1] rfl rfl rfl rfl (by decide) (fun v w1 H locs hw_406 hP hD hS => ?_)
            obtain ⟨x_407, x_408, f_409, rfl, rfl, hx_407, hx_408, hf_409, hfx_410⟩ := hw_406
            have hP : va_P G.1 classes [(b0, .inr (1, [.int b3, .ref b4])), (b4, .inl (G.2 2, 240, .inl b5)), (b1, .inr (2, [.int x_408, .int b7, .int b8, .ref b9, .ref b10, .ref b11])), (b9, .inl (G.2 0, 20, .inl f_409)), (b10, .inl (G.2 0, 240, .inl y_328)), (b11, .inl (G.2 0, 240, .inl y_329))] H := hP
            have hD := z_tie hP hD rfl
            refine W.widen (k := 0) (n := 0) (Nat.le_of_ble_eq_true rfl) (Nat.le_of_ble_eq_true rfl) ?_
            refine lv_if_ne (tgt := 87) hx hb d_Text_parse_81 (by decide) (fun hc_411 => ?_) (fun hc_411 => ?_)
            · have _nhc_411 := hc_411
              have ni_412 : ¬ (x_407 : Int32).toInt = (0 : Int32).toInt := fun z => hc_411 ((fa_eq _ _).mpr z)
              simp only [li_0] at ni_412
              have hv_413 : zI x_407 1 1 := zI.ne_lo hx_407 zc_0 hc_411 (by decide)
              refine lv_iconst (v := 1) hx hb d_Text_parse_87 (by decide) ?_
              refine lv_istore_n (lv' := [(3, .int 1), (4, .int 0), (6, .int v_353), (5, .int y_324), (0, .ref b0), (1, .ref b1), (2, .int b2)]) hx hb d_Text_parse_88 rfl hl (by decide) rfl (fun ls hl => ?_)
              refine lv_iload hx hb d_Text_parse_89 (lv_at hl 2 rfl) ?_
              refine lv_bipush (v := 59) hx hb d_Text_parse_91 (by decide) ?_
              refine lv_icmp_ne (tgt := 105) hx hb d_Text_parse_93 (by decide) (fun hc_414 => ?_) (fun hc_414 => ?_)
              · have _nhc_414 := hc_414
                have ni_415 : ¬ (v_353 : Int32).toInt = (59 : Int32).toInt := fun z => hc_414 ((fa_eq _ _).mpr z)
                simp only [li_59] at ni_415
                refine lv_iload hx hb d_Text_parse_105 (lv_at hl 2 rfl) ?_
                refine lv_bipush (v := 97) hx hb d_Text_parse_107 (by decide) ?_
                refine lv_isub hx hb d_Text_parse_109 ?_
                refine lv_topi (fun v_416 ev_416 => ?_)
                have wv_416 := zs97 ev_416
                refine z_callSN (host := "TraceMachines") (index := 29) (As := [.int v_416]) (rest := []) (wr := [(b0, .inr (1, [.int b3, .ref b4])), (b4, .inl (G.2 2, 240, .inl b5)), (b1, .inr (2, [.int x_408, .int b7, .int b8, .ref b9, .ref b10, .ref b11])), (b9, .inl (G.2 0, 20, .inl f_409)), (b10, .inl (G.2 0, 240, .inl y_328)), (b11, .inl (G.2 0, 240, .inl y_329))]) Z (s2_X_isLetter l G (v_416)) hl.1 (by decide +kernel) q518 q1 q519 ⟨by decide, by decide, by show _ = some 1; decide +kernel⟩ ⟨Nat.le_of_ble_eq_true rfl, Nat.le_of_ble_eq_true rfl⟩ ⟨Nat.le_of_ble_eq_true rfl, Nat.le_of_ble_eq_true rfl⟩ rfl (Nat.le_of_ble_eq_true rfl) d_Text_parse_110 hP hD hS hA [] [0, 1, 2, 3, 4, 5] rfl rfl rfl rfl (by decide) (fun v w1 H locs hw_417 hP hD hS => ?_)
                rcases hw_417 with ⟨rfl, rfl, hq_418⟩ | ⟨rfl, rfl, hq_419, hq_420⟩ | ⟨rfl, rfl, hq_421, hq_422⟩
                · have hP : va_P G.1 classes [(b0, .inr (1, [.int b3, .ref b4])), (b4, .inl (G.2 2, 240, .inl b5)), (b1, .inr (2, [.int x_408, .int b7, .int b8, .ref b9, .ref b10, .ref b11])), (b9, .inl (G.2 0, 20, .inl f_409)), (b10, .inl (G.2 0, 240, .inl y_328)), (b11, .inl (G.2 0, 240, .inl y_329))] H := hP
                  have hD := z_tie hP hD rfl
                  have hv_423 : zI v_416 (-2147483648) (-1) := by have _a := hq_418; have _b := (zI_all v_416); have _c := zc_0; exact ⟨by omega, by omega⟩
                  refine W.widen (k := 0) (n := 0) (Nat.le_of_ble_eq_true rfl) (Nat.le_of_ble_eq_true rfl) ?_
                  refine lv_if_eq (tgt := 134) hx hb d_Text_parse_113 (by decide) (fun _ => ?_) (fun hc => absurd hc (by decide +kernel))
                  refine lv_iload hx hb d_Text_parse_134 (lv_at hl 3 rfl) ?_
                  exact z_iret hx hb hr hlocks hP hD hS (Nat.le_of_ble_eq_true rfl) (Nat.le_of_ble_eq_true rfl) d_Text_parse_136 ⟨y_324, x_408, f_409, y_328, y_329, rfl, rfl, (zI.wk (l' := (-1)) (h' := 240) hv_351 (by decide)), hx_408, hf_409, hy_328, (by have g9 := ((by rcases hfx_410 with ⟨h9, h8, _⟩ | ⟨_, _, h9⟩; (exfalso; omega); rw [zo1_0 (by omega)]; exact h9.symm) : zo1 y_326.toInt (zrow y_327 b7 b8 y_330 y_328 y_329) = (zrow x_408 b7 b8 f_409 y_328 y_329)); rw [zfin_f (zrun_w hli_332 rfl (ev_353.trans (by rw [z_plf hv_351 (by decide)])) (by omega) (by omega) (fun h9 => by (have h8 : y_327.toInt = 20 := h9.2); rcases hfx_410 with ⟨h7, h6, _⟩ | ⟨h7, _, _⟩ <;> omega) (by omega) (fun h9 => absurd h9.1 (by omega))) (by omega)]; omega), (fun h9 => by exfalso; omega)⟩
                · have hP : va_P G.1 classes [(b0, .inr (1, [.int b3, .ref b4])), (b4, .inl (G.2 2, 240, .inl b5)), (b1, .inr (2, [.int x_408, .int b7, .int b8, .ref b9, .ref b10, .ref b11])), (b9, .inl (G.2 0, 20, .inl f_409)), (b10, .inl (G.2 0, 240, .inl y_328)), (b11, .inl (G.2 0, 240, .inl y_329))] H := hP
                  have hD := z_tie hP hD rfl
                  have hv_424 : zI v_416 0 2147483647 := by have _a := hq_419; have _b := (zI_all v_416); have _c := zc_0; exact ⟨by omega, by omega⟩
                  have hv_425 : zI v_416 10 2147483647 := by have _a := hq_420; have _b := hv_424; have _c := zc_10; exact ⟨by omega, by omega⟩
                  refine W.widen (k := 0) (n := 0) (Nat.le_of_ble_eq_true rfl) (Nat.le_of_ble_eq_true rfl) ?_
                  refine lv_if_eq (tgt := 134) hx hb d_Text_parse_113 (by decide) (fun _ => ?_) (fun hc => absurd hc (by decide +kernel))
                  refine lv_iload hx hb d_Text_parse_134 (lv_at hl 3 rfl) ?_
                  exact z_iret hx hb hr hlocks hP hD hS (Nat.le_of_ble_eq_true rfl) (Nat.le_of_ble_eq_true rfl) d_Text_parse_136 ⟨y_324, x_408, f_409, y_328, y_329, rfl, rfl, (zI.wk (l' := (-1)) (h' := 240) hv_351 (by decide)), hx_408, hf_409, hy_328, (by have g9 := ((by rcases hfx_410 with ⟨h9, h8, _⟩ | ⟨_, _, h9⟩; (exfalso; omega); rw [zo1_0 (by omega)]; exact h9.symm) : zo1 y_326.toInt (zrow y_327 b7 b8 y_330 y_328 y_329) = (zrow x_408 b7 b8 f_409 y_328 y_329)); rw [zfin_f (zrun_w hli_332 rfl (ev_353.trans (by rw [z_plf hv_351 (by decide)])) (by omega) (by omega) (fun h9 => by (have h8 : y_327.toInt = 20 := h9.2); rcases hfx_410 with ⟨h7, h6, _⟩ | ⟨h7, _, _⟩ <;> omega) (by omega) (fun h9 => absurd h9.1 (by omega))) (by omega)]; omega), (fun h9 => by exfalso; omega)⟩
                · have hP : va_P G.1 classes [(b0, .inr (1, [.int b3, .ref b4])), (b4, .inl (G.2 2, 240, .inl b5)), (b1, .inr (2, [.int x_408, .int b7, .int b8, .ref b9, .ref b10, .ref b11])), (b9, .inl (G.2 0, 20, .inl f_409)), (b10, .inl (G.2 0, 240, .inl y_328)), (b11, .inl (G.2 0, 240, .inl y_329))] H := hP
                  have hD := z_tie hP hD rfl
                  have hv_426 : zI v_416 0 2147483647 := by have _a := hq_421; have _b := (zI_all v_416); have _c := zc_0; exact ⟨by omega, by omega⟩
                  have hv_427 : zI v_416 0 9 := by have _a := hq_422; have _b := hv_426; have _c := zc_10; exact ⟨by omega, by omega⟩
                  refine W.widen (k := 0) (n := 0) (Nat.le_of_ble_eq_true rfl) (Nat.le_of_ble_eq_true rfl) ?_
                  refine lv_if_eq (tgt := 134) hx hb d_Text_parse_113 (by decide) (fun hc => absurd hc (by decide +kernel)) (fun _ => ?_)
                  refine lv_aload_n hx hb d_Text_parse_116 rfl (lv_at hl 5 rfl) ?_
                  refine lv_iload hx hb d_Text_parse_117 (lv_at hl 2 rfl) ?_
                  refine lv_bipush (v := 97) hx hb d_Text_parse_119 (by decide) ?_
                  refine lv_isub hx hb d_Text_parse_121 ?_
                  refine lv_topi (fun v_428 ev_428 => ?_)
                  obtain rfl : v_416 = v_428 := ev_416.trans ev_428.symm
                  refine z_callV (index := 33) (As := [.int v_416]) (rest := []) (wr := [(b0, .inr (1, [.int b3, .ref b4])), (b4, .inl (G.2 2, 240, .inl b5))]) Z (s2_Traces_add l G (b1) (v_416) (x_408) (b7) (b8) (b9) (b10) (b11) (f_409) (y_328) (y_329) hv_427 hx_408 hb7 hb8 hf_409 hy_328) hl.1 q520 q521 q522 q3 q523 ⟨by decide, by decide, by show _ = some 1; decide +kernel⟩ ⟨Nat.le_of_ble_eq_true rfl, Nat.le_of_ble_eq_true rfl⟩ ⟨Nat.le_of_ble_eq_true rfl, Nat.le_of_ble_eq_true rfl⟩ rfl (Nat.le_of_ble_eq_true rfl) d_Text_parse_122 hP hD hS hA 2 2 rfl rfl rfl [2, 3, 4, 5] [0, 1] rfl rfl rfl rfl (by decide) (fun v w1 H locs hw_429 hP hD hS => ?_)
                  obtain ⟨x_430, f_431, f_432, f_433, rfl, rfl, hx_430, hf_431, hf_432, hfx_434⟩ := hw_429
                  have hP : va_P G.1 classes [(b0, .inr (1, [.int b3, .ref b4])), (b4, .inl (G.2 2, 240, .inl b5)), (b1, .inr (2, [.int x_408, .int b7, .int b8, .ref b9, .ref b10, .ref b11])), (b9, .inl (G.2 0, 20, .inl f_431)), (b10, .inl (G.2 0, 240, .inl f_432)), (b11, .inl (G.2 0, 240, .inl f_433))] H := hP
                  have hD := z_tie hP hD rfl
                  refine W.widen (k := 0) (n := 0) (Nat.le_of_ble_eq_true rfl) (Nat.le_of_ble_eq_true rfl) ?_
                  refine lv_if_eq (tgt := 134) hx hb d_Text_parse_125 (by decide) (fun hc_435 => ?_) (fun hc_435 => ?_)
                  · have _nhc_435 := hc_435
                    have ni_436 := (fa_eq _ _).mp hc_435
                    rw [li_0] at ni_436
                    have hv_437 : zI x_430 0 0 := zI.eq_l hx_430 zc_0 hc_435
                    refine lv_iload hx hb d_Text_parse_134 (lv_at hl 3 rfl) ?_
                    exact z_iret hx hb hr hlocks hP hD hS (Nat.le_of_ble_eq_true rfl) (Nat.le_of_ble_eq_true rfl) d_Text_parse_136 ⟨y_324, x_408, f_431, f_432, f_433, rfl, rfl, (zI.wk (l' := (-1)) (h' := 240) hv_351 (by decide)), hx_408, hf_431, hf_432, (by have g9 := ((by rcases hfx_410 with ⟨h9, h8, _⟩ | ⟨_, _, h9⟩; (exfalso; omega); rw [zo1_0 (by omega)]; exact h9.symm) : zo1 y_326.toInt (zrow y_327 b7 b8 y_330 y_328 y_329) = (zrow x_408 b7 b8 f_409 y_328 y_329)); rw [zfin_f (zrun_w hli_332 rfl (ev_353.trans (by rw [z_plf hv_351 (by decide)])) (by omega) (by omega) (fun h9 => by (have h8 : y_327.toInt = 20 := h9.2); rcases hfx_410 with ⟨h7, h6, _⟩ | ⟨h7, _, _⟩ <;> omega) (by omega) (fun h9 => by (have h8 := h9.2); rw [show zo1 _ _ = (zrow x_408 b7 b8 f_409 y_328 y_329) from g9] at h8; rcases hfx_434 with ⟨h7, _, _⟩ | ⟨_, h7, _⟩; exact h7 h8; omega)) (by omega)]; omega), (fun h9 => by exfalso; omega)⟩
                  · have _nhc_435 := hc_435
                    have ni_438 : ¬ (x_430 : Int32).toInt = (0 : Int32).toInt := fun z => hc_435 ((fa_eq _ _).mpr z)
                    simp only [li_0] at ni_438
                    have hv_439 : zI x_430 1 1 := zI.ne_lo hx_430 zc_0 hc_435 (by decide)
                    refine lv_iconst (v := 2) hx hb d_Text_parse_128 (by decide) ?_
                    refine lv_istore (lv' := [(4, .int 2), (3, .int 1), (6, .int v_353), (5, .int y_324), (0, .ref b0), (1, .ref b1), (2, .int b2)]) hx hb d_Text_parse_129 hl (by decide) rfl (fun ls hl => ?_)
                    refine lv_goto (tgt := 137) hx hb d_Text_parse_131 (by decide) ?_
                    obtain ⟨v_440, ev_440⟩ : ∃ z : Int32, z = y_324 + 1 := ⟨_, rfl⟩
                    obtain ⟨qv_440, hv_440⟩ := zI_add (l := 1) (h := 240) hv_351 zc_1 ev_440 (by decide)
                    rw [li_1] at qv_440
                    refine lv_iinc (v := v_440) (lv' := [(5, .int v_440), (4, .int 2), (3, .int 1), (6, .int v_353), (0, .ref b0), (1, .ref b1), (2, .int b2)]) hx hb d_Text_parse_137 hl (k := 3) rfl (by rw [ev_440]; rfl) (by decide) rfl (fun ls hl => ?_)
                    refine lv_goto (tgt := 8) hx hb d_Text_parse_140 (by decide) ?_
                    exact ihk_323 (v_440) (2) (1) (x_408) (f_432) (f_433) (f_431) _ _ _ (zI.wk (l' := 0) (h' := 240) hv_440 (by decide)) (zI.wk (l' := 0) (h' := 2) zc_2 (by decide)) (zI.wk (l' := 0) (h' := 1) zc_1 (by decide)) hx_408 hf_432 hf_431 (by omega) (by have g9 := ((by rcases hfx_410 with ⟨h9, h8, _⟩ | ⟨_, _, h9⟩; (exfalso; omega); rw [zo1_0 (by omega)]; exact h9.symm) : zo1 y_326.toInt (zrow y_327 b7 b8 y_330 y_328 y_329) = (zrow x_408 b7 b8 f_409 y_328 y_329)); refine zrun_l hli_332 (by omega) (ev_353.trans (by rw [z_plf hv_351 (by decide)])) ⟨by omega, by omega⟩ (fun h9 => by (have h8 : y_327.toInt = 20 := h9.2); rcases hfx_410 with ⟨h7, h6, _⟩ | ⟨h7, _, _⟩ <;> omega) ?_ li_1 li_2 ?_; (rw [show zo1 _ _ = (zrow x_408 b7 b8 f_409 y_328 y_329) from g9]; rcases hfx_434 with ⟨_, h8, _⟩ | ⟨h9, _, _⟩; (exfalso; omega); exact h9); (rw [show zo1 _ _ = (zrow x_408 b7 b8 f_409 y_328 y_329) from g9, ← ev_416]; rcases hfx_434 with ⟨_, h8, _⟩ | ⟨_, _, h9⟩; (exfalso; omega); exact h9)) (zm_up qv_440 hmk_323 (by decide)) hP hD hS (lv_sub hl [0, 1, 2, 4, 5, 6] rfl)
              · have _nhc_414 := hc_414
                have ni_441 := (fa_eq _ _).mp hc_414
                rw [li_59] at ni_441
                have hv_442 : zI v_353 59 59 := zI.eq_l (zI_all v_353) zc_59 hc_414
                refine lv_iload_n hx hb d_Text_parse_96 rfl (lv_at hl 6 rfl) ?_
                refine lv_if_ne (tgt := 105) hx hb d_Text_parse_97 (by decide) (fun hc_443 => ?_) (fun hc_443 => ?_)
                · have _nhc_443 := hc_443
                  have ni_444 : ¬ (b2 : Int32).toInt = (0 : Int32).toInt := fun z => hc_443 ((fa_eq _ _).mpr z)
                  simp only [li_0] at ni_444
                  have hv_445 : zI b2 1 1 := zI.ne_lo hb2 zc_0 hc_443 (by decide)
                  refine lv_iload hx hb d_Text_parse_105 (lv_at hl 2 rfl) ?_
                  refine lv_bipush (v := 97) hx hb d_Text_parse_107 (by decide) ?_
                  refine lv_isub hx hb d_Text_parse_109 ?_
                  refine lv_topi (fun v_446 ev_446 => ?_)
                  obtain ⟨qv_446, hv_446⟩ := zI_sub (l := -38) (h := -38) hv_442 zc_97 ev_446 (by decide)
                  rw [li_97] at qv_446
                  have wv_446 := zs97 ev_446
                  refine z_callSN (host := "TraceMachines") (index := 29) (As := [.int v_446]) (rest := []) (wr := [(b0, .inr (1, [.int b3, .ref b4])), (b4, .inl (G.2 2, 240, .inl b5)), (b1, .inr (2, [.int x_408, .int b7, .int b8, .ref b9, .ref b10, .ref b11])), (b9, .inl (G.2 0, 20, .inl f_409)), (b10, .inl (G.2 0, 240, .inl y_328)), (b11, .inl (G.2 0, 240, .inl y_329))]) Z (s2_X_isLetter l G (v_446)) hl.1 (by decide +kernel) q518 q1 q519 ⟨by decide, by decide, by show _ = some 1; decide +kernel⟩ ⟨Nat.le_of_ble_eq_true rfl, Nat.le_of_ble_eq_true rfl⟩ ⟨Nat.le_of_ble_eq_true rfl, Nat.le_of_ble_eq_true rfl⟩ rfl (Nat.le_of_ble_eq_true rfl) d_Text_parse_110 hP hD hS hA [] [0, 1, 2, 3, 4, 5] rfl rfl rfl rfl (by decide) (fun v w1 H locs hw_447 hP hD hS => ?_)
                  rcases hw_447 with ⟨rfl, rfl, hq_448⟩ | ⟨rfl, rfl, hq_449, hq_450⟩ | ⟨rfl, rfl, hq_451, hq_452⟩
                  · have hP : va_P G.1 classes [(b0, .inr (1, [.int b3, .ref b4])), (b4, .inl (G.2 2, 240, .inl b5)), (b1, .inr (2, [.int x_408, .int b7, .int b8, .ref b9, .ref b10, .ref b11])), (b9, .inl (G.2 0, 20, .inl f_409)), (b10, .inl (G.2 0, 240, .inl y_328)), (b11, .inl (G.2 0, 240, .inl y_329))] H := hP
                    have hD := z_tie hP hD rfl
                    refine W.widen (k := 0) (n := 0) (Nat.le_of_ble_eq_true rfl) (Nat.le_of_ble_eq_true rfl) ?_
                    refine lv_if_eq (tgt := 134) hx hb d_Text_parse_113 (by decide) (fun _ => ?_) (fun hc => absurd hc (by decide +kernel))
                    refine lv_iload hx hb d_Text_parse_134 (lv_at hl 3 rfl) ?_
                    exact z_iret hx hb hr hlocks hP hD hS (Nat.le_of_ble_eq_true rfl) (Nat.le_of_ble_eq_true rfl) d_Text_parse_136 ⟨y_324, x_408, f_409, y_328, y_329, rfl, rfl, (zI.wk (l' := (-1)) (h' := 240) hv_351 (by decide)), hx_408, hf_409, hy_328, (by have g9 := ((by rcases hfx_410 with ⟨h9, h8, _⟩ | ⟨_, _, h9⟩; (exfalso; omega); rw [zo1_0 (by omega)]; exact h9.symm) : zo1 y_326.toInt (zrow y_327 b7 b8 y_330 y_328 y_329) = (zrow x_408 b7 b8 f_409 y_328 y_329)); rw [zfin_f (zrun_w hli_332 rfl (ev_353.trans (by rw [z_plf hv_351 (by decide)])) (by omega) (by omega) (fun h9 => by (have h8 : y_327.toInt = 20 := h9.2); rcases hfx_410 with ⟨h7, h6, _⟩ | ⟨h7, _, _⟩ <;> omega) (by omega) (fun h9 => absurd h9.1 (by omega))) (by omega)]; omega), (fun h9 => by exfalso; omega)⟩
                  · exfalso; have _q := hq_449; have _u0 := hv_446; omega
                  · exfalso; have _q := hq_451; have _u0 := hv_446; omega
                · have _nhc_443 := hc_443
                  have ni_453 := (fa_eq _ _).mp hc_443
                  rw [li_0] at ni_453
                  have hv_454 : zI b2 0 0 := zI.eq_l hb2 zc_0 hc_443
                  refine lv_iconst (v := 0) hx hb d_Text_parse_100 (by decide) ?_
                  refine lv_istore_n (lv' := [(3, .int 0), (4, .int 0), (6, .int v_353), (5, .int y_324), (0, .ref b0), (1, .ref b1), (2, .int b2)]) hx hb d_Text_parse_101 rfl hl (by decide) rfl (fun ls hl => ?_)
                  refine lv_goto (tgt := 137) hx hb d_Text_parse_102 (by decide) ?_
                  obtain ⟨v_455, ev_455⟩ : ∃ z : Int32, z = y_324 + 1 := ⟨_, rfl⟩
                  obtain ⟨qv_455, hv_455⟩ := zI_add (l := 1) (h := 240) hv_351 zc_1 ev_455 (by decide)
                  rw [li_1] at qv_455
                  refine lv_iinc (v := v_455) (lv' := [(5, .int v_455), (3, .int 0), (4, .int 0), (6, .int v_353), (0, .ref b0), (1, .ref b1), (2, .int b2)]) hx hb d_Text_parse_137 hl (k := 3) rfl (by rw [ev_455]; rfl) (by decide) rfl (fun ls hl => ?_)
                  refine lv_goto (tgt := 8) hx hb d_Text_parse_140 (by decide) ?_
                  exact ihk_323 (v_455) (0) (0) (x_408) (y_328) (y_329) (f_409) _ _ _ (zI.wk (l' := 0) (h' := 240) hv_455 (by decide)) (zI.wk (l' := 0) (h' := 2) zc_0 (by decide)) (zI.wk (l' := 0) (h' := 1) zc_0 (by decide)) hx_408 hy_328 hf_409 (by omega) (zrun_s hli_332 (by omega) (ev_353.trans (by rw [z_plf hv_351 (by decide)])) ⟨by omega, by omega⟩ (fun h9 => by (have h8 : y_327.toInt = 20 := h9.2); rcases hfx_410 with ⟨h7, h6, _⟩ | ⟨h7, _, _⟩ <;> omega) li_0 li_0 ((by rcases hfx_410 with ⟨h9, h8, _⟩ | ⟨_, _, h9⟩; (exfalso; omega); rw [zo1_0 (by omega)]; exact h9.symm) : zo1 y_326.toInt (zrow y_327 b7 b8 y_330 y_328 y_329) = (zrow x_408 b7 b8 f_409 y_328 y_329)).symm) (zm_up qv_455 hmk_323 (by decide)) hP hD hS (lv_sub hl [0, 2, 1, 4, 5, 6] rfl)
            · have _nhc_411 := hc_411
              have ni_456 := (fa_eq _ _).mp hc_411
              rw [li_0] at ni_456
              have hv_457 : zI x_407 0 0 := zI.eq_l hx_407 zc_0 hc_411
              refine lv_iload hx hb d_Text_parse_84 (lv_at hl 2 rfl) ?_
              exact z_iret hx hb hr hlocks hP hD hS (Nat.le_of_ble_eq_true rfl) (Nat.le_of_ble_eq_true rfl) d_Text_parse_86 ⟨y_324, x_408, f_409, y_328, y_329, rfl, rfl, (zI.wk (l' := (-1)) (h' := 240) hv_351 (by decide)), hx_408, hf_409, hy_328, (by rw [zfin_f (zrun_x hli_332 rfl (ev_353.trans (by rw [z_plf hv_351 (by decide)])) (by omega) (by omega) ⟨by omega, (show y_327.toInt = 20 by rcases hfx_410 with ⟨h9, _, _⟩ | ⟨_, h9, _⟩ <;> omega)⟩) (by omega)]; omega), (fun h9 => by exfalso; omega)⟩
        · have _nhc_357 := hc_357
          have ni_458 := (fa_eq _ _).mp hc_357
          rw [li_32] at ni_458
          have hv_459 : zI v_353 32 32 := zI.eq_l (zI_all v_353) zc_32 hc_357
          refine lv_goto (tgt := 137) hx hb d_Text_parse_70 (by decide) ?_
          obtain ⟨v_460, ev_460⟩ : ∃ z : Int32, z = y_324 + 1 := ⟨_, rfl⟩
          obtain ⟨qv_460, hv_460⟩ := zI_add (l := 1) (h := 240) hv_351 zc_1 ev_460 (by decide)
          rw [li_1] at qv_460
          refine lv_iinc (v := v_460) (lv' := [(5, .int v_460), (4, .int 0), (6, .int v_353), (3, .int y_326), (0, .ref b0), (1, .ref b1), (2, .int b2)]) hx hb d_Text_parse_137 hl (k := 2) rfl (by rw [ev_460]; rfl) (by decide) rfl (fun ls hl => ?_)
          refine lv_goto (tgt := 8) hx hb d_Text_parse_140 (by decide) ?_
          exact ihk_323 (v_460) (0) (y_326) (y_327) (y_328) (y_329) (y_330) _ _ _ (zI.wk (l' := 0) (h' := 240) hv_460 (by decide)) (zI.wk (l' := 0) (h' := 2) zc_0 (by decide)) hy_326 hy_327 hy_328 hy_330 (by omega) (zrun_b hli_332 (by omega) (ev_353.trans (by rw [z_plf hv_351 (by decide)])) (by omega) (by omega) li_0) (zm_up qv_460 hmk_323 (by decide)) hP hD hS (lv_sub hl [0, 1, 3, 4, 5, 6] rfl)
      · have _nhc_354 := hc_354
        have ni_461 := (fa_lt _ _).mp (zi_nle hc_354)
        rw [li_0] at ni_461
        have hv_462 : zI y_325 1 2 := zI.lt_r zc_0 hy_325 (zi_nle hc_354) (by decide)
        refine lv_iload hx hb d_Text_parse_31 (lv_at hl 0 rfl) ?_
        refine lv_bipush (v := 48) hx hb d_Text_parse_33 (by decide) ?_
        refine lv_icmp_lt (tgt := 60) hx hb d_Text_parse_35 (by decide) (fun hc_463 => ?_) (fun hc_463 => ?_)
        · have _nhc_463 := hc_463
          have ni_464 := (fa_lt _ _).mp hc_463
          rw [li_48] at ni_464
          have hv_465 : zI v_353 (-2147483648) 47 := zI.lt_l (zI_all v_353) zc_48 hc_463 (by decide)
          refine lv_iconst (v := 0) hx hb d_Text_parse_60 (by decide) ?_
          refine lv_istore (lv' := [(4, .int 0), (6, .int v_353), (5, .int y_324), (3, .int y_326), (0, .ref b0), (1, .ref b1), (2, .int b2)]) hx hb d_Text_parse_61 hl (by decide) rfl (fun ls hl => ?_)
          refine lv_iload hx hb d_Text_parse_63 (lv_at hl 1 rfl) ?_
          refine lv_bipush (v := 32) hx hb d_Text_parse_65 (by decide) ?_
          refine lv_icmp_ne (tgt := 73) hx hb d_Text_parse_67 (by decide) (fun hc_466 => ?_) (fun hc_466 => ?_)
          · have _nhc_466 := hc_466
            have ni_467 : ¬ (v_353 : Int32).toInt = (32 : Int32).toInt := fun z => hc_466 ((fa_eq _ _).mpr z)
            simp only [li_32] at ni_467
            refine lv_iload_n hx hb d_Text_parse_73 rfl (lv_at hl 3 rfl) ?_
            refine lv_if_ne (tgt := 87) hx hb d_Text_parse_74 (by decide) (fun hc_468 => ?_) (fun hc_468 => ?_)
            · have _nhc_468 := hc_468
              have ni_469 : ¬ (y_326 : Int32).toInt = (0 : Int32).toInt := fun z => hc_468 ((fa_eq _ _).mpr z)
              simp only [li_0] at ni_469
              have hv_470 : zI y_326 1 1 := zI.ne_lo hy_326 zc_0 hc_468 (by decide)
              refine lv_iconst (v := 1) hx hb d_Text_parse_87 (by decide) ?_
              refine lv_istore_n (lv' := [(3, .int 1), (4, .int 0), (6, .int v_353), (5, .int y_324), (0, .ref b0), (1, .ref b1), (2, .int b2)]) hx hb d_Text_parse_88 rfl hl (by decide) rfl (fun ls hl => ?_)
              refine lv_iload hx hb d_Text_parse_89 (lv_at hl 2 rfl) ?_
              refine lv_bipush (v := 59) hx hb d_Text_parse_91 (by decide) ?_
              refine lv_icmp_ne (tgt := 105) hx hb d_Text_parse_93 (by decide) (fun _ => ?_) (fun hc => zI.no_eq hv_465 zc_59 hc (by decide))
              refine lv_iload hx hb d_Text_parse_105 (lv_at hl 2 rfl) ?_
              refine lv_bipush (v := 97) hx hb d_Text_parse_107 (by decide) ?_
              refine lv_isub hx hb d_Text_parse_109 ?_
              refine lv_topi (fun v_471 ev_471 => ?_)
              have wv_471 := zs97 ev_471
              refine z_callSN (host := "TraceMachines") (index := 29) (As := [.int v_471]) (rest := []) (wr := [(b0, .inr (1, [.int b3, .ref b4])), (b4, .inl (G.2 2, 240, .inl b5)), (b1, .inr (2, [.int y_327, .int b7, .int b8, .ref b9, .ref b10, .ref b11])), (b9, .inl (G.2 0, 20, .inl y_330)), (b10, .inl (G.2 0, 240, .inl y_328)), (b11, .inl (G.2 0, 240, .inl y_329))]) Z (s2_X_isLetter l G (v_471)) hl.1 (by decide +kernel) q518 q1 q519 ⟨by decide, by decide, by show _ = some 1; decide +kernel⟩ ⟨Nat.le_of_ble_eq_true rfl, Nat.le_of_ble_eq_true rfl⟩ ⟨Nat.le_of_ble_eq_true rfl, Nat.le_of_ble_eq_true rfl⟩ rfl (Nat.le_of_ble_eq_true rfl) d_Text_parse_110 hP hD hS hA [] [0, 1, 2, 3, 4, 5] rfl rfl rfl rfl (by decide) (fun v w1 H locs hw_472 hP hD hS => ?_)
              rcases hw_472 with ⟨rfl, rfl, hq_473⟩ | ⟨rfl, rfl, hq_474, hq_475⟩ | ⟨rfl, rfl, hq_476, hq_477⟩
              · have hP : va_P G.1 classes [(b0, .inr (1, [.int b3, .ref b4])), (b4, .inl (G.2 2, 240, .inl b5)), (b1, .inr (2, [.int y_327, .int b7, .int b8, .ref b9, .ref b10, .ref b11])), (b9, .inl (G.2 0, 20, .inl y_330)), (b10, .inl (G.2 0, 240, .inl y_328)), (b11, .inl (G.2 0, 240, .inl y_329))] H := hP
                have hD := z_tie hP hD rfl
                have hv_478 : zI v_471 (-2147483648) (-1) := by have _a := hq_473; have _b := (zI_all v_471); have _c := zc_0; exact ⟨by omega, by omega⟩
                refine W.widen (k := 0) (n := 0) (Nat.le_of_ble_eq_true rfl) (Nat.le_of_ble_eq_true rfl) ?_
                refine lv_if_eq (tgt := 134) hx hb d_Text_parse_113 (by decide) (fun _ => ?_) (fun hc => absurd hc (by decide +kernel))
                refine lv_iload hx hb d_Text_parse_134 (lv_at hl 3 rfl) ?_
                exact z_iret hx hb hr hlocks hP hD hS (Nat.le_of_ble_eq_true rfl) (Nat.le_of_ble_eq_true rfl) d_Text_parse_136 ⟨y_324, y_327, y_330, y_328, y_329, rfl, rfl, (zI.wk (l' := (-1)) (h' := 240) hv_351 (by decide)), hy_327, hy_330, hy_328, (by have g9 := ((zo1_1 (by omega)) : zo1 y_326.toInt (zrow y_327 b7 b8 y_330 y_328 y_329) = (zrow y_327 b7 b8 y_330 y_328 y_329)); rw [zfin_f (zrun_w hli_332 rfl (ev_353.trans (by rw [z_plf hv_351 (by decide)])) (by omega) (by omega) (fun h9 => by (have h8 := h9.1); omega) (by omega) (fun h9 => absurd h9.1 (by omega))) (by omega)]; omega), (fun h9 => by exfalso; omega)⟩
              · have hP : va_P G.1 classes [(b0, .inr (1, [.int b3, .ref b4])), (b4, .inl (G.2 2, 240, .inl b5)), (b1, .inr (2, [.int y_327, .int b7, .int b8, .ref b9, .ref b10, .ref b11])), (b9, .inl (G.2 0, 20, .inl y_330)), (b10, .inl (G.2 0, 240, .inl y_328)), (b11, .inl (G.2 0, 240, .inl y_329))] H := hP
                have hD := z_tie hP hD rfl
                have hv_479 : zI v_471 0 2147483647 := by have _a := hq_474; have _b := (zI_all v_471); have _c := zc_0; exact ⟨by omega, by omega⟩
                have hv_480 : zI v_471 10 2147483647 := by have _a := hq_475; have _b := hv_479; have _c := zc_10; exact ⟨by omega, by omega⟩
                refine W.widen (k := 0) (n := 0) (Nat.le_of_ble_eq_true rfl) (Nat.le_of_ble_eq_true rfl) ?_
                refine lv_if_eq (tgt := 134) hx hb d_Text_parse_113 (by decide) (fun _ => ?_) (fun hc => absurd hc (by decide +kernel))
                refine lv_iload hx hb d_Text_parse_134 (lv_at hl 3 rfl) ?_
                exact z_iret hx hb hr hlocks hP hD hS (Nat.le_of_ble_eq_true rfl) (Nat.le_of_ble_eq_true rfl) d_Text_parse_136 ⟨y_324, y_327, y_330, y_328, y_329, rfl, rfl, (zI.wk (l' := (-1)) (h' := 240) hv_351 (by decide)), hy_327, hy_330, hy_328, (by have g9 := ((zo1_1 (by omega)) : zo1 y_326.toInt (zrow y_327 b7 b8 y_330 y_328 y_329) = (zrow y_327 b7 b8 y_330 y_328 y_329)); rw [zfin_f (zrun_w hli_332 rfl (ev_353.trans (by rw [z_plf hv_351 (by decide)])) (by omega) (by omega) (fun h9 => by (have h8 := h9.1); omega) (by omega) (fun h9 => absurd h9.1 (by omega))) (by omega)]; omega), (fun h9 => by exfalso; omega)⟩
              · have hP : va_P G.1 classes [(b0, .inr (1, [.int b3, .ref b4])), (b4, .inl (G.2 2, 240, .inl b5)), (b1, .inr (2, [.int y_327, .int b7, .int b8, .ref b9, .ref b10, .ref b11])), (b9, .inl (G.2 0, 20, .inl y_330)), (b10, .inl (G.2 0, 240, .inl y_328)), (b11, .inl (G.2 0, 240, .inl y_329))] H := hP
                have hD := z_tie hP hD rfl
                have hv_481 : zI v_471 0 2147483647 := by have _a := hq_476; have _b := (zI_all v_471); have _c := zc_0; exact ⟨by omega, by omega⟩
                have hv_482 : zI v_471 0 9 := by have _a := hq_477; have _b := hv_481; have _c := zc_10; exact ⟨by omega, by omega⟩
                refine W.widen (k := 0) (n := 0) (Nat.le_of_ble_eq_true rfl) (Nat.le_of_ble_eq_true rfl) ?_
                refine lv_if_eq (tgt := 134) hx hb d_Text_parse_113 (by decide) (fun hc => absurd hc (by decide +kernel)) (fun _ => ?_)
                refine lv_aload_n hx hb d_Text_parse_116 rfl (lv_at hl 5 rfl) ?_
                refine lv_iload hx hb d_Text_parse_117 (lv_at hl 2 rfl) ?_
                refine lv_bipush (v := 97) hx hb d_Text_parse_119 (by decide) ?_
                refine lv_isub hx hb d_Text_parse_121 ?_
                refine lv_topi (fun v_483 ev_483 => ?_)
                obtain rfl : v_471 = v_483 := ev_471.trans ev_483.symm
                refine z_callV (index := 33) (As := [.int v_471]) (rest := []) (wr := [(b0, .inr (1, [.int b3, .ref b4])), (b4, .inl (G.2 2, 240, .inl b5))]) Z (s2_Traces_add l G (b1) (v_471) (y_327) (b7) (b8) (b9) (b10) (b11) (y_330) (y_328) (y_329) hv_482 hy_327 hb7 hb8 hy_330 hy_328) hl.1 q520 q521 q522 q3 q523 ⟨by decide, by decide, by show _ = some 1; decide +kernel⟩ ⟨Nat.le_of_ble_eq_true rfl, Nat.le_of_ble_eq_true rfl⟩ ⟨Nat.le_of_ble_eq_true rfl, Nat.le_of_ble_eq_true rfl⟩ rfl (Nat.le_of_ble_eq_true rfl) d_Text_parse_122 hP hD hS hA 2 2 rfl rfl rfl [2, 3, 4, 5] [0, 1] rfl rfl rfl rfl (by decide) (fun v w1 H locs hw_484 hP hD hS => ?_)
                obtain ⟨x_485, f_486, f_487, f_488, rfl, rfl, hx_485, hf_486, hf_487, hfx_489⟩ := hw_484
                have hP : va_P G.1 classes [(b0, .inr (1, [.int b3, .ref b4])), (b4, .inl (G.2 2, 240, .inl b5)), (b1, .inr (2, [.int y_327, .int b7, .int b8, .ref b9, .ref b10, .ref b11])), (b9, .inl (G.2 0, 20, .inl f_486)), (b10, .inl (G.2 0, 240, .inl f_487)), (b11, .inl (G.2 0, 240, .inl f_488))] H := hP
                have hD := z_tie hP hD rfl
                refine W.widen (k := 0) (n := 0) (Nat.le_of_ble_eq_true rfl) (Nat.le_of_ble_eq_true rfl) ?_
                refine lv_if_eq (tgt := 134) hx hb d_Text_parse_125 (by decide) (fun hc_490 => ?_) (fun hc_490 => ?_)
                · have _nhc_490 := hc_490
                  have ni_491 := (fa_eq _ _).mp hc_490
                  rw [li_0] at ni_491
                  have hv_492 : zI x_485 0 0 := zI.eq_l hx_485 zc_0 hc_490
                  refine lv_iload hx hb d_Text_parse_134 (lv_at hl 3 rfl) ?_
                  exact z_iret hx hb hr hlocks hP hD hS (Nat.le_of_ble_eq_true rfl) (Nat.le_of_ble_eq_true rfl) d_Text_parse_136 ⟨y_324, y_327, f_486, f_487, f_488, rfl, rfl, (zI.wk (l' := (-1)) (h' := 240) hv_351 (by decide)), hy_327, hf_486, hf_487, (by have g9 := ((zo1_1 (by omega)) : zo1 y_326.toInt (zrow y_327 b7 b8 y_330 y_328 y_329) = (zrow y_327 b7 b8 y_330 y_328 y_329)); rw [zfin_f (zrun_w hli_332 rfl (ev_353.trans (by rw [z_plf hv_351 (by decide)])) (by omega) (by omega) (fun h9 => by (have h8 := h9.1); omega) (by omega) (fun h9 => by (have h8 := h9.2); rw [show zo1 _ _ = (zrow y_327 b7 b8 y_330 y_328 y_329) from g9] at h8; rcases hfx_489 with ⟨h7, _, _⟩ | ⟨_, h7, _⟩; exact h7 h8; omega)) (by omega)]; omega), (fun h9 => by exfalso; omega)⟩
                · have _nhc_490 := hc_490
                  have ni_493 : ¬ (x_485 : Int32).toInt = (0 : Int32).toInt := fun z => hc_490 ((fa_eq _ _).mpr z)
                  simp only [li_0] at ni_493
                  have hv_494 : zI x_485 1 1 := zI.ne_lo hx_485 zc_0 hc_490 (by decide)
                  refine lv_iconst (v := 2) hx hb d_Text_parse_128 (by decide) ?_
                  refine lv_istore (lv' := [(4, .int 2), (3, .int 1), (6, .int v_353), (5, .int y_324), (0, .ref b0), (1, .ref b1), (2, .int b2)]) hx hb d_Text_parse_129 hl (by decide) rfl (fun ls hl => ?_)
                  refine lv_goto (tgt := 137) hx hb d_Text_parse_131 (by decide) ?_
                  obtain ⟨v_495, ev_495⟩ : ∃ z : Int32, z = y_324 + 1 := ⟨_, rfl⟩
                  obtain ⟨qv_495, hv_495⟩ := zI_add (l := 1) (h := 240) hv_351 zc_1 ev_495 (by decide)
                  rw [li_1] at qv_495
                  refine lv_iinc (v := v_495) (lv' := [(5, .int v_495), (4, .int 2), (3, .int 1), (6, .int v_353), (0, .ref b0), (1, .ref b1), (2, .int b2)]) hx hb d_Text_parse_137 hl (k := 3) rfl (by rw [ev_495]; rfl) (by decide) rfl (fun ls hl => ?_)
                  refine lv_goto (tgt := 8) hx hb d_Text_parse_140 (by decide) ?_
                  exact ihk_323 (v_495) (2) (1) (y_327) (f_487) (f_488) (f_486) _ _ _ (zI.wk (l' := 0) (h' := 240) hv_495 (by decide)) (zI.wk (l' := 0) (h' := 2) zc_2 (by decide)) (zI.wk (l' := 0) (h' := 1) zc_1 (by decide)) hy_327 hf_487 hf_486 (by omega) (by have g9 := ((zo1_1 (by omega)) : zo1 y_326.toInt (zrow y_327 b7 b8 y_330 y_328 y_329) = (zrow y_327 b7 b8 y_330 y_328 y_329)); refine zrun_l hli_332 (by omega) (ev_353.trans (by rw [z_plf hv_351 (by decide)])) ⟨by omega, by omega⟩ (fun h9 => by (have h8 := h9.1); omega) ?_ li_1 li_2 ?_; (rw [show zo1 _ _ = (zrow y_327 b7 b8 y_330 y_328 y_329) from g9]; rcases hfx_489 with ⟨_, h8, _⟩ | ⟨h9, _, _⟩; (exfalso; omega); exact h9); (rw [show zo1 _ _ = (zrow y_327 b7 b8 y_330 y_328 y_329) from g9, ← ev_471]; rcases hfx_489 with ⟨_, h8, _⟩ | ⟨_, _, h9⟩; (exfalso; omega); exact h9)) (zm_up qv_495 hmk_323 (by decide)) hP hD hS (lv_sub hl [0, 1, 2, 4, 5, 6] rfl)
            · have _nhc_468 := hc_468
              have ni_496 := (fa_eq _ _).mp hc_468
              rw [li_0] at ni_496
              have hv_497 : zI y_326 0 0 := zI.eq_l hy_326 zc_0 hc_468
              refine lv_aload_n hx hb d_Text_parse_77 rfl (lv_at hl 5 rfl) ?_
              refine z_callV (index := 25) (As := []) (rest := []) (wr := [(b0, .inr (1, [.int b3, .ref b4])), (b4, .inl (G.2 2, 240, .inl b5))]) Z (s2_Traces_open l G (b1) (y_327) (b7) (b8) (b9) (b10) (b11) (y_330) (y_328) (y_329) hy_327 hb7 hb8 hy_330 hy_328) hl.1 q513 q514 q515 q3 q516 ⟨by decide, by decide, by show _ = some 0; decide +kernel⟩ ⟨Nat.le_of_ble_eq_true rfl, Nat.le_of_ble_eq_true rfl⟩ ⟨Nat.le_of_ble_eq_true rfl, Nat.le_of_ble_eq_true rfl⟩ rfl (Nat.le_of_ble_eq_true rfl) d_Text_parse_78 hP hD hS hA 2 2 rfl rfl rfl [2, 3, 4, 5] [0, 1] rfl rfl rfl rfl (by decide) (fun v w1 H locs hw_498 hP hD hS => ?_)
              obtain ⟨x_499, x_500, f_501, rfl, rfl, hx_499, hx_500, hf_501, hfx_502⟩ := hw_498
              have hP : va_P G.1 classes [(b0, .inr (1, [.int b3, .ref b4])), (b4, .inl (G.2 2, 240, .inl b5)), (b1, .inr (2, [.int x_500, .int b7, .int b8, .ref b9, .ref b10, .ref b11])), (b9, .inl (G.2 0, 20, .inl f_501)), (b10, .inl (G.2 0, 240, .inl y_328)), (b11, .inl (G.2 0, 240, .inl y_329))] H := hP
              have hD := z_tie hP hD rfl
              refine W.widen (k := 0) (n := 0) (Nat.le_of_ble_eq_true rfl) (Nat.le_of_ble_eq_true rfl) ?_
              refine lv_if_ne (tgt := 87) hx hb d_Text_parse_81 (by decide) (fun hc_503 => ?_) (fun hc_503 => ?_)
              · have _nhc_503 := hc_503
                have ni_504 : ¬ (x_499 : Int32).toInt = (0 : Int32).toInt := fun z => hc_503 ((fa_eq _ _).mpr z)
                simp only [li_0] at ni_504
                have hv_505 : zI x_499 1 1 := zI.ne_lo hx_499 zc_0 hc_503 (by decide)
                refine lv_iconst (v := 1) hx hb d_Text_parse_87 (by decide) ?_
                refine lv_istore_n (lv' := [(3, .int 1), (4, .int 0), (6, .int v_353), (5, .int y_324), (0, .ref b0), (1, .ref b1), (2, .int b2)]) hx hb d_Text_parse_88 rfl hl (by decide) rfl (fun ls hl => ?_)
                refine lv_iload hx hb d_Text_parse_89 (lv_at hl 2 rfl) ?_
                refine lv_bipush (v := 59) hx hb d_Text_parse_91 (by decide) ?_
                refine lv_icmp_ne (tgt := 105) hx hb d_Text_parse_93 (by decide) (fun _ => ?_) (fun hc => zI.no_eq hv_465 zc_59 hc (by decide))
                refine lv_iload hx hb d_Text_parse_105 (lv_at hl 2 rfl) ?_
                refine lv_bipush (v := 97) hx hb d_Text_parse_107 (by decide) ?_
                refine lv_isub hx hb d_Text_parse_109 ?_
                refine lv_topi (fun v_506 ev_506 => ?_)
                have wv_506 := zs97 ev_506
                refine z_callSN (host := "TraceMachines") (index := 29) (As := [.int v_506]) (rest := []) (wr := [(b0, .inr (1, [.int b3, .ref b4])), (b4, .inl (G.2 2, 240, .inl b5)), (b1, .inr (2, [.int x_500, .int b7, .int b8, .ref b9, .ref b10, .ref b11])), (b9, .inl (G.2 0, 20, .inl f_501)), (b10, .inl (G.2 0, 240, .inl y_328)), (b11, .inl (G.2 0, 240, .inl y_329))]) Z (s2_X_isLetter l G (v_506)) hl.1 (by decide +kernel) q518 q1 q519 ⟨by decide, by decide, by show _ = some 1; decide +kernel⟩ ⟨Nat.le_of_ble_eq_true rfl, Nat.le_of_ble_eq_true rfl⟩ ⟨Nat.le_of_ble_eq_true rfl, Nat.le_of_ble_eq_true rfl⟩ rfl (Nat.le_of_ble_eq_true rfl) d_Text_parse_110 hP hD hS hA [] [0, 1, 2, 3, 4, 5] rfl rfl rfl rfl (by decide) (fun v w1 H locs hw_507 hP hD hS => ?_)
                rcases hw_507 with ⟨rfl, rfl, hq_508⟩ | ⟨rfl, rfl, hq_509, hq_510⟩ | ⟨rfl, rfl, hq_511, hq_512⟩
                · have hP : va_P G.1 classes [(b0, .inr (1, [.int b3, .ref b4])), (b4, .inl (G.2 2, 240, .inl b5)), (b1, .inr (2, [.int x_500, .int b7, .int b8, .ref b9, .ref b10, .ref b11])), (b9, .inl (G.2 0, 20, .inl f_501)), (b10, .inl (G.2 0, 240, .inl y_328)), (b11, .inl (G.2 0, 240, .inl y_329))] H := hP
                  have hD := z_tie hP hD rfl
                  have hv_513 : zI v_506 (-2147483648) (-1) := by have _a := hq_508; have _b := (zI_all v_506); have _c := zc_0; exact ⟨by omega, by omega⟩
                  refine W.widen (k := 0) (n := 0) (Nat.le_of_ble_eq_true rfl) (Nat.le_of_ble_eq_true rfl) ?_
                  refine lv_if_eq (tgt := 134) hx hb d_Text_parse_113 (by decide) (fun _ => ?_) (fun hc => absurd hc (by decide +kernel))
                  refine lv_iload hx hb d_Text_parse_134 (lv_at hl 3 rfl) ?_
                  exact z_iret hx hb hr hlocks hP hD hS (Nat.le_of_ble_eq_true rfl) (Nat.le_of_ble_eq_true rfl) d_Text_parse_136 ⟨y_324, x_500, f_501, y_328, y_329, rfl, rfl, (zI.wk (l' := (-1)) (h' := 240) hv_351 (by decide)), hx_500, hf_501, hy_328, (by have g9 := ((by rcases hfx_502 with ⟨h9, h8, _⟩ | ⟨_, _, h9⟩; (exfalso; omega); rw [zo1_0 (by omega)]; exact h9.symm) : zo1 y_326.toInt (zrow y_327 b7 b8 y_330 y_328 y_329) = (zrow x_500 b7 b8 f_501 y_328 y_329)); rw [zfin_f (zrun_w hli_332 rfl (ev_353.trans (by rw [z_plf hv_351 (by decide)])) (by omega) (by omega) (fun h9 => by (have h8 : y_327.toInt = 20 := h9.2); rcases hfx_502 with ⟨h7, h6, _⟩ | ⟨h7, _, _⟩ <;> omega) (by omega) (fun h9 => absurd h9.1 (by omega))) (by omega)]; omega), (fun h9 => by exfalso; omega)⟩
                · have hP : va_P G.1 classes [(b0, .inr (1, [.int b3, .ref b4])), (b4, .inl (G.2 2, 240, .inl b5)), (b1, .inr (2, [.int x_500, .int b7, .int b8, .ref b9, .ref b10, .ref b11])), (b9, .inl (G.2 0, 20, .inl f_501)), (b10, .inl (G.2 0, 240, .inl y_328)), (b11, .inl (G.2 0, 240, .inl y_329))] H := hP
                  have hD := z_tie hP hD rfl
                  have hv_514 : zI v_506 0 2147483647 := by have _a := hq_509; have _b := (zI_all v_506); have _c := zc_0; exact ⟨by omega, by omega⟩
                  have hv_515 : zI v_506 10 2147483647 := by have _a := hq_510; have _b := hv_514; have _c := zc_10; exact ⟨by omega, by omega⟩
                  refine W.widen (k := 0) (n := 0) (Nat.le_of_ble_eq_true rfl) (Nat.le_of_ble_eq_true rfl) ?_
                  refine lv_if_eq (tgt := 134) hx hb d_Text_parse_113 (by decide) (fun _ => ?_) (fun hc => absurd hc (by decide +kernel))
                  refine lv_iload hx hb d_Text_parse_134 (lv_at hl 3 rfl) ?_
                  exact z_iret hx hb hr hlocks hP hD hS (Nat.le_of_ble_eq_true rfl) (Nat.le_of_ble_eq_true rfl) d_Text_parse_136 ⟨y_324, x_500, f_501, y_328, y_329, rfl, rfl, (zI.wk (l' := (-1)) (h' := 240) hv_351 (by decide)), hx_500, hf_501, hy_328, (by have g9 := ((by rcases hfx_502 with ⟨h9, h8, _⟩ | ⟨_, _, h9⟩; (exfalso; omega); rw [zo1_0 (by omega)]; exact h9.symm) : zo1 y_326.toInt (zrow y_327 b7 b8 y_330 y_328 y_329) = (zrow x_500 b7 b8 f_501 y_328 y_329)); rw [zfin_f (zrun_w hli_332 rfl (ev_353.trans (by rw [z_plf hv_351 (by decide)])) (by omega) (by omega) (fun h9 => by (have h8 : y_327.toInt = 20 := h9.2); rcases hfx_502 with ⟨h7, h6, _⟩ | ⟨h7, _, _⟩ <;> omega) (by omega) (fun h9 => absurd h9.1 (by omega))) (by omega)]; omega), (fun h9 => by exfalso; omega)⟩
                · have hP : va_P G.1 classes [(b0, .inr (1, [.int b3, .ref b4])), (b4, .inl (G.2 2, 240, .inl b5)), (b1, .inr (2, [.int x_500, .int b7, .int b8, .ref b9, .ref b10, .ref b11])), (b9, .inl (G.2 0, 20, .inl f_501)), (b10, .inl (G.2 0, 240, .inl y_328)), (b11, .inl (G.2 0, 240, .inl y_329))] H := hP
                  have hD := z_tie hP hD rfl
                  have hv_516 : zI v_506 0 2147483647 := by have _a := hq_511; have _b := (zI_all v_506); have _c := zc_0; exact ⟨by omega, by omega⟩
                  have hv_517 : zI v_506 0 9 := by have _a := hq_512; have _b := hv_516; have _c := zc_10; exact ⟨by omega, by omega⟩
                  refine W.widen (k := 0) (n := 0) (Nat.le_of_ble_eq_true rfl) (Nat.le_of_ble_eq_true rfl) ?_
                  refine lv_if_eq (tgt := 134) hx hb d_Text_parse_113 (by decide) (fun hc => absurd hc (by decide +kernel)) (fun _ => ?_)
                  refine lv_aload_n hx hb d_Text_parse_116 rfl (lv_at hl 5 rfl) ?_
                  refine lv_iload hx hb d_Text_parse_117 (lv_at hl 2 rfl) ?_
                  refine lv_bipush (v := 97) hx hb d_Text_parse_119 (by decide) ?_
                  refine lv_isub hx hb d_Text_parse_121 ?_
                  refine lv_topi (fun v_518 ev_518 => ?_)
                  obtain rfl : v_506 = v_518 := ev_506.trans ev_518.symm
                  refine z_callV (index := 33) (As := [.int v_506]) (rest := []) (wr := [(b0, .inr (1, [.int b3, .ref b4])), (b4, .inl (G.2 2, 240, .inl b5))]) Z (s2_Traces_add l G (b1) (v_506) (x_500) (b7) (b8) (b9) (b10) (b11) (f_501) (y_328) (y_329) hv_517 hx_500 hb7 hb8 hf_501 hy_328) hl.1 q520 q521 q522 q3 q523 ⟨by decide, by decide, by show _ = some 1; decide +kernel⟩ ⟨Nat.le_of_ble_eq_true rfl, Nat.le_of_ble_eq_true rfl⟩ ⟨Nat.le_of_ble_eq_true rfl, Nat.le_of_ble_eq_true rfl⟩ rfl (Nat.le_of_ble_eq_true rfl) d_Text_parse_122 hP hD hS hA 2 2 rfl rfl rfl [2, 3, 4, 5] [0, 1] rfl rfl rfl rfl (by decide) (fun v w1 H locs hw_519 hP hD hS => ?_)
                  obtain ⟨x_520, f_521, f_522, f_523, rfl, rfl, hx_520, hf_521, hf_522, hfx_524⟩ := hw_519
                  have hP : va_P G.1 classes [(b0, .inr (1, [.int b3, .ref b4])), (b4, .inl (G.2 2, 240, .inl b5)), (b1, .inr (2, [.int x_500, .int b7, .int b8, .ref b9, .ref b10, .ref b11])), (b9, .inl (G.2 0, 20, .inl f_521)), (b10, .inl (G.2 0, 240, .inl f_522)), (b11, .inl (G.2 0, 240, .inl f_523))] H := hP
                  have hD := z_tie hP hD rfl
                  refine W.widen (k := 0) (n := 0) (Nat.le_of_ble_eq_true rfl) (Nat.le_of_ble_eq_true rfl) ?_
                  refine lv_if_eq (tgt := 134) hx hb d_Text_parse_125 (by decide) (fun hc_525 => ?_) (fun hc_525 => ?_)
                  · have _nhc_525 := hc_525
                    have ni_526 := (fa_eq _ _).mp hc_525
                    rw [li_0] at ni_526
                    have hv_527 : zI x_520 0 0 := zI.eq_l hx_520 zc_0 hc_525
                    refine lv_iload hx hb d_Text_parse_134 (lv_at hl 3 rfl) ?_
                    exact z_iret hx hb hr hlocks hP hD hS (Nat.le_of_ble_eq_true rfl) (Nat.le_of_ble_eq_true rfl) d_Text_parse_136 ⟨y_324, x_500, f_521, f_522, f_523, rfl, rfl, (zI.wk (l' := (-1)) (h' := 240) hv_351 (by decide)), hx_500, hf_521, hf_522, (by have g9 := ((by rcases hfx_502 with ⟨h9, h8, _⟩ | ⟨_, _, h9⟩; (exfalso; omega); rw [zo1_0 (by omega)]; exact h9.symm) : zo1 y_326.toInt (zrow y_327 b7 b8 y_330 y_328 y_329) = (zrow x_500 b7 b8 f_501 y_328 y_329)); rw [zfin_f (zrun_w hli_332 rfl (ev_353.trans (by rw [z_plf hv_351 (by decide)])) (by omega) (by omega) (fun h9 => by (have h8 : y_327.toInt = 20 := h9.2); rcases hfx_502 with ⟨h7, h6, _⟩ | ⟨h7, _, _⟩ <;> omega) (by omega) (fun h9 => by (have h8 := h9.2); rw [show zo1 _ _ = (zrow x_500 b7 b8 f_501 y_328 y_329) from g9] at h8; rcases hfx_524 with ⟨h7, _, _⟩ | ⟨_, h7, _⟩; exact h7 h8; omega)) (by omega)]; omega), (fun h9 => by exfalso; omega)⟩
                  · have _nhc_525 := hc_525
                    have ni_528 : ¬ (x_520 : Int32).toInt = (0 : Int32).toInt := fun z => hc_525 ((fa_eq _ _).mpr z)
                    simp only [li_0] at ni_528
                    have hv_529 : zI x_520 1 1 := zI.ne_lo hx_520 zc_0 hc_525 (by decide)
                    refine lv_iconst (v := 2) hx hb d_Text_parse_128 (by decide) ?_
                    refine lv_istore (lv' := [(4, .int 2), (3, .int 1), (6, .int v_353), (5, .int y_324), (0, .ref b0), (1, .ref b1), (2, .int b2)]) hx hb d_Text_parse_129 hl (by decide) rfl (fun ls hl => ?_)
                    refine lv_goto (tgt := 137) hx hb d_Text_parse_131 (by decide) ?_
                    obtain ⟨v_530, ev_530⟩ : ∃ z : Int32, z = y_324 + 1 := ⟨_, rfl⟩
                    obtain ⟨qv_530, hv_530⟩ := zI_add (l := 1) (h := 240) hv_351 zc_1 ev_530 (by decide)
                    rw [li_1] at qv_530
                    refine lv_iinc (v := v_530) (lv' := [(5, .int v_530), (4, .int 2), (3, .int 1), (6, .int v_353), (0, .ref b0), (1, .ref b1), (2, .int b2)]) hx hb d_Text_parse_137 hl (k := 3) rfl (by rw [ev_530]; rfl) (by decide) rfl (fun ls hl => ?_)
                    refine lv_goto (tgt := 8) hx hb d_Text_parse_140 (by decide) ?_
                    exact ihk_323 (v_530) (2) (1) (x_500) (f_522) (f_523) (f_521) _ _ _ (zI.wk (l' := 0) (h' := 240) hv_530 (by decide)) (zI.wk (l' := 0) (h' := 2) zc_2 (by decide)) (zI.wk (l' := 0) (h' := 1) zc_1 (by decide)) hx_500 hf_522 hf_521 (by omega) (by have g9 := ((by rcases hfx_502 with ⟨h9, h8, _⟩ | ⟨_, _, h9⟩; (exfalso; omega); rw [zo1_0 (by omega)]; exact h9.symm) : zo1 y_326.toInt (zrow y_327 b7 b8 y_330 y_328 y_329) = (zrow x_500 b7 b8 f_501 y_328 y_329)); refine zrun_l hli_332 (by omega) (ev_353.trans (by rw [z_plf hv_351 (by decide)])) ⟨by omega, by omega⟩ (fun h9 => by (have h8 : y_327.toInt = 20 := h9.2); rcases hfx_502 with ⟨h7, h6, _⟩ | ⟨h7, _, _⟩ <;> omega) ?_ li_1 li_2 ?_; (rw [show zo1 _ _ = (zrow x_500 b7 b8 f_501 y_328 y_329) from g9]; rcases hfx_524 with ⟨_, h8, _⟩ | ⟨h9, _, _⟩; (exfalso; omega); exact h9); (rw [show zo1 _ _ = (zrow x_500 b7 b8 f_501 y_328 y_329) from g9, ← ev_506]; rcases hfx_524 with ⟨_, h8, _⟩ | ⟨_, _, h9⟩; (exfalso; omega); exact h9)) (zm_up qv_530 hmk_323 (by decide)) hP hD hS (lv_sub hl [0, 1, 2, 4, 5, 6] rfl)
              · have _nhc_503 := hc_503
                have ni_531 := (fa_eq _ _).mp hc_503
                rw [li_0] at ni_531
                have hv_532 : zI x_499 0 0 := zI.eq_l hx_499 zc_0 hc_503
                refine lv_iload hx hb d_Text_parse_84 (lv_at hl 2 rfl) ?_
                exact z_iret hx hb hr hlocks hP hD hS (Nat.le_of_ble_eq_true rfl) (Nat.le_of_ble_eq_true rfl) d_Text_parse_86 ⟨y_324, x_500, f_501, y_328, y_329, rfl, rfl, (zI.wk (l' := (-1)) (h' := 240) hv_351 (by decide)), hx_500, hf_501, hy_328, (by rw [zfin_f (zrun_x hli_332 rfl (ev_353.trans (by rw [z_plf hv_351 (by decide)])) (by omega) (by omega) ⟨by omega, (show y_327.toInt = 20 by rcases hfx_502 with ⟨h9, _, _⟩ | ⟨_, h9, _⟩ <;> omega)⟩) (by omega)]; omega), (fun h9 => by exfalso; omega)⟩
          · have _nhc_466 := hc_466
            have ni_533 := (fa_eq _ _).mp hc_466
            rw [li_32] at ni_533
            have hv_534 : zI v_353 32 32 := zI.eq_l hv_465 zc_32 hc_466
            refine lv_goto (tgt := 137) hx hb d_Text_parse_70 (by decide) ?_
            obtain ⟨v_535, ev_535⟩ : ∃ z : Int32, z = y_324 + 1 := ⟨_, rfl⟩
            obtain ⟨qv_535, hv_535⟩ := zI_add (l := 1) (h := 240) hv_351 zc_1 ev_535 (by decide)
            rw [li_1] at qv_535
            refine lv_iinc (v := v_535) (lv' := [(5, .int v_535), (4, .int 0), (6, .int v_353), (3, .int y_326), (0, .ref b0), (1, .ref b1), (2, .int b2)]) hx hb d_Text_parse_137 hl (k := 2) rfl (by rw [ev_535]; rfl) (by decide) rfl (fun ls hl => ?_)
            refine lv_goto (tgt := 8) hx hb d_Text_parse_140 (by decide) ?_
            exact ihk_323 (v_535) (0) (y_326) (y_327) (y_328) (y_329) (y_330) _ _ _ (zI.wk (l' := 0) (h' := 240) hv_535 (by decide)) (zI.wk (l' := 0) (h' := 2) zc_0 (by decide)) hy_326 hy_327 hy_328 hy_330 (by omega) (zrun_b hli_332 (by omega) (ev_353.trans (by rw [z_plf hv_351 (by decide)])) (by omega) (by omega) li_0) (zm_up qv_535 hmk_323 (by decide)) hP hD hS (lv_sub hl [0, 1, 3, 4, 5, 6] rfl)
        · have _nhc_463 := hc_463
          have ni_536 := (fa_le _ _).mp (zi_nlt hc_463)
          rw [li_48] at ni_536
          have hv_537 : zI v_353 48 2147483647 := zI.le_r zc_48 (zI_all v_353) (zi_nlt hc_463) (by decide)
          refine lv_iload hx hb d_Text_parse_38 (lv_at hl 0 rfl) ?_
          refine lv_bipush (v := 57) hx hb d_Text_parse_40 (by decide) ?_
          refine lv_icmp_gt (tgt := 60) hx hb d_Text_parse_42 (by decide) (fun hc_538 => ?_) (fun hc_538 => ?_)
          · have _nhc_538 := hc_538
            have ni_539 := (fa_lt _ _).mp hc_538
            rw [li_57] at ni_539
            have hv_540 : zI v_353 58 2147483647 := zI.lt_r zc_57 hv_537 hc_538 (by decide)
            refine lv_iconst (v := 0) hx hb d_Text_parse_60 (by decide) ?_
            refine lv_istore (lv' := [(4, .int 0), (6, .int v_353), (5, .int y_324), (3, .int y_326), (0, .ref b0), (1, .ref b1), (2, .int b2)]) hx hb d_Text_parse_61 hl (by decide) rfl (fun ls hl => ?_)
            refine lv_iload hx hb d_Text_parse_63 (lv_at hl 1 rfl) ?_
            refine lv_bipush (v := 32) hx hb d_Text_parse_65 (by decide) ?_
            refine lv_icmp_ne (tgt := 73) hx hb d_Text_parse_67 (by decide) (fun _ => ?_) (fun hc => zI.no_eq hv_540 zc_32 hc (by decide))
            refine lv_iload_n hx hb d_Text_parse_73 rfl (lv_at hl 3 rfl) ?_
            refine lv_if_ne (tgt := 87) hx hb d_Text_parse_74 (by decide) (fun hc_541 => ?_) (fun hc_541 => ?_)
            · have _nhc_541 := hc_541
              have ni_542 : ¬ (y_326 : Int32).toInt = (0 : Int32).toInt := fun z => hc_541 ((fa_eq _ _).mpr z)
              simp only [li_0] at ni_542
              have hv_543 : zI y_326 1 1 := zI.ne_lo hy_326 zc_0 hc_541 (by decide)
              refine lv_iconst (v := 1) hx hb d_Text_parse_87 (by decide) ?_
              refine lv_istore_n (lv' := [(3, .int 1), (4, .int 0), (6, .int v_353), (5, .int y_324), (0, .ref b0), (1, .ref b1), (2, .int b2)]) hx hb d_Text_parse_88 rfl hl (by decide) rfl (fun ls hl => ?_)
              refine lv_iload hx hb d_Text_parse_89 (lv_at hl 2 rfl) ?_
              refine lv_bipush (v := 59) hx hb d_Text_parse_91 (by decide) ?_
              refine lv_icmp_ne (tgt := 105) hx hb d_Text_parse_93 (by decide) (fun hc_544 => ?_) (fun hc_544 => ?_)
              · have _nhc_544 := hc_544
                have ni_545 : ¬ (v_353 : Int32).toInt = (59 : Int32).toInt := fun z => hc_544 ((fa_eq _ _).mpr z)
                simp only [li_59] at ni_545
                refine lv_iload hx hb d_Text_parse_105 (lv_at hl 2 rfl) ?_
                refine lv_bipush (v := 97) hx hb d_Text_parse_107 (by decide) ?_
                refine lv_isub hx hb d_Text_parse_109 ?_
                refine lv_topi (fun v_546 ev_546 => ?_)
                obtain ⟨qv_546, hv_546⟩ := zI_sub (l := -39) (h := 2147483550) hv_540 zc_97 ev_546 (by decide)
                rw [li_97] at qv_546
                have wv_546 := zs97 ev_546
                refine z_callSN (host := "TraceMachines") (index := 29) (As := [.int v_546]) (rest := []) (wr := [(b0, .inr (1, [.int b3, .ref b4])), (b4, .inl (G.2 2, 240, .inl b5)), (b1, .inr (2, [.int y_327, .int b7, .int b8, .ref b9, .ref b10, .ref b11])), (b9, .inl (G.2 0, 20, .inl y_330)), (b10, .inl (G.2 0, 240, .inl y_328)), (b11, .inl (G.2 0, 240, .inl y_329))]) Z (s2_X_isLetter l G (v_546)) hl.1 (by decide +kernel) q518 q1 q519 ⟨by decide, by decide, by show _ = some 1; decide +kernel⟩ ⟨Nat.le_of_ble_eq_true rfl, Nat.le_of_ble_eq_true rfl⟩ ⟨Nat.le_of_ble_eq_true rfl, Nat.le_of_ble_eq_true rfl⟩ rfl (Nat.le_of_ble_eq_true rfl) d_Text_parse_110 hP hD hS hA [] [0, 1, 2, 3, 4, 5] rfl rfl rfl rfl (by decide) (fun v w1 H locs hw_547 hP hD hS => ?_)
                rcases hw_547 with ⟨rfl, rfl, hq_548⟩ | ⟨rfl, rfl, hq_549, hq_550⟩ | ⟨rfl, rfl, hq_551, hq_552⟩
                · have hP : va_P G.1 classes [(b0, .inr (1, [.int b3, .ref b4])), (b4, .inl (G.2 2, 240, .inl b5)), (b1, .inr (2, [.int y_327, .int b7, .int b8, .ref b9, .ref b10, .ref b11])), (b9, .inl (G.2 0, 20, .inl y_330)), (b10, .inl (G.2 0, 240, .inl y_328)), (b11, .inl (G.2 0, 240, .inl y_329))] H := hP
                  have hD := z_tie hP hD rfl
                  have hv_553 : zI v_546 (-39) (-1) := by have _a := hq_548; have _b := hv_546; have _c := zc_0; exact ⟨by omega, by omega⟩
                  refine W.widen (k := 0) (n := 0) (Nat.le_of_ble_eq_true rfl) (Nat.le_of_ble_eq_true rfl) ?_
                  refine lv_if_eq (tgt := 134) hx hb d_Text_parse_113 (by decide) (fun _ => ?_) (fun hc => absurd hc (by decide +kernel))
                  refine lv_iload hx hb d_Text_parse_134 (lv_at hl 3 rfl) ?_
                  exact z_iret hx hb hr hlocks hP hD hS (Nat.le_of_ble_eq_true rfl) (Nat.le_of_ble_eq_true rfl) d_Text_parse_136 ⟨y_324, y_327, y_330, y_328, y_329, rfl, rfl, (zI.wk (l' := (-1)) (h' := 240) hv_351 (by decide)), hy_327, hy_330, hy_328, (by have g9 := ((zo1_1 (by omega)) : zo1 y_326.toInt (zrow y_327 b7 b8 y_330 y_328 y_329) = (zrow y_327 b7 b8 y_330 y_328 y_329)); rw [zfin_f (zrun_w hli_332 rfl (ev_353.trans (by rw [z_plf hv_351 (by decide)])) (by omega) (by omega) (fun h9 => by (have h8 := h9.1); omega) (by omega) (fun h9 => absurd h9.1 (by omega))) (by omega)]; omega), (fun h9 => by exfalso; omega)⟩
                · have hP : va_P G.1 classes [(b0, .inr (1, [.int b3, .ref b4])), (b4, .inl (G.2 2, 240, .inl b5)), (b1, .inr (2, [.int y_327, .int b7, .int b8, .ref b9, .ref b10, .ref b11])), (b9, .inl (G.2 0, 20, .inl y_330)), (b10, .inl (G.2 0, 240, .inl y_328)), (b11, .inl (G.2 0, 240, .inl y_329))] H := hP
                  have hD := z_tie hP hD rfl
                  have hv_554 : zI v_546 0 2147483550 := by have _a := hq_549; have _b := hv_546; have _c := zc_0; exact ⟨by omega, by omega⟩
                  have hv_555 : zI v_546 10 2147483550 := by have _a := hq_550; have _b := hv_554; have _c := zc_10; exact ⟨by omega, by omega⟩
                  refine W.widen (k := 0) (n := 0) (Nat.le_of_ble_eq_true rfl) (Nat.le_of_ble_eq_true rfl) ?_
                  refine lv_if_eq (tgt := 134) hx hb d_Text_parse_113 (by decide) (fun _ => ?_) (fun hc => absurd hc (by decide +kernel))
                  refine lv_iload hx hb d_Text_parse_134 (lv_at hl 3 rfl) ?_
                  exact z_iret hx hb hr hlocks hP hD hS (Nat.le_of_ble_eq_true rfl) (Nat.le_of_ble_eq_true rfl) d_Text_parse_136 ⟨y_324, y_327, y_330, y_328, y_329, rfl, rfl, (zI.wk (l' := (-1)) (h' := 240) hv_351 (by decide)), hy_327, hy_330, hy_328, (by have g9 := ((zo1_1 (by omega)) : zo1 y_326.toInt (zrow y_327 b7 b8 y_330 y_328 y_329) = (zrow y_327 b7 b8 y_330 y_328 y_329)); rw [zfin_f (zrun_w hli_332 rfl (ev_353.trans (by rw [z_plf hv_351 (by decide)])) (by omega) (by omega) (fun h9 => by (have h8 := h9.1); omega) (by omega) (fun h9 => absurd h9.1 (by omega))) (by omega)]; omega), (fun h9 => by exfalso; omega)⟩
                · have hP : va_P G.1 classes [(b0, .inr (1, [.int b3, .ref b4])), (b4, .inl (G.2 2, 240, .inl b5)), (b1, .inr (2, [.int y_327, .int b7, .int b8, .ref b9, .ref b10, .ref b11])), (b9, .inl (G.2 0, 20, .inl y_330)), (b10, .inl (G.2 0, 240, .inl y_328)), (b11, .inl (G.2 0, 240, .inl y_329))] H := hP
                  have hD := z_tie hP hD rfl
                  have hv_556 : zI v_546 0 2147483550 := by have _a := hq_551; have _b := hv_546; have _c := zc_0; exact ⟨by omega, by omega⟩
                  have hv_557 : zI v_546 0 9 := by have _a := hq_552; have _b := hv_556; have _c := zc_10; exact ⟨by omega, by omega⟩
                  refine W.widen (k := 0) (n := 0) (Nat.le_of_ble_eq_true rfl) (Nat.le_of_ble_eq_true rfl) ?_
                  refine lv_if_eq (tgt := 134) hx hb d_Text_parse_113 (by decide) (fun hc => absurd hc (by decide +kernel)) (fun _ => ?_)
                  refine lv_aload_n hx hb d_Text_parse_116 rfl (lv_at hl 5 rfl) ?_
                  refine lv_iload hx hb d_Text_parse_117 (lv_at hl 2 rfl) ?_
                  refine lv_bipush (v := 97) hx hb d_Text_parse_119 (by decide) ?_
                  refine lv_isub hx hb d_Text_parse_121 ?_
                  refine lv_topi (fun v_558 ev_558 => ?_)
                  obtain rfl : v_546 = v_558 := ev_546.trans ev_558.symm
                  refine z_callV (index := 33) (As := [.int v_546]) (rest := []) (wr := [(b0, .inr (1, [.int b3, .ref b4])), (b4, .inl (G.2 2, 240, .inl b5))]) Z (s2_Traces_add l G (b1) (v_546) (y_327) (b7) (b8) (b9) (b10) (b11) (y_330) (y_328) (y_329) hv_557 hy_327 hb7 hb8 hy_330 hy_328) hl.1 q520 q521 q522 q3 q523 ⟨by decide, by decide, by show _ = some 1; decide +kernel⟩ ⟨Nat.le_of_ble_eq_true rfl, Nat.le_of_ble_eq_true rfl⟩ ⟨Nat.le_of_ble_eq_true rfl, Nat.le_of_ble_eq_true rfl⟩ rfl (Nat.le_of_ble_eq_true rfl) d_Text_parse_122 hP hD hS hA 2 2 rfl rfl rfl [2, 3, 4, 5] [0, 1] rfl rfl rfl rfl (by decide) (fun v w1 H locs hw_559 hP hD hS => ?_)
                  obtain ⟨x_560, f_561, f_562, f_563, rfl, rfl, hx_560, hf_561, hf_562, hfx_564⟩ := hw_559
                  have hP : va_P G.1 classes [(b0, .inr (1, [.int b3, .ref b4])), (b4, .inl (G.2 2, 240, .inl b5)), (b1, .inr (2, [.int y_327, .int b7, .int b8, .ref b9, .ref b10, .ref b11])), (b9, .inl (G.2 0, 20, .inl f_561)), (b10, .inl (G.2 0, 240, .inl f_562)), (b11, .inl (G.2 0, 240, .inl f_563))] H := hP
                  have hD := z_tie hP hD rfl
                  refine W.widen (k := 0) (n := 0) (Nat.le_of_ble_eq_true rfl) (Nat.le_of_ble_eq_true rfl) ?_
                  refine lv_if_eq (tgt := 134) hx hb d_Text_parse_125 (by decide) (fun hc_565 => ?_) (fun hc_565 => ?_)
                  · have _nhc_565 := hc_565
                    have ni_566 := (fa_eq _ _).mp hc_565
                    rw [li_0] at ni_566
                    have hv_567 : zI x_560 0 0 := zI.eq_l hx_560 zc_0 hc_565
                    refine lv_iload hx hb d_Text_parse_134 (lv_at hl 3 rfl) ?_
                    exact z_iret hx hb hr hlocks hP hD hS (Nat.le_of_ble_eq_true rfl) (Nat.le_of_ble_eq_true rfl) d_Text_parse_136 ⟨y_324, y_327, f_561, f_562, f_563, rfl, rfl, (zI.wk (l' := (-1)) (h' := 240) hv_351 (by decide)), hy_327, hf_561, hf_562, (by have g9 := ((zo1_1 (by omega)) : zo1 y_326.toInt (zrow y_327 b7 b8 y_330 y_328 y_329) = (zrow y_327 b7 b8 y_330 y_328 y_329)); rw [zfin_f (zrun_w hli_332 rfl (ev_353.trans (by rw [z_plf hv_351 (by decide)])) (by omega) (by omega) (fun h9 => by (have h8 := h9.1); omega) (by omega) (fun h9 => by (have h8 := h9.2); rw [show zo1 _ _ = (zrow y_327 b7 b8 y_330 y_328 y_329) from g9] at h8; rcases hfx_564 with ⟨h7, _, _⟩ | ⟨_, h7, _⟩; exact h7 h8; omega)) (by omega)]; omega), (fun h9 => by exfalso; omega)⟩
                  · have _nhc_565 := hc_565
                    have ni_568 : ¬ (x_560 : Int32).toInt = (0 : Int32).toInt := fun z => hc_565 ((fa_eq _ _).mpr z)
                    simp only [li_0] at ni_568
                    have hv_569 : zI x_560 1 1 := zI.ne_lo hx_560 zc_0 hc_565 (by decide)
                    refine lv_iconst (v := 2) hx hb d_Text_parse_128 (by decide) ?_
                    refine lv_istore (lv' := [(4, .int 2), (3, .int 1), (6, .int v_353), (5, .int y_324), (0, .ref b0), (1, .ref b1), (2, .int b2)]) hx hb d_Text_parse_129 hl (by decide) rfl (fun ls hl => ?_)
                    refine lv_goto (tgt := 137) hx hb d_Text_parse_131 (by decide) ?_
                    obtain ⟨v_570, ev_570⟩ : ∃ z : Int32, z = y_324 + 1 := ⟨_, rfl⟩
                    obtain ⟨qv_570, hv_570⟩ := zI_add (l := 1) (h := 240) hv_351 zc_1 ev_570 (by decide)
                    rw [li_1] at qv_570
                    refine lv_iinc (v := v_570) (lv' := [(5, .int v_570), (4, .int 2), (3, .int 1), (6, .int v_353), (0, .ref b0), (1, .ref b1), (2, .int b2)]) hx hb d_Text_parse_137 hl (k := 3) rfl (by rw [ev_570]; rfl) (by decide) rfl (fun ls hl => ?_)
                    refine lv_goto (tgt := 8) hx hb d_Text_parse_140 (by decide) ?_
                    exact ihk_323 (v_570) (2) (1) (y_327) (f_562) (f_563) (f_561) _ _ _ (zI.wk (l' := 0) (h' := 240) hv_570 (by decide)) (zI.wk (l' := 0) (h' := 2) zc_2 (by decide)) (zI.wk (l' := 0) (h' := 1) zc_1 (by decide)) hy_327 hf_562 hf_561 (by omega) (by have g9 := ((zo1_1 (by omega)) : zo1 y_326.toInt (zrow y_327 b7 b8 y_330 y_328 y_329) = (zrow y_327 b7 b8 y_330 y_328 y_329)); refine zrun_l hli_332 (by omega) (ev_353.trans (by rw [z_plf hv_351 (by decide)])) ⟨by omega, by omega⟩ (fun h9 => by (have h8 := h9.1); omega) ?_ li_1 li_2 ?_; (rw [show zo1 _ _ = (zrow y_327 b7 b8 y_330 y_328 y_329) from g9]; rcases hfx_564 with ⟨_, h8, _⟩ | ⟨h9, _, _⟩; (exfalso; omega); exact h9); (rw [show zo1 _ _ = (zrow y_327 b7 b8 y_330 y_328 y_329) from g9, ← ev_546]; rcases hfx_564 with ⟨_, h8, _⟩ | ⟨_, _, h9⟩; (exfalso; omega); exact h9)) (zm_up qv_570 hmk_323 (by decide)) hP hD hS (lv_sub hl [0, 1, 2, 4, 5, 6] rfl)
              · have _nhc_544 := hc_544
                have ni_571 := (fa_eq _ _).mp hc_544
                rw [li_59] at ni_571
                have hv_572 : zI v_353 59 59 := zI.eq_l hv_540 zc_59 hc_544
                refine lv_iload_n hx hb d_Text_parse_96 rfl (lv_at hl 6 rfl) ?_
                refine lv_if_ne (tgt := 105) hx hb d_Text_parse_97 (by decide) (fun hc_573 => ?_) (fun hc_573 => ?_)
                · have _nhc_573 := hc_573
                  have ni_574 : ¬ (b2 : Int32).toInt = (0 : Int32).toInt := fun z => hc_573 ((fa_eq _ _).mpr z)
                  simp only [li_0] at ni_574
                  have hv_575 : zI b2 1 1 := zI.ne_lo hb2 zc_0 hc_573 (by decide)
                  refine lv_iload hx hb d_Text_parse_105 (lv_at hl 2 rfl) ?_
                  refine lv_bipush (v := 97) hx hb d_Text_parse_107 (by decide) ?_
                  refine lv_isub hx hb d_Text_parse_109 ?_
                  refine lv_topi (fun v_576 ev_576 => ?_)
                  obtain ⟨qv_576, hv_576⟩ := zI_sub (l := -38) (h := -38) hv_572 zc_97 ev_576 (by decide)
                  rw [li_97] at qv_576
                  have wv_576 := zs97 ev_576
                  refine z_callSN (host := "TraceMachines") (index := 29) (As := [.int v_576]) (rest := []) (wr := [(b0, .inr (1, [.int b3, .ref b4])), (b4, .inl (G.2 2, 240, .inl b5)), (b1, .inr (2, [.int y_327, .int b7, .int b8, .ref b9, .ref b10, .ref b11])), (b9, .inl (G.2 0, 20, .inl y_330)), (b10, .inl (G.2 0, 240, .inl y_328)), (b11, .inl (G.2 0, 240, .inl y_329))]) Z (s2_X_isLetter l G (v_576)) hl.1 (by decide +kernel) q518 q1 q519 ⟨by decide, by decide, by show _ = some 1; decide +kernel⟩ ⟨Nat.le_of_ble_eq_true rfl, Nat.le_of_ble_eq_true rfl⟩ ⟨Nat.le_of_ble_eq_true rfl, Nat.le_of_ble_eq_true rfl⟩ rfl (Nat.le_of_ble_eq_true rfl) d_Text_parse_110 hP hD hS hA [] [0, 1, 2, 3, 4, 5] rfl rfl rfl rfl (by decide) (fun v w1 H locs hw_577 hP hD hS => ?_)
                  rcases hw_577 with ⟨rfl, rfl, hq_578⟩ | ⟨rfl, rfl, hq_579, hq_580⟩ | ⟨rfl, rfl, hq_581, hq_582⟩
                  · have hP : va_P G.1 classes [(b0, .inr (1, [.int b3, .ref b4])), (b4, .inl (G.2 2, 240, .inl b5)), (b1, .inr (2, [.int y_327, .int b7, .int b8, .ref b9, .ref b10, .ref b11])), (b9, .inl (G.2 0, 20, .inl y_330)), (b10, .inl (G.2 0, 240, .inl y_328)), (b11, .inl (G.2 0, 240, .inl y_329))] H := hP
                    have hD := z_tie hP hD rfl
                    refine W.widen (k := 0) (n := 0) (Nat.le_of_ble_eq_true rfl) (Nat.le_of_ble_eq_true rfl) ?_
                    refine lv_if_eq (tgt := 134) hx hb d_Text_parse_113 (by decide) (fun _ => ?_) (fun hc => absurd hc (by decide +kernel))
                    refine lv_iload hx hb d_Text_parse_134 (lv_at hl 3 rfl) ?_
                    exact z_iret hx hb hr hlocks hP hD hS (Nat.le_of_ble_eq_true rfl) (Nat.le_of_ble_eq_true rfl) d_Text_parse_136 ⟨y_324, y_327, y_330, y_328, y_329, rfl, rfl, (zI.wk (l' := (-1)) (h' := 240) hv_351 (by decide)), hy_327, hy_330, hy_328, (by have g9 := ((zo1_1 (by omega)) : zo1 y_326.toInt (zrow y_327 b7 b8 y_330 y_328 y_329) = (zrow y_327 b7 b8 y_330 y_328 y_329)); rw [zfin_f (zrun_w hli_332 rfl (ev_353.trans (by rw [z_plf hv_351 (by decide)])) (by omega) (by omega) (fun h9 => by (have h8 := h9.1); omega) (by omega) (fun h9 => absurd h9.1 (by omega))) (by omega)]; omega), (fun h9 => by exfalso; omega)⟩
                  · exfalso; have _q := hq_579; have _u0 := hv_576; omega
                  · exfalso; have _q := hq_581; have _u0 := hv_576; omega
                · have _nhc_573 := hc_573
                  have ni_583 := (fa_eq _ _).mp hc_573
                  rw [li_0] at ni_583
                  have hv_584 : zI b2 0 0 := zI.eq_l hb2 zc_0 hc_573
                  refine lv_iconst (v := 0) hx hb d_Text_parse_100 (by decide) ?_
                  refine lv_istore_n (lv' := [(3, .int 0), (4, .int 0), (6, .int v_353), (5, .int y_324), (0, .ref b0), (1, .ref b1), (2, .int b2)]) hx hb d_Text_parse_101 rfl hl (by decide) rfl (fun ls hl => ?_)
                  refine lv_goto (tgt := 137) hx hb d_Text_parse_102 (by decide) ?_
                  obtain ⟨v_585, ev_585⟩ : ∃ z : Int32, z = y_324 + 1 := ⟨_, rfl⟩
                  obtain ⟨qv_585, hv_585⟩ := zI_add (l := 1) (h := 240) hv_351 zc_1 ev_585 (by decide)
                  rw [li_1] at qv_585
                  refine lv_iinc (v := v_585) (lv' := [(5, .int v_585), (3, .int 0), (4, .int 0), (6, .int v_353), (0, .ref b0), (1, .ref b1), (2, .int b2)]) hx hb d_Text_parse_137 hl (k := 3) rfl (by rw [ev_585]; rfl) (by decide) rfl (fun ls hl => ?_)
                  refine lv_goto (tgt := 8) hx hb d_Text_parse_140 (by decide) ?_
                  exact ihk_323 (v_585) (0) (0) (y_327) (y_328) (y_329) (y_330) _ _ _ (zI.wk (l' := 0) (h' := 240) hv_585 (by decide)) (zI.wk (l' := 0) (h' := 2) zc_0 (by decide)) (zI.wk (l' := 0) (h' := 1) zc_0 (by decide)) hy_327 hy_328 hy_330 (by omega) (zrun_s hli_332 (by omega) (ev_353.trans (by rw [z_plf hv_351 (by decide)])) ⟨by omega, by omega⟩ (fun h9 => by (have h8 := h9.1); omega) li_0 li_0 ((zo1_1 (by omega)) : zo1 y_326.toInt (zrow y_327 b7 b8 y_330 y_328 y_329) = (zrow y_327 b7 b8 y_330 y_328 y_329)).symm) (zm_up qv_585 hmk_323 (by decide)) hP hD hS (lv_sub hl [0, 2, 1, 4, 5, 6] rfl)
            · have _nhc_541 := hc_541
              have ni_586 := (fa_eq _ _).mp hc_541
              rw [li_0] at ni_586
              have hv_587 : zI y_326 0 0 := zI.eq_l hy_326 zc_0 hc_541
              refine lv_aload_n hx hb d_Text_parse_77 rfl (lv_at hl 5 rfl) ?_
              refine z_callV (index := 25) (As := []) (rest := []) (wr := [(b0, .inr (1, [.int b3, .ref b4])), (b4, .inl (G.2 2, 240, .inl b5))]) Z (s2_Traces_open l G (b1) (y_327) (b7) (b8) (b9) (b10) (b11) (y_330) (y_328) (y_329) hy_327 hb7 hb8 hy_330 hy_328) hl.1 q513 q514 q515 q3 q516 ⟨by decide, by decide, by show _ = some 0; decide +kernel⟩ ⟨Nat.le_of_ble_eq_true rfl, Nat.le_of_ble_eq_true rfl⟩ ⟨Nat.le_of_ble_eq_true rfl, Nat.le_of_ble_eq_true rfl⟩ rfl (Nat.le_of_ble_eq_true rfl) d_Text_parse_78 hP hD hS hA 2 2 rfl rfl rfl [2, 3, 4, 5] [0, 1] rfl rfl rfl rfl (by decide) (fun v w1 H locs hw_588 hP hD hS => ?_)
              obtain ⟨x_589, x_590, f_591, rfl, rfl, hx_589, hx_590, hf_591, hfx_592⟩ := hw_588
              have hP : va_P G.1 classes [(b0, .inr (1, [.int b3, .ref b4])), (b4, .inl (G.2 2, 240, .inl b5)), (b1, .inr (2, [.int x_590, .int b7, .int b8, .ref b9, .ref b10, .ref b11])), (b9, .inl (G.2 0, 20, .inl f_591)), (b10, .inl (G.2 0, 240, .inl y_328)), (b11, .inl (G.2 0, 240, .inl y_329))] H := hP
              have hD := z_tie hP hD rfl
              refine W.widen (k := 0) (n := 0) (Nat.le_of_ble_eq_true rfl) (Nat.le_of_ble_eq_true rfl) ?_
              refine lv_if_ne (tgt := 87) hx hb d_Text_parse_81 (by decide) (fun hc_593 => ?_) (fun hc_593 => ?_)
              · have _nhc_593 := hc_593
                have ni_594 : ¬ (x_589 : Int32).toInt = (0 : Int32).toInt := fun z => hc_593 ((fa_eq _ _).mpr z)
                simp only [li_0] at ni_594
                have hv_595 : zI x_589 1 1 := zI.ne_lo hx_589 zc_0 hc_593 (by decide)
                refine lv_iconst (v := 1) hx hb d_Text_parse_87 (by decide) ?_
                refine lv_istore_n (lv' := [(3, .int 1), (4, .int 0), (6, .int v_353), (5, .int y_324), (0, .ref b0), (1, .ref b1), (2, .int b2)]) hx hb d_Text_parse_88 rfl hl (by decide) rfl (fun ls hl => ?_)
                refine lv_iload hx hb d_Text_parse_89 (lv_at hl 2 rfl) ?_
                refine lv_bipush (v := 59) hx hb d_Text_parse_91 (by decide) ?_
                refine lv_icmp_ne (tgt := 105) hx hb d_Text_parse_93 (by decide) (fun hc_596 => ?_) (fun hc_596 => ?_)
                · have _nhc_596 := hc_596
                  have ni_597 : ¬ (v_353 : Int32).toInt = (59 : Int32).toInt := fun z => hc_596 ((fa_eq _ _).mpr z)
                  simp only [li_59] at ni_597
                  refine lv_iload hx hb d_Text_parse_105 (lv_at hl 2 rfl) ?_
                  refine lv_bipush (v := 97) hx hb d_Text_parse_107 (by decide) ?_
                  refine lv_isub hx hb d_Text_parse_109 ?_
                  refine lv_topi (fun v_598 ev_598 => ?_)
                  obtain ⟨qv_598, hv_598⟩ := zI_sub (l := -39) (h := 2147483550) hv_540 zc_97 ev_598 (by decide)
                  rw [li_97] at qv_598
                  have wv_598 := zs97 ev_598
                  refine z_callSN (host := "TraceMachines") (index := 29) (As := [.int v_598]) (rest := []) (wr := [(b0, .inr (1, [.int b3, .ref b4])), (b4, .inl (G.2 2, 240, .inl b5)), (b1, .inr (2, [.int x_590, .int b7, .int b8, .ref b9, .ref b10, .ref b11])), (b9, .inl (G.2 0, 20, .inl f_591)), (b10, .inl (G.2 0, 240, .inl y_328)), (b11, .inl (G.2 0, 240, .inl y_329))]) Z (s2_X_isLetter l G (v_598)) hl.1 (by decide +kernel) q518 q1 q519 ⟨by decide, by decide, by show _ = some 1; decide +kernel⟩ ⟨Nat.le_of_ble_eq_true rfl, Nat.le_of_ble_eq_true rfl⟩ ⟨Nat.le_of_ble_eq_true rfl, Nat.le_of_ble_eq_true rfl⟩ rfl (Nat.le_of_ble_eq_true rfl) d_Text_parse_110 hP hD hS hA [] [0, 1, 2, 3, 4, 5] rfl rfl rfl rfl (by decide) (fun v w1 H locs hw_599 hP hD hS => ?_)
                  rcases hw_599 with ⟨rfl, rfl, hq_600⟩ | ⟨rfl, rfl, hq_601, hq_602⟩ | ⟨rfl, rfl, hq_603, hq_604⟩
                  · have hP : va_P G.1 classes [(b0, .inr (1, [.int b3, .ref b4])), (b4, .inl (G.2 2, 240, .inl b5)), (b1, .inr (2, [.int x_590, .int b7, .int b8, .ref b9, .ref b10, .ref b11])), (b9, .inl (G.2 0, 20, .inl f_591)), (b10, .inl (G.2 0, 240, .inl y_328)), (b11, .inl (G.2 0, 240, .inl y_329))] H := hP
                    have hD := z_tie hP hD rfl
                    have hv_605 : zI v_598 (-39) (-1) := by have _a := hq_600; have _b := hv_598; have _c := zc_0; exact ⟨by omega, by omega⟩
                    refine W.widen (k := 0) (n := 0) (Nat.le_of_ble_eq_true rfl) (Nat.le_of_ble_eq_true rfl) ?_
                    refine lv_if_eq (tgt := 134) hx hb d_Text_parse_113 (by decide) (fun _ => ?_) (fun hc => absurd hc (by decide +kernel))
                    refine lv_iload hx hb d_Text_parse_134 (lv_at hl 3 rfl) ?_
                    exact z_iret hx hb hr hlocks hP hD hS (Nat.le_of_ble_eq_true rfl) (Nat.le_of_ble_eq_true rfl) d_Text_parse_136 ⟨y_324, x_590, f_591, y_328, y_329, rfl, rfl, (zI.wk (l' := (-1)) (h' := 240) hv_351 (by decide)), hx_590, hf_591, hy_328, (by have g9 := ((by rcases hfx_592 with ⟨h9, h8, _⟩ | ⟨_, _, h9⟩; (exfalso; omega); rw [zo1_0 (by omega)]; exact h9.symm) : zo1 y_326.toInt (zrow y_327 b7 b8 y_330 y_328 y_329) = (zrow x_590 b7 b8 f_591 y_328 y_329)); rw [zfin_f (zrun_w hli_332 rfl (ev_353.trans (by rw [z_plf hv_351 (by decide)])) (by omega) (by omega) (fun h9 => by (have h8 : y_327.toInt = 20 := h9.2); rcases hfx_592 with ⟨h7, h6, _⟩ | ⟨h7, _, _⟩ <;> omega) (by omega) (fun h9 => absurd h9.1 (by omega))) (by omega)]; omega), (fun h9 => by exfalso; omega)⟩
                  · have hP : va_P G.1 classes [(b0, .inr (1, [.int b3, .ref b4])), (b4, .inl (G.2 2, 240, .inl b5)), (b1, .inr (2, [.int x_590, .int b7, .int b8, .ref b9, .ref b10, .ref b11])), (b9, .inl (G.2 0, 20, .inl f_591)), (b10, .inl (G.2 0, 240, .inl y_328)), (b11, .inl (G.2 0, 240, .inl y_329))] H := hP
                    have hD := z_tie hP hD rfl
                    have hv_606 : zI v_598 0 2147483550 := by have _a := hq_601; have _b := hv_598; have _c := zc_0; exact ⟨by omega, by omega⟩
                    have hv_607 : zI v_598 10 2147483550 := by have _a := hq_602; have _b := hv_606; have _c := zc_10; exact ⟨by omega, by omega⟩
                    refine W.widen (k := 0) (n := 0) (Nat.le_of_ble_eq_true rfl) (Nat.le_of_ble_eq_true rfl) ?_
                    refine lv_if_eq (tgt := 134) hx hb d_Text_parse_113 (by decide) (fun _ => ?_) (fun hc => absurd hc (by decide +kernel))
                    refine lv_iload hx hb d_Text_parse_134 (lv_at hl 3 rfl) ?_
                    exact z_iret hx hb hr hlocks hP hD hS (Nat.le_of_ble_eq_true rfl) (Nat.le_of_ble_eq_true rfl) d_Text_parse_136 ⟨y_324, x_590, f_591, y_328, y_329, rfl, rfl, (zI.wk (l' := (-1)) (h' := 240) hv_351 (by decide)), hx_590, hf_591, hy_328, (by have g9 := ((by rcases hfx_592 with ⟨h9, h8, _⟩ | ⟨_, _, h9⟩; (exfalso; omega); rw [zo1_0 (by omega)]; exact h9.symm) : zo1 y_326.toInt (zrow y_327 b7 b8 y_330 y_328 y_329) = (zrow x_590 b7 b8 f_591 y_328 y_329)); rw [zfin_f (zrun_w hli_332 rfl (ev_353.trans (by rw [z_plf hv_351 (by decide)])) (by omega) (by omega) (fun h9 => by (have h8 : y_327.toInt = 20 := h9.2); rcases hfx_592 with ⟨h7, h6, _⟩ | ⟨h7, _, _⟩ <;> omega) (by omega) (fun h9 => absurd h9.1 (by omega))) (by omega)]; omega), (fun h9 => by exfalso; omega)⟩
                  · have hP : va_P G.1 classes [(b0, .inr (1, [.int b3, .ref b4])), (b4, .inl (G.2 2, 240, .inl b5)), (b1, .inr (2, [.int x_590, .int b7, .int b8, .ref b9, .ref b10, .ref b11])), (b9, .inl (G.2 0, 20, .inl f_591)), (b10, .inl (G.2 0, 240, .inl y_328)), (b11, .inl (G.2 0, 240, .inl y_329))] H := hP
                    have hD := z_tie hP hD rfl
                    have hv_608 : zI v_598 0 2147483550 := by have _a := hq_603; have _b := hv_598; have _c := zc_0; exact ⟨by omega, by omega⟩
                    have hv_609 : zI v_598 0 9 := by have _a := hq_604; have _b := hv_608; have _c := zc_10; exact ⟨by omega, by omega⟩
                    refine W.widen (k := 0) (n := 0) (Nat.le_of_ble_eq_true rfl) (Nat.le_of_ble_eq_true rfl) ?_
                    refine lv_if_eq (tgt := 134) hx hb d_Text_parse_113 (by decide) (fun hc => absurd hc (by decide +kernel)) (fun _ => ?_)
                    refine lv_aload_n hx hb d_Text_parse_116 rfl (lv_at hl 5 rfl) ?_
                    refine lv_iload hx hb d_Text_parse_117 (lv_at hl 2 rfl) ?_
                    refine lv_bipush (v := 97) hx hb d_Text_parse_119 (by decide) ?_
                    refine lv_isub hx hb d_Text_parse_121 ?_
                    refine lv_topi (fun v_610 ev_610 => ?_)
                    obtain rfl : v_598 = v_610 := ev_598.trans ev_610.symm
                    refine z_callV (index := 33) (As := [.int v_598]) (rest := []) (wr := [(b0, .inr (1, [.int b3, .ref b4])), (b4, .inl (G.2 2, 240, .inl b5))]) Z (s2_Traces_add l G (b1) (v_598) (x_590) (b7) (b8) (b9) (b10) (b11) (f_591) (y_328) (y_329) hv_609 hx_590 hb7 hb8 hf_591 hy_328) hl.1 q520 q521 q522 q3 q523 ⟨by decide, by decide, by show _ = some 1; decide +kernel⟩ ⟨Nat.le_of_ble_eq_true rfl, Nat.le_of_ble_eq_true rfl⟩ ⟨Nat.le_of_ble_eq_true rfl, Nat.le_of_ble_eq_true rfl⟩ rfl (Nat.le_of_ble_eq_true rfl) d_Text_parse_122 hP hD hS hA 2 2 rfl rfl rfl [2, 3, 4, 5] [0, 1] rfl rfl rfl rfl (by decide) (fun v w1 H locs hw_611 hP hD hS => ?_)
                    obtain ⟨x_612, f_613, f_614, f_615, rfl, rfl, hx_612, hf_613, hf_614, hfx_616⟩ := hw_611
                    have hP : va_P G.1 classes [(b0, .inr (1, [.int b3, .ref b4])), (b4, .inl (G.2 2, 240, .inl b5)), (b1, .inr (2, [.int x_590, .int b7, .int b8, .ref b9, .ref b10, .ref b11])), (b9, .inl (G.2 0, 20, .inl f_613)), (b10, .inl (G.2 0, 240, .inl f_614)), (b11, .inl (G.2 0, 240, .inl f_615))] H := hP
                    have hD := z_tie hP hD rfl
                    refine W.widen (k := 0) (n := 0) (Nat.le_of_ble_eq_true rfl) (Nat.le_of_ble_eq_true rfl) ?_
                    refine lv_if_eq (tgt := 134) hx hb d_Text_parse_125 (by decide) (fun hc_617 => ?_) (fun hc_617 => ?_)
                    · have _nhc_617 := hc_617
                      have ni_618 := (fa_eq _ _).mp hc_617
                      rw [li_0] at ni_618
                      have hv_619 : zI x_612 0 0 := zI.eq_l hx_612 zc_0 hc_617
                      refine lv_iload hx hb d_Text_parse_134 (lv_at hl 3 rfl) ?_
                      exact z_iret hx hb hr hlocks hP hD hS (Nat.le_of_ble_eq_true rfl) (Nat.le_of_ble_eq_true rfl) d_Text_parse_136 ⟨y_324, x_590, f_613, f_614, f_615, rfl, rfl, (zI.wk (l' := (-1)) (h' := 240) hv_351 (by decide)), hx_590, hf_613, hf_614, (by have g9 := ((by rcases hfx_592 with ⟨h9, h8, _⟩ | ⟨_, _, h9⟩; (exfalso; omega); rw [zo1_0 (by omega)]; exact h9.symm) : zo1 y_326.toInt (zrow y_327 b7 b8 y_330 y_328 y_329) = (zrow x_590 b7 b8 f_591 y_328 y_329)); rw [zfin_f (zrun_w hli_332 rfl (ev_353.trans (by rw [z_plf hv_351 (by decide)])) (by omega) (by omega) (fun h9 => by (have h8 : y_327.toInt = 20 := h9.2); rcases hfx_592 with ⟨h7, h6, _⟩ | ⟨h7, _, _⟩ <;> omega) (by omega) (fun h9 => by (have h8 := h9.2); rw [show zo1 _ _ = (zrow x_590 b7 b8 f_591 y_328 y_329) from g9] at h8; rcases hfx_616 with ⟨h7, _, _⟩ | ⟨_, h7, _⟩; exact h7 h8; omega)) (by omega)]; omega), (fun h9 => by exfalso; omega)⟩
                    · have _nhc_617 := hc_617
                      have ni_620 : ¬ (x_612 : Int32).toInt = (0 : Int32).toInt := fun z => hc_617 ((fa_eq _ _).mpr z)
                      simp only [li_0] at ni_620
                      have hv_621 : zI x_612 1 1 := zI.ne_lo hx_612 zc_0 hc_617 (by decide)
                      refine lv_iconst (v := 2) hx hb d_Text_parse_128 (by decide) ?_
                      refine lv_istore (lv' := [(4, .int 2), (3, .int 1), (6, .int v_353), (5, .int y_324), (0, .ref b0), (1, .ref b1), (2, .int b2)]) hx hb d_Text_parse_129 hl (by decide) rfl (fun ls hl => ?_)
                      refine lv_goto (tgt := 137) hx hb d_Text_parse_131 (by decide) ?_
                      obtain ⟨v_622, ev_622⟩ : ∃ z : Int32, z = y_324 + 1 := ⟨_, rfl⟩
                      obtain ⟨qv_622, hv_622⟩ := zI_add (l := 1) (h := 240) hv_351 zc_1 ev_622 (by decide)
                      rw [li_1] at qv_622
                      refine lv_iinc (v := v_622) (lv' := [(5, .int v_622), (4, .int 2), (3, .int 1), (6, .int v_353), (0, .ref b0), (1, .ref b1), (2, .int b2)]) hx hb d_Text_parse_137 hl (k := 3) rfl (by rw [ev_622]; rfl) (by decide) rfl (fun ls hl => ?_)
                      refine lv_goto (tgt := 8) hx hb d_Text_parse_140 (by decide) ?_
                      exact ihk_323 (v_622) (2) (1) (x_590) (f_614) (f_615) (f_613) _ _ _ (zI.wk (l' := 0) (h' := 240) hv_622 (by decide)) (zI.wk (l' := 0) (h' := 2) zc_2 (by decide)) (zI.wk (l' := 0) (h' := 1) zc_1 (by decide)) hx_590 hf_614 hf_613 (by omega) (by have g9 := ((by rcases hfx_592 with ⟨h9, h8, _⟩ | ⟨_, _, h9⟩; (exfalso; omega); rw [zo1_0 (by omega)]; exact h9.symm) : zo1 y_326.toInt (zrow y_327 b7 b8 y_330 y_328 y_329) = (zrow x_590 b7 b8 f_591 y_328 y_329)); refine zrun_l hli_332 (by omega) (ev_353.trans (by rw [z_plf hv_351 (by decide)])) ⟨by omega, by omega⟩ (fun h9 => by (have h8 : y_327.toInt = 20 := h9.2); rcases hfx_592 with ⟨h7, h6, _⟩ | ⟨h7, _, _⟩ <;> omega) ?_ li_1 li_2 ?_; (rw [show zo1 _ _ = (zrow x_590 b7 b8 f_591 y_328 y_329) from g9]; rcases hfx_616 with ⟨_, h8, _⟩ | ⟨h9, _, _⟩; (exfalso; omega); exact h9); (rw [show zo1 _ _ = (zrow x_590 b7 b8 f_591 y_328 y_329) from g9, ← ev_598]; rcases hfx_616 with ⟨_, h8, _⟩ | ⟨_, _, h9⟩; (exfalso; omega); exact h9)) (zm_up qv_622 hmk_323 (by decide)) hP hD hS (lv_sub hl [0, 1, 2, 4, 5, 6] rfl)
                · have _nhc_596 := hc_596
                  have ni_623 := (fa_eq _ _).mp hc_596
                  rw [li_59] at ni_623
                  have hv_624 : zI v_353 59 59 := zI.eq_l hv_540 zc_59 hc_596
                  refine lv_iload_n hx hb d_Text_parse_96 rfl (lv_at hl 6 rfl) ?_
                  refine lv_if_ne (tgt := 105) hx hb d_Text_parse_97 (by decide) (fun hc_625 => ?_) (fun hc_625 => ?_)
                  · have _nhc_625 := hc_625
                    have ni_626 : ¬ (b2 : Int32).toInt = (0 : Int32).toInt := fun z => hc_625 ((fa_eq _ _).mpr z)
                    simp only [li_0] at ni_626
                    have hv_627 : zI b2 1 1 := zI.ne_lo hb2 zc_0 hc_625 (by decide)
                    refine lv_iload hx hb d_Text_parse_105 (lv_at hl 2 rfl) ?_
                    refine lv_bipush (v := 97) hx hb d_Text_parse_107 (by decide) ?_
                    refine lv_isub hx hb d_Text_parse_109 ?_
                    refine lv_topi (fun v_628 ev_628 => ?_)
                    obtain ⟨qv_628, hv_628⟩ := zI_sub (l := -38) (h := -38) hv_624 zc_97 ev_628 (by decide)
                    rw [li_97] at qv_628
                    have wv_628 := zs97 ev_628
                    refine z_callSN (host := "TraceMachines") (index := 29) (As := [.int v_628]) (rest := []) (wr := [(b0, .inr (1, [.int b3, .ref b4])), (b4, .inl (G.2 2, 240, .inl b5)), (b1, .inr (2, [.int x_590, .int b7, .int b8, .ref b9, .ref b10, .ref b11])), (b9, .inl (G.2 0, 20, .inl f_591)), (b10, .inl (G.2 0, 240, .inl y_328)), (b11, .inl (G.2 0, 240, .inl y_329))]) Z (s2_X_isLetter l G (v_628)) hl.1 (by decide +kernel) q518 q1 q519 ⟨by decide, by decide, by show _ = some 1; decide +kernel⟩ ⟨Nat.le_of_ble_eq_true rfl, Nat.le_of_ble_eq_true rfl⟩ ⟨Nat.le_of_ble_eq_true rfl, Nat.le_of_ble_eq_true rfl⟩ rfl (Nat.le_of_ble_eq_true rfl) d_Text_parse_110 hP hD hS hA [] [0, 1, 2, 3, 4, 5] rfl rfl rfl rfl (by decide) (fun v w1 H locs hw_629 hP hD hS => ?_)
                    rcases hw_629 with ⟨rfl, rfl, hq_630⟩ | ⟨rfl, rfl, hq_631, hq_632⟩ | ⟨rfl, rfl, hq_633, hq_634⟩
                    · have hP : va_P G.1 classes [(b0, .inr (1, [.int b3, .ref b4])), (b4, .inl (G.2 2, 240, .inl b5)), (b1, .inr (2, [.int x_590, .int b7, .int b8, .ref b9, .ref b10, .ref b11])), (b9, .inl (G.2 0, 20, .inl f_591)), (b10, .inl (G.2 0, 240, .inl y_328)), (b11, .inl (G.2 0, 240, .inl y_329))] H := hP
                      have hD := z_tie hP hD rfl
                      refine W.widen (k := 0) (n := 0) (Nat.le_of_ble_eq_true rfl) (Nat.le_of_ble_eq_true rfl) ?_
                      refine lv_if_eq (tgt := 134) hx hb d_Text_parse_113 (by decide) (fun _ => ?_) (fun hc => absurd hc (by decide +kernel))
                      refine lv_iload hx hb d_Text_parse_134 (lv_at hl 3 rfl) ?_
                      exact z_iret hx hb hr hlocks hP hD hS (Nat.le_of_ble_eq_true rfl) (Nat.le_of_ble_eq_true rfl) d_Text_parse_136 ⟨y_324, x_590, f_591, y_328, y_329, rfl, rfl, (zI.wk (l' := (-1)) (h' := 240) hv_351 (by decide)), hx_590, hf_591, hy_328, (by have g9 := ((by rcases hfx_592 with ⟨h9, h8, _⟩ | ⟨_, _, h9⟩; (exfalso; omega); rw [zo1_0 (by omega)]; exact h9.symm) : zo1 y_326.toInt (zrow y_327 b7 b8 y_330 y_328 y_329) = (zrow x_590 b7 b8 f_591 y_328 y_329)); rw [zfin_f (zrun_w hli_332 rfl (ev_353.trans (by rw [z_plf hv_351 (by decide)])) (by omega) (by omega) (fun h9 => by (have h8 : y_327.toInt = 20 := h9.2); rcases hfx_592 with ⟨h7, h6, _⟩ | ⟨h7, _, _⟩ <;> omega) (by omega) (fun h9 => absurd h9.1 (by omega))) (by omega)]; omega), (fun h9 => by exfalso; omega)⟩
                    · exfalso; have _q := hq_631; have _u0 := hv_628; omega
                    · exfalso; have _q := hq_633; have _u0 := hv_628; omega
                  · have _nhc_625 := hc_625
                    have ni_635 := (fa_eq _ _).mp hc_625
                    rw [li_0] at ni_635
                    have hv_636 : zI b2 0 0 := zI.eq_l hb2 zc_0 hc_625
                    refine lv_iconst (v := 0) hx hb d_Text_parse_100 (by decide) ?_
                    refine lv_istore_n (lv' := [(3, .int 0), (4, .int 0), (6, .int v_353), (5, .int y_324), (0, .ref b0), (1, .ref b1), (2, .int b2)]) hx hb d_Text_parse_101 rfl hl (by decide) rfl (fun ls hl => ?_)
                    refine lv_goto (tgt := 137) hx hb d_Text_parse_102 (by decide) ?_
                    obtain ⟨v_637, ev_637⟩ : ∃ z : Int32, z = y_324 + 1 := ⟨_, rfl⟩
                    obtain ⟨qv_637, hv_637⟩ := zI_add (l := 1) (h := 240) hv_351 zc_1 ev_637 (by decide)
                    rw [li_1] at qv_637
                    refine lv_iinc (v := v_637) (lv' := [(5, .int v_637), (3, .int 0), (4, .int 0), (6, .int v_353), (0, .ref b0), (1, .ref b1), (2, .int b2)]) hx hb d_Text_parse_137 hl (k := 3) rfl (by rw [ev_637]; rfl) (by decide) rfl (fun ls hl => ?_)
                    refine lv_goto (tgt := 8) hx hb d_Text_parse_140 (by decide) ?_
                    exact ihk_323 (v_637) (0) (0) (x_590) (y_328) (y_329) (f_591) _ _ _ (zI.wk (l' := 0) (h' := 240) hv_637 (by decide)) (zI.wk (l' := 0) (h' := 2) zc_0 (by decide)) (zI.wk (l' := 0) (h' := 1) zc_0 (by decide)) hx_590 hy_328 hf_591 (by omega) (zrun_s hli_332 (by omega) (ev_353.trans (by rw [z_plf hv_351 (by decide)])) ⟨by omega, by omega⟩ (fun h9 => by (have h8 : y_327.toInt = 20 := h9.2); rcases hfx_592 with ⟨h7, h6, _⟩ | ⟨h7, _, _⟩ <;> omega) li_0 li_0 ((by rcases hfx_592 with ⟨h9, h8, _⟩ | ⟨_, _, h9⟩; (exfalso; omega); rw [zo1_0 (by omega)]; exact h9.symm) : zo1 y_326.toInt (zrow y_327 b7 b8 y_330 y_328 y_329) = (zrow x_590 b7 b8 f_591 y_328 y_329)).symm) (zm_up qv_637 hmk_323 (by decide)) hP hD hS (lv_sub hl [0, 2, 1, 4, 5, 6] rfl)
              · have _nhc_593 := hc_593
                have ni_638 := (fa_eq _ _).mp hc_593
                rw [li_0] at ni_638
                have hv_639 : zI x_589 0 0 := zI.eq_l hx_589 zc_0 hc_593
                refine lv_iload hx hb d_Text_parse_84 (lv_at hl 2 rfl) ?_
                exact z_iret hx hb hr hlocks hP hD hS (Nat.le_of_ble_eq_true rfl) (Nat.le_of_ble_eq_true rfl) d_Text_parse_86 ⟨y_324, x_590, f_591, y_328, y_329, rfl, rfl, (zI.wk (l' := (-1)) (h' := 240) hv_351 (by decide)), hx_590, hf_591, hy_328, (by rw [zfin_f (zrun_x hli_332 rfl (ev_353.trans (by rw [z_plf hv_351 (by decide)])) (by omega) (by omega) ⟨by omega, (show y_327.toInt = 20 by rcases hfx_592 with ⟨h9, _, _⟩ | ⟨_, h9, _⟩ <;> omega)⟩) (by omega)]; omega), (fun h9 => by exfalso; omega)⟩
          · have _nhc_538 := hc_538
            have ni_640 := (fa_le _ _).mp (zi_nlt hc_538)
            rw [li_57] at ni_640
            have hv_641 : zI v_353 48 57 := zI.le_l hv_537 zc_57 (zi_nlt hc_538) (by decide)
            refine lv_aload_n hx hb d_Text_parse_45 rfl (lv_at hl 5 rfl) ?_
            refine lv_iload hx hb d_Text_parse_46 (lv_at hl 0 rfl) ?_
            refine lv_bipush (v := 48) hx hb d_Text_parse_48 (by decide) ?_
            refine lv_isub hx hb d_Text_parse_50 ?_
            refine lv_topi (fun v_642 ev_642 => ?_)
            obtain ⟨qv_642, hv_642⟩ := zI_sub (l := 0) (h := 9) hv_641 zc_48 ev_642 (by decide)
            rw [li_48] at qv_642
            refine z_callV (index := 19) (As := [.int v_642]) (rest := []) (wr := [(b0, .inr (1, [.int b3, .ref b4])), (b4, .inl (G.2 2, 240, .inl b5))]) Z (s2_Traces_addDigit l G (b1) (v_642) (y_327) (b7) (b8) (b9) (b10) (b11) (y_330) (y_328) (y_329) hv_642 hy_327 hb7 hb8 hy_330 hy_328) hl.1 q509 q510 q511 q3 q512 ⟨by decide, by decide, by show _ = some 1; decide +kernel⟩ ⟨Nat.le_of_ble_eq_true rfl, Nat.le_of_ble_eq_true rfl⟩ ⟨Nat.le_of_ble_eq_true rfl, Nat.le_of_ble_eq_true rfl⟩ rfl (Nat.le_of_ble_eq_true rfl) d_Text_parse_51 hP hD hS hA 2 2 rfl rfl rfl [2, 3, 4, 5] [0, 1] rfl rfl rfl rfl (by decide) (fun v w1 H locs hw_643 hP hD hS => ?_)
            obtain ⟨f_644, rfl, rfl, hfx_645⟩ := hw_643
            have hP : va_P G.1 classes [(b0, .inr (1, [.int b3, .ref b4])), (b4, .inl (G.2 2, 240, .inl b5)), (b1, .inr (2, [.int y_327, .int b7, .int b8, .ref b9, .ref b10, .ref b11])), (b9, .inl (G.2 0, 20, .inl y_330)), (b10, .inl (G.2 0, 240, .inl y_328)), (b11, .inl (G.2 0, 240, .inl f_644))] H := hP
            have hD := z_tie hP hD rfl
            refine W.widen (k := 0) (n := 0) (Nat.le_of_ble_eq_true rfl) (Nat.le_of_ble_eq_true rfl) ?_
            obtain ⟨v_646, ev_646⟩ : ∃ z : Int32, z = y_325 + (-1) := ⟨_, rfl⟩
            obtain ⟨qv_646, hv_646⟩ := zI_add (l := 0) (h := 1) hv_462 zc_m1 ev_646 (by decide)
            rw [li_m1] at qv_646
            refine lv_iinc (v := v_646) (lv' := [(4, .int v_646), (6, .int v_353), (5, .int y_324), (3, .int y_326), (0, .ref b0), (1, .ref b1), (2, .int b2)]) hx hb d_Text_parse_54 hl (k := 2) rfl (by rw [ev_646]; rfl) (by decide) rfl (fun ls hl => ?_)
            refine lv_goto (tgt := 137) hx hb d_Text_parse_57 (by decide) ?_
            obtain ⟨v_647, ev_647⟩ : ∃ z : Int32, z = y_324 + 1 := ⟨_, rfl⟩
            obtain ⟨qv_647, hv_647⟩ := zI_add (l := 1) (h := 240) hv_351 zc_1 ev_647 (by decide)
            rw [li_1] at qv_647
            refine lv_iinc (v := v_647) (lv' := [(5, .int v_647), (4, .int v_646), (6, .int v_353), (3, .int y_326), (0, .ref b0), (1, .ref b1), (2, .int b2)]) hx hb d_Text_parse_137 hl (k := 2) rfl (by rw [ev_647]; rfl) (by decide) rfl (fun ls hl => ?_)
            refine lv_goto (tgt := 8) hx hb d_Text_parse_140 (by decide) ?_
            exact ihk_323 (v_647) (v_646) (y_326) (y_327) (y_328) (f_644) (y_330) _ _ _ (zI.wk (l' := 0) (h' := 240) hv_647 (by decide)) (zI.wk (l' := 0) (h' := 2) hv_646 (by decide)) hy_326 hy_327 hy_328 hy_330 (by omega) (zrun_d hli_332 (by omega) (ev_353.trans (by rw [z_plf hv_351 (by decide)])) ⟨by omega, by omega, by omega⟩ (by omega) (hfx_645.trans (by rw [ev_642]))) (zm_up qv_647 hmk_323 (by decide)) hP hD hS (lv_sub hl [0, 1, 3, 4, 5, 6] rfl)
