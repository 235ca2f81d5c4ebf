abbrev m_s2_Traces_letterAt : Room := { frames := 0, cells := 0, slots := 0, locals := 0 }
set_option maxHeartbeats 4000000 in
set_option maxRecDepth 100000 in
theorem s2_Traces_letterAt (l : Launch) (G : zG) (b0 : Nat) (b1 : Int32) (b2 : Int32) (b3 : Int32) (b4 : Int32) (b5 : Int32) (b6 : Nat) (b7 : Nat) (b8 : Nat) (b9 : Nat → Int32) (hb1 : zI b1 0 19) (hb2 : zI b2 0 11) (hb3 : zI b3 0 20) (hb4 : zI b4 0 3) (hb5 : zI b5 0 20) (hb9 : zR b9 0 9) : zM l G y_Traces_letterAt prog_10_method_4_code 3 (Option.some Jvm.ClassFile.FieldType.int) m_s2_Traces_letterAt [.ref b0, .int b1, .int b2] [(b0, .inr (2, [.int b3, .int b4, .int b5, .ref b6, .ref b7, .ref b8])), (b7, .inl (G.2 0, 240, .inl b9))] (fun v w => ∃ (e0 : Int32), v = some (.int e0) ∧ w = [(b0, .inr (2, [.int b3, .int b4, .int b5, .ref b6, .ref b7, .ref b8])), (b7, .inl (G.2 0, 240, .inl b9))] ∧ (zI e0 0 9) ∧ (e0 = b9 (0 + (12 * b1.toInt.toNat + b2.toInt.toNat)))) := by
  refine z_start (by decide +kernel) (Nat.le_of_ble_eq_true rfl) ?_
  intro p e s m below meth c A Z hr hnm hA hP hD hS ls hl
  have Z : zC p s m _ meth c prog_10_method_4_code 3 "TraceMachines$Traces" G := Z
  obtain ⟨hx, hb, hml, hown, hts, hK, hN, hlocks⟩ := id Z
  have hl : lv_has ls 3 [(0, .ref b0), (1, .int b1), (2, .int b2)] := hl
  refine lv_aload_n hx hb d_Traces_letterAt_0 rfl (lv_at hl 0 rfl) ?_
  refine va_get (D := G.1) (ci := 2) (v := .ref b7) (C := R_Traces) (T := F_Traces) (N := 6) hx hb hts i_Traces hown hK hP 0 rfl rfl 4 (by decide) (hts _ q72) (fun _ h9 => h9) rfl d_Traces_letterAt_1 ?_
  refine lv_iload_n hx hb d_Traces_letterAt_4 rfl (lv_at hl 1 rfl) ?_
  refine lv_bipush (v := 12) hx hb d_Traces_letterAt_5 (by decide) ?_
  refine lv_imul hx hb d_Traces_letterAt_7 ?_
  refine lv_topi (fun v_1 ev_1 => ?_)
  obtain ⟨qv_1, hv_1⟩ := zI_mul (l := 0) (h := 228) hb1 zc_12 ev_1 (by decide)
  rw [li_12] at qv_1
  refine lv_iload_n hx hb d_Traces_letterAt_8 rfl (lv_at hl 2 rfl) ?_
  refine lv_iadd hx hb d_Traces_letterAt_9 ?_
  refine lv_topi (fun v_2 ev_2 => ?_)
  obtain ⟨qv_2, hv_2⟩ := zI_add (l := 0) (h := 239) hv_1 hb2 ev_2 (by decide)
  refine va_iald hx hb hK hP 1 0 rfl rfl (zI.inn hv_2 (by decide)) d_Traces_letterAt_10 ?_
  refine lv_topi (fun v_3 ev_3 => ?_)
  have hv_3 : zI v_3 0 9 := (hb9 _).eq ev_3
  exact z_iret hx hb hr hlocks hP hD hS (Nat.le_of_ble_eq_true rfl) (Nat.le_of_ble_eq_true rfl) d_Traces_letterAt_11 ⟨v_3, rfl, rfl, hv_3, (by rw [ev_3, z_plf hv_2 (by decide)]; congr 1; omega)⟩
abbrev m_s8_Pair_meetX : Room := { frames := 0, cells := 0, slots := 0, locals := 0 }
set_option maxHeartbeats 4000000 in
set_option maxRecDepth 100000 in
theorem s8_Pair_meetX (l : Launch) (G : zG) (b0 : Nat) (b1 : Int32) (b2 : Int32) (b3 : Int32) (b4 : Int32) (b5 : Int32) (b6 : Int32) (b7 : Int32) (b8 : Int32) (b9 : Int32) (b10 : Int32) (b11 : Int32) (hb1 : zI b1 0 11) (hb10 : zI b10 0 1) (hb11 : zI b11 0 1) : zM l G y_Pair_meetX prog_6_method_6_code 2 (Option.none : Option Jvm.ClassFile.FieldType) m_s8_Pair_meetX [.ref b0, .int b1] [(b0, .inr (10, [.int b2, .int b3, .int b4, .int b5, .int b6, .int b7, .int b8, .int b9, .int b10, .int b11]))] (fun v w => ∃ (e0 : Int32), ∃ (e1 : Int32), ∃ (e2 : Int32), v = none ∧ w = [(b0, .inr (10, [.int b2, .int b3, .int e0, .int b1, .int e1, .int b7, .int b8, .int b9, .int b10, .int e2]))] ∧ (zI e2 0 1) ∧ ((e1 : Int32) = (b6 : Int32) + 1) ∧ ((b6 : Int32).toInt = 0 → (e0 : Int32) = b1) ∧ (¬ (b6 : Int32).toInt = 0 → (e0 : Int32) = (b4 : Int32)) ∧ ((b6 : Int32).toInt = (b9 : Int32).toInt → (e2 : Int32) = (b11 : Int32)) ∧ (¬ (b6 : Int32).toInt = (b9 : Int32).toInt → (e2 : Int32).toInt = 0)) := by
  refine z_start (by decide +kernel) (Nat.le_of_ble_eq_true rfl) ?_
  intro p e s m below meth c A Z hr hnm hA hP hD hS ls hl
  have Z : zC p s m _ meth c prog_6_method_6_code 2 "TraceMachines$Pair" G := Z
  obtain ⟨hx, hb, hml, hown, hts, hK, hN, hlocks⟩ := id Z
  have hl : lv_has ls 2 [(0, .ref b0), (1, .int b1)] := hl
  refine lv_aload_n hx hb d_Pair_meetX_0 rfl (lv_at hl 0 rfl) ?_
  refine va_get (D := G.1) (ci := 10) (v := .int b6) (C := R_Pair) (T := F_Pair) (N := 10) hx hb hts i_Pair hown hK hP 0 rfl rfl 4 (by decide) (hts _ q369) (fun _ h9 => h9) rfl d_Pair_meetX_1 ?_
  refine lv_aload_n hx hb d_Pair_meetX_4 rfl (lv_at hl 0 rfl) ?_
  refine va_get (D := G.1) (ci := 10) (v := .int b9) (C := R_Pair) (T := F_Pair) (N := 10) hx hb hts i_Pair hown hK hP 0 rfl rfl 7 (by decide) (hts _ q372) (fun _ h9 => h9) rfl d_Pair_meetX_5 ?_
  refine lv_icmp_eq (tgt := 16) hx hb d_Pair_meetX_8 (by decide) (fun hc_1 => ?_) (fun hc_1 => ?_)
  · have _nhc_1 := hc_1
    have ni_2 := (fa_eq _ _).mp hc_1
    refine lv_aload_n hx hb d_Pair_meetX_16 rfl (lv_at hl 0 rfl) ?_
    refine va_get (D := G.1) (ci := 10) (v := .int b6) (C := R_Pair) (T := F_Pair) (N := 10) hx hb hts i_Pair hown hK hP 0 rfl rfl 4 (by decide) (hts _ q369) (fun _ h9 => h9) rfl d_Pair_meetX_17 ?_
    refine lv_if_ne (tgt := 28) hx hb d_Pair_meetX_20 (by decide) (fun hc_3 => ?_) (fun hc_3 => ?_)
    · have _nhc_3 := hc_3
      have ni_4 : ¬ (b6 : Int32).toInt = (0 : Int32).toInt := fun z => hc_3 ((fa_eq _ _).mpr z)
      simp only [li_0] at ni_4
      refine lv_aload_n hx hb d_Pair_meetX_28 rfl (lv_at hl 0 rfl) ?_
      refine lv_iload_n hx hb d_Pair_meetX_29 rfl (lv_at hl 1 rfl) ?_
      refine va_put (D := G.1) (ci := 10) (v := .int b1) (ty := .int) (C := R_Pair) (T := F_Pair) (N := 10) hx hb hts i_Pair t_Pair t_Pair_ok n_Pair hown hK hP hD hS 0 rfl rfl 3 (by decide) (hts _ q368) (fun _ h9 => h9) rfl (by decide +kernel) rfl rfl (Nat.le_of_ble_eq_true rfl) d_Pair_meetX_30 (fun H locs hP hD hS => ?_)
      have hP : va_P G.1 classes [(b0, .inr (10, [.int b2, .int b3, .int b4, .int b1, .int b6, .int b7, .int b8, .int b9, .int b10, .int b11]))] H := hP
      have hD := z_tie hP hD rfl
      refine lv_aload_n hx hb d_Pair_meetX_33 rfl (lv_at hl 0 rfl) ?_
      refine lv_dup hx hb d_Pair_meetX_34 rfl ?_
      refine va_get (D := G.1) (ci := 10) (v := .int b6) (C := R_Pair) (T := F_Pair) (N := 10) hx hb hts i_Pair hown hK hP 0 rfl rfl 4 (by decide) (hts _ q369) (fun _ h9 => h9) rfl d_Pair_meetX_35 ?_
      refine lv_iconst (v := 1) hx hb d_Pair_meetX_38 (by decide) ?_
      refine lv_iadd hx hb d_Pair_meetX_39 ?_
      refine lv_topi (fun v_5 ev_5 => ?_)
      refine va_put (D := G.1) (ci := 10) (v := .int v_5) (ty := .int) (C := R_Pair) (T := F_Pair) (N := 10) hx hb hts i_Pair t_Pair t_Pair_ok n_Pair hown hK hP hD hS 0 rfl rfl 4 (by decide) (hts _ q369) (fun _ h9 => h9) rfl (by decide +kernel) rfl rfl (Nat.le_of_ble_eq_true rfl) d_Pair_meetX_40 (fun H locs hP hD hS => ?_)
      have hP : va_P G.1 classes [(b0, .inr (10, [.int b2, .int b3, .int b4, .int b1, .int v_5, .int b7, .int b8, .int b9, .int b10, .int b11]))] H := hP
      have hD := z_tie hP hD rfl
      exact z_vret hx hb hr hlocks hP hD hS (Nat.le_of_ble_eq_true rfl) (Nat.le_of_ble_eq_true rfl) d_Pair_meetX_43 ⟨b4, v_5, b11, rfl, rfl, hb11, ev_5, (by intro h9; first | rfl | (exfalso; omega)), (by intro h9; first | rfl | (exfalso; omega)), (by intro h9; first | rfl | (exfalso; omega)), (by intro h9; first | exact li_0 | (exfalso; omega))⟩
    · have _nhc_3 := hc_3
      have ni_6 := (fa_eq _ _).mp hc_3
      rw [li_0] at ni_6
      have hv_7 : zI b6 0 0 := zI.eq_l (zI_all b6) zc_0 hc_3
      refine lv_aload_n hx hb d_Pair_meetX_23 rfl (lv_at hl 0 rfl) ?_
      refine lv_iload_n hx hb d_Pair_meetX_24 rfl (lv_at hl 1 rfl) ?_
      refine va_put (D := G.1) (ci := 10) (v := .int b1) (ty := .int) (C := R_Pair) (T := F_Pair) (N := 10) hx hb hts i_Pair t_Pair t_Pair_ok n_Pair hown hK hP hD hS 0 rfl rfl 2 (by decide) (hts _ q367) (fun _ h9 => h9) rfl (by decide +kernel) rfl rfl (Nat.le_of_ble_eq_true rfl) d_Pair_meetX_25 (fun H locs hP hD hS => ?_)
      have hP : va_P G.1 classes [(b0, .inr (10, [.int b2, .int b3, .int b1, .int b5, .int b6, .int b7, .int b8, .int b9, .int b10, .int b11]))] H := hP
      have hD := z_tie hP hD rfl
      refine lv_aload_n hx hb d_Pair_meetX_28 rfl (lv_at hl 0 rfl) ?_
      refine lv_iload_n hx hb d_Pair_meetX_29 rfl (lv_at hl 1 rfl) ?_
      refine va_put (D := G.1) (ci := 10) (v := .int b1) (ty := .int) (C := R_Pair) (T := F_Pair) (N := 10) hx hb hts i_Pair t_Pair t_Pair_ok n_Pair hown hK hP hD hS 0 rfl rfl 3 (by decide) (hts _ q368) (fun _ h9 => h9) rfl (by decide +kernel) rfl rfl (Nat.le_of_ble_eq_true rfl) d_Pair_meetX_30 (fun H locs hP hD hS => ?_)
      have hP : va_P G.1 classes [(b0, .inr (10, [.int b2, .int b3, .int b1, .int b1, .int b6, .int b7, .int b8, .int b9, .int b10, .int b11]))] H := hP
      have hD := z_tie hP hD rfl
      refine lv_aload_n hx hb d_Pair_meetX_33 rfl (lv_at hl 0 rfl) ?_
      refine lv_dup hx hb d_Pair_meetX_34 rfl ?_
      refine va_get (D := G.1) (ci := 10) (v := .int b6) (C := R_Pair) (T := F_Pair) (N := 10) hx hb hts i_Pair hown hK hP 0 rfl rfl 4 (by decide) (hts _ q369) (fun _ h9 => h9) rfl d_Pair_meetX_35 ?_
      refine lv_iconst (v := 1) hx hb d_Pair_meetX_38 (by decide) ?_
      refine lv_iadd hx hb d_Pair_meetX_39 ?_
      refine lv_topi (fun v_8 ev_8 => ?_)
      obtain ⟨qv_8, hv_8⟩ := zI_add (l := 1) (h := 1) hv_7 zc_1 ev_8 (by decide)
      rw [li_1] at qv_8
      refine va_put (D := G.1) (ci := 10) (v := .int v_8) (ty := .int) (C := R_Pair) (T := F_Pair) (N := 10) hx hb hts i_Pair t_Pair t_Pair_ok n_Pair hown hK hP hD hS 0 rfl rfl 4 (by decide) (hts _ q369) (fun _ h9 => h9) rfl (by decide +kernel) rfl rfl (Nat.le_of_ble_eq_true rfl) d_Pair_meetX_40 (fun H locs hP hD hS => ?_)
      have hP : va_P G.1 classes [(b0, .inr (10, [.int b2, .int b3, .int b1, .int b1, .int v_8, .int b7, .int b8, .int b9, .int b10, .int b11]))] H := hP
      have hD := z_tie hP hD rfl
      exact z_vret hx hb hr hlocks hP hD hS (Nat.le_of_ble_eq_true rfl) (Nat.le_of_ble_eq_true rfl) d_Pair_meetX_43 ⟨b1, v_8, b11, rfl, rfl, hb11, ev_8, (by intro h9; first | rfl | (exfalso; omega)), (by intro h9; first | rfl | (exfalso; omega)), (by intro h9; first | rfl | (exfalso; omega)), (by intro h9; first | exact li_0 | (exfalso; omega))⟩
  · have _nhc_1 := hc_1
    have ni_9 : ¬ (b6 : Int32).toInt = (b9 : Int32).toInt := fun z => hc_1 ((fa_eq _ _).mpr z)
    refine lv_aload_n hx hb d_Pair_meetX_11 rfl (lv_at hl 0 rfl) ?_
    refine lv_iconst (v := 0) hx hb d_Pair_meetX_12 (by decide) ?_
    refine va_put (D := G.1) (ci := 10) (v := .int 0) (ty := .boolean) (C := R_Pair) (T := F_Pair) (N := 10) hx hb hts i_Pair t_Pair t_Pair_ok n_Pair hown hK hP hD hS 0 rfl rfl 9 (by decide) (hts _ q374) (fun _ h9 => h9) rfl (by decide +kernel) rfl rfl (Nat.le_of_ble_eq_true rfl) d_Pair_meetX_13 (fun H locs hP hD hS => ?_)
    have hP : va_P G.1 classes [(b0, .inr (10, [.int b2, .int b3, .int b4, .int b5, .int b6, .int b7, .int b8, .int b9, .int b10, .int 0]))] H := hP
    have hD := z_tie hP hD rfl
    refine lv_aload_n hx hb d_Pair_meetX_16 rfl (lv_at hl 0 rfl) ?_
    refine va_get (D := G.1) (ci := 10) (v := .int b6) (C := R_Pair) (T := F_Pair) (N := 10) hx hb hts i_Pair hown hK hP 0 rfl rfl 4 (by decide) (hts _ q369) (fun _ h9 => h9) rfl d_Pair_meetX_17 ?_
    refine lv_if_ne (tgt := 28) hx hb d_Pair_meetX_20 (by decide) (fun hc_10 => ?_) (fun hc_10 => ?_)
    · have _nhc_10 := hc_10
      have ni_11 : ¬ (b6 : Int32).toInt = (0 : Int32).toInt := fun z => hc_10 ((fa_eq _ _).mpr z)
      simp only [li_0] at ni_11
      refine lv_aload_n hx hb d_Pair_meetX_28 rfl (lv_at hl 0 rfl) ?_
      refine lv_iload_n hx hb d_Pair_meetX_29 rfl (lv_at hl 1 rfl) ?_
      refine va_put (D := G.1) (ci := 10) (v := .int b1) (ty := .int) (C := R_Pair) (T := F_Pair) (N := 10) hx hb hts i_Pair t_Pair t_Pair_ok n_Pair hown hK hP hD hS 0 rfl rfl 3 (by decide) (hts _ q368) (fun _ h9 => h9) rfl (by decide +kernel) rfl rfl (Nat.le_of_ble_eq_true rfl) d_Pair_meetX_30 (fun H locs hP hD hS => ?_)
      have hP : va_P G.1 classes [(b0, .inr (10, [.int b2, .int b3, .int b4, .int b1, .int b6, .int b7, .int b8, .int b9, .int b10, .int 0]))] H := hP
      have hD := z_tie hP hD rfl
      refine lv_aload_n hx hb d_Pair_meetX_33 rfl (lv_at hl 0 rfl) ?_
      refine lv_dup hx hb d_Pair_meetX_34 rfl ?_
      refine va_get (D := G.1) (ci := 10) (v := .int b6) (C := R_Pair) (T := F_Pair) (N := 10) hx hb hts i_Pair hown hK hP 0 rfl rfl 4 (by decide) (hts _ q369) (fun _ h9 => h9) rfl d_Pair_meetX_35 ?_
      refine lv_iconst (v := 1) hx hb d_Pair_meetX_38 (by decide) ?_
      refine lv_iadd hx hb d_Pair_meetX_39 ?_
      refine lv_topi (fun v_12 ev_12 => ?_)
      refine va_put (D := G.1) (ci := 10) (v := .int v_12) (ty := .int) (C := R_Pair) (T := F_Pair) (N := 10) hx hb hts i_Pair t_Pair t_Pair_ok n_Pair hown hK hP hD hS 0 rfl rfl 4 (by decide) (hts _ q369) (fun _ h9 => h9) rfl (by decide +kernel) rfl rfl (Nat.le_of_ble_eq_true rfl) d_Pair_meetX_40 (fun H locs hP hD hS => ?_)
      have hP : va_P G.1 classes [(b0, .inr (10, [.int b2, .int b3, .int b4, .int b1, .int v_12, .int b7, .int b8, .int b9, .int b10, .int 0]))] H := hP
      have hD := z_tie hP hD rfl
      exact z_vret hx hb hr hlocks hP hD hS (Nat.le_of_ble_eq_true rfl) (Nat.le_of_ble_eq_true rfl) d_Pair_meetX_43 ⟨b4, v_12, 0, rfl, rfl, (zI.wk (l' := 0) (h' := 1) zc_0 (by decide)), ev_12, (by intro h9; first | rfl | (exfalso; omega)), (by intro h9; first | rfl | (exfalso; omega)), (by intro h9; first | rfl | (exfalso; omega)), (by intro h9; first | exact li_0 | (exfalso; omega))⟩
    · have _nhc_10 := hc_10
      have ni_13 := (fa_eq _ _).mp hc_10
      rw [li_0] at ni_13
      have hv_14 : zI b6 0 0 := zI.eq_l (zI_all b6) zc_0 hc_10
      refine lv_aload_n hx hb d_Pair_meetX_23 rfl (lv_at hl 0 rfl) ?_
      refine lv_iload_n hx hb d_Pair_meetX_24 rfl (lv_at hl 1 rfl) ?_
      refine va_put (D := G.1) (ci := 10) (v := .int b1) (ty := .int) (C := R_Pair) (T := F_Pair) (N := 10) hx hb hts i_Pair t_Pair t_Pair_ok n_Pair hown hK hP hD hS 0 rfl rfl 2 (by decide) (hts _ q367) (fun _ h9 => h9) rfl (by decide +kernel) rfl rfl (Nat.le_of_ble_eq_true rfl) d_Pair_meetX_25 (fun H locs hP hD hS => ?_)
      have hP : va_P G.1 classes [(b0, .inr (10, [.int b2, .int b3, .int b1, .int b5, .int b6, .int b7, .int b8, .int b9, .int b10, .int 0]))] H := hP
      have hD := z_tie hP hD rfl
      refine lv_aload_n hx hb d_Pair_meetX_28 rfl (lv_at hl 0 rfl) ?_
      refine lv_iload_n hx hb d_Pair_meetX_29 rfl (lv_at hl 1 rfl) ?_
      refine va_put (D := G.1) (ci := 10) (v := .int b1) (ty := .int) (C := R_Pair) (T := F_Pair) (N := 10) hx hb hts i_Pair t_Pair t_Pair_ok n_Pair hown hK hP hD hS 0 rfl rfl 3 (by decide) (hts _ q368) (fun _ h9 => h9) rfl (by decide +kernel) rfl rfl (Nat.le_of_ble_eq_true rfl) d_Pair_meetX_30 (fun H locs hP hD hS => ?_)
      have hP : va_P G.1 classes [(b0, .inr (10, [.int b2, .int b3, .int b1, .int b1, .int b6, .int b7, .int b8, .int b9, .int b10, .int 0]))] H := hP
      have hD := z_tie hP hD rfl
      refine lv_aload_n hx hb d_Pair_meetX_33 rfl (lv_at hl 0 rfl) ?_
      refine lv_dup hx hb d_Pair_meetX_34 rfl ?_
      refine va_get (D := G.1) (ci := 10) (v := .int b6) (C := R_Pair) (T := F_Pair) (N := 10) hx hb hts i_Pair hown hK hP 0 rfl rfl 4 (by decide) (hts _ q369) (fun _ h9 => h9) rfl d_Pair_meetX_35 ?_
      refine lv_iconst (v := 1) hx hb d_Pair_meetX_38 (by decide) ?_
      refine lv_iadd hx hb d_Pair_meetX_39 ?_
      refine lv_topi (fun v_15 ev_15 => ?_)
      obtain ⟨qv_15, hv_15⟩ := zI_add (l := 1) (h := 1) hv_14 zc_1 ev_15 (by decide)
      rw [li_1] at qv_15
      refine va_put (D := G.1) (ci := 10) (v := .int v_15) (ty := .int) (C := R_Pair) (T := F_Pair) (N := 10) hx hb hts i_Pair t_Pair t_Pair_ok n_Pair hown hK hP hD hS 0 rfl rfl 4 (by decide) (hts _ q369) (fun _ h9 => h9) rfl (by decide +kernel) rfl rfl (Nat.le_of_ble_eq_true rfl) d_Pair_meetX_40 (fun H locs hP hD hS => ?_)
      have hP : va_P G.1 classes [(b0, .inr (10, [.int b2, .int b3, .int b1, .int b1, .int v_15, .int b7, .int b8, .int b9, .int b10, .int 0]))] H := hP
      have hD := z_tie hP hD rfl
      exact z_vret hx hb hr hlocks hP hD hS (Nat.le_of_ble_eq_true rfl) (Nat.le_of_ble_eq_true rfl) d_Pair_meetX_43 ⟨b1, v_15, 0, rfl, rfl, (zI.wk (l' := 0) (h' := 1) zc_0 (by decide)), ev_15, (by intro h9; first | rfl | (exfalso; omega)), (by intro h9; first | rfl | (exfalso; omega)), (by intro h9; first | rfl | (exfalso; omega)), (by intro h9; first | exact li_0 | (exfalso; omega))⟩
abbrev m_s8_Pair_meetY : Room := { frames := 0, cells := 0, slots := 0, locals := 0 }
set_option maxHeartbeats 4000000 in
set_option maxRecDepth 100000 in
theorem s8_Pair_meetY (l : Launch) (G : zG) (b0 : Nat) (b1 : Int32) (b2 : Int32) (b3 : Int32) (b4 : Int32) (b5 : Int32) (b6 : Int32) (b7 : Int32) (b8 : Int32) (b9 : Int32) (b10 : Int32) (b11 : Int32) (hb1 : zI b1 0 11) (hb10 : zI b10 0 1) (hb11 : zI b11 0 1) : zM l G y_Pair_meetY prog_6_method_7_code 2 (Option.none : Option Jvm.ClassFile.FieldType) m_s8_Pair_meetY [.ref b0, .int b1] [(b0, .inr (10, [.int b2, .int b3, .int b4, .int b5, .int b6, .int b7, .int b8, .int b9, .int b10, .int b11]))] (fun v w => ∃ (e0 : Int32), ∃ (e1 : Int32), ∃ (e2 : Int32), v = none ∧ w = [(b0, .inr (10, [.int b2, .int b3, .int b4, .int b5, .int b6, .int e0, .int b1, .int e1, .int b10, .int e2]))] ∧ (zI e2 0 1) ∧ ((e1 : Int32) = (b9 : Int32) + 1) ∧ ((b9 : Int32).toInt = 0 → (e0 : Int32) = b1) ∧ (¬ (b9 : Int32).toInt = 0 → (e0 : Int32) = (b7 : Int32)) ∧ ((b6 : Int32) = (b9 : Int32) + 1 → (e2 : Int32) = (b11 : Int32)) ∧ (¬ (b6 : Int32) = (b9 : Int32) + 1 → (e2 : Int32).toInt = 0)) := by
  refine z_start (by decide +kernel) (Nat.le_of_ble_eq_true rfl) ?_
  intro p e s m below meth c A Z hr hnm hA hP hD hS ls hl
  have Z : zC p s m _ meth c prog_6_method_7_code 2 "TraceMachines$Pair" G := Z
  obtain ⟨hx, hb, hml, hown, hts, hK, hN, hlocks⟩ := id Z
  have hl : lv_has ls 2 [(0, .ref b0), (1, .int b1)] := hl
  refine lv_aload_n hx hb d_Pair_meetY_0 rfl (lv_at hl 0 rfl) ?_
  refine va_get (D := G.1) (ci := 10) (v := .int b6) (C := R_Pair) (T := F_Pair) (N := 10) hx hb hts i_Pair hown hK hP 0 rfl rfl 4 (by decide) (hts _ q369) (fun _ h9 => h9) rfl d_Pair_meetY_1 ?_
  refine lv_aload_n hx hb d_Pair_meetY_4 rfl (lv_at hl 0 rfl) ?_
  refine va_get (D := G.1) (ci := 10) (v := .int b9) (C := R_Pair) (T := F_Pair) (N := 10) hx hb hts i_Pair hown hK hP 0 rfl rfl 7 (by decide) (hts _ q372) (fun _ h9 => h9) rfl d_Pair_meetY_5 ?_
  refine lv_iconst (v := 1) hx hb d_Pair_meetY_8 (by decide) ?_
  refine lv_iadd hx hb d_Pair_meetY_9 ?_
  refine lv_topi (fun v_1 ev_1 => ?_)
  refine lv_icmp_eq (tgt := 18) hx hb d_Pair_meetY_10 (by decide) (fun hc_2 => ?_) (fun hc_2 => ?_)
  · have _nhc_2 := hc_2
    have ni_3 := (fa_eq _ _).mp hc_2
    refine lv_aload_n hx hb d_Pair_meetY_18 rfl (lv_at hl 0 rfl) ?_
    refine va_get (D := G.1) (ci := 10) (v := .int b9) (C := R_Pair) (T := F_Pair) (N := 10) hx hb hts i_Pair hown hK hP 0 rfl rfl 7 (by decide) (hts _ q372) (fun _ h9 => h9) rfl d_Pair_meetY_19 ?_
    refine lv_if_ne (tgt := 30) hx hb d_Pair_meetY_22 (by decide) (fun hc_4 => ?_) (fun hc_4 => ?_)
    · have _nhc_4 := hc_4
      have ni_5 : ¬ (b9 : Int32).toInt = (0 : Int32).toInt := fun z => hc_4 ((fa_eq _ _).mpr z)
      simp only [li_0] at ni_5
      refine lv_aload_n hx hb d_Pair_meetY_30 rfl (lv_at hl 0 rfl) ?_
      refine lv_iload_n hx hb d_Pair_meetY_31 rfl (lv_at hl 1 rfl) ?_
      refine va_put (D := G.1) (ci := 10) (v := .int b1) (ty := .int) (C := R_Pair) (T := F_Pair) (N := 10) hx hb hts i_Pair t_Pair t_Pair_ok n_Pair hown hK hP hD hS 0 rfl rfl 6 (by decide) (hts _ q371) (fun _ h9 => h9) rfl (by decide +kernel) rfl rfl (Nat.le_of_ble_eq_true rfl) d_Pair_meetY_32 (fun H locs hP hD hS => ?_)
      have hP : va_P G.1 classes [(b0, .inr (10, [.int b2, .int b3, .int b4, .int b5, .int b6, .int b7, .int b1, .int b9, .int b10, .int b11]))] H := hP
      have hD := z_tie hP hD rfl
      refine lv_aload_n hx hb d_Pair_meetY_35 rfl (lv_at hl 0 rfl) ?_
      refine lv_dup hx hb d_Pair_meetY_36 rfl ?_
      refine va_get (D := G.1) (ci := 10) (v := .int b9) (C := R_Pair) (T := F_Pair) (N := 10) hx hb hts i_Pair hown hK hP 0 rfl rfl 7 (by decide) (hts _ q372) (fun _ h9 => h9) rfl d_Pair_meetY_37 ?_
      refine lv_iconst (v := 1) hx hb d_Pair_meetY_40 (by decide) ?_
      refine lv_iadd hx hb d_Pair_meetY_41 ?_
      refine lv_topi (fun v_6 ev_6 => ?_)
      obtain rfl : v_1 = v_6 := ev_1.trans ev_6.symm
      refine va_put (D := G.1) (ci := 10) (v := .int v_1) (ty := .int) (C := R_Pair) (T := F_Pair) (N := 10) hx hb hts i_Pair t_Pair t_Pair_ok n_Pair hown hK hP hD hS 0 rfl rfl 7 (by decide) (hts _ q372) (fun _ h9 => h9) rfl (by decide +kernel) rfl rfl (Nat.le_of_ble_eq_true rfl) d_Pair_meetY_42 (fun H locs hP hD hS => ?_)
      have hP : va_P G.1 classes [(b0, .inr (10, [.int b2, .int b3, .int b4, .int b5, .int b6, .int b7, .int b1, .int v_1, .int b10, .int b11]))] H := hP
      have hD := z_tie hP hD rfl
      exact z_vret hx hb hr hlocks hP hD hS (Nat.le_of_ble_eq_true rfl) (Nat.le_of_ble_eq_true rfl) d_Pair_meetY_45 ⟨b7, v_1, b11, rfl, rfl, hb11, ev_1, (by intro h9; first | rfl | (exfalso; omega)), (by intro h9; first | rfl | (exfalso; omega)), (by intro h9; have h8 := congrArg Int32.toInt (h9.trans ev_1.symm); first | rfl | (exfalso; omega)), (by intro h9; first | exact li_0 | (exfalso; exact h9 (((fa_eq _ _).mpr (by omega)).trans ev_1)))⟩
    · have _nhc_4 := hc_4
      have ni_7 := (fa_eq _ _).mp hc_4
      rw [li_0] at ni_7
      have hv_8 : zI b9 0 0 := zI.eq_l (zI_all b9) zc_0 hc_4
      refine lv_aload_n hx hb d_Pair_meetY_25 rfl (lv_at hl 0 rfl) ?_
      refine lv_iload_n hx hb d_Pair_meetY_26 rfl (lv_at hl 1 rfl) ?_
      refine va_put (D := G.1) (ci := 10) (v := .int b1) (ty := .int) (C := R_Pair) (T := F_Pair) (N := 10) hx hb hts i_Pair t_Pair t_Pair_ok n_Pair hown hK hP hD hS 0 rfl rfl 5 (by decide) (hts _ q370) (fun _ h9 => h9) rfl (by decide +kernel) rfl rfl (Nat.le_of_ble_eq_true rfl) d_Pair_meetY_27 (fun H locs hP hD hS => ?_)
      have hP : va_P G.1 classes [(b0, .inr (10, [.int b2, .int b3, .int b4, .int b5, .int b6, .int b1, .int b8, .int b9, .int b10, .int b11]))] H := hP
      have hD := z_tie hP hD rfl
      refine lv_aload_n hx hb d_Pair_meetY_30 rfl (lv_at hl 0 rfl) ?_
      refine lv_iload_n hx hb d_Pair_meetY_31 rfl (lv_at hl 1 rfl) ?_
      refine va_put (D := G.1) (ci := 10) (v := .int b1) (ty := .int) (C := R_Pair) (T := F_Pair) (N := 10) hx hb hts i_Pair t_Pair t_Pair_ok n_Pair hown hK hP hD hS 0 rfl rfl 6 (by decide) (hts _ q371) (fun _ h9 => h9) rfl (by decide +kernel) rfl rfl (Nat.le_of_ble_eq_true rfl) d_Pair_meetY_32 (fun H locs hP hD hS => ?_)
      have hP : va_P G.1 classes [(b0, .inr (10, [.int b2, .int b3, .int b4, .int b5, .int b6, .int b1, .int b1, .int b9, .int b10, .int b11]))] H := hP
      have hD := z_tie hP hD rfl
      refine lv_aload_n hx hb d_Pair_meetY_35 rfl (lv_at hl 0 rfl) ?_
      refine lv_dup hx hb d_Pair_meetY_36 rfl ?_
      refine va_get (D := G.1) (ci := 10) (v := .int b9) (C := R_Pair) (T := F_Pair) (N := 10) hx hb hts i_Pair hown hK hP 0 rfl rfl 7 (by decide) (hts _ q372) (fun _ h9 => h9) rfl d_Pair_meetY_37 ?_
      refine lv_iconst (v := 1) hx hb d_Pair_meetY_40 (by decide) ?_
      refine lv_iadd hx hb d_Pair_meetY_41 ?_
      refine lv_topi (fun v_9 ev_9 => ?_)
      obtain rfl : v_1 = v_9 := ev_1.trans ev_9.symm
      refine va_put (D := G.1) (ci := 10) (v := .int v_1) (ty := .int) (C := R_Pair) (T := F_Pair) (N := 10) hx hb hts i_Pair t_Pair t_Pair_ok n_Pair hown hK hP hD hS 0 rfl rfl 7 (by decide) (hts _ q372) (fun _ h9 => h9) rfl (by decide +kernel) rfl rfl (Nat.le_of_ble_eq_true rfl) d_Pair_meetY_42 (fun H locs hP hD hS => ?_)
      have hP : va_P G.1 classes [(b0, .inr (10, [.int b2, .int b3, .int b4, .int b5, .int b6, .int b1, .int b1, .int v_1, .int b10, .int b11]))] H := hP
      have hD := z_tie hP hD rfl
      exact z_vret hx hb hr hlocks hP hD hS (Nat.le_of_ble_eq_true rfl) (Nat.le_of_ble_eq_true rfl) d_Pair_meetY_45 ⟨b1, v_1, b11, rfl, rfl, hb11, ev_1, (by intro h9; first | rfl | (exfalso; omega)), (by intro h9; first | rfl | (exfalso; omega)), (by intro h9; have h8 := congrArg Int32.toInt (h9.trans ev_1.symm); first | rfl | (exfalso; omega)), (by intro h9; first | exact li_0 | (exfalso; exact h9 (((fa_eq _ _).mpr (by omega)).trans ev_1)))⟩
  · have _nhc_2 := hc_2
    have ni_10 : ¬ (b6 : Int32).toInt = (v_1 : Int32).toInt := fun z => hc_2 ((fa_eq _ _).mpr z)
    refine lv_aload_n hx hb d_Pair_meetY_13 rfl (lv_at hl 0 rfl) ?_
    refine lv_iconst (v := 0) hx hb d_Pair_meetY_14 (by decide) ?_
    refine va_put (D := G.1) (ci := 10) (v := .int 0) (ty := .boolean) (C := R_Pair) (T := F_Pair) (N := 10) hx hb hts i_Pair t_Pair t_Pair_ok n_Pair hown hK hP hD hS 0 rfl rfl 9 (by decide) (hts _ q374) (fun _ h9 => h9) rfl (by decide +kernel) rfl rfl (Nat.le_of_ble_eq_true rfl) d_Pair_meetY_15 (fun H locs hP hD hS => ?_)
    have hP : va_P G.1 classes [(b0, .inr (10, [.int b2, .int b3, .int b4, .int b5, .int b6, .int b7, .int b8, .int b9, .int b10, .int 0]))] H := hP
    have hD := z_tie hP hD rfl
    refine lv_aload_n hx hb d_Pair_meetY_18 rfl (lv_at hl 0 rfl) ?_
    refine va_get (D := G.1) (ci := 10) (v := .int b9) (C := R_Pair) (T := F_Pair) (N := 10) hx hb hts i_Pair hown hK hP 0 rfl rfl 7 (by decide) (hts _ q372) (fun _ h9 => h9) rfl d_Pair_meetY_19 ?_
    refine lv_if_ne (tgt := 30) hx hb d_Pair_meetY_22 (by decide) (fun hc_11 => ?_) (fun hc_11 => ?_)
    · have _nhc_11 := hc_11
      have ni_12 : ¬ (b9 : Int32).toInt = (0 : Int32).toInt := fun z => hc_11 ((fa_eq _ _).mpr z)
      simp only [li_0] at ni_12
      refine lv_aload_n hx hb d_Pair_meetY_30 rfl (lv_at hl 0 rfl) ?_
      refine lv_iload_n hx hb d_Pair_meetY_31 rfl (lv_at hl 1 rfl) ?_
      refine va_put (D := G.1) (ci := 10) (v := .int b1) (ty := .int) (C := R_Pair) (T := F_Pair) (N := 10) hx hb hts i_Pair t_Pair t_Pair_ok n_Pair hown hK hP hD hS 0 rfl rfl 6 (by decide) (hts _ q371) (fun _ h9 => h9) rfl (by decide +kernel) rfl rfl (Nat.le_of_ble_eq_true rfl) d_Pair_meetY_32 (fun H locs hP hD hS => ?_)
      have hP : va_P G.1 classes [(b0, .inr (10, [.int b2, .int b3, .int b4, .int b5, .int b6, .int b7, .int b1, .int b9, .int b10, .int 0]))] H := hP
      have hD := z_tie hP hD rfl
      refine lv_aload_n hx hb d_Pair_meetY_35 rfl (lv_at hl 0 rfl) ?_
      refine lv_dup hx hb d_Pair_meetY_36 rfl ?_
      refine va_get (D := G.1) (ci := 10) (v := .int b9) (C := R_Pair) (T := F_Pair) (N := 10) hx hb hts i_Pair hown hK hP 0 rfl rfl 7 (by decide) (hts _ q372) (fun _ h9 => h9) rfl d_Pair_meetY_37 ?_
      refine lv_iconst (v := 1) hx hb d_Pair_meetY_40 (by decide) ?_
      refine lv_iadd hx hb d_Pair_meetY_41 ?_
      refine lv_topi (fun v_13 ev_13 => ?_)
      obtain rfl : v_1 = v_13 := ev_1.trans ev_13.symm
      refine va_put (D := G.1) (ci := 10) (v := .int v_1) (ty := .int) (C := R_Pair) (T := F_Pair) (N := 10) hx hb hts i_Pair t_Pair t_Pair_ok n_Pair hown hK hP hD hS 0 rfl rfl 7 (by decide) (hts _ q372) (fun _ h9 => h9) rfl (by decide +kernel) rfl rfl (Nat.le_of_ble_eq_true rfl) d_Pair_meetY_42 (fun H locs hP hD hS => ?_)
      have hP : va_P G.1 classes [(b0, .inr (10, [.int b2, .int b3, .int b4, .int b5, .int b6, .int b7, .int b1, .int v_1, .int b10, .int 0]))] H := hP
      have hD := z_tie hP hD rfl
      exact z_vret hx hb hr hlocks hP hD hS (Nat.le_of_ble_eq_true rfl) (Nat.le_of_ble_eq_true rfl) d_Pair_meetY_45 ⟨b7, v_1, 0, rfl, rfl, (zI.wk (l' := 0) (h' := 1) zc_0 (by decide)), ev_1, (by intro h9; first | rfl | (exfalso; omega)), (by intro h9; first | rfl | (exfalso; omega)), (by intro h9; have h8 := congrArg Int32.toInt (h9.trans ev_1.symm); first | rfl | (exfalso; omega)), (by intro h9; first | exact li_0 | (exfalso; exact h9 (((fa_eq _ _).mpr (by omega)).trans ev_1)))⟩
    · have _nhc_11 := hc_11
      have ni_14 := (fa_eq _ _).mp hc_11
      rw [li_0] at ni_14
      have hv_15 : zI b9 0 0 := zI.eq_l (zI_all b9) zc_0 hc_11
      refine lv_aload_n hx hb d_Pair_meetY_25 rfl (lv_at hl 0 rfl) ?_
      refine lv_iload_n hx hb d_Pair_meetY_26 rfl (lv_at hl 1 rfl) ?_
      refine va_put (D := G.1) (ci := 10) (v := .int b1) (ty := .int) (C := R_Pair) (T := F_Pair) (N := 10) hx hb hts i_Pair t_Pair t_Pair_ok n_Pair hown hK hP hD hS 0 rfl rfl 5 (by decide) (hts _ q370) (fun _ h9 => h9) rfl (by decide +kernel) rfl rfl (Nat.le_of_ble_eq_true rfl) d_Pair_meetY_27 (fun H locs hP hD hS => ?_)
      have hP : va_P G.1 classes [(b0, .inr (10, [.int b2, .int b3, .int b4, .int b5, .int b6, .int b1, .int b8, .int b9, .int b10, .int 0]))] H := hP
      have hD := z_tie hP hD rfl
      refine lv_aload_n hx hb d_Pair_meetY_30 rfl (lv_at hl 0 rfl) ?_
      refine lv_iload_n hx hb d_Pair_meetY_31 rfl (lv_at hl 1 rfl) ?_
      refine va_put (D := G.1) (ci := 10) (v := .int b1) (ty := .int) (C := R_Pair) (T := F_Pair) (N := 10) hx hb hts i_Pair t_Pair t_Pair_ok n_Pair hown hK hP hD hS 0 rfl rfl 6 (by decide) (hts _ q371) (fun _ h9 => h9) rfl (by decide +kernel) rfl rfl (Nat.le_of_ble_eq_true rfl) d_Pair_meetY_32 (fun H locs hP hD hS => ?_)
      have hP : va_P G.1 classes [(b0, .inr (10, [.int b2, .int b3, .int b4, .int b5, .int b6, .int b1, .int b1, .int b9, .int b10, .int 0]))] H := hP
      have hD := z_tie hP hD rfl
      refine lv_aload_n hx hb d_Pair_meetY_35 rfl (lv_at hl 0 rfl) ?_
      refine lv_dup hx hb d_Pair_meetY_36 rfl ?_
      refine va_get (D := G.1) (ci := 10) (v := .int b9) (C := R_Pair) (T := F_Pair) (N := 10) hx hb hts i_Pair hown hK hP 0 rfl rfl 7 (by decide) (hts _ q372) (fun _ h9 => h9) rfl d_Pair_meetY_37 ?_
      refine lv_iconst (v := 1) hx hb d_Pair_meetY_40 (by decide) ?_
      refine lv_iadd hx hb d_Pair_meetY_41 ?_
      refine lv_topi (fun v_16 ev_16 => ?_)
      obtain rfl : v_1 = v_16 := ev_1.trans ev_16.symm
      refine va_put (D := G.1) (ci := 10) (v := .int v_1) (ty := .int) (C := R_Pair) (T := F_Pair) (N := 10) hx hb hts i_Pair t_Pair t_Pair_ok n_Pair hown hK hP hD hS 0 rfl rfl 7 (by decide) (hts _ q372) (fun _ h9 => h9) rfl (by decide +kernel) rfl rfl (Nat.le_of_ble_eq_true rfl) d_Pair_meetY_42 (fun H locs hP hD hS => ?_)
      have hP : va_P G.1 classes [(b0, .inr (10, [.int b2, .int b3, .int b4, .int b5, .int b6, .int b1, .int b1, .int v_1, .int b10, .int 0]))] H := hP
      have hD := z_tie hP hD rfl
      exact z_vret hx hb hr hlocks hP hD hS (Nat.le_of_ble_eq_true rfl) (Nat.le_of_ble_eq_true rfl) d_Pair_meetY_45 ⟨b1, v_1, 0, rfl, rfl, (zI.wk (l' := 0) (h' := 1) zc_0 (by decide)), ev_1, (by intro h9; first | rfl | (exfalso; omega)), (by intro h9; first | rfl | (exfalso; omega)), (by intro h9; have h8 := congrArg Int32.toInt (h9.trans ev_1.symm); first | rfl | (exfalso; omega)), (by intro h9; first | exact li_0 | (exfalso; exact h9 (((fa_eq _ _).mpr (by omega)).trans ev_1)))⟩
abbrev m_s9_Pair_look : Room := { frames := 1, cells := 0, slots := 0, locals := 22 }
set_option maxHeartbeats 4000000 in
set_option maxRecDepth 100000 in
theorem s9_Pair_look (l : Launch) (G : zG) (b0 : Nat) (b1 : Nat) (b2 : Int32) (b3 : Int32) (b4 : Int32) (b5 : Int32) (b6 : Int32) (b7 : Int32) (b8 : Int32) (b9 : Int32) (b10 : Int32) (b11 : Int32) (b12 : Int32) (b13 : Int32) (b14 : Int32) (b15 : Int32) (b16 : Int32) (b17 : Int32) (b18 : Nat) (b19 : Nat) (b20 : Nat) (b21 : Nat → Int32) (b22 : Nat → Int32) (hb2 : zI b2 0 19) (hb13 : zI b13 0 1) (hb14 : zI b14 0 1) (hb15 : zI b15 0 20) (hb16 : zI b16 0 3) (hb17 : zI b17 0 20) (hb21 : zR b21 0 12) (hb22 : zR b22 0 9) : zM l G y_Pair_look prog_6_method_4_code 8 (Option.none : Option Jvm.ClassFile.FieldType) m_s9_Pair_look [.ref b0, .ref b1, .int b2, .int b3, .int b4] [(b0, .inr (10, [.int b5, .int b6, .int b7, .int b8, .int b9, .int b10, .int b11, .int b12, .int b13, .int b14])), (b1, .inr (2, [.int b15, .int b16, .int b17, .ref b18, .ref b19, .ref b20])), (b18, .inl (G.2 0, 20, .inl b21)), (b19, .inl (G.2 0, 240, .inl b22))] (fun v w => ∃ (e0 : Int32), ∃ (e1 : Int32), ∃ (e2 : Int32), ∃ (e3 : Int32), ∃ (e4 : Int32), ∃ (e5 : Int32), ∃ (e6 : Int32), ∃ (e7 : Int32), v = none ∧ w = [(b0, .inr (10, [.int b5, .int b6, .int e0, .int e1, .int e2, .int e3, .int e4, .int e5, .int e6, .int e7])), (b1, .inr (2, [.int b15, .int b16, .int b17, .ref b18, .ref b19, .ref b20])), (b18, .inl (G.2 0, 20, .inl b21)), (b19, .inl (G.2 0, 240, .inl b22))] ∧ (zI e1 (-1) 11) ∧ (zI e4 (-1) 11) ∧ (zI e6 0 1) ∧ (zI e7 0 1) ∧ (¬ b3 = b4 → zLf (e2 : Int32).toInt (e5 : Int32).toInt (e0 : Int32).toInt (e1 : Int32).toInt (e3 : Int32).toInt (e4 : Int32).toInt (e6 : Int32).toInt (e7 : Int32).toInt (fun i => b22 (0 + (12 * (b2 : Int32).toInt.toNat + i))) (b21 (0 + (b2 : Int32).toInt.toNat)).toInt.toNat b3 b4)) := by
  refine z_start (by decide +kernel) (Nat.le_of_ble_eq_true rfl) ?_
  intro p e s m below meth c A Z hr hnm hA hP hD hS ls hl
  have Z : zC p s m _ meth c prog_6_method_4_code 8 "TraceMachines$Pair" G := Z
  obtain ⟨hx, hb, hml, hown, hts, hK, hN, hlocks⟩ := id Z
  have hl : lv_has ls 8 [(0, .ref b0), (1, .ref b1), (2, .int b2), (3, .int b3), (4, .int b4)] := hl
  refine lv_aload_n hx hb d_Pair_look_0 rfl (lv_at hl 0 rfl) ?_
  refine z_callV (index := 37) (As := []) (rest := []) (wr := [(b1, .inr (2, [.int b15, .int b16, .int b17, .ref b18, .ref b19, .ref b20])), (b18, .inl (G.2 0, 20, .inl b21)), (b19, .inl (G.2 0, 240, .inl b22))]) Z (s2_Pair_forgetLooks l G (b0) (b5) (b6) (b7) (b8) (b9) (b10) (b11) (b12) (b13) (b14) hb13 hb14) hl.1 q927 q929 qs33 q11 q930 ⟨by decide, by decide, by show _ = some 0; decide +kernel⟩ ⟨Nat.le_of_ble_eq_true rfl, Nat.le_of_ble_eq_true rfl⟩ ⟨Nat.le_of_ble_eq_true rfl, Nat.le_of_ble_eq_true rfl⟩ rfl (Nat.le_of_ble_eq_true rfl) d_Pair_look_1 hP hD hS hA 0 10 rfl rfl rfl [0] [1, 2, 3] rfl rfl rfl rfl (by decide) (fun v w1 H locs hw_1 hP hD hS => ?_)
  obtain ⟨rfl, rfl⟩ := hw_1
  have hP : va_P G.1 classes [(b1, .inr (2, [.int b15, .int b16, .int b17, .ref b18, .ref b19, .ref b20])), (b18, .inl (G.2 0, 20, .inl b21)), (b19, .inl (G.2 0, 240, .inl b22)), (b0, .inr (10, [.int b5, .int b6, .int (-1), .int (-1), .int 0, .int (-1), .int (-1), .int 0, .int 1, .int 1]))] H := hP
  have hD := z_tie hP hD rfl
  refine W.widen (k := 0) (n := 0) (Nat.le_of_ble_eq_true rfl) (Nat.le_of_ble_eq_true rfl) ?_
  refine lv_aload_n hx hb d_Pair_look_4 rfl (lv_at hl 1 rfl) ?_
  refine va_get (D := G.1) (ci := 2) (v := .ref b18) (C := R_Traces) (T := F_Traces) (N := 6) hx hb hts i_Traces hown hK hP 0 rfl rfl 3 (by decide) (hts _ q67) (fun _ h9 => h9) rfl d_Pair_look_5 ?_
  refine lv_iload_n hx hb d_Pair_look_8 rfl (lv_at hl 2 rfl) ?_
  refine va_iald hx hb hK hP 1 0 rfl rfl (zI.inn hb2 (by decide)) d_Pair_look_9 ?_
  refine lv_topi (fun v_2 ev_2 => ?_)
  have hv_2 : zI v_2 0 12 := (hb21 _).eq ev_2
  refine lv_istore (lv' := [(5, .int v_2), (0, .ref b0), (1, .ref b1), (2, .int b2), (3, .int b3), (4, .int b4)]) hx hb d_Pair_look_10 hl (by decide) rfl (fun ls hl => ?_)
  refine lv_iconst (v := 0) hx hb d_Pair_look_12 (by decide) ?_
  refine lv_istore (lv' := [(6, .int 0), (5, .int v_2), (0, .ref b0), (1, .ref b1), (2, .int b2), (3, .int b3), (4, .int b4)]) hx hb d_Pair_look_13 hl (by decide) rfl (fun ls hl => ?_)
  suffices key : ∀ (k_69 : Nat) (y_70 : Int32) (y_71 : Int32) (y_72 : Int32) (y_73 : Int32) (y_74 : Int32) (y_75 : Int32) (y_76 : Int32) (y_77 : Int32) (y_78 : Int32) (H : Heap) (locs : List Loc) (ls : Array Slot), (zI y_70 0 12) → (zI y_72 (-1) 11) → (zI y_74 0 1) → (zI y_76 (-1) 11) → (zI y_78 0 1) → ((y_70 : Int32).toInt ≤ (v_2 : Int32).toInt) → (¬ b3 = b4 → zLk (y_77 : Int32).toInt (y_73 : Int32).toInt (y_75 : Int32).toInt (y_76 : Int32).toInt (y_71 : Int32).toInt (y_72 : Int32).toInt (y_78 : Int32).toInt (y_74 : Int32).toInt (fun i => b22 (0 + (12 * (b2 : Int32).toInt.toNat + i))) (b21 (0 + (b2 : Int32).toInt.toNat)).toInt.toNat b3 b4 (y_70 : Int32).toInt.toNat) → (12 : Int) - y_70.toInt < (k_69 : Int) → va_P G.1 classes [(b1, .inr (2, [.int b15, .int b16, .int b17, .ref b18, .ref b19, .ref b20])), (b18, .inl (G.2 0, 20, .inl b21)), (b19, .inl (G.2 0, 240, .inl b22)), (b0, .inr (10, [.int b5, .int b6, .int y_75, .int y_76, .int y_77, .int y_71, .int y_72, .int y_73, .int y_78, .int y_74]))] H → va_D A [(b1, .inr (2, [.int b15, .int b16, .int b17, .ref b18, .ref b19, .ref b20])), (b18, .inl (G.2 0, 20, .inl b21)), (b19, .inl (G.2 0, 240, .inl b22)), (b0, .inr (10, [.int b5, .int b6, .int y_75, .int y_76, .int y_77, .int y_71, .int y_72, .int y_73, .int y_78, .int y_74]))] → va_S A s.heap H locs → lv_has ls 8 [(6, .int y_70), (5, .int v_2), (0, .ref b0), (1, .ref b1), (2, .int b2), (3, .int b3), (4, .int b4)] → W p l e m_s9_Pair_look s m ([.ref b0, .ref b1, .int b2, .int b3, .int b4] : List Value).toArray below meth c H locs 0 0 (MQ below (zQ G (fun v w => ∃ (e0 : Int32), ∃ (e1 : Int32), ∃ (e2 : Int32), ∃ (e3 : Int32), ∃ (e4 : Int32), ∃ (e5 : Int32), ∃ (e6 : Int32), ∃ (e7 : Int32), v = none ∧ w = [(b0, .inr (10, [.int b5, .int b6, .int e0, .int e1, .int e2, .int e3, .int e4, .int e5, .int e6, .int e7])), (b1, .inr (2, [.int b15, .int b16, .int b17, .ref b18, .ref b19, .ref b20])), (b18, .inl (G.2 0, 20, .inl b21)), (b19, .inl (G.2 0, 240, .inl b22))] ∧ (zI e1 (-1) 11) ∧ (zI e4 (-1) 11) ∧ (zI e6 0 1) ∧ (zI e7 0 1) ∧ (¬ b3 = b4 → zLf (e2 : Int32).toInt (e5 : Int32).toInt (e0 : Int32).toInt (e1 : Int32).toInt (e3 : Int32).toInt (e4 : Int32).toInt (e6 : Int32).toInt (e7 : Int32).toInt (fun i => b22 (0 + (12 * (b2 : Int32).toInt.toNat + i))) (b21 (0 + (b2 : Int32).toInt.toNat)).toInt.toNat b3 b4)) A) ([.ref b0, .ref b1, .int b2, .int b3, .int b4] : List Value).toArray s m_s9_Pair_look.cells m_s9_Pair_look.slots A) (F0 m 15 ls []) by
    exact key 13 (0) ((-1)) ((-1)) (0) (1) ((-1)) ((-1)) (0) (1) _ _ _ (zI.wk (l' := 0) (h' := 12) zc_0 (by decide)) (zI.wk (l' := (-1)) (h' := 11) zc_m1 (by decide)) (zI.wk (l' := 0) (h' := 1) zc_1 (by decide)) (zI.wk (l' := (-1)) (h' := 11) zc_m1 (by decide)) (zI.wk (l' := 0) (h' := 1) zc_1 (by decide)) (by have _l0 := li_0; omega) (fun _ => zLk_0 ⟨li_0, li_0⟩ ⟨li_m1, li_m1, li_m1, li_m1⟩ ⟨li_1, li_1⟩ (by have _l := li_0; omega)) (zm_upi (zI.wk (l' := 0) (h' := 12) zc_0 (by decide)) (by decide)) hP hD hS (lv_sub hl [0, 1, 2, 3, 4, 5, 6] rfl)
  intro k_69
  induction k_69 with
  | zero =>
    intro y_70 y_71 y_72 y_73 y_74 y_75 y_76 y_77 y_78 H locs ls hy_70 hy_72 hy_74 hy_76 hy_78 hli_79 hli_80 hmk_69 hP hD hS hl
    exact (zm_up0 hy_70 hmk_69).elim
  | succ k_69 ihk_69 =>
    intro y_70 y_71 y_72 y_73 y_74 y_75 y_76 y_77 y_78 H locs ls hy_70 hy_72 hy_74 hy_76 hy_78 hli_79 hli_80 hmk_69 hP hD hS hl
    refine lv_iload hx hb d_Pair_look_15 (lv_at hl 0 rfl) ?_
    refine lv_iload hx hb d_Pair_look_17 (lv_at hl 1 rfl) ?_
    refine lv_icmp_ge (tgt := 93) hx hb d_Pair_look_19 (by decide) (fun hc_81 => ?_) (fun hc_81 => ?_)
    · have _nhc_81 := hc_81
      have ni_82 := (fa_le _ _).mp hc_81
      refine lv_aload_n hx hb d_Pair_look_93 rfl (lv_at hl 2 rfl) ?_
      refine va_get (D := G.1) (ci := 10) (v := .int y_77) (C := R_Pair) (T := F_Pair) (N := 10) hx hb hts i_Pair hown hK hP 3 rfl rfl 4 (by decide) (hts _ q369) (fun _ h9 => h9) rfl d_Pair_look_94 ?_
      refine lv_aload_n hx hb d_Pair_look_97 rfl (lv_at hl 2 rfl) ?_
      refine va_get (D := G.1) (ci := 10) (v := .int y_73) (C := R_Pair) (T := F_Pair) (N := 10) hx hb hts i_Pair hown hK hP 3 rfl rfl 7 (by decide) (hts _ q372) (fun _ h9 => h9) rfl d_Pair_look_98 ?_
      refine lv_icmp_eq (tgt := 109) hx hb d_Pair_look_101 (by decide) (fun hc_83 => ?_) (fun hc_83 => ?_)
      · have _nhc_83 := hc_83
        have ni_84 := (fa_eq _ _).mp hc_83
        exact z_vret hx hb hr hlocks (hP.sub [3, 0, 1, 2] rfl) (hD.sub [3, 0, 1, 2] (by decide) rfl) hS (Nat.le_of_ble_eq_true rfl) (Nat.le_of_ble_eq_true rfl) d_Pair_look_109 ⟨y_75, y_76, y_77, y_71, y_72, y_73, y_78, y_74, rfl, rfl, hy_76, hy_72, hy_78, hy_74, (fun hne => zLf_mk (hli_80 hne) (by have e9 := ev_2; rw [z_plf hb2 (by decide)] at e9; rw [show 0 + b2.toInt.toNat = b2.toInt.toNat by omega, ← e9]; omega) ⟨by omega, by omega⟩ (by first | exact Or.inl ⟨by omega, rfl⟩ | exact Or.inr ⟨by omega, li_0⟩))⟩
      · have _nhc_83 := hc_83
        have ni_85 : ¬ (y_77 : Int32).toInt = (y_73 : Int32).toInt := fun z => hc_83 ((fa_eq _ _).mpr z)
        refine lv_aload_n hx hb d_Pair_look_104 rfl (lv_at hl 2 rfl) ?_
        refine lv_iconst (v := 0) hx hb d_Pair_look_105 (by decide) ?_
        refine va_put (D := G.1) (ci := 10) (v := .int 0) (ty := .boolean) (C := R_Pair) (T := F_Pair) (N := 10) hx hb hts i_Pair t_Pair t_Pair_ok n_Pair hown hK hP hD hS 3 rfl rfl 9 (by decide) (hts _ q374) (fun _ h9 => h9) rfl (by decide +kernel) rfl rfl (Nat.le_of_ble_eq_true rfl) d_Pair_look_106 (fun H locs hP hD hS => ?_)
        have hP : va_P G.1 classes [(b1, .inr (2, [.int b15, .int b16, .int b17, .ref b18, .ref b19, .ref b20])), (b18, .inl (G.2 0, 20, .inl b21)), (b19, .inl (G.2 0, 240, .inl b22)), (b0, .inr (10, [.int b5, .int b6, .int y_75, .int y_76, .int y_77, .int y_71, .int y_72, .int y_73, .int y_78, .int 0]))] H := hP
        have hD := z_tie hP hD rfl
        exact z_vret hx hb hr hlocks (hP.sub [3, 0, 1, 2] rfl) (hD.sub [3, 0, 1, 2] (by decide) rfl) hS (Nat.le_of_ble_eq_true rfl) (Nat.le_of_ble_eq_true rfl) d_Pair_look_109 ⟨y_75, y_76, y_77, y_71, y_72, y_73, y_78, 0, rfl, rfl, hy_76, hy_72, hy_78, (zI.wk (l' := 0) (h' := 1) zc_0 (by decide)), (fun hne => zLf_mk (hli_80 hne) (by have e9 := ev_2; rw [z_plf hb2 (by decide)] at e9; rw [show 0 + b2.toInt.toNat = b2.toInt.toNat by omega, ← e9]; omega) ⟨by omega, by omega⟩ (by first | exact Or.inl ⟨by omega, rfl⟩ | exact Or.inr ⟨by omega, li_0⟩))⟩
    · have _nhc_81 := hc_81
      have ni_86 := (fa_lt _ _).mp (zi_nle hc_81)
      have hv_87 : zI y_70 0 11 := zI.lt_l hy_70 hv_2 (zi_nle hc_81) (by decide)
      have hv_88 : zI v_2 1 12 := zI.lt_r hy_70 hv_2 (zi_nle hc_81) (by decide)
      refine lv_aload_n hx hb d_Pair_look_22 rfl (lv_at hl 3 rfl) ?_
      refine lv_iload_n hx hb d_Pair_look_23 rfl (lv_at hl 4 rfl) ?_
      refine lv_iload hx hb d_Pair_look_24 (lv_at hl 0 rfl) ?_
      refine z_callV (index := 44) (As := [.int b2, .int y_70]) (rest := []) (wr := [(b18, .inl (G.2 0, 20, .inl b21)), (b0, .inr (10, [.int b5, .int b6, .int y_75, .int y_76, .int y_77, .int y_71, .int y_72, .int y_73, .int y_78, .int y_74]))]) Z (s2_Traces_letterAt l G (b1) (b2) (y_70) (b15) (b16) (b17) (b18) (b19) (b20) (b22) hb2 hv_87 hb15 hb16 hb17 hb22) hl.1 q931 q580 q581 q3 q582 ⟨by decide, by decide, by show _ = some 2; decide +kernel⟩ ⟨Nat.le_of_ble_eq_true rfl, Nat.le_of_ble_eq_true rfl⟩ ⟨Nat.le_of_ble_eq_true rfl, Nat.le_of_ble_eq_true rfl⟩ rfl (Nat.le_of_ble_eq_true rfl) d_Pair_look_26 hP hD hS hA 0 2 rfl rfl rfl [0, 2] [1, 3] rfl rfl rfl rfl (by decide) (fun v w1 H locs hw_89 hP hD hS => ?_)
      obtain ⟨x_90, rfl, rfl, hx_90, hfx_91⟩ := hw_89
      have hP : va_P G.1 classes [(b18, .inl (G.2 0, 20, .inl b21)), (b0, .inr (10, [.int b5, .int b6, .int y_75, .int y_76, .int y_77, .int y_71, .int y_72, .int y_73, .int y_78, .int y_74])), (b1, .inr (2, [.int b15, .int b16, .int b17, .ref b18, .ref b19, .ref b20])), (b19, .inl (G.2 0, 240, .inl b22))] H := hP
      have hD := z_tie hP hD rfl
      refine W.widen (k := 0) (n := 0) (Nat.le_of_ble_eq_true rfl) (Nat.le_of_ble_eq_true rfl) ?_
      refine lv_istore (lv' := [(7, .int x_90), (6, .int y_70), (5, .int v_2), (0, .ref b0), (1, .ref b1), (2, .int b2), (3, .int b3), (4, .int b4)]) hx hb d_Pair_look_29 hl (by decide) rfl (fun ls hl => ?_)
      refine lv_iload hx hb d_Pair_look_31 (lv_at hl 0 rfl) ?_
      refine lv_iload_n hx hb d_Pair_look_33 rfl (lv_at hl 6 rfl) ?_
      refine lv_icmp_ne (tgt := 74) hx hb d_Pair_look_34 (by decide) (fun hc_92 => ?_) (fun hc_92 => ?_)
      · have _nhc_92 := hc_92
        have ni_93 : ¬ (x_90 : Int32).toInt = (b3 : Int32).toInt := fun z => hc_92 ((fa_eq _ _).mpr z)
        refine lv_iload hx hb d_Pair_look_74 (lv_at hl 0 rfl) ?_
        refine lv_iload hx hb d_Pair_look_76 (lv_at hl 7 rfl) ?_
        refine lv_icmp_ne (tgt := 87) hx hb d_Pair_look_78 (by decide) (fun hc_94 => ?_) (fun hc_94 => ?_)
        · have _nhc_94 := hc_94
          have ni_95 : ¬ (x_90 : Int32).toInt = (b4 : Int32).toInt := fun z => hc_94 ((fa_eq _ _).mpr z)
          obtain ⟨v_96, ev_96⟩ : ∃ z : Int32, z = y_70 + 1 := ⟨_, rfl⟩
          obtain ⟨qv_96, hv_96⟩ := zI_add (l := 1) (h := 12) hv_87 zc_1 ev_96 (by decide)
          rw [li_1] at qv_96
          refine lv_iinc (v := v_96) (lv' := [(6, .int v_96), (7, .int x_90), (5, .int v_2), (0, .ref b0), (1, .ref b1), (2, .int b2), (3, .int b3), (4, .int b4)]) hx hb d_Pair_look_87 hl (k := 1) rfl (by rw [ev_96]; rfl) (by decide) rfl (fun ls hl => ?_)
          refine lv_goto (tgt := 15) hx hb d_Pair_look_90 (by decide) ?_
          exact ihk_69 (v_96) (y_71) (y_72) (y_73) (y_74) (y_75) (y_76) (y_77) (y_78) _ _ _ (zI.wk (l' := 0) (h' := 12) hv_96 (by decide)) hy_72 hy_74 hy_76 hy_78 (by omega) (fun hne => by have g9 := hfx_91; have n9 := ev_2; rw [z_plf hb2 (by decide)] at n9; have m9 : (b21 (0 + b2.toInt.toNat)).toInt = v_2.toInt := (by rw [show 0 + b2.toInt.toNat = b2.toInt.toNat by omega, ← n9]); exact zLk_n (hli_80 hne) (fun q => by have q8 := congrArg Int32.toInt (g9.trans q); omega) (fun q => by have q8 := congrArg Int32.toInt (g9.trans q); omega) (by omega)) (zm_up qv_96 hmk_69 (by decide)) (hP.sub [2, 0, 3, 1] rfl) (hD.sub [2, 0, 3, 1] (by decide) rfl) hS (lv_sub hl [0, 2, 3, 4, 5, 6, 7] rfl)
        · have _nhc_94 := hc_94
          have ni_97 := (fa_eq _ _).mp hc_94
          have hv_98 : zI b4 0 9 := zI.eq_l (zI_all b4) hx_90 hc_94.symm
          refine lv_aload_n hx hb d_Pair_look_81 rfl (lv_at hl 3 rfl) ?_
          refine lv_iload hx hb d_Pair_look_82 (lv_at hl 1 rfl) ?_
          refine z_callV (index := 56) (As := [.int y_70]) (rest := []) (wr := [(b18, .inl (G.2 0, 20, .inl b21)), (b1, .inr (2, [.int b15, .int b16, .int b17, .ref b18, .ref b19, .ref b20])), (b19, .inl (G.2 0, 240, .inl b22))]) Z (s8_Pair_meetY l G (b0) (y_70) (b5) (b6) (y_75) (y_76) (y_77) (y_71) (y_72) (y_73) (y_78) (y_74) hv_87 hy_78 hy_74) hl.1 q936 q938 qs35 q11 q939 ⟨by decide, by decide, by show _ = some 1; decide +kernel⟩ ⟨Nat.le_of_ble_eq_true rfl, Nat.le_of_ble_eq_true rfl⟩ ⟨Nat.le_of_ble_eq_true rfl, Nat.le_of_ble_eq_true rfl⟩ rfl (Nat.le_of_ble_eq_true rfl) d_Pair_look_84 hP hD hS hA 1 10 rfl rfl rfl [1] [0, 2, 3] rfl rfl rfl rfl (by decide) (fun v w1 H locs hw_99 hP hD hS => ?_)
          obtain ⟨x_100, x_101, x_102, rfl, rfl, hx_102, hfx_103, hfx_104, hfx_105, hfx_106, hfx_107⟩ := hw_99
          have hP : va_P G.1 classes [(b18, .inl (G.2 0, 20, .inl b21)), (b1, .inr (2, [.int b15, .int b16, .int b17, .ref b18, .ref b19, .ref b20])), (b19, .inl (G.2 0, 240, .inl b22)), (b0, .inr (10, [.int b5, .int b6, .int y_75, .int y_76, .int y_77, .int x_100, .int y_70, .int x_101, .int y_78, .int x_102]))] H := hP
          have hD := z_tie hP hD rfl
          refine W.widen (k := 0) (n := 0) (Nat.le_of_ble_eq_true rfl) (Nat.le_of_ble_eq_true rfl) ?_
          obtain ⟨v_108, ev_108⟩ : ∃ z : Int32, z = y_70 + 1 := ⟨_, rfl⟩
          obtain ⟨qv_108, hv_108⟩ := zI_add (l := 1) (h := 12) hv_87 zc_1 ev_108 (by decide)
          rw [li_1] at qv_108
          refine lv_iinc (v := v_108) (lv' := [(6, .int v_108), (7, .int x_90), (5, .int v_2), (0, .ref b0), (1, .ref b1), (2, .int b2), (3, .int b3), (4, .int b4)]) hx hb d_Pair_look_87 hl (k := 1) rfl (by rw [ev_108]; rfl) (by decide) rfl (fun ls hl => ?_)
          refine lv_goto (tgt := 15) hx hb d_Pair_look_90 (by decide) ?_
          exact ihk_69 (v_108) (x_100) (y_70) (x_101) (x_102) (y_75) (y_76) (y_77) (y_78) _ _ _ (zI.wk (l' := 0) (h' := 12) hv_108 (by decide)) (zI.wk (l' := (-1)) (h' := 11) hv_87 (by decide)) hx_102 hy_76 hy_78 (by omega) (fun hne => by have g9 := hfx_91; have n9 := ev_2; rw [z_plf hb2 (by decide)] at n9; have m9 : (b21 (0 + b2.toInt.toNat)).toInt = v_2.toInt := (by rw [show 0 + b2.toInt.toNat = b2.toInt.toNat by omega, ← n9]); exact zLk_y (hli_80 hne) (by omega) (fun q => by have q8 := congrArg Int32.toInt (g9.trans q); omega) (g9.symm.trans ((fa_eq _ _).mpr (by omega))) hfx_103 hfx_104 hfx_105 hfx_106 hfx_107 (by omega) (by omega)) (zm_up qv_108 hmk_69 (by decide)) (hP.sub [1, 0, 2, 3] rfl) (hD.sub [1, 0, 2, 3] (by decide) rfl) hS (lv_sub hl [0, 2, 3, 4, 5, 6, 7] rfl)
      · have _nhc_92 := hc_92
        have ni_109 := (fa_eq _ _).mp hc_92
        have hv_110 : zI b3 0 9 := zI.eq_l (zI_all b3) hx_90 hc_92.symm
        refine lv_aload_n hx hb d_Pair_look_37 rfl (lv_at hl 3 rfl) ?_
        refine lv_iload hx hb d_Pair_look_38 (lv_at hl 1 rfl) ?_
        refine z_callV (index := 48) (As := [.int y_70]) (rest := []) (wr := [(b18, .inl (G.2 0, 20, .inl b21)), (b1, .inr (2, [.int b15, .int b16, .int b17, .ref b18, .ref b19, .ref b20])), (b19, .inl (G.2 0, 240, .inl b22))]) Z (s8_Pair_meetX l G (b0) (y_70) (b5) (b6) (y_75) (y_76) (y_77) (y_71) (y_72) (y_73) (y_78) (y_74) hv_87 hy_78 hy_74) hl.1 q932 q934 qs34 q11 q935 ⟨by decide, by decide, by show _ = some 1; decide +kernel⟩ ⟨Nat.le_of_ble_eq_true rfl, Nat.le_of_ble_eq_true rfl⟩ ⟨Nat.le_of_ble_eq_true rfl, Nat.le_of_ble_eq_true rfl⟩ rfl (Nat.le_of_ble_eq_true rfl) d_Pair_look_40 hP hD hS hA 1 10 rfl rfl rfl [1] [0, 2, 3] rfl rfl rfl rfl (by decide) (fun v w1 H locs hw_111 hP hD hS => ?_)
        obtain ⟨x_112, x_113, x_114, rfl, rfl, hx_114, hfx_115, hfx_116, hfx_117, hfx_118, hfx_119⟩ := hw_111
        have hP : va_P G.1 classes [(b18, .inl (G.2 0, 20, .inl b21)), (b1, .inr (2, [.int b15, .int b16, .int b17, .ref b18, .ref b19, .ref b20])), (b19, .inl (G.2 0, 240, .inl b22)), (b0, .inr (10, [.int b5, .int b6, .int x_112, .int y_70, .int x_113, .int y_71, .int y_72, .int y_73, .int y_78, .int x_114]))] H := hP
        have hD := z_tie hP hD rfl
        refine W.widen (k := 0) (n := 0) (Nat.le_of_ble_eq_true rfl) (Nat.le_of_ble_eq_true rfl) ?_
        refine lv_iload hx hb d_Pair_look_43 (lv_at hl 1 rfl) ?_
        refine lv_iconst (v := 1) hx hb d_Pair_look_45 (by decide) ?_
        refine lv_iadd hx hb d_Pair_look_46 ?_
        refine lv_topi (fun v_120 ev_120 => ?_)
        obtain ⟨qv_120, hv_120⟩ := zI_add (l := 1) (h := 12) hv_87 zc_1 ev_120 (by decide)
        rw [li_1] at qv_120
        refine lv_iload hx hb d_Pair_look_47 (lv_at hl 2 rfl) ?_
        refine lv_icmp_ge (tgt := 66) hx hb d_Pair_look_49 (by decide) (fun hc_121 => ?_) (fun hc_121 => ?_)
        · have _nhc_121 := hc_121
          have ni_122 := (fa_le _ _).mp hc_121
          refine lv_aload_n hx hb d_Pair_look_66 rfl (lv_at hl 3 rfl) ?_
          refine lv_iconst (v := 0) hx hb d_Pair_look_67 (by decide) ?_
          refine va_put (D := G.1) (ci := 10) (v := .int 0) (ty := .boolean) (C := R_Pair) (T := F_Pair) (N := 10) hx hb hts i_Pair t_Pair t_Pair_ok n_Pair hown hK hP hD hS 3 rfl rfl 8 (by decide) (hts _ q373) (fun _ h9 => h9) rfl (by decide +kernel) rfl rfl (Nat.le_of_ble_eq_true rfl) d_Pair_look_68 (fun H locs hP hD hS => ?_)
          have hP : va_P G.1 classes [(b18, .inl (G.2 0, 20, .inl b21)), (b1, .inr (2, [.int b15, .int b16, .int b17, .ref b18, .ref b19, .ref b20])), (b19, .inl (G.2 0, 240, .inl b22)), (b0, .inr (10, [.int b5, .int b6, .int x_112, .int y_70, .int x_113, .int y_71, .int y_72, .int y_73, .int 0, .int x_114]))] H := hP
          have hD := z_tie hP hD rfl
          refine lv_goto (tgt := 87) hx hb d_Pair_look_71 (by decide) ?_
          obtain ⟨v_123, ev_123⟩ : ∃ z : Int32, z = y_70 + 1 := ⟨_, rfl⟩
          obtain ⟨qv_123, hv_123⟩ := zI_add (l := 1) (h := 12) hv_87 zc_1 ev_123 (by decide)
          rw [li_1] at qv_123
          refine lv_iinc (v := v_123) (lv' := [(6, .int v_123), (7, .int x_90), (5, .int v_2), (0, .ref b0), (1, .ref b1), (2, .int b2), (3, .int b3), (4, .int b4)]) hx hb d_Pair_look_87 hl (k := 1) rfl (by rw [ev_123]; rfl) (by decide) rfl (fun ls hl => ?_)
          refine lv_goto (tgt := 15) hx hb d_Pair_look_90 (by decide) ?_
          exact ihk_69 (v_123) (y_71) (y_72) (y_73) (x_114) (x_112) (y_70) (x_113) (0) _ _ _ (zI.wk (l' := 0) (h' := 12) hv_123 (by decide)) hy_72 hx_114 (zI.wk (l' := (-1)) (h' := 11) hv_87 (by decide)) (zI.wk (l' := 0) (h' := 1) zc_0 (by decide)) (by omega) (fun hne => by have g9 := hfx_91; have n9 := ev_2; rw [z_plf hb2 (by decide)] at n9; have m9 : (b21 (0 + b2.toInt.toNat)).toInt = v_2.toInt := (by rw [show 0 + b2.toInt.toNat = b2.toInt.toNat by omega, ← n9]); exact zLk_x (hli_80 hne) (by omega) (g9.symm.trans ((fa_eq _ _).mpr (by omega))) hne hfx_115 hfx_116 hfx_117 hfx_118 hfx_119 (by omega) (Or.inr ⟨fun q => by omega, li_0⟩) (by omega)) (zm_up qv_123 hmk_69 (by decide)) (hP.sub [1, 0, 2, 3] rfl) (hD.sub [1, 0, 2, 3] (by decide) rfl) hS (lv_sub hl [0, 2, 3, 4, 5, 6, 7] rfl)
        · have _nhc_121 := hc_121
          have ni_124 := (fa_lt _ _).mp (zi_nle hc_121)
          have hv_125 : zI v_120 1 11 := zI.lt_l hv_120 hv_88 (zi_nle hc_121) (by decide)
          have hv_126 : zI y_70 0 10 := by have _a := hv_125; have _b := qv_120; have _c := zc_1; have _d := hv_87; exact ⟨by omega, by omega⟩
          have hv_127 : zI v_2 2 12 := zI.lt_r hv_120 hv_88 (zi_nle hc_121) (by decide)
          refine lv_aload_n hx hb d_Pair_look_52 rfl (lv_at hl 4 rfl) ?_
          refine lv_iload_n hx hb d_Pair_look_53 rfl (lv_at hl 5 rfl) ?_
          refine lv_iload hx hb d_Pair_look_54 (lv_at hl 1 rfl) ?_
          refine lv_iconst (v := 1) hx hb d_Pair_look_56 (by decide) ?_
          refine lv_iadd hx hb d_Pair_look_57 ?_
          refine lv_topi (fun v_128 ev_128 => ?_)
          obtain rfl : v_120 = v_128 := ev_120.trans ev_128.symm
          refine z_callV (index := 44) (As := [.int b2, .int v_120]) (rest := []) (wr := [(b18, .inl (G.2 0, 20, .inl b21)), (b0, .inr (10, [.int b5, .int b6, .int x_112, .int y_70, .int x_113, .int y_71, .int y_72, .int y_73, .int y_78, .int x_114]))]) Z (s2_Traces_letterAt l G (b1) (b2) (v_120) (b15) (b16) (b17) (b18) (b19) (b20) (b22) hb2 (zI.wk (l' := 0) (h' := 11) hv_125 (by decide)) hb15 hb16 hb17 hb22) hl.1 q931 q580 q581 q3 q582 ⟨by decide, by decide, by show _ = some 2; decide +kernel⟩ ⟨Nat.le_of_ble_eq_true rfl, Nat.le_of_ble_eq_true rfl⟩ ⟨Nat.le_of_ble_eq_true rfl, Nat.le_of_ble_eq_true rfl⟩ rfl (Nat.le_of_ble_eq_true rfl) d_Pair_look_58 hP hD hS hA 1 2 rfl rfl rfl [1, 2] [0, 3] rfl rfl rfl rfl (by decide) (fun v w1 H locs hw_129 hP hD hS => ?_)
          obtain ⟨x_130, rfl, rfl, hx_130, hfx_131⟩ := hw_129
          have hP : va_P G.1 classes [(b18, .inl (G.2 0, 20, .inl b21)), (b0, .inr (10, [.int b5, .int b6, .int x_112, .int y_70, .int x_113, .int y_71, .int y_72, .int y_73, .int y_78, .int x_114])), (b1, .inr (2, [.int b15, .int b16, .int b17, .ref b18, .ref b19, .ref b20])), (b19, .inl (G.2 0, 240, .inl b22))] H := hP
          have hD := z_tie hP hD rfl
          refine W.widen (k := 0) (n := 0) (Nat.le_of_ble_eq_true rfl) (Nat.le_of_ble_eq_true rfl) ?_
          refine lv_iload hx hb d_Pair_look_61 (lv_at hl 7 rfl) ?_
          refine lv_icmp_eq (tgt := 87) hx hb d_Pair_look_63 (by decide) (fun hc_132 => ?_) (fun hc_132 => ?_)
          · have _nhc_132 := hc_132
            have ni_133 := (fa_eq _ _).mp hc_132
            have hv_134 : zI b4 0 9 := zI.eq_l (zI_all b4) hx_130 hc_132.symm
            obtain ⟨v_135, ev_135⟩ : ∃ z : Int32, z = y_70 + 1 := ⟨_, rfl⟩
            obtain ⟨qv_135, hv_135⟩ := zI_add (l := 1) (h := 11) hv_126 zc_1 ev_135 (by decide)
            rw [li_1] at qv_135
            refine lv_iinc (v := v_135) (lv' := [(6, .int v_135), (7, .int x_90), (5, .int v_2), (0, .ref b0), (1, .ref b1), (2, .int b2), (3, .int b3), (4, .int b4)]) hx hb d_Pair_look_87 hl (k := 1) rfl (by rw [ev_135]; rfl) (by decide) rfl (fun ls hl => ?_)
            refine lv_goto (tgt := 15) hx hb d_Pair_look_90 (by decide) ?_
            exact ihk_69 (v_135) (y_71) (y_72) (y_73) (x_114) (x_112) (y_70) (x_113) (y_78) _ _ _ (zI.wk (l' := 0) (h' := 12) hv_135 (by decide)) hy_72 hx_114 (zI.wk (l' := (-1)) (h' := 11) hv_126 (by decide)) hy_78 (by omega) (fun hne => by have g9 := hfx_91; have n9 := ev_2; rw [z_plf hb2 (by decide)] at n9; have m9 : (b21 (0 + b2.toInt.toNat)).toInt = v_2.toInt := (by rw [show 0 + b2.toInt.toNat = b2.toInt.toNat by omega, ← n9]); exact zLk_x (hli_80 hne) (by omega) (g9.symm.trans ((fa_eq _ _).mpr (by omega))) hne hfx_115 hfx_116 hfx_117 hfx_118 hfx_119 (by omega) (by have g8 := hfx_131; rw [show (12 * b2.toInt.toNat + v_120.toInt.toNat) = 12 * b2.toInt.toNat + (y_70.toInt.toNat + 1) by omega] at g8; first | exact Or.inl ⟨⟨by omega, g8.symm.trans ((fa_eq _ _).mpr (by omega))⟩, rfl⟩ | exact Or.inr ⟨fun q => by have q8 := congrArg Int32.toInt (g8.trans q.2); omega, li_0⟩) (by omega)) (zm_up qv_135 hmk_69 (by decide)) (hP.sub [2, 0, 3, 1] rfl) (hD.sub [2, 0, 3, 1] (by decide) rfl) hS (lv_sub hl [0, 2, 3, 4, 5, 6, 7] rfl)
          · have _nhc_132 := hc_132
            have ni_136 : ¬ (x_130 : Int32).toInt = (b4 : Int32).toInt := fun z => hc_132 ((fa_eq _ _).mpr z)
            refine lv_aload_n hx hb d_Pair_look_66 rfl (lv_at hl 3 rfl) ?_
            refine lv_iconst (v := 0) hx hb d_Pair_look_67 (by decide) ?_
            refine va_put (D := G.1) (ci := 10) (v := .int 0) (ty := .boolean) (C := R_Pair) (T := F_Pair) (N := 10) hx hb hts i_Pair t_Pair t_Pair_ok n_Pair hown hK hP hD hS 1 rfl rfl 8 (by decide) (hts _ q373) (fun _ h9 => h9) rfl (by decide +kernel) rfl rfl (Nat.le_of_ble_eq_true rfl) d_Pair_look_68 (fun H locs hP hD hS => ?_)
            have hP : va_P G.1 classes [(b18, .inl (G.2 0, 20, .inl b21)), (b0, .inr (10, [.int b5, .int b6, .int x_112, .int y_70, .int x_113, .int y_71, .int y_72, .int y_73, .int 0, .int x_114])), (b1, .inr (2, [.int b15, .int b16, .int b17, .ref b18, .ref b19, .ref b20])), (b19, .inl (G.2 0, 240, .inl b22))] H := hP
            have hD := z_tie hP hD rfl
            refine lv_goto (tgt := 87) hx hb d_Pair_look_71 (by decide) ?_
            obtain ⟨v_137, ev_137⟩ : ∃ z : Int32, z = y_70 + 1 := ⟨_, rfl⟩
            obtain ⟨qv_137, hv_137⟩ := zI_add (l := 1) (h := 11) hv_126 zc_1 ev_137 (by decide)
            rw [li_1] at qv_137
            refine lv_iinc (v := v_137) (lv' := [(6, .int v_137), (7, .int x_90), (5, .int v_2), (0, .ref b0), (1, .ref b1), (2, .int b2), (3, .int b3), (4, .int b4)]) hx hb d_Pair_look_87 hl (k := 1) rfl (by rw [ev_137]; rfl) (by decide) rfl (fun ls hl => ?_)
            refine lv_goto (tgt := 15) hx hb d_Pair_look_90 (by decide) ?_
            exact ihk_69 (v_137) (y_71) (y_72) (y_73) (x_114) (x_112) (y_70) (x_113) (0) _ _ _ (zI.wk (l' := 0) (h' := 12) hv_137 (by decide)) hy_72 hx_114 (zI.wk (l' := (-1)) (h' := 11) hv_126 (by decide)) (zI.wk (l' := 0) (h' := 1) zc_0 (by decide)) (by omega) (fun hne => by have g9 := hfx_91; have n9 := ev_2; rw [z_plf hb2 (by decide)] at n9; have m9 : (b21 (0 + b2.toInt.toNat)).toInt = v_2.toInt := (by rw [show 0 + b2.toInt.toNat = b2.toInt.toNat by omega, ← n9]); exact zLk_x (hli_80 hne) (by omega) (g9.symm.trans ((fa_eq _ _).mpr (by omega))) hne hfx_115 hfx_116 hfx_117 hfx_118 hfx_119 (by omega) (by have g8 := hfx_131; rw [show (12 * b2.toInt.toNat + v_120.toInt.toNat) = 12 * b2.toInt.toNat + (y_70.toInt.toNat + 1) by omega] at g8; first | exact Or.inl ⟨⟨by omega, g8.symm.trans ((fa_eq _ _).mpr (by omega))⟩, rfl⟩ | exact Or.inr ⟨fun q => by have q8 := congrArg Int32.toInt (g8.trans q.2); omega, li_0⟩) (by omega)) (zm_up qv_137 hmk_69 (by decide)) (hP.sub [2, 0, 3, 1] rfl) (hD.sub [2, 0, 3, 1] (by decide) rfl) hS (lv_sub hl [0, 2, 3, 4, 5, 6, 7] rfl)
abbrev m_s3_Pair_isAsked : Room := { frames := 0, cells := 0, slots := 0, locals := 0 }
set_option maxHeartbeats 4000000 in
set_option maxRecDepth 100000 in
theorem s3_Pair_isAsked (l : Launch) (G : zG) (b0 : Nat) (b1 : Int32) (b2 : Int32) (b3 : Int32) (b4 : Int32) (b5 : Int32) (b6 : Int32) (b7 : Int32) (b8 : Int32) (b9 : Int32) (b10 : Int32) (b11 : Int32) (hb10 : zI b10 0 1) (hb11 : zI b11 0 1) : zM l G y_Pair_isAsked prog_6_method_8_code 2 (Option.some Jvm.ClassFile.FieldType.boolean) m_s3_Pair_isAsked [.ref b0, .int b1] [(b0, .inr (10, [.int b2, .int b3, .int b4, .int b5, .int b6, .int b7, .int b8, .int b9, .int b10, .int b11]))] (fun v w => ∃ (e0 : Int32), v = some (.int e0) ∧ w = [(b0, .inr (10, [.int b2, .int b3, .int b4, .int b5, .int b6, .int b7, .int b8, .int b9, .int b10, .int b11]))] ∧ (zI e0 0 1) ∧ (0 ≤ (b1 : Int32).toInt ∧ (b1 : Int32).toInt ≤ 5 → (e0 : Int32).toInt = zIa (b1 : Int32).toInt (b6 : Int32).toInt (b9 : Int32).toInt)) := by
  refine z_start (by decide +kernel) (Nat.le_of_ble_eq_true rfl) ?_
  intro p e s m below meth c A Z hr hnm hA hP hD hS ls hl
  have Z : zC p s m _ meth c prog_6_method_8_code 2 "TraceMachines$Pair" G := Z
  obtain ⟨hx, hb, hml, hown, hts, hK, hN, hlocks⟩ := id Z
  have hl : lv_has ls 2 [(0, .ref b0), (1, .int b1)] := hl
  refine lv_iload_n hx hb d_Pair_isAsked_0 rfl (lv_at hl 1 rfl) ?_
  by_cases hs_1 : b1 = 0
  · subst hs_1
    refine lv_tableIn (off := 31) (tgt := 32) hx hb d_Pair_isAsked_1 (by decide +kernel) (by decide +kernel) rfl (by decide) ?_
    refine lv_aload_n hx hb d_Pair_isAsked_32 rfl (lv_at hl 0 rfl) ?_
    refine va_get (D := G.1) (ci := 10) (v := .int b6) (C := R_Pair) (T := F_Pair) (N := 10) hx hb hts i_Pair hown hK hP 0 rfl rfl 4 (by decide) (hts _ q369) (fun _ h9 => h9) rfl d_Pair_isAsked_33 ?_
    refine lv_if_le (tgt := 43) hx hb d_Pair_isAsked_36 (by decide) (fun hc_2 => ?_) (fun hc_2 => ?_)
    · have _nhc_2 := hc_2
      have ni_3 := (fa_le _ _).mp hc_2
      rw [li_0] at ni_3
      have hv_4 : zI b6 (-2147483648) 0 := zI.le_l (zI_all b6) zc_0 hc_2 (by decide)
      refine lv_iconst (v := 0) hx hb d_Pair_isAsked_43 (by decide) ?_
      exact z_zret hx hb hr hlocks rfl hP hD hS (Nat.le_of_ble_eq_true rfl) (Nat.le_of_ble_eq_true rfl) d_Pair_isAsked_44 ⟨0, rfl, rfl, (zI.wk (l' := 0) (h' := 1) zc_0 (by decide)), (by have _l0 := li_0; have _l1 := li_1; have _l2 := li_2; have _l3 := li_3; have _l4 := li_4; have _l5 := li_5; intro h9; unfold zIa; (repeat' split) <;> omega)⟩
    · have _nhc_2 := hc_2
      have ni_5 := (fa_lt _ _).mp (zi_nle hc_2)
      rw [li_0] at ni_5
      have hv_6 : zI b6 1 2147483647 := zI.lt_r zc_0 (zI_all b6) (zi_nle hc_2) (by decide)
      refine lv_iconst (v := 1) hx hb d_Pair_isAsked_39 (by decide) ?_
      refine lv_goto (tgt := 44) hx hb d_Pair_isAsked_40 (by decide) ?_
      exact z_zret hx hb hr hlocks rfl hP hD hS (Nat.le_of_ble_eq_true rfl) (Nat.le_of_ble_eq_true rfl) d_Pair_isAsked_44 ⟨1, rfl, rfl, (zI.wk (l' := 0) (h' := 1) zc_1 (by decide)), (by have _l0 := li_0; have _l1 := li_1; have _l2 := li_2; have _l3 := li_3; have _l4 := li_4; have _l5 := li_5; intro h9; unfold zIa; (repeat' split) <;> omega)⟩
  simp only [fa_lt, fa_le, fa_eq, Int32.toInt_toInt64, li_0] at hs_1
  by_cases hs_7 : b1 = 1
  · subst hs_7
    refine lv_tableIn (off := 44) (tgt := 45) hx hb d_Pair_isAsked_1 (by decide +kernel) (by decide +kernel) rfl (by decide) ?_
    refine lv_aload_n hx hb d_Pair_isAsked_45 rfl (lv_at hl 0 rfl) ?_
    refine va_get (D := G.1) (ci := 10) (v := .int b9) (C := R_Pair) (T := F_Pair) (N := 10) hx hb hts i_Pair hown hK hP 0 rfl rfl 7 (by decide) (hts _ q372) (fun _ h9 => h9) rfl d_Pair_isAsked_46 ?_
    refine lv_if_le (tgt := 56) hx hb d_Pair_isAsked_49 (by decide) (fun hc_8 => ?_) (fun hc_8 => ?_)
    · have _nhc_8 := hc_8
      have ni_9 := (fa_le _ _).mp hc_8
      rw [li_0] at ni_9
      have hv_10 : zI b9 (-2147483648) 0 := zI.le_l (zI_all b9) zc_0 hc_8 (by decide)
      refine lv_iconst (v := 0) hx hb d_Pair_isAsked_56 (by decide) ?_
      exact z_zret hx hb hr hlocks rfl hP hD hS (Nat.le_of_ble_eq_true rfl) (Nat.le_of_ble_eq_true rfl) d_Pair_isAsked_57 ⟨0, rfl, rfl, (zI.wk (l' := 0) (h' := 1) zc_0 (by decide)), (by have _l0 := li_0; have _l1 := li_1; have _l2 := li_2; have _l3 := li_3; have _l4 := li_4; have _l5 := li_5; intro h9; unfold zIa; (repeat' split) <;> omega)⟩
    · have _nhc_8 := hc_8
      have ni_11 := (fa_lt _ _).mp (zi_nle hc_8)
      rw [li_0] at ni_11
      have hv_12 : zI b9 1 2147483647 := zI.lt_r zc_0 (zI_all b9) (zi_nle hc_8) (by decide)
      refine lv_iconst (v := 1) hx hb d_Pair_isAsked_52 (by decide) ?_
      refine lv_goto (tgt := 57) hx hb d_Pair_isAsked_53 (by decide) ?_
      exact z_zret hx hb hr hlocks rfl hP hD hS (Nat.le_of_ble_eq_true rfl) (Nat.le_of_ble_eq_true rfl) d_Pair_isAsked_57 ⟨1, rfl, rfl, (zI.wk (l' := 0) (h' := 1) zc_1 (by decide)), (by have _l0 := li_0; have _l1 := li_1; have _l2 := li_2; have _l3 := li_3; have _l4 := li_4; have _l5 := li_5; intro h9; unfold zIa; (repeat' split) <;> omega)⟩
  simp only [fa_lt, fa_le, fa_eq, Int32.toInt_toInt64, li_1] at hs_7
  by_cases hs_13 : b1 = 2
  · subst hs_13
    refine lv_tableIn (off := 31) (tgt := 32) hx hb d_Pair_isAsked_1 (by decide +kernel) (by decide +kernel) rfl (by decide) ?_
    refine lv_aload_n hx hb d_Pair_isAsked_32 rfl (lv_at hl 0 rfl) ?_
    refine va_get (D := G.1) (ci := 10) (v := .int b6) (C := R_Pair) (T := F_Pair) (N := 10) hx hb hts i_Pair hown hK hP 0 rfl rfl 4 (by decide) (hts _ q369) (fun _ h9 => h9) rfl d_Pair_isAsked_33 ?_
    refine lv_if_le (tgt := 43) hx hb d_Pair_isAsked_36 (by decide) (fun hc_14 => ?_) (fun hc_14 => ?_)
    · have _nhc_14 := hc_14
      have ni_15 := (fa_le _ _).mp hc_14
      rw [li_0] at ni_15
      have hv_16 : zI b6 (-2147483648) 0 := zI.le_l (zI_all b6) zc_0 hc_14 (by decide)
      refine lv_iconst (v := 0) hx hb d_Pair_isAsked_43 (by decide) ?_
      exact z_zret hx hb hr hlocks rfl hP hD hS (Nat.le_of_ble_eq_true rfl) (Nat.le_of_ble_eq_true rfl) d_Pair_isAsked_44 ⟨0, rfl, rfl, (zI.wk (l' := 0) (h' := 1) zc_0 (by decide)), (by have _l0 := li_0; have _l1 := li_1; have _l2 := li_2; have _l3 := li_3; have _l4 := li_4; have _l5 := li_5; intro h9; unfold zIa; (repeat' split) <;> omega)⟩
    · have _nhc_14 := hc_14
      have ni_17 := (fa_lt _ _).mp (zi_nle hc_14)
      rw [li_0] at ni_17
      have hv_18 : zI b6 1 2147483647 := zI.lt_r zc_0 (zI_all b6) (zi_nle hc_14) (by decide)
      refine lv_iconst (v := 1) hx hb d_Pair_isAsked_39 (by decide) ?_
      refine lv_goto (tgt := 44) hx hb d_Pair_isAsked_40 (by decide) ?_
      exact z_zret hx hb hr hlocks rfl hP hD hS (Nat.le_of_ble_eq_true rfl) (Nat.le_of_ble_eq_true rfl) d_Pair_isAsked_44 ⟨1, rfl, rfl, (zI.wk (l' := 0) (h' := 1) zc_1 (by decide)), (by have _l0 := li_0; have _l1 := li_1; have _l2 := li_2; have _l3 := li_3; have _l4 := li_4; have _l5 := li_5; intro h9; unfold zIa; (repeat' split) <;> omega)⟩
  simp only [fa_lt, fa_le, fa_eq, Int32.toInt_toInt64, li_2] at hs_13
  by_cases hs_19 : b1 = 3
  · subst hs_19
    refine lv_tableIn (off := 31) (tgt := 32) hx hb d_Pair_isAsked_1 (by decide +kernel) (by decide +kernel) rfl (by decide) ?_
    refine lv_aload_n hx hb d_Pair_isAsked_32 rfl (lv_at hl 0 rfl) ?_
    refine va_get (D := G.1) (ci := 10) (v := .int b6) (C := R_Pair) (T := F_Pair) (N := 10) hx hb hts i_Pair hown hK hP 0 rfl rfl 4 (by decide) (hts _ q369) (fun _ h9 => h9) rfl d_Pair_isAsked_33 ?_
    refine lv_if_le (tgt := 43) hx hb d_Pair_isAsked_36 (by decide) (fun hc_20 => ?_) (fun hc_20 => ?_)
    · have _nhc_20 := hc_20
      have ni_21 := (fa_le _ _).mp hc_20
      rw [li_0] at ni_21
      have hv_22 : zI b6 (-2147483648) 0 := zI.le_l (zI_all b6) zc_0 hc_20 (by decide)
      refine lv_iconst (v := 0) hx hb d_Pair_isAsked_43 (by decide) ?_
      exact z_zret hx hb hr hlocks rfl hP hD hS (Nat.le_of_ble_eq_true rfl) (Nat.le_of_ble_eq_true rfl) d_Pair_isAsked_44 ⟨0, rfl, rfl, (zI.wk (l' := 0) (h' := 1) zc_0 (by decide)), (by have _l0 := li_0; have _l1 := li_1; have _l2 := li_2; have _l3 := li_3; have _l4 := li_4; have _l5 := li_5; intro h9; unfold zIa; (repeat' split) <;> omega)⟩
    · have _nhc_20 := hc_20
      have ni_23 := (fa_lt _ _).mp (zi_nle hc_20)
      rw [li_0] at ni_23
      have hv_24 : zI b6 1 2147483647 := zI.lt_r zc_0 (zI_all b6) (zi_nle hc_20) (by decide)
      refine lv_iconst (v := 1) hx hb d_Pair_isAsked_39 (by decide) ?_
      refine lv_goto (tgt := 44) hx hb d_Pair_isAsked_40 (by decide) ?_
      exact z_zret hx hb hr hlocks rfl hP hD hS (Nat.le_of_ble_eq_true rfl) (Nat.le_of_ble_eq_true rfl) d_Pair_isAsked_44 ⟨1, rfl, rfl, (zI.wk (l' := 0) (h' := 1) zc_1 (by decide)), (by have _l0 := li_0; have _l1 := li_1; have _l2 := li_2; have _l3 := li_3; have _l4 := li_4; have _l5 := li_5; intro h9; unfold zIa; (repeat' split) <;> omega)⟩
  simp only [fa_lt, fa_le, fa_eq, Int32.toInt_toInt64, li_3] at hs_19
  refine lv_tableOut (tgt := 58) hx hb d_Pair_isAsked_1 (by omega) (by decide) ?_
  refine lv_aload_n hx hb d_Pair_isAsked_58 rfl (lv_at hl 0 rfl) ?_
  refine va_get (D := G.1) (ci := 10) (v := .int b6) (C := R_Pair) (T := F_Pair) (N := 10) hx hb hts i_Pair hown hK hP 0 rfl rfl 4 (by decide) (hts _ q369) (fun _ h9 => h9) rfl d_Pair_isAsked_59 ?_
  refine lv_if_gt (tgt := 72) hx hb d_Pair_isAsked_62 (by decide) (fun hc_25 => ?_) (fun hc_25 => ?_)
  · have _nhc_25 := hc_25
    have ni_26 := (fa_lt _ _).mp hc_25
    rw [li_0] at ni_26
    have hv_27 : zI b6 1 2147483647 := zI.lt_r zc_0 (zI_all b6) hc_25 (by decide)
    refine lv_iconst (v := 1) hx hb d_Pair_isAsked_72 (by decide) ?_
    refine lv_goto (tgt := 77) hx hb d_Pair_isAsked_73 (by decide) ?_
    exact z_zret hx hb hr hlocks rfl hP hD hS (Nat.le_of_ble_eq_true rfl) (Nat.le_of_ble_eq_true rfl) d_Pair_isAsked_77 ⟨1, rfl, rfl, (zI.wk (l' := 0) (h' := 1) zc_1 (by decide)), (by have _l0 := li_0; have _l1 := li_1; have _l2 := li_2; have _l3 := li_3; have _l4 := li_4; have _l5 := li_5; intro h9; unfold zIa; (repeat' split) <;> omega)⟩
  · have _nhc_25 := hc_25
    have ni_28 := (fa_le _ _).mp (zi_nlt hc_25)
    rw [li_0] at ni_28
    have hv_29 : zI b6 (-2147483648) 0 := zI.le_l (zI_all b6) zc_0 (zi_nlt hc_25) (by decide)
    refine lv_aload_n hx hb d_Pair_isAsked_65 rfl (lv_at hl 0 rfl) ?_
    refine va_get (D := G.1) (ci := 10) (v := .int b9) (C := R_Pair) (T := F_Pair) (N := 10) hx hb hts i_Pair hown hK hP 0 rfl rfl 7 (by decide) (hts _ q372) (fun _ h9 => h9) rfl d_Pair_isAsked_66 ?_
    refine lv_if_le (tgt := 76) hx hb d_Pair_isAsked_69 (by decide) (fun hc_30 => ?_) (fun hc_30 => ?_)
    · have _nhc_30 := hc_30
      have ni_31 := (fa_le _ _).mp hc_30
      rw [li_0] at ni_31
      have hv_32 : zI b9 (-2147483648) 0 := zI.le_l (zI_all b9) zc_0 hc_30 (by decide)
      refine lv_iconst (v := 0) hx hb d_Pair_isAsked_76 (by decide) ?_
      exact z_zret hx hb hr hlocks rfl hP hD hS (Nat.le_of_ble_eq_true rfl) (Nat.le_of_ble_eq_true rfl) d_Pair_isAsked_77 ⟨0, rfl, rfl, (zI.wk (l' := 0) (h' := 1) zc_0 (by decide)), (by have _l0 := li_0; have _l1 := li_1; have _l2 := li_2; have _l3 := li_3; have _l4 := li_4; have _l5 := li_5; intro h9; unfold zIa; (repeat' split) <;> omega)⟩
    · have _nhc_30 := hc_30
      have ni_33 := (fa_lt _ _).mp (zi_nle hc_30)
      rw [li_0] at ni_33
      have hv_34 : zI b9 1 2147483647 := zI.lt_r zc_0 (zI_all b9) (zi_nle hc_30) (by decide)
      refine lv_iconst (v := 1) hx hb d_Pair_isAsked_72 (by decide) ?_
      refine lv_goto (tgt := 77) hx hb d_Pair_isAsked_73 (by decide) ?_
      exact z_zret hx hb hr hlocks rfl hP hD hS (Nat.le_of_ble_eq_true rfl) (Nat.le_of_ble_eq_true rfl) d_Pair_isAsked_77 ⟨1, rfl, rfl, (zI.wk (l' := 0) (h' := 1) zc_1 (by decide)), (by have _l0 := li_0; have _l1 := li_1; have _l2 := li_2; have _l3 := li_3; have _l4 := li_4; have _l5 := li_5; intro h9; unfold zIa; (repeat' split) <;> omega)⟩
abbrev m_s3_Pair_isSo : Room := { frames := 0, cells := 0, slots := 0, locals := 0 }
set_option maxHeartbeats 4000000 in
set_option maxRecDepth 100000 in
theorem s3_Pair_isSo (l : Launch) (G : zG) (b0 : Nat) (b1 : Int32) (b2 : Int32) (b3 : Int32) (b4 : Int32) (b5 : Int32) (b6 : Int32) (b7 : Int32) (b8 : Int32) (b9 : Int32) (b10 : Int32) (b11 : Int32) (hb10 : zI b10 0 1) (hb11 : zI b11 0 1) : zM l G y_Pair_isSo prog_6_method_9_code 2 (Option.some Jvm.ClassFile.FieldType.boolean) m_s3_Pair_isSo [.ref b0, .int b1] [(b0, .inr (10, [.int b2, .int b3, .int b4, .int b5, .int b6, .int b7, .int b8, .int b9, .int b10, .int b11]))] (fun v w => ∃ (e0 : Int32), v = some (.int e0) ∧ w = [(b0, .inr (10, [.int b2, .int b3, .int b4, .int b5, .int b6, .int b7, .int b8, .int b9, .int b10, .int b11]))] ∧ (zI e0 0 1) ∧ (0 ≤ (b1 : Int32).toInt ∧ (b1 : Int32).toInt ≤ 5 → (e0 : Int32).toInt = zIs (b1 : Int32).toInt (b6 : Int32).toInt (b9 : Int32).toInt (b4 : Int32).toInt (b5 : Int32).toInt (b7 : Int32).toInt (b8 : Int32).toInt (b10 : Int32).toInt (b11 : Int32).toInt)) := by
  refine z_start (by decide +kernel) (Nat.le_of_ble_eq_true rfl) ?_
  intro p e s m below meth c A Z hr hnm hA hP hD hS ls hl
  have Z : zC p s m _ meth c prog_6_method_9_code 2 "TraceMachines$Pair" G := Z
  obtain ⟨hx, hb, hml, hown, hts, hK, hN, hlocks⟩ := id Z
  have hl : lv_has ls 2 [(0, .ref b0), (1, .int b1)] := hl
  refine lv_iload_n hx hb d_Pair_isSo_0 rfl (lv_at hl 1 rfl) ?_
  by_cases hs_1 : b1 = 0
  · subst hs_1
    refine lv_tableIn (off := 35) (tgt := 36) hx hb d_Pair_isSo_1 (by decide +kernel) (by decide +kernel) rfl (by decide) ?_
    refine lv_aload_n hx hb d_Pair_isSo_36 rfl (lv_at hl 0 rfl) ?_
    refine va_get (D := G.1) (ci := 10) (v := .int b8) (C := R_Pair) (T := F_Pair) (N := 10) hx hb hts i_Pair hown hK hP 0 rfl rfl 6 (by decide) (hts _ q371) (fun _ h9 => h9) rfl d_Pair_isSo_37 ?_
    refine lv_aload_n hx hb d_Pair_isSo_40 rfl (lv_at hl 0 rfl) ?_
    refine va_get (D := G.1) (ci := 10) (v := .int b5) (C := R_Pair) (T := F_Pair) (N := 10) hx hb hts i_Pair hown hK hP 0 rfl rfl 3 (by decide) (hts _ q368) (fun _ h9 => h9) rfl d_Pair_isSo_41 ?_
    refine lv_icmp_le (tgt := 51) hx hb d_Pair_isSo_44 (by decide) (fun hc_2 => ?_) (fun hc_2 => ?_)
    · have _nhc_2 := hc_2
      have ni_3 := (fa_le _ _).mp hc_2
      refine lv_iconst (v := 0) hx hb d_Pair_isSo_51 (by decide) ?_
      exact z_zret hx hb hr hlocks rfl hP hD hS (Nat.le_of_ble_eq_true rfl) (Nat.le_of_ble_eq_true rfl) d_Pair_isSo_52 ⟨0, rfl, rfl, (zI.wk (l' := 0) (h' := 1) zc_0 (by decide)), (by have _l0 := li_0; have _l1 := li_1; have _l2 := li_2; have _l3 := li_3; have _l4 := li_4; have _l5 := li_5; intro h9; unfold zIs; (repeat' split) <;> omega)⟩
    · have _nhc_2 := hc_2
      have ni_4 := (fa_lt _ _).mp (zi_nle hc_2)
      have hv_5 : zI b5 (-2147483648) 2147483646 := zI.lt_l (zI_all b5) (zI_all b8) (zi_nle hc_2) (by decide)
      have hv_6 : zI b8 (-2147483647) 2147483647 := zI.lt_r (zI_all b5) (zI_all b8) (zi_nle hc_2) (by decide)
      refine lv_iconst (v := 1) hx hb d_Pair_isSo_47 (by decide) ?_
      refine lv_goto (tgt := 52) hx hb d_Pair_isSo_48 (by decide) ?_
      exact z_zret hx hb hr hlocks rfl hP hD hS (Nat.le_of_ble_eq_true rfl) (Nat.le_of_ble_eq_true rfl) d_Pair_isSo_52 ⟨1, rfl, rfl, (zI.wk (l' := 0) (h' := 1) zc_1 (by decide)), (by have _l0 := li_0; have _l1 := li_1; have _l2 := li_2; have _l3 := li_3; have _l4 := li_4; have _l5 := li_5; intro h9; unfold zIs; (repeat' split) <;> omega)⟩
  simp only [fa_lt, fa_le, fa_eq, Int32.toInt_toInt64, li_0] at hs_1
  by_cases hs_7 : b1 = 1
  · subst hs_7
    refine lv_tableIn (off := 52) (tgt := 53) hx hb d_Pair_isSo_1 (by decide +kernel) (by decide +kernel) rfl (by decide) ?_
    refine lv_aload_n hx hb d_Pair_isSo_53 rfl (lv_at hl 0 rfl) ?_
    refine va_get (D := G.1) (ci := 10) (v := .int b6) (C := R_Pair) (T := F_Pair) (N := 10) hx hb hts i_Pair hown hK hP 0 rfl rfl 4 (by decide) (hts _ q369) (fun _ h9 => h9) rfl d_Pair_isSo_54 ?_
    refine lv_if_le (tgt := 75) hx hb d_Pair_isSo_57 (by decide) (fun hc_8 => ?_) (fun hc_8 => ?_)
    · have _nhc_8 := hc_8
      have ni_9 := (fa_le _ _).mp hc_8
      rw [li_0] at ni_9
      have hv_10 : zI b6 (-2147483648) 0 := zI.le_l (zI_all b6) zc_0 hc_8 (by decide)
      refine lv_iconst (v := 0) hx hb d_Pair_isSo_75 (by decide) ?_
      exact z_zret hx hb hr hlocks rfl hP hD hS (Nat.le_of_ble_eq_true rfl) (Nat.le_of_ble_eq_true rfl) d_Pair_isSo_76 ⟨0, rfl, rfl, (zI.wk (l' := 0) (h' := 1) zc_0 (by decide)), (by have _l0 := li_0; have _l1 := li_1; have _l2 := li_2; have _l3 := li_3; have _l4 := li_4; have _l5 := li_5; intro h9; unfold zIs; (repeat' split) <;> omega)⟩
    · have _nhc_8 := hc_8
      have ni_11 := (fa_lt _ _).mp (zi_nle hc_8)
      rw [li_0] at ni_11
      have hv_12 : zI b6 1 2147483647 := zI.lt_r zc_0 (zI_all b6) (zi_nle hc_8) (by decide)
      refine lv_aload_n hx hb d_Pair_isSo_60 rfl (lv_at hl 0 rfl) ?_
      refine va_get (D := G.1) (ci := 10) (v := .int b4) (C := R_Pair) (T := F_Pair) (N := 10) hx hb hts i_Pair hown hK hP 0 rfl rfl 2 (by decide) (hts _ q367) (fun _ h9 => h9) rfl d_Pair_isSo_61 ?_
      refine lv_aload_n hx hb d_Pair_isSo_64 rfl (lv_at hl 0 rfl) ?_
      refine va_get (D := G.1) (ci := 10) (v := .int b7) (C := R_Pair) (T := F_Pair) (N := 10) hx hb hts i_Pair hown hK hP 0 rfl rfl 5 (by decide) (hts _ q370) (fun _ h9 => h9) rfl d_Pair_isSo_65 ?_
      refine lv_icmp_ge (tgt := 75) hx hb d_Pair_isSo_68 (by decide) (fun hc_13 => ?_) (fun hc_13 => ?_)
      · have _nhc_13 := hc_13
        have ni_14 := (fa_le _ _).mp hc_13
        refine lv_iconst (v := 0) hx hb d_Pair_isSo_75 (by decide) ?_
        exact z_zret hx hb hr hlocks rfl hP hD hS (Nat.le_of_ble_eq_true rfl) (Nat.le_of_ble_eq_true rfl) d_Pair_isSo_76 ⟨0, rfl, rfl, (zI.wk (l' := 0) (h' := 1) zc_0 (by decide)), (by have _l0 := li_0; have _l1 := li_1; have _l2 := li_2; have _l3 := li_3; have _l4 := li_4; have _l5 := li_5; intro h9; unfold zIs; (repeat' split) <;> omega)⟩
      · have _nhc_13 := hc_13
        have ni_15 := (fa_lt _ _).mp (zi_nle hc_13)
        have hv_16 : zI b4 (-2147483648) 2147483646 := zI.lt_l (zI_all b4) (zI_all b7) (zi_nle hc_13) (by decide)
        have hv_17 : zI b7 (-2147483647) 2147483647 := zI.lt_r (zI_all b4) (zI_all b7) (zi_nle hc_13) (by decide)
        refine lv_iconst (v := 1) hx hb d_Pair_isSo_71 (by decide) ?_
        refine lv_goto (tgt := 76) hx hb d_Pair_isSo_72 (by decide) ?_
        exact z_zret hx hb hr hlocks rfl hP hD hS (Nat.le_of_ble_eq_true rfl) (Nat.le_of_ble_eq_true rfl) d_Pair_isSo_76 ⟨1, rfl, rfl, (zI.wk (l' := 0) (h' := 1) zc_1 (by decide)), (by have _l0 := li_0; have _l1 := li_1; have _l2 := li_2; have _l3 := li_3; have _l4 := li_4; have _l5 := li_5; intro h9; unfold zIs; (repeat' split) <;> omega)⟩
  simp only [fa_lt, fa_le, fa_eq, Int32.toInt_toInt64, li_1] at hs_7
  by_cases hs_18 : b1 = 2
  · subst hs_18
    refine lv_tableIn (off := 76) (tgt := 77) hx hb d_Pair_isSo_1 (by decide +kernel) (by decide +kernel) rfl (by decide) ?_
    refine lv_aload_n hx hb d_Pair_isSo_77 rfl (lv_at hl 0 rfl) ?_
    refine va_get (D := G.1) (ci := 10) (v := .int b8) (C := R_Pair) (T := F_Pair) (N := 10) hx hb hts i_Pair hown hK hP 0 rfl rfl 6 (by decide) (hts _ q371) (fun _ h9 => h9) rfl d_Pair_isSo_78 ?_
    refine lv_aload_n hx hb d_Pair_isSo_81 rfl (lv_at hl 0 rfl) ?_
    refine va_get (D := G.1) (ci := 10) (v := .int b4) (C := R_Pair) (T := F_Pair) (N := 10) hx hb hts i_Pair hown hK hP 0 rfl rfl 2 (by decide) (hts _ q367) (fun _ h9 => h9) rfl d_Pair_isSo_82 ?_
    refine lv_icmp_ge (tgt := 92) hx hb d_Pair_isSo_85 (by decide) (fun hc_19 => ?_) (fun hc_19 => ?_)
    · have _nhc_19 := hc_19
      have ni_20 := (fa_le _ _).mp hc_19
      refine lv_iconst (v := 0) hx hb d_Pair_isSo_92 (by decide) ?_
      exact z_zret hx hb hr hlocks rfl hP hD hS (Nat.le_of_ble_eq_true rfl) (Nat.le_of_ble_eq_true rfl) d_Pair_isSo_93 ⟨0, rfl, rfl, (zI.wk (l' := 0) (h' := 1) zc_0 (by decide)), (by have _l0 := li_0; have _l1 := li_1; have _l2 := li_2; have _l3 := li_3; have _l4 := li_4; have _l5 := li_5; intro h9; unfold zIs; (repeat' split) <;> omega)⟩
    · have _nhc_19 := hc_19
      have ni_21 := (fa_lt _ _).mp (zi_nle hc_19)
      have hv_22 : zI b8 (-2147483648) 2147483646 := zI.lt_l (zI_all b8) (zI_all b4) (zi_nle hc_19) (by decide)
      have hv_23 : zI b4 (-2147483647) 2147483647 := zI.lt_r (zI_all b8) (zI_all b4) (zi_nle hc_19) (by decide)
      refine lv_iconst (v := 1) hx hb d_Pair_isSo_88 (by decide) ?_
      refine lv_goto (tgt := 93) hx hb d_Pair_isSo_89 (by decide) ?_
      exact z_zret hx hb hr hlocks rfl hP hD hS (Nat.le_of_ble_eq_true rfl) (Nat.le_of_ble_eq_true rfl) d_Pair_isSo_93 ⟨1, rfl, rfl, (zI.wk (l' := 0) (h' := 1) zc_1 (by decide)), (by have _l0 := li_0; have _l1 := li_1; have _l2 := li_2; have _l3 := li_3; have _l4 := li_4; have _l5 := li_5; intro h9; unfold zIs; (repeat' split) <;> omega)⟩
  simp only [fa_lt, fa_le, fa_eq, Int32.toInt_toInt64, li_2] at hs_18
  by_cases hs_24 : b1 = 3
  · subst hs_24
    refine lv_tableIn (off := 93) (tgt := 94) hx hb d_Pair_isSo_1 (by decide +kernel) (by decide +kernel) rfl (by decide) ?_
    refine lv_aload_n hx hb d_Pair_isSo_94 rfl (lv_at hl 0 rfl) ?_
    refine va_get (D := G.1) (ci := 10) (v := .int b10) (C := R_Pair) (T := F_Pair) (N := 10) hx hb hts i_Pair hown hK hP 0 rfl rfl 8 (by decide) (hts _ q373) (fun _ h9 => h9) rfl d_Pair_isSo_95 ?_
    exact z_zret hx hb hr hlocks (zi_nb hb10) hP hD hS (Nat.le_of_ble_eq_true rfl) (Nat.le_of_ble_eq_true rfl) d_Pair_isSo_98 ⟨b10, rfl, rfl, hb10, (by have _l0 := li_0; have _l1 := li_1; have _l2 := li_2; have _l3 := li_3; have _l4 := li_4; have _l5 := li_5; intro h9; unfold zIs; (repeat' split) <;> omega)⟩
  simp only [fa_lt, fa_le, fa_eq, Int32.toInt_toInt64, li_3] at hs_24
  by_cases hs_25 : b1 = 4
  · subst hs_25
    refine lv_tableIn (off := 98) (tgt := 99) hx hb d_Pair_isSo_1 (by decide +kernel) (by decide +kernel) rfl (by decide) ?_
    refine lv_aload_n hx hb d_Pair_isSo_99 rfl (lv_at hl 0 rfl) ?_
    refine va_get (D := G.1) (ci := 10) (v := .int b6) (C := R_Pair) (T := F_Pair) (N := 10) hx hb hts i_Pair hown hK hP 0 rfl rfl 4 (by decide) (hts _ q369) (fun _ h9 => h9) rfl d_Pair_isSo_100 ?_
    refine lv_aload_n hx hb d_Pair_isSo_103 rfl (lv_at hl 0 rfl) ?_
    refine va_get (D := G.1) (ci := 10) (v := .int b9) (C := R_Pair) (T := F_Pair) (N := 10) hx hb hts i_Pair hown hK hP 0 rfl rfl 7 (by decide) (hts _ q372) (fun _ h9 => h9) rfl d_Pair_isSo_104 ?_
    refine lv_icmp_ne (tgt := 114) hx hb d_Pair_isSo_107 (by decide) (fun hc_26 => ?_) (fun hc_26 => ?_)
    · have _nhc_26 := hc_26
      have ni_27 : ¬ (b6 : Int32).toInt = (b9 : Int32).toInt := fun z => hc_26 ((fa_eq _ _).mpr z)
      refine lv_iconst (v := 0) hx hb d_Pair_isSo_114 (by decide) ?_
      exact z_zret hx hb hr hlocks rfl hP hD hS (Nat.le_of_ble_eq_true rfl) (Nat.le_of_ble_eq_true rfl) d_Pair_isSo_115 ⟨0, rfl, rfl, (zI.wk (l' := 0) (h' := 1) zc_0 (by decide)), (by have _l0 := li_0; have _l1 := li_1; have _l2 := li_2; have _l3 := li_3; have _l4 := li_4; have _l5 := li_5; intro h9; unfold zIs; (repeat' split) <;> omega)⟩
    · have _nhc_26 := hc_26
      have ni_28 := (fa_eq _ _).mp hc_26
      refine lv_iconst (v := 1) hx hb d_Pair_isSo_110 (by decide) ?_
      refine lv_goto (tgt := 115) hx hb d_Pair_isSo_111 (by decide) ?_
      exact z_zret hx hb hr hlocks rfl hP hD hS (Nat.le_of_ble_eq_true rfl) (Nat.le_of_ble_eq_true rfl) d_Pair_isSo_115 ⟨1, rfl, rfl, (zI.wk (l' := 0) (h' := 1) zc_1 (by decide)), (by have _l0 := li_0; have _l1 := li_1; have _l2 := li_2; have _l3 := li_3; have _l4 := li_4; have _l5 := li_5; intro h9; unfold zIs; (repeat' split) <;> omega)⟩
  simp only [fa_lt, fa_le, fa_eq, Int32.toInt_toInt64, li_4] at hs_25
  refine lv_tableOut (tgt := 116) hx hb d_Pair_isSo_1 (by omega) (by decide) ?_
  refine lv_aload_n hx hb d_Pair_isSo_116 rfl (lv_at hl 0 rfl) ?_
  refine va_get (D := G.1) (ci := 10) (v := .int b11) (C := R_Pair) (T := F_Pair) (N := 10) hx hb hts i_Pair hown hK hP 0 rfl rfl 9 (by decide) (hts _ q374) (fun _ h9 => h9) rfl d_Pair_isSo_117 ?_
  exact z_zret hx hb hr hlocks (zi_nb hb11) hP hD hS (Nat.le_of_ble_eq_true rfl) (Nat.le_of_ble_eq_true rfl) d_Pair_isSo_120 ⟨b11, rfl, rfl, hb11, (by have _l0 := li_0; have _l1 := li_1; have _l2 := li_2; have _l3 := li_3; have _l4 := li_4; have _l5 := li_5; intro h9; unfold zIs; (repeat' split) <;> omega)⟩
abbrev m_s2_Pair_tally : Room := { frames := 2, cells := 0, slots := 0, locals := 49 }
set_option maxHeartbeats 4000000 in
set_option maxRecDepth 100000 in
theorem s2_Pair_tally (l : Launch) (G : zG) (b0 : Nat) (b1 : Nat) (b2 : Int32) (b3 : Int32) (b4 : Int32) (b5 : Int32) (b6 : Int32) (b7 : Int32) (b8 : Int32) (b9 : Int32) (b10 : Int32) (b11 : Int32) (b12 : Int32) (b13 : Int32) (b14 : Int32) (b15 : Int32) (b16 : Int32) (b17 : Int32) (b18 : Nat) (b19 : Nat) (b20 : Nat) (b21 : Nat → Int32) (b22 : Nat → Int32) (hb13 : zI b13 0 1) (hb14 : zI b14 0 1) (hb15 : zI b15 0 20) (hb16 : zI b16 0 3) (hb17 : zI b17 0 20) (hb21 : zR b21 0 12) (hb22 : zR b22 0 9) : zM l G y_Pair_tally prog_6_method_3_code 6 (Option.none : Option Jvm.ClassFile.FieldType) m_s2_Pair_tally [.ref b0, .ref b1, .int b2, .int b3, .int b4] [(b0, .inr (10, [.int b5, .int b6, .int b7, .int b8, .int b9, .int b10, .int b11, .int b12, .int b13, .int b14])), (b1, .inr (2, [.int b15, .int b16, .int b17, .ref b18, .ref b19, .ref b20])), (b18, .inl (G.2 0, 20, .inl b21)), (b19, .inl (G.2 0, 240, .inl b22))] (fun v w => ∃ (e0 : Int32), ∃ (e1 : Int32), ∃ (e2 : Int32), ∃ (e3 : Int32), ∃ (e4 : Int32), ∃ (e5 : Int32), ∃ (e6 : Int32), ∃ (e7 : Int32), ∃ (e8 : Int32), ∃ (e9 : Int32), v = none ∧ w = [(b0, .inr (10, [.int e0, .int e1, .int e2, .int e3, .int e4, .int e5, .int e6, .int e7, .int e8, .int e9])), (b1, .inr (2, [.int b15, .int b16, .int b17, .ref b18, .ref b19, .ref b20])), (b18, .inl (G.2 0, 20, .inl b21)), (b19, .inl (G.2 0, 240, .inl b22))] ∧ (zI e8 0 1) ∧ (zI e9 0 1) ∧ (¬ b3 = b4 → 0 ≤ (b2 : Int32).toInt ∧ (b2 : Int32).toInt ≤ 5 → (e0 : Int32).toInt = zas (b2 : Int32).toInt b22 0 b21 0 b3 b4 0 ((b15 : Int32).toInt.toNat) ∧ (e1 : Int32).toInt = zas (b2 : Int32).toInt b22 0 b21 0 b3 b4 1 ((b15 : Int32).toInt.toNat))) := by
  refine z_start (by decide +kernel) (Nat.le_of_ble_eq_true rfl) ?_
  intro p e s m below meth c A Z hr hnm hA hP hD hS ls hl
  have Z : zC p s m _ meth c prog_6_method_3_code 6 "TraceMachines$Pair" G := Z
  obtain ⟨hx, hb, hml, hown, hts, hK, hN, hlocks⟩ := id Z
  have hl : lv_has ls 6 [(0, .ref b0), (1, .ref b1), (2, .int b2), (3, .int b3), (4, .int b4)] := hl
  refine lv_aload_n hx hb d_Pair_tally_0 rfl (lv_at hl 0 rfl) ?_
  refine lv_iconst (v := 0) hx hb d_Pair_tally_1 (by decide) ?_
  refine va_put (D := G.1) (ci := 10) (v := .int 0) (ty := .int) (C := R_Pair) (T := F_Pair) (N := 10) hx hb hts i_Pair t_Pair t_Pair_ok n_Pair hown hK hP hD hS 0 rfl rfl 0 (by decide) (hts _ q363) (fun _ h9 => h9) rfl (by decide +kernel) rfl rfl (Nat.le_of_ble_eq_true rfl) d_Pair_tally_2 (fun H locs hP hD hS => ?_)
  have hP : va_P G.1 classes [(b0, .inr (10, [.int 0, .int b6, .int b7, .int b8, .int b9, .int b10, .int b11, .int b12, .int b13, .int b14])), (b1, .inr (2, [.int b15, .int b16, .int b17, .ref b18, .ref b19, .ref b20])), (b18, .inl (G.2 0, 20, .inl b21)), (b19, .inl (G.2 0, 240, .inl b22))] H := hP
  have hD := z_tie hP hD rfl
  refine lv_aload_n hx hb d_Pair_tally_5 rfl (lv_at hl 0 rfl) ?_
  refine lv_iconst (v := 0) hx hb d_Pair_tally_6 (by decide) ?_
  refine va_put (D := G.1) (ci := 10) (v := .int 0) (ty := .int) (C := R_Pair) (T := F_Pair) (N := 10) hx hb hts i_Pair t_Pair t_Pair_ok n_Pair hown hK hP hD hS 0 rfl rfl 1 (by decide) (hts _ q365) (fun _ h9 => h9) rfl (by decide +kernel) rfl rfl (Nat.le_of_ble_eq_true rfl) d_Pair_tally_7 (fun H locs hP hD hS => ?_)
  have hP : va_P G.1 classes [(b0, .inr (10, [.int 0, .int 0, .int b7, .int b8, .int b9, .int b10, .int b11, .int b12, .int b13, .int b14])), (b1, .inr (2, [.int b15, .int b16, .int b17, .ref b18, .ref b19, .ref b20])), (b18, .inl (G.2 0, 20, .inl b21)), (b19, .inl (G.2 0, 240, .inl b22))] H := hP
  have hD := z_tie hP hD rfl
  refine lv_iconst (v := 0) hx hb d_Pair_tally_10 (by decide) ?_
  refine lv_istore (lv' := [(5, .int 0), (0, .ref b0), (1, .ref b1), (2, .int b2), (3, .int b3), (4, .int b4)]) hx hb d_Pair_tally_11 hl (by decide) rfl (fun ls hl => ?_)
  suffices key : ∀ (k_48 : Nat) (y_49 : Int32) (y_50 : Int32) (y_51 : Int32) (y_52 : Int32) (y_53 : Int32) (y_54 : Int32) (y_55 : Int32) (y_56 : Int32) (y_57 : Int32) (y_58 : Int32) (y_59 : Int32) (H : Heap) (locs : List Loc) (ls : Array Slot), (zI y_49 0 20) → (zI y_56 0 1) → (zI y_57 0 1) → ((y_49 : Int32).toInt ≤ (b15 : Int32).toInt) → (¬ b3 = b4 → 0 ≤ (b2 : Int32).toInt ∧ (b2 : Int32).toInt ≤ 5 → (y_58 : Int32).toInt = zas (b2 : Int32).toInt b22 0 b21 0 b3 b4 0 ((y_49 : Int32).toInt.toNat) ∧ (y_59 : Int32).toInt = zas (b2 : Int32).toInt b22 0 b21 0 b3 b4 1 ((y_49 : Int32).toInt.toNat)) → (20 : Int) - y_49.toInt < (k_48 : Int) → va_P G.1 classes [(b0, .inr (10, [.int y_58, .int y_59, .int y_50, .int y_51, .int y_52, .int y_53, .int y_54, .int y_55, .int y_56, .int y_57])), (b1, .inr (2, [.int b15, .int b16, .int b17, .ref b18, .ref b19, .ref b20])), (b18, .inl (G.2 0, 20, .inl b21)), (b19, .inl (G.2 0, 240, .inl b22))] H → va_D A [(b0, .inr (10, [.int y_58, .int y_59, .int y_50, .int y_51, .int y_52, .int y_53, .int y_54, .int y_55, .int y_56, .int y_57])), (b1, .inr (2, [.int b15, .int b16, .int b17, .ref b18, .ref b19, .ref b20])), (b18, .inl (G.2 0, 20, .inl b21)), (b19, .inl (G.2 0, 240, .inl b22))] → va_S A s.heap H locs → lv_has ls 6 [(5, .int y_49), (0, .ref b0), (1, .ref b1), (2, .int b2), (3, .int b3), (4, .int b4)] → W p l e m_s2_Pair_tally s m ([.ref b0, .ref b1, .int b2, .int b3, .int b4] : List Value).toArray below meth c H locs 0 0 (MQ below (zQ G (fun v w => ∃ (e0 : Int32), ∃ (e1 : Int32), ∃ (e2 : Int32), ∃ (e3 : Int32), ∃ (e4 : Int32), ∃ (e5 : Int32), ∃ (e6 : Int32), ∃ (e7 : Int32), ∃ (e8 : Int32), ∃ (e9 : Int32), v = none ∧ w = [(b0, .inr (10, [.int e0, .int e1, .int e2, .int e3, .int e4, .int e5, .int e6, .int e7, .int e8, .int e9])), (b1, .inr (2, [.int b15, .int b16, .int b17, .ref b18, .ref b19, .ref b20])), (b18, .inl (G.2 0, 20, .inl b21)), (b19, .inl (G.2 0, 240, .inl b22))] ∧ (zI e8 0 1) ∧ (zI e9 0 1) ∧ (¬ b3 = b4 → 0 ≤ (b2 : Int32).toInt ∧ (b2 : Int32).toInt ≤ 5 → (e0 : Int32).toInt = zas (b2 : Int32).toInt b22 0 b21 0 b3 b4 0 ((b15 : Int32).toInt.toNat) ∧ (e1 : Int32).toInt = zas (b2 : Int32).toInt b22 0 b21 0 b3 b4 1 ((b15 : Int32).toInt.toNat))) A) ([.ref b0, .ref b1, .int b2, .int b3, .int b4] : List Value).toArray s m_s2_Pair_tally.cells m_s2_Pair_tally.slots A) (F0 m 13 ls []) by
    exact key 21 (0) (b7) (b8) (b9) (b10) (b11) (b12) (b13) (b14) (0) (0) _ _ _ (zI.wk (l' := 0) (h' := 20) zc_0 (by decide)) hb13 hb14 (by have _l0 := li_0; omega) (fun _ _ => by rw [show (0 : Int32).toInt.toNat = 0 by rw [li_0]; rfl]; exact ⟨li_0, li_0⟩) (zm_upi (zI.wk (l' := 0) (h' := 20) zc_0 (by decide)) (by decide)) hP hD hS (lv_sub hl [0, 1, 2, 3, 4, 5] rfl)
  intro k_48
  induction k_48 with
  | zero =>
    intro y_49 y_50 y_51 y_52 y_53 y_54 y_55 y_56 y_57 y_58 y_59 H locs ls hy_49 hy_56 hy_57 hli_60 hli_61 hmk_48 hP hD hS hl
    exact (zm_up0 hy_49 hmk_48).elim
  | succ k_48 ihk_48 =>
    intro y_49 y_50 y_51 y_52 y_53 y_54 y_55 y_56 y_57 y_58 y_59 H locs ls hy_49 hy_56 hy_57 hli_60 hli_61 hmk_48 hP hD hS hl
    refine lv_iload hx hb d_Pair_tally_13 (lv_at hl 0 rfl) ?_
    refine lv_aload_n hx hb d_Pair_tally_15 rfl (lv_at hl 2 rfl) ?_
    refine va_get (D := G.1) (ci := 2) (v := .int b15) (C := R_Traces) (T := F_Traces) (N := 6) hx hb hts i_Traces hown hK hP 1 rfl rfl 0 (by decide) (hts _ q56) (fun _ h9 => h9) rfl d_Pair_tally_16 ?_
    refine lv_icmp_ge (tgt := 74) hx hb d_Pair_tally_19 (by decide) (fun hc_62 => ?_) (fun hc_62 => ?_)
    · have _nhc_62 := hc_62
      have ni_63 := (fa_le _ _).mp hc_62
      exact z_vret hx hb hr hlocks hP hD hS (Nat.le_of_ble_eq_true rfl) (Nat.le_of_ble_eq_true rfl) d_Pair_tally_74 ⟨y_58, y_59, y_50, y_51, y_52, y_53, y_54, y_55, y_56, y_57, rfl, rfl, hy_56, hy_57, (fun hne hk => by have i9 := hli_61 hne hk; rw [show y_49.toInt.toNat = b15.toInt.toNat by omega] at i9; exact i9)⟩
    · have _nhc_62 := hc_62
      have ni_64 := (fa_lt _ _).mp (zi_nle hc_62)
      have hv_65 : zI y_49 0 19 := zI.lt_l hy_49 hb15 (zi_nle hc_62) (by decide)
      have hv_66 : zI b15 1 20 := zI.lt_r hy_49 hb15 (zi_nle hc_62) (by decide)
      refine lv_aload_n hx hb d_Pair_tally_22 rfl (lv_at hl 1 rfl) ?_
      refine lv_aload_n hx hb d_Pair_tally_23 rfl (lv_at hl 2 rfl) ?_
      refine lv_iload hx hb d_Pair_tally_24 (lv_at hl 0 rfl) ?_
      refine lv_iload_n hx hb d_Pair_tally_26 rfl (lv_at hl 4 rfl) ?_
      refine lv_iload hx hb d_Pair_tally_27 (lv_at hl 5 rfl) ?_
      refine z_callV (index := 27) (As := [.ref b1, .int y_49, .int b3, .int b4]) (rest := []) (wr := []) Z (s9_Pair_look l G (b0) (b1) (y_49) (b3) (b4) (y_58) (y_59) (y_50) (y_51) (y_52) (y_53) (y_54) (y_55) (y_56) (y_57) (b15) (b16) (b17) (b18) (b19) (b20) (b21) (b22) hv_65 hy_56 hy_57 (zI.wk (l' := 0) (h' := 20) hv_66 (by decide)) hb16 hb17 hb21 hb22) hl.1 q923 q925 qs32 q11 q926 ⟨by decide, by decide, by show _ = some 4; decide +kernel⟩ ⟨Nat.le_of_ble_eq_true rfl, Nat.le_of_ble_eq_true rfl⟩ ⟨Nat.le_of_ble_eq_true rfl, Nat.le_of_ble_eq_true rfl⟩ rfl (Nat.le_of_ble_eq_true rfl) d_Pair_tally_29 hP hD hS hA 0 10 rfl rfl rfl [0, 1, 2, 3] [] rfl rfl rfl rfl (by decide) (fun v w1 H locs hw_67 hP hD hS => ?_)
      obtain ⟨x_68, x_69, x_70, x_71, x_72, x_73, x_74, x_75, rfl, rfl, hx_69, hx_72, hx_74, hx_75, hfx_76⟩ := hw_67
      have hP : va_P G.1 classes [(b0, .inr (10, [.int y_58, .int y_59, .int x_68, .int x_69, .int x_70, .int x_71, .int x_72, .int x_73, .int x_74, .int x_75])), (b1, .inr (2, [.int b15, .int b16, .int b17, .ref b18, .ref b19, .ref b20])), (b18, .inl (G.2 0, 20, .inl b21)), (b19, .inl (G.2 0, 240, .inl b22))] H := hP
      have hD := z_tie hP hD rfl
      refine W.widen (k := 0) (n := 0) (Nat.le_of_ble_eq_true rfl) (Nat.le_of_ble_eq_true rfl) ?_
      refine lv_aload_n hx hb d_Pair_tally_32 rfl (lv_at hl 1 rfl) ?_
      refine lv_iload_n hx hb d_Pair_tally_33 rfl (lv_at hl 3 rfl) ?_
      refine z_callV (index := 30) (As := [.int b2]) (rest := []) (wr := [(b1, .inr (2, [.int b15, .int b16, .int b17, .ref b18, .ref b19, .ref b20])), (b18, .inl (G.2 0, 20, .inl b21)), (b19, .inl (G.2 0, 240, .inl b22))]) Z (s3_Pair_isAsked l G (b0) (b2) (y_58) (y_59) (x_68) (x_69) (x_70) (x_71) (x_72) (x_73) (x_74) (x_75) hx_74 hx_75) hl.1 q940 q942 qs36 q11 q943 ⟨by decide, by decide, by show _ = some 1; decide +kernel⟩ ⟨Nat.le_of_ble_eq_true rfl, Nat.le_of_ble_eq_true rfl⟩ ⟨Nat.le_of_ble_eq_true rfl, Nat.le_of_ble_eq_true rfl⟩ rfl (Nat.le_of_ble_eq_true rfl) d_Pair_tally_34 hP hD hS hA 0 10 rfl rfl rfl [0] [1, 2, 3] rfl rfl rfl rfl (by decide) (fun v w1 H locs hw_77 hP hD hS => ?_)
      obtain ⟨x_78, rfl, rfl, hx_78, hfx_79⟩ := hw_77
      have hP : va_P G.1 classes [(b1, .inr (2, [.int b15, .int b16, .int b17, .ref b18, .ref b19, .ref b20])), (b18, .inl (G.2 0, 20, .inl b21)), (b19, .inl (G.2 0, 240, .inl b22)), (b0, .inr (10, [.int y_58, .int y_59, .int x_68, .int x_69, .int x_70, .int x_71, .int x_72, .int x_73, .int x_74, .int x_75]))] H := hP
      have hD := z_tie hP hD rfl
      refine W.widen (k := 0) (n := 0) (Nat.le_of_ble_eq_true rfl) (Nat.le_of_ble_eq_true rfl) ?_
      refine lv_if_eq (tgt := 68) hx hb d_Pair_tally_37 (by decide) (fun hc_80 => ?_) (fun hc_80 => ?_)
      · have _nhc_80 := hc_80
        have ni_81 := (fa_eq _ _).mp hc_80
        rw [li_0] at ni_81
        have hv_82 : zI x_78 0 0 := zI.eq_l hx_78 zc_0 hc_80
        obtain ⟨v_83, ev_83⟩ : ∃ z : Int32, z = y_49 + 1 := ⟨_, rfl⟩
        obtain ⟨qv_83, hv_83⟩ := zI_add (l := 1) (h := 20) hv_65 zc_1 ev_83 (by decide)
        rw [li_1] at qv_83
        refine lv_iinc (v := v_83) (lv' := [(5, .int v_83), (0, .ref b0), (1, .ref b1), (2, .int b2), (3, .int b3), (4, .int b4)]) hx hb d_Pair_tally_68 hl (k := 0) rfl (by rw [ev_83]; rfl) (by decide) rfl (fun ls hl => ?_)
        refine lv_goto (tgt := 13) hx hb d_Pair_tally_71 (by decide) ?_
        exact ihk_48 (v_83) (x_68) (x_69) (x_70) (x_71) (x_72) (x_73) (x_74) (x_75) (y_58) (y_59) _ _ _ (zI.wk (l' := 0) (h' := 20) hv_83 (by decide)) hx_74 hx_75 (by omega) (fun hne hk => by obtain ⟨i1, i2⟩ := hli_61 hne hk; have _l0 := li_0; have _l1 := li_1; have f9 := zLf_a (k := b2.toInt) (hfx_76 hne); have a9 := hfx_79 hk; exact zas_s (t := y_49.toInt.toNat) (rs := 0) i1 i2 (by omega) (f9.1 ▸ a9) (Or.inl ⟨by omega, rfl, rfl⟩) (by omega)) (zm_up qv_83 hmk_48 (by decide)) (hP.sub [3, 0, 1, 2] rfl) (hD.sub [3, 0, 1, 2] (by decide) rfl) hS (lv_sub hl [0, 1, 2, 3, 4, 5] rfl)
      · have _nhc_80 := hc_80
        have ni_84 : ¬ (x_78 : Int32).toInt = (0 : Int32).toInt := fun z => hc_80 ((fa_eq _ _).mpr z)
        simp only [li_0] at ni_84
        have hv_85 : zI x_78 1 1 := zI.ne_lo hx_78 zc_0 hc_80 (by decide)
        refine lv_aload_n hx hb d_Pair_tally_40 rfl (lv_at hl 1 rfl) ?_
        refine lv_dup hx hb d_Pair_tally_41 rfl ?_
        refine va_get (D := G.1) (ci := 10) (v := .int y_58) (C := R_Pair) (T := F_Pair) (N := 10) hx hb hts i_Pair hown hK hP 3 rfl rfl 0 (by decide) (hts _ q363) (fun _ h9 => h9) rfl d_Pair_tally_42 ?_
        refine lv_iconst (v := 1) hx hb d_Pair_tally_45 (by decide) ?_
        refine lv_iadd hx hb d_Pair_tally_46 ?_
        refine lv_topi (fun v_86 ev_86 => ?_)
        refine va_put (D := G.1) (ci := 10) (v := .int v_86) (ty := .int) (C := R_Pair) (T := F_Pair) (N := 10) hx hb hts i_Pair t_Pair t_Pair_ok n_Pair hown hK hP hD hS 3 rfl rfl 0 (by decide) (hts _ q363) (fun _ h9 => h9) rfl (by decide +kernel) rfl rfl (Nat.le_of_ble_eq_true rfl) d_Pair_tally_47 (fun H locs hP hD hS => ?_)
        have hP : va_P G.1 classes [(b1, .inr (2, [.int b15, .int b16, .int b17, .ref b18, .ref b19, .ref b20])), (b18, .inl (G.2 0, 20, .inl b21)), (b19, .inl (G.2 0, 240, .inl b22)), (b0, .inr (10, [.int v_86, .int y_59, .int x_68, .int x_69, .int x_70, .int x_71, .int x_72, .int x_73, .int x_74, .int x_75]))] H := hP
        have hD := z_tie hP hD rfl
        refine lv_aload_n hx hb d_Pair_tally_50 rfl (lv_at hl 1 rfl) ?_
        refine lv_iload_n hx hb d_Pair_tally_51 rfl (lv_at hl 3 rfl) ?_
        refine z_callV (index := 34) (As := [.int b2]) (rest := []) (wr := [(b1, .inr (2, [.int b15, .int b16, .int b17, .ref b18, .ref b19, .ref b20])), (b18, .inl (G.2 0, 20, .inl b21)), (b19, .inl (G.2 0, 240, .inl b22))]) Z (s3_Pair_isSo l G (b0) (b2) (v_86) (y_59) (x_68) (x_69) (x_70) (x_71) (x_72) (x_73) (x_74) (x_75) hx_74 hx_75) hl.1 q944 q946 qs37 q11 q947 ⟨by decide, by decide, by show _ = some 1; decide +kernel⟩ ⟨Nat.le_of_ble_eq_true rfl, Nat.le_of_ble_eq_true rfl⟩ ⟨Nat.le_of_ble_eq_true rfl, Nat.le_of_ble_eq_true rfl⟩ rfl (Nat.le_of_ble_eq_true rfl) d_Pair_tally_52 hP hD hS hA 3 10 rfl rfl rfl [3] [0, 1, 2] rfl rfl rfl rfl (by decide) (fun v w1 H locs hw_87 hP hD hS => ?_)
        obtain ⟨x_88, rfl, rfl, hx_88, hfx_89⟩ := hw_87
        have hP : va_P G.1 classes [(b1, .inr (2, [.int b15, .int b16, .int b17, .ref b18, .ref b19, .ref b20])), (b18, .inl (G.2 0, 20, .inl b21)), (b19, .inl (G.2 0, 240, .inl b22)), (b0, .inr (10, [.int v_86, .int y_59, .int x_68, .int x_69, .int x_70, .int x_71, .int x_72, .int x_73, .int x_74, .int x_75]))] H := hP
        have hD := z_tie hP hD rfl
        refine W.widen (k := 0) (n := 0) (Nat.le_of_ble_eq_true rfl) (Nat.le_of_ble_eq_true rfl) ?_
        refine lv_if_eq (tgt := 68) hx hb d_Pair_tally_55 (by decide) (fun hc_90 => ?_) (fun hc_90 => ?_)
        · have _nhc_90 := hc_90
          have ni_91 := (fa_eq _ _).mp hc_90
          rw [li_0] at ni_91
          have hv_92 : zI x_88 0 0 := zI.eq_l hx_88 zc_0 hc_90
          obtain ⟨v_93, ev_93⟩ : ∃ z : Int32, z = y_49 + 1 := ⟨_, rfl⟩
          obtain ⟨qv_93, hv_93⟩ := zI_add (l := 1) (h := 20) hv_65 zc_1 ev_93 (by decide)
          rw [li_1] at qv_93
          refine lv_iinc (v := v_93) (lv' := [(5, .int v_93), (0, .ref b0), (1, .ref b1), (2, .int b2), (3, .int b3), (4, .int b4)]) hx hb d_Pair_tally_68 hl (k := 0) rfl (by rw [ev_93]; rfl) (by decide) rfl (fun ls hl => ?_)
          refine lv_goto (tgt := 13) hx hb d_Pair_tally_71 (by decide) ?_
          exact ihk_48 (v_93) (x_68) (x_69) (x_70) (x_71) (x_72) (x_73) (x_74) (x_75) (v_86) (y_59) _ _ _ (zI.wk (l' := 0) (h' := 20) hv_93 (by decide)) hx_74 hx_75 (by omega) (fun hne hk => by obtain ⟨i1, i2⟩ := hli_61 hne hk; have _l0 := li_0; have _l1 := li_1; have f9 := zLf_a (k := b2.toInt) (hfx_76 hne); have a9 := hfx_79 hk; have s9 := hfx_89 hk; exact zas_s (t := y_49.toInt.toNat) i1 i2 (by omega) (f9.1 ▸ a9) (Or.inr (Or.inl ⟨by omega, ev_86, f9.2 ▸ s9, by omega, rfl⟩)) (by omega)) (zm_up qv_93 hmk_48 (by decide)) (hP.sub [3, 0, 1, 2] rfl) (hD.sub [3, 0, 1, 2] (by decide) rfl) hS (lv_sub hl [0, 1, 2, 3, 4, 5] rfl)
        · have _nhc_90 := hc_90
          have ni_94 : ¬ (x_88 : Int32).toInt = (0 : Int32).toInt := fun z => hc_90 ((fa_eq _ _).mpr z)
          simp only [li_0] at ni_94
          have hv_95 : zI x_88 1 1 := zI.ne_lo hx_88 zc_0 hc_90 (by decide)
          refine lv_aload_n hx hb d_Pair_tally_58 rfl (lv_at hl 1 rfl) ?_
          refine lv_dup hx hb d_Pair_tally_59 rfl ?_
          refine va_get (D := G.1) (ci := 10) (v := .int y_59) (C := R_Pair) (T := F_Pair) (N := 10) hx hb hts i_Pair hown hK hP 3 rfl rfl 1 (by decide) (hts _ q365) (fun _ h9 => h9) rfl d_Pair_tally_60 ?_
          refine lv_iconst (v := 1) hx hb d_Pair_tally_63 (by decide) ?_
          refine lv_iadd hx hb d_Pair_tally_64 ?_
          refine lv_topi (fun v_96 ev_96 => ?_)
          refine va_put (D := G.1) (ci := 10) (v := .int v_96) (ty := .int) (C := R_Pair) (T := F_Pair) (N := 10) hx hb hts i_Pair t_Pair t_Pair_ok n_Pair hown hK hP hD hS 3 rfl rfl 1 (by decide) (hts _ q365) (fun _ h9 => h9) rfl (by decide +kernel) rfl rfl (Nat.le_of_ble_eq_true rfl) d_Pair_tally_65 (fun H locs hP hD hS => ?_)
          have hP : va_P G.1 classes [(b1, .inr (2, [.int b15, .int b16, .int b17, .ref b18, .ref b19, .ref b20])), (b18, .inl (G.2 0, 20, .inl b21)), (b19, .inl (G.2 0, 240, .inl b22)), (b0, .inr (10, [.int v_86, .int v_96, .int x_68, .int x_69, .int x_70, .int x_71, .int x_72, .int x_73, .int x_74, .int x_75]))] H := hP
          have hD := z_tie hP hD rfl
          obtain ⟨v_97, ev_97⟩ : ∃ z : Int32, z = y_49 + 1 := ⟨_, rfl⟩
          obtain ⟨qv_97, hv_97⟩ := zI_add (l := 1) (h := 20) hv_65 zc_1 ev_97 (by decide)
          rw [li_1] at qv_97
          refine lv_iinc (v := v_97) (lv' := [(5, .int v_97), (0, .ref b0), (1, .ref b1), (2, .int b2), (3, .int b3), (4, .int b4)]) hx hb d_Pair_tally_68 hl (k := 0) rfl (by rw [ev_97]; rfl) (by decide) rfl (fun ls hl => ?_)
          refine lv_goto (tgt := 13) hx hb d_Pair_tally_71 (by decide) ?_
          exact ihk_48 (v_97) (x_68) (x_69) (x_70) (x_71) (x_72) (x_73) (x_74) (x_75) (v_86) (v_96) _ _ _ (zI.wk (l' := 0) (h' := 20) hv_97 (by decide)) hx_74 hx_75 (by omega) (fun hne hk => by obtain ⟨i1, i2⟩ := hli_61 hne hk; have _l0 := li_0; have _l1 := li_1; have f9 := zLf_a (k := b2.toInt) (hfx_76 hne); have a9 := hfx_79 hk; have s9 := hfx_89 hk; exact zas_s (t := y_49.toInt.toNat) i1 i2 (by omega) (f9.1 ▸ a9) (Or.inr (Or.inr ⟨by omega, ev_86, f9.2 ▸ s9, by omega, ev_96⟩)) (by omega)) (zm_up qv_97 hmk_48 (by decide)) (hP.sub [3, 0, 1, 2] rfl) (hD.sub [3, 0, 1, 2] (by decide) rfl) hS (lv_sub hl [0, 1, 2, 3, 4, 5] rfl)
abbrev m_s2_Pair_stands : Room := { frames := 3, cells := 0, slots := 0, locals := 74 }
set_option maxHeartbeats 4000000 in
set_option maxRecDepth 100000 in
theorem s2_Pair_stands (l : Launch) (G : zG) (b0 : Nat) (b1 : Nat) (b2 : Int32) (b3 : Int32) (b4 : Int32) (b5 : Int32) (b6 : Int32) (b7 : Int32) (b8 : Int32) (b9 : Int32) (b10 : Int32) (b11 : Int32) (b12 : Int32) (b13 : Int32) (b14 : Int32) (b15 : Int32) (b16 : Int32) (b17 : Int32) (b18 : Int32) (b19 : Nat) (b20 : Nat) (b21 : Nat) (b22 : Nat → Int32) (b23 : Nat → Int32) (hb14 : zI b14 0 1) (hb15 : zI b15 0 1) (hb16 : zI b16 0 20) (hb17 : zI b17 0 3) (hb18 : zI b18 0 20) (hb22 : zR b22 0 12) (hb23 : zR b23 0 9) : zM l G y_Pair_stands prog_6_method_2_code 6 (Option.some Jvm.ClassFile.FieldType.boolean) m_s2_Pair_stands [.ref b0, .ref b1, .int b2, .int b3, .int b4, .int b5] [(b0, .inr (10, [.int b6, .int b7, .int b8, .int b9, .int b10, .int b11, .int b12, .int b13, .int b14, .int b15])), (b1, .inr (2, [.int b16, .int b17, .int b18, .ref b19, .ref b20, .ref b21])), (b19, .inl (G.2 0, 20, .inl b22)), (b20, .inl (G.2 0, 240, .inl b23))] (fun v w => ∃ (e0 : Int32), ∃ (e1 : Int32), ∃ (e2 : Int32), ∃ (e3 : Int32), ∃ (e4 : Int32), ∃ (e5 : Int32), ∃ (e6 : Int32), ∃ (e7 : Int32), ∃ (e8 : Int32), ∃ (e9 : Int32), ∃ (e10 : Int32), v = some (.int e0) ∧ w = [(b0, .inr (10, [.int e1, .int e2, .int e3, .int e4, .int e5, .int e6, .int e7, .int e8, .int e9, .int e10])), (b1, .inr (2, [.int b16, .int b17, .int b18, .ref b19, .ref b20, .ref b21])), (b19, .inl (G.2 0, 20, .inl b22)), (b20, .inl (G.2 0, 240, .inl b23))] ∧ (zI e0 0 1) ∧ (zI e9 0 1) ∧ (zI e10 0 1) ∧ (¬ b3 = b4 → 0 ≤ (b2 : Int32).toInt ∧ (b2 : Int32).toInt ≤ 5 → ((e0 : Int32).toInt = 1 ↔ (b5 : Int32).toInt ≤ zas (b2 : Int32).toInt b23 0 b22 0 b3 b4 0 ((b16 : Int32).toInt.toNat) ∧ zas (b2 : Int32).toInt b23 0 b22 0 b3 b4 1 ((b16 : Int32).toInt.toNat) = zas (b2 : Int32).toInt b23 0 b22 0 b3 b4 0 ((b16 : Int32).toInt.toNat)))) := by
  refine z_start (by decide +kernel) (Nat.le_of_ble_eq_true rfl) ?_
  intro p e s m below meth c A Z hr hnm hA hP hD hS ls hl
  have Z : zC p s m _ meth c prog_6_method_2_code 6 "TraceMachines$Pair" G := Z
  obtain ⟨hx, hb, hml, hown, hts, hK, hN, hlocks⟩ := id Z
  have hl : lv_has ls 6 [(0, .ref b0), (1, .ref b1), (2, .int b2), (3, .int b3), (4, .int b4), (5, .int b5)] := hl
  refine lv_aload_n hx hb d_Pair_stands_0 rfl (lv_at hl 0 rfl) ?_
  refine lv_aload_n hx hb d_Pair_stands_1 rfl (lv_at hl 1 rfl) ?_
  refine lv_iload_n hx hb d_Pair_stands_2 rfl (lv_at hl 2 rfl) ?_
  refine lv_iload_n hx hb d_Pair_stands_3 rfl (lv_at hl 3 rfl) ?_
  refine lv_iload hx hb d_Pair_stands_4 (lv_at hl 4 rfl) ?_
  refine z_callV (index := 9) (As := [.ref b1, .int b2, .int b3, .int b4]) (rest := []) (wr := []) Z (s2_Pair_tally l G (b0) (b1) (b2) (b3) (b4) (b6) (b7) (b8) (b9) (b10) (b11) (b12) (b13) (b14) (b15) (b16) (b17) (b18) (b19) (b20) (b21) (b22) (b23) hb14 hb15 hb16 hb17 hb18 hb22 hb23) hl.1 q956 q920 q921 q11 q922 ⟨by decide, by decide, by show _ = some 4; decide +kernel⟩ ⟨Nat.le_of_ble_eq_true rfl, Nat.le_of_ble_eq_true rfl⟩ ⟨Nat.le_of_ble_eq_true rfl, Nat.le_of_ble_eq_true rfl⟩ rfl (Nat.le_of_ble_eq_true rfl) d_Pair_stands_6 hP hD hS hA 0 10 rfl rfl rfl [0, 1, 2, 3] [] rfl rfl rfl rfl (by decide) (fun v w1 H locs hw_1 hP hD hS => ?_)
  refine Exists.elim hw_1 (fun x_2 hz_13 => Exists.elim hz_13 (fun x_3 hz_14 => Exists.elim hz_14 (fun x_4 hz_15 => Exists.elim hz_15 (fun x_5 hz_16 => Exists.elim hz_16 (fun x_6 hz_17 => Exists.elim hz_17 (fun x_7 hz_18 => Exists.elim hz_18 (fun x_8 hz_19 => Exists.elim hz_19 (fun x_9 hz_20 => Exists.elim hz_20 (fun x_10 hz_21 => Exists.elim hz_21 (fun x_11 hz_22 => ?_))))))))))
  clear hw_1 hz_13 hz_14 hz_15 hz_16 hz_17 hz_18 hz_19 hz_20 hz_21
  obtain ⟨rfl, rfl, hx_10, hx_11, hfx_12⟩ := hz_22
  have hP : va_P G.1 classes [(b0, .inr (10, [.int x_2, .int x_3, .int x_4, .int x_5, .int x_6, .int x_7, .int x_8, .int x_9, .int x_10, .int x_11])), (b1, .inr (2, [.int b16, .int b17, .int b18, .ref b19, .ref b20, .ref b21])), (b19, .inl (G.2 0, 20, .inl b22)), (b20, .inl (G.2 0, 240, .inl b23))] H := hP
  have hD := z_tie hP hD rfl
  refine W.widen (k := 0) (n := 0) (Nat.le_of_ble_eq_true rfl) (Nat.le_of_ble_eq_true rfl) ?_
  refine lv_aload_n hx hb d_Pair_stands_9 rfl (lv_at hl 0 rfl) ?_
  refine va_get (D := G.1) (ci := 10) (v := .int x_2) (C := R_Pair) (T := F_Pair) (N := 10) hx hb hts i_Pair hown hK hP 0 rfl rfl 0 (by decide) (hts _ q363) (fun _ h9 => h9) rfl d_Pair_stands_10 ?_
  refine lv_iload hx hb d_Pair_stands_13 (lv_at hl 5 rfl) ?_
  refine lv_icmp_lt (tgt := 33) hx hb d_Pair_stands_15 (by decide) (fun hc_23 => ?_) (fun hc_23 => ?_)
  · have _nhc_23 := hc_23
    have ni_24 := (fa_lt _ _).mp hc_23
    have hv_25 : zI x_2 (-2147483648) 2147483646 := zI.lt_l (zI_all x_2) (zI_all b5) hc_23 (by decide)
    have hv_26 : zI b5 (-2147483647) 2147483647 := zI.lt_r (zI_all x_2) (zI_all b5) hc_23 (by decide)
    refine lv_iconst (v := 0) hx hb d_Pair_stands_33 (by decide) ?_
    exact z_zret hx hb hr hlocks rfl hP hD hS (Nat.le_of_ble_eq_true rfl) (Nat.le_of_ble_eq_true rfl) d_Pair_stands_34 ⟨0, x_2, x_3, x_4, x_5, x_6, x_7, x_8, x_9, x_10, x_11, rfl, rfl, (zI.wk (l' := 0) (h' := 1) zc_0 (by decide)), hx_10, hx_11, (fun hne hk => by have a9 := hfx_12 hne hk; have _l0 := li_0; have _l1 := li_1; constructor <;> intro h9 <;> omega)⟩
  · have _nhc_23 := hc_23
    have ni_27 := (fa_le _ _).mp (zi_nlt hc_23)
    refine lv_aload_n hx hb d_Pair_stands_18 rfl (lv_at hl 0 rfl) ?_
    refine va_get (D := G.1) (ci := 10) (v := .int x_3) (C := R_Pair) (T := F_Pair) (N := 10) hx hb hts i_Pair hown hK hP 0 rfl rfl 1 (by decide) (hts _ q365) (fun _ h9 => h9) rfl d_Pair_stands_19 ?_
    refine lv_aload_n hx hb d_Pair_stands_22 rfl (lv_at hl 0 rfl) ?_
    refine va_get (D := G.1) (ci := 10) (v := .int x_2) (C := R_Pair) (T := F_Pair) (N := 10) hx hb hts i_Pair hown hK hP 0 rfl rfl 0 (by decide) (hts _ q363) (fun _ h9 => h9) rfl d_Pair_stands_23 ?_
    refine lv_icmp_ne (tgt := 33) hx hb d_Pair_stands_26 (by decide) (fun hc_28 => ?_) (fun hc_28 => ?_)
    · have _nhc_28 := hc_28
      have ni_29 : ¬ (x_3 : Int32).toInt = (x_2 : Int32).toInt := fun z => hc_28 ((fa_eq _ _).mpr z)
      refine lv_iconst (v := 0) hx hb d_Pair_stands_33 (by decide) ?_
      exact z_zret hx hb hr hlocks rfl hP hD hS (Nat.le_of_ble_eq_true rfl) (Nat.le_of_ble_eq_true rfl) d_Pair_stands_34 ⟨0, x_2, x_3, x_4, x_5, x_6, x_7, x_8, x_9, x_10, x_11, rfl, rfl, (zI.wk (l' := 0) (h' := 1) zc_0 (by decide)), hx_10, hx_11, (fun hne hk => by have a9 := hfx_12 hne hk; have _l0 := li_0; have _l1 := li_1; constructor <;> intro h9 <;> omega)⟩
    · have _nhc_28 := hc_28
      have ni_30 := (fa_eq _ _).mp hc_28
      refine lv_iconst (v := 1) hx hb d_Pair_stands_29 (by decide) ?_
      refine lv_goto (tgt := 34) hx hb d_Pair_stands_30 (by decide) ?_
      exact z_zret hx hb hr hlocks rfl hP hD hS (Nat.le_of_ble_eq_true rfl) (Nat.le_of_ble_eq_true rfl) d_Pair_stands_34 ⟨1, x_2, x_3, x_4, x_5, x_6, x_7, x_8, x_9, x_10, x_11, rfl, rfl, (zI.wk (l' := 0) (h' := 1) zc_1 (by decide)), hx_10, hx_11, (fun hne hk => by have a9 := hfx_12 hne hk; have _l0 := li_0; have _l1 := li_1; constructor <;> intro h9 <;> omega)⟩
