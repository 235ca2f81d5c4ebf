theorem d_Cover_search_0 : decode prog_2_method_6_code 0 = .ok (.iload_n 3, 1) := by decide +kernel
theorem d_Cover_search_1 : decode prog_2_method_6_code 1 = .ok (.aload_n 0, 1) := by decide +kernel
theorem d_Cover_search_2 : decode prog_2_method_6_code 2 = .ok (.getfield 35, 3) := by decide +kernel
theorem d_Cover_search_5 : decode prog_2_method_6_code 5 = .ok (.if_icmp .gt 19, 3) := by decide +kernel
theorem d_Cover_search_8 : decode prog_2_method_6_code 8 = .ok (.iload_n 3, 1) := by decide +kernel
theorem d_Cover_search_9 : decode prog_2_method_6_code 9 = .ok (.aload_n 0, 1) := by decide +kernel
theorem d_Cover_search_10 : decode prog_2_method_6_code 10 = .ok (.getfield 35, 3) := by decide +kernel
theorem d_Cover_search_13 : decode prog_2_method_6_code 13 = .ok (.if_icmp .ne 12, 3) := by decide +kernel
theorem d_Cover_search_16 : decode prog_2_method_6_code 16 = .ok (.iload_n 1, 1) := by decide +kernel
theorem d_Cover_search_17 : decode prog_2_method_6_code 17 = .ok (.aload_n 0, 1) := by decide +kernel
theorem d_Cover_search_18 : decode prog_2_method_6_code 18 = .ok (.getfield 32, 3) := by decide +kernel
theorem d_Cover_search_21 : decode prog_2_method_6_code 21 = .ok (.if_icmp .lt 4, 3) := by decide +kernel
theorem d_Cover_search_24 : decode prog_2_method_6_code 24 = .ok (.return_, 1) := by decide +kernel
theorem d_Cover_search_25 : decode prog_2_method_6_code 25 = .ok (.aload_n 0, 1) := by decide +kernel
theorem d_Cover_search_26 : decode prog_2_method_6_code 26 = .ok (.iload_n 1, 1) := by decide +kernel
theorem d_Cover_search_27 : decode prog_2_method_6_code 27 = .ok (.iload_n 2, 1) := by decide +kernel
theorem d_Cover_search_28 : decode prog_2_method_6_code 28 = .ok (.invokevirtual 70, 3) := by decide +kernel
theorem d_Cover_search_31 : decode prog_2_method_6_code 31 = .ok (.istore 4, 2) := by decide +kernel
theorem d_Cover_search_33 : decode prog_2_method_6_code 33 = .ok (.iload 4, 2) := by decide +kernel
theorem d_Cover_search_35 : decode prog_2_method_6_code 35 = .ok (.iconst (-1), 1) := by decide +kernel
theorem d_Cover_search_36 : decode prog_2_method_6_code 36 = .ok (.if_icmp .ne 14, 3) := by decide +kernel
theorem d_Cover_search_39 : decode prog_2_method_6_code 39 = .ok (.aload_n 0, 1) := by decide +kernel
theorem d_Cover_search_40 : decode prog_2_method_6_code 40 = .ok (.iload_n 1, 1) := by decide +kernel
theorem d_Cover_search_41 : decode prog_2_method_6_code 41 = .ok (.putfield 32, 3) := by decide +kernel
theorem d_Cover_search_44 : decode prog_2_method_6_code 44 = .ok (.aload_n 0, 1) := by decide +kernel
theorem d_Cover_search_45 : decode prog_2_method_6_code 45 = .ok (.iload_n 3, 1) := by decide +kernel
theorem d_Cover_search_46 : decode prog_2_method_6_code 46 = .ok (.putfield 35, 3) := by decide +kernel
theorem d_Cover_search_49 : decode prog_2_method_6_code 49 = .ok (.return_, 1) := by decide +kernel
theorem d_Cover_search_50 : decode prog_2_method_6_code 50 = .ok (.iload_n 3, 1) := by decide +kernel
theorem d_Cover_search_51 : decode prog_2_method_6_code 51 = .ok (.aload_n 0, 1) := by decide +kernel
theorem d_Cover_search_52 : decode prog_2_method_6_code 52 = .ok (.getfield 35, 3) := by decide +kernel
theorem d_Cover_search_55 : decode prog_2_method_6_code 55 = .ok (.if_icmp .ge 9, 3) := by decide +kernel
theorem d_Cover_search_58 : decode prog_2_method_6_code 58 = .ok (.iload_n 3, 1) := by decide +kernel
theorem d_Cover_search_59 : decode prog_2_method_6_code 59 = .ok (.bipush 20, 2) := by decide +kernel
theorem d_Cover_search_61 : decode prog_2_method_6_code 61 = .ok (.if_icmp .lt 4, 3) := by decide +kernel
theorem d_Cover_search_64 : decode prog_2_method_6_code 64 = .ok (.return_, 1) := by decide +kernel
abbrev m_s1_Cover_search : Room := { frames := 2, cells := 0, slots := 0, locals := 46 }
set_option maxHeartbeats 4000000 in
set_option maxRecDepth 100000 in
theorem s1_Cover_search (l : Launch) (G : zG) (b0 : Nat) (b1 : Int32) (b2 : Int32) (b3 : Int32) (b4 : Int32) (b5 : Int32) (b6 : Nat) (b7 : Int32) (b8 : Nat → Int32) (hb3 : zI b3 0 1) (hb7 : zI b7 0 240) : zM l G y_Cover_search prog_2_method_6_code 8 (Option.none : Option Jvm.ClassFile.FieldType) m_s1_Cover_search [.ref b0, .int b1, .int b2, .int 20] [(b0, .inr (9, [.int b3, .int b4, .int b5, .ref b6, .int b7])), (b6, .inl (G.2 0, 240, .inl b8))] (fun v w => ∃ (e0 : Int32), ∃ (e1 : Int32), v = none ∧ w = [(b0, .inr (9, [.int b3, .int e0, .int e1, .ref b6, .int b7])), (b6, .inl (G.2 0, 240, .inl b8))]) := by
  refine z_start (by decide +kernel) (Nat.le_of_ble_eq_true rfl) ?_
  intro p e s m below meth c A Z hr hnm hA hP hD hS ls hl
  have Z : zC p s m _ meth c prog_2_method_6_code 8 "TraceMachines$Cover" G := Z
  obtain ⟨hx, hb, hml, hown, hts, hK, hN, hlocks⟩ := id Z
  have hl : lv_has ls 8 [(0, .ref b0), (1, .int b1), (2, .int b2), (3, .int 20)] := hl
  refine lv_iload_n hx hb d_Cover_search_0 rfl (lv_at hl 3 rfl) ?_
  refine lv_aload_n hx hb d_Cover_search_1 rfl (lv_at hl 0 rfl) ?_
  refine va_get (D := G.1) (ci := 9) (v := .int b5) (C := R_Cover) (T := F_Cover) (N := 5) hx hb hts i_Cover hown hK hP 0 rfl rfl 2 (by decide) (hts _ q343) (fun _ h9 => h9) rfl d_Cover_search_2 ?_
  refine lv_icmp_gt (tgt := 24) hx hb d_Cover_search_5 (by decide) (fun hc_1 => ?_) (fun hc_1 => ?_)
  · have _nhc_1 := hc_1
    have ni_2 := (fa_lt _ _).mp hc_1
    rw [li_20] at ni_2
    have hv_3 : zI b5 (-2147483648) 19 := zI.lt_l (zI_all b5) zc_20 hc_1 (by decide)
    exact z_vret hx hb hr hlocks hP hD hS (Nat.le_of_ble_eq_true rfl) (Nat.le_of_ble_eq_true rfl) d_Cover_search_24 ⟨b4, b5, rfl, rfl⟩
  · have _nhc_1 := hc_1
    have ni_4 := (fa_le _ _).mp (zi_nlt hc_1)
    rw [li_20] at ni_4
    have hv_5 : zI b5 20 2147483647 := zI.le_r zc_20 (zI_all b5) (zi_nlt hc_1) (by decide)
    refine lv_iload_n hx hb d_Cover_search_8 rfl (lv_at hl 3 rfl) ?_
    refine lv_aload_n hx hb d_Cover_search_9 rfl (lv_at hl 0 rfl) ?_
    refine va_get (D := G.1) (ci := 9) (v := .int b5) (C := R_Cover) (T := F_Cover) (N := 5) hx hb hts i_Cover hown hK hP 0 rfl rfl 2 (by decide) (hts _ q343) (fun _ h9 => h9) rfl d_Cover_search_10 ?_
    refine lv_icmp_ne (tgt := 25) hx hb d_Cover_search_13 (by decide) (fun hc_6 => ?_) (fun hc_6 => ?_)
    · have _nhc_6 := hc_6
      have ni_7 : ¬ (20 : Int32).toInt = (b5 : Int32).toInt := fun z => hc_6 ((fa_eq _ _).mpr z)
      simp only [li_20] at ni_7
      refine lv_aload_n hx hb d_Cover_search_25 rfl (lv_at hl 0 rfl) ?_
      refine lv_iload_n hx hb d_Cover_search_26 rfl (lv_at hl 1 rfl) ?_
      refine lv_iload_n hx hb d_Cover_search_27 rfl (lv_at hl 2 rfl) ?_
      refine z_callV (index := 70) (As := [.int b1, .int b2]) (rest := []) (wr := []) Z (s1_Cover_hardest l G (b0) (b1) (b2) (b3) (b4) (b5) (b6) (b7) (b8) hb3 hb7) hl.1 q785 q787 qs21 q10 q788 ⟨by decide, by decide, by show _ = some 2; decide +kernel⟩ ⟨Nat.le_of_ble_eq_true rfl, Nat.le_of_ble_eq_true rfl⟩ ⟨Nat.le_of_ble_eq_true rfl, Nat.le_of_ble_eq_true rfl⟩ rfl (Nat.le_of_ble_eq_true rfl) d_Cover_search_28 hP hD hS hA 0 9 rfl rfl rfl [0, 1] [] rfl rfl rfl rfl (by decide) (fun v w1 H locs hw_8 hP hD hS => ?_)
      obtain ⟨x_9, rfl, rfl, hx_9⟩ := hw_8
      have hP : va_P G.1 classes [(b0, .inr (9, [.int b3, .int b4, .int b5, .ref b6, .int b7])), (b6, .inl (G.2 0, 240, .inl b8))] H := hP
      have hD := z_tie hP hD rfl
      refine W.widen (k := 0) (n := 0) (Nat.le_of_ble_eq_true rfl) (Nat.le_of_ble_eq_true rfl) ?_
      refine lv_istore (lv' := [(4, .int x_9), (0, .ref b0), (1, .int b1), (2, .int b2), (3, .int 20)]) hx hb d_Cover_search_31 hl (by decide) rfl (fun ls hl => ?_)
      refine lv_iload hx hb d_Cover_search_33 (lv_at hl 0 rfl) ?_
      refine lv_iconst (v := (-1)) hx hb d_Cover_search_35 (by decide) ?_
      refine lv_icmp_ne (tgt := 50) hx hb d_Cover_search_36 (by decide) (fun hc_10 => ?_) (fun hc_10 => ?_)
      · have _nhc_10 := hc_10
        have ni_11 : ¬ (x_9 : Int32).toInt = ((-1) : Int32).toInt := fun z => hc_10 ((fa_eq _ _).mpr z)
        simp only [li_m1] at ni_11
        have hv_12 : zI x_9 0 239 := zI.ne_lo hx_9 zc_m1 hc_10 (by decide)
        refine lv_iload_n hx hb d_Cover_search_50 rfl (lv_at hl 4 rfl) ?_
        refine lv_aload_n hx hb d_Cover_search_51 rfl (lv_at hl 1 rfl) ?_
        refine va_get (D := G.1) (ci := 9) (v := .int b5) (C := R_Cover) (T := F_Cover) (N := 5) hx hb hts i_Cover hown hK hP 0 rfl rfl 2 (by decide) (hts _ q343) (fun _ h9 => h9) rfl d_Cover_search_52 ?_
        refine lv_icmp_ge (tgt := 64) hx hb d_Cover_search_55 (by decide) (fun hc_13 => ?_) (fun hc_13 => ?_)
        · have _nhc_13 := hc_13
          have ni_14 := (fa_le _ _).mp hc_13
          rw [li_20] at ni_14
          have hv_15 : zI b5 20 20 := zI.le_l hv_5 zc_20 hc_13 (by decide)
          exact z_vret hx hb hr hlocks hP hD hS (Nat.le_of_ble_eq_true rfl) (Nat.le_of_ble_eq_true rfl) d_Cover_search_64 ⟨b4, b5, rfl, rfl⟩
        · have _nhc_13 := hc_13
          have ni_16 := (fa_lt _ _).mp (zi_nle hc_13)
          rw [li_20] at ni_16
          have hv_17 : zI b5 21 2147483647 := zI.lt_r zc_20 hv_5 (zi_nle hc_13) (by decide)
          refine lv_iload_n hx hb d_Cover_search_58 rfl (lv_at hl 4 rfl) ?_
          refine lv_bipush (v := 20) hx hb d_Cover_search_59 (by decide) ?_
          refine lv_icmp_lt (tgt := 65) hx hb d_Cover_search_61 (by decide) (fun hc => absurd hc (by decide +kernel)) (fun _ => ?_)
          exact z_vret hx hb hr hlocks hP hD hS (Nat.le_of_ble_eq_true rfl) (Nat.le_of_ble_eq_true rfl) d_Cover_search_64 ⟨b4, b5, rfl, rfl⟩
      · have _nhc_10 := hc_10
        have ni_18 := (fa_eq _ _).mp hc_10
        rw [li_m1] at ni_18
        have hv_19 : zI x_9 (-1) (-1) := zI.eq_l hx_9 zc_m1 hc_10
        refine lv_aload_n hx hb d_Cover_search_39 rfl (lv_at hl 1 rfl) ?_
        refine lv_iload_n hx hb d_Cover_search_40 rfl (lv_at hl 2 rfl) ?_
        refine va_put (D := G.1) (ci := 9) (v := .int b1) (ty := .int) (C := R_Cover) (T := F_Cover) (N := 5) hx hb hts i_Cover t_Cover t_Cover_ok n_Cover hown hK hP hD hS 0 rfl rfl 1 (by decide) (hts _ q341) (fun _ h9 => h9) rfl (by decide +kernel) rfl rfl (Nat.le_of_ble_eq_true rfl) d_Cover_search_41 (fun H locs hP hD hS => ?_)
        have hP : va_P G.1 classes [(b0, .inr (9, [.int b3, .int b1, .int b5, .ref b6, .int b7])), (b6, .inl (G.2 0, 240, .inl b8))] H := hP
        have hD := z_tie hP hD rfl
        refine lv_aload_n hx hb d_Cover_search_44 rfl (lv_at hl 1 rfl) ?_
        refine lv_iload_n hx hb d_Cover_search_45 rfl (lv_at hl 4 rfl) ?_
        refine va_put (D := G.1) (ci := 9) (v := .int 20) (ty := .int) (C := R_Cover) (T := F_Cover) (N := 5) hx hb hts i_Cover t_Cover t_Cover_ok n_Cover hown hK hP hD hS 0 rfl rfl 2 (by decide) (hts _ q343) (fun _ h9 => h9) rfl (by decide +kernel) rfl rfl (Nat.le_of_ble_eq_true rfl) d_Cover_search_46 (fun H locs hP hD hS => ?_)
        have hP : va_P G.1 classes [(b0, .inr (9, [.int b3, .int b1, .int 20, .ref b6, .int b7])), (b6, .inl (G.2 0, 240, .inl b8))] H := hP
        have hD := z_tie hP hD rfl
        exact z_vret hx hb hr hlocks hP hD hS (Nat.le_of_ble_eq_true rfl) (Nat.le_of_ble_eq_true rfl) d_Cover_search_49 ⟨b1, 20, rfl, rfl⟩
    · have _nhc_6 := hc_6
      have ni_20 := (fa_eq _ _).mp hc_6
      rw [li_20] at ni_20
      have hv_21 : zI b5 20 20 := zI.eq_l hv_5 zc_20 hc_6.symm
      refine lv_iload_n hx hb d_Cover_search_16 rfl (lv_at hl 1 rfl) ?_
      refine lv_aload_n hx hb d_Cover_search_17 rfl (lv_at hl 0 rfl) ?_
      refine va_get (D := G.1) (ci := 9) (v := .int b4) (C := R_Cover) (T := F_Cover) (N := 5) hx hb hts i_Cover hown hK hP 0 rfl rfl 1 (by decide) (hts _ q341) (fun _ h9 => h9) rfl d_Cover_search_18 ?_
      refine lv_icmp_lt (tgt := 25) hx hb d_Cover_search_21 (by decide) (fun hc_22 => ?_) (fun hc_22 => ?_)
      · have _nhc_22 := hc_22
        have ni_23 := (fa_lt _ _).mp hc_22
        have hv_24 : zI b1 (-2147483648) 2147483646 := zI.lt_l (zI_all b1) (zI_all b4) hc_22 (by decide)
        have hv_25 : zI b4 (-2147483647) 2147483647 := zI.lt_r (zI_all b1) (zI_all b4) hc_22 (by decide)
        refine lv_aload_n hx hb d_Cover_search_25 rfl (lv_at hl 0 rfl) ?_
        refine lv_iload_n hx hb d_Cover_search_26 rfl (lv_at hl 1 rfl) ?_
        refine lv_iload_n hx hb d_Cover_search_27 rfl (lv_at hl 2 rfl) ?_
        refine z_callV (index := 70) (As := [.int b1, .int b2]) (rest := []) (wr := []) Z (s1_Cover_hardest l G (b0) (b1) (b2) (b3) (b4) (b5) (b6) (b7) (b8) hb3 hb7) hl.1 q785 q787 qs21 q10 q788 ⟨by decide, by decide, by show _ = some 2; decide +kernel⟩ ⟨Nat.le_of_ble_eq_true rfl, Nat.le_of_ble_eq_true rfl⟩ ⟨Nat.le_of_ble_eq_true rfl, Nat.le_of_ble_eq_true rfl⟩ rfl (Nat.le_of_ble_eq_true rfl) d_Cover_search_28 hP hD hS hA 0 9 rfl rfl rfl [0, 1] [] rfl rfl rfl rfl (by decide) (fun v w1 H locs hw_26 hP hD hS => ?_)
        obtain ⟨x_27, rfl, rfl, hx_27⟩ := hw_26
        have hP : va_P G.1 classes [(b0, .inr (9, [.int b3, .int b4, .int b5, .ref b6, .int b7])), (b6, .inl (G.2 0, 240, .inl b8))] H := hP
        have hD := z_tie hP hD rfl
        refine W.widen (k := 0) (n := 0) (Nat.le_of_ble_eq_true rfl) (Nat.le_of_ble_eq_true rfl) ?_
        refine lv_istore (lv' := [(4, .int x_27), (0, .ref b0), (1, .int b1), (2, .int b2), (3, .int 20)]) hx hb d_Cover_search_31 hl (by decide) rfl (fun ls hl => ?_)
        refine lv_iload hx hb d_Cover_search_33 (lv_at hl 0 rfl) ?_
        refine lv_iconst (v := (-1)) hx hb d_Cover_search_35 (by decide) ?_
        refine lv_icmp_ne (tgt := 50) hx hb d_Cover_search_36 (by decide) (fun hc_28 => ?_) (fun hc_28 => ?_)
        · have _nhc_28 := hc_28
          have ni_29 : ¬ (x_27 : Int32).toInt = ((-1) : Int32).toInt := fun z => hc_28 ((fa_eq _ _).mpr z)
          simp only [li_m1] at ni_29
          have hv_30 : zI x_27 0 239 := zI.ne_lo hx_27 zc_m1 hc_28 (by decide)
          refine lv_iload_n hx hb d_Cover_search_50 rfl (lv_at hl 4 rfl) ?_
          refine lv_aload_n hx hb d_Cover_search_51 rfl (lv_at hl 1 rfl) ?_
          refine va_get (D := G.1) (ci := 9) (v := .int b5) (C := R_Cover) (T := F_Cover) (N := 5) hx hb hts i_Cover hown hK hP 0 rfl rfl 2 (by decide) (hts _ q343) (fun _ h9 => h9) rfl d_Cover_search_52 ?_
          refine lv_icmp_ge (tgt := 64) hx hb d_Cover_search_55 (by decide) (fun _ => ?_) (fun hc => zI.no_lt zc_20 hv_21 (zi_nle hc) (by decide))
          exact z_vret hx hb hr hlocks hP hD hS (Nat.le_of_ble_eq_true rfl) (Nat.le_of_ble_eq_true rfl) d_Cover_search_64 ⟨b4, b5, rfl, rfl⟩
        · have _nhc_28 := hc_28
          have ni_31 := (fa_eq _ _).mp hc_28
          rw [li_m1] at ni_31
          have hv_32 : zI x_27 (-1) (-1) := zI.eq_l hx_27 zc_m1 hc_28
          refine lv_aload_n hx hb d_Cover_search_39 rfl (lv_at hl 1 rfl) ?_
          refine lv_iload_n hx hb d_Cover_search_40 rfl (lv_at hl 2 rfl) ?_
          refine va_put (D := G.1) (ci := 9) (v := .int b1) (ty := .int) (C := R_Cover) (T := F_Cover) (N := 5) hx hb hts i_Cover t_Cover t_Cover_ok n_Cover hown hK hP hD hS 0 rfl rfl 1 (by decide) (hts _ q341) (fun _ h9 => h9) rfl (by decide +kernel) rfl rfl (Nat.le_of_ble_eq_true rfl) d_Cover_search_41 (fun H locs hP hD hS => ?_)
          have hP : va_P G.1 classes [(b0, .inr (9, [.int b3, .int b1, .int b5, .ref b6, .int b7])), (b6, .inl (G.2 0, 240, .inl b8))] H := hP
          have hD := z_tie hP hD rfl
          refine lv_aload_n hx hb d_Cover_search_44 rfl (lv_at hl 1 rfl) ?_
          refine lv_iload_n hx hb d_Cover_search_45 rfl (lv_at hl 4 rfl) ?_
          refine va_put (D := G.1) (ci := 9) (v := .int 20) (ty := .int) (C := R_Cover) (T := F_Cover) (N := 5) hx hb hts i_Cover t_Cover t_Cover_ok n_Cover hown hK hP hD hS 0 rfl rfl 2 (by decide) (hts _ q343) (fun _ h9 => h9) rfl (by decide +kernel) rfl rfl (Nat.le_of_ble_eq_true rfl) d_Cover_search_46 (fun H locs hP hD hS => ?_)
          have hP : va_P G.1 classes [(b0, .inr (9, [.int b3, .int b1, .int 20, .ref b6, .int b7])), (b6, .inl (G.2 0, 240, .inl b8))] H := hP
          have hD := z_tie hP hD rfl
          exact z_vret hx hb hr hlocks hP hD hS (Nat.le_of_ble_eq_true rfl) (Nat.le_of_ble_eq_true rfl) d_Cover_search_49 ⟨b1, 20, rfl, rfl⟩
      · have _nhc_22 := hc_22
        have ni_33 := (fa_le _ _).mp (zi_nlt hc_22)
        exact z_vret hx hb hr hlocks hP hD hS (Nat.le_of_ble_eq_true rfl) (Nat.le_of_ble_eq_true rfl) d_Cover_search_24 ⟨b4, b5, rfl, rfl⟩
theorem d_Cover_search_65 : decode prog_2_method_6_code 65 = .ok (.iload_n 2, 1) := by decide +kernel
theorem d_Cover_search_66 : decode prog_2_method_6_code 66 = .ok (.istore 5, 2) := by decide +kernel
theorem d_Cover_search_68 : decode prog_2_method_6_code 68 = .ok (.aload_n 0, 1) := by decide +kernel
theorem d_Cover_search_69 : decode prog_2_method_6_code 69 = .ok (.getfield 9, 3) := by decide +kernel
theorem d_Cover_search_72 : decode prog_2_method_6_code 72 = .ok (.iload 4, 2) := by decide +kernel
theorem d_Cover_search_74 : decode prog_2_method_6_code 74 = .ok (.iaload, 1) := by decide +kernel
theorem d_Cover_search_75 : decode prog_2_method_6_code 75 = .ok (.iload_n 2, 1) := by decide +kernel
theorem d_Cover_search_76 : decode prog_2_method_6_code 76 = .ok (.iconst (-1), 1) := by decide +kernel
theorem d_Cover_search_77 : decode prog_2_method_6_code 77 = .ok (.ixor, 1) := by decide +kernel
theorem d_Cover_search_78 : decode prog_2_method_6_code 78 = .ok (.iand, 1) := by decide +kernel
theorem d_Cover_search_79 : decode prog_2_method_6_code 79 = .ok (.istore 6, 2) := by decide +kernel
theorem d_Cover_search_81 : decode prog_2_method_6_code 81 = .ok (.iload 6, 2) := by decide +kernel
theorem d_Cover_search_83 : decode prog_2_method_6_code 83 = .ok (.ifCond .eq 43, 3) := by decide +kernel
theorem d_Cover_search_86 : decode prog_2_method_6_code 86 = .ok (.iload 6, 2) := by decide +kernel
theorem d_Cover_search_88 : decode prog_2_method_6_code 88 = .ok (.iload 6, 2) := by decide +kernel
theorem d_Cover_search_90 : decode prog_2_method_6_code 90 = .ok (.ineg, 1) := by decide +kernel
theorem d_Cover_search_91 : decode prog_2_method_6_code 91 = .ok (.iand, 1) := by decide +kernel
theorem d_Cover_search_92 : decode prog_2_method_6_code 92 = .ok (.istore 7, 2) := by decide +kernel
theorem d_Cover_search_94 : decode prog_2_method_6_code 94 = .ok (.aload_n 0, 1) := by decide +kernel
theorem d_Cover_search_95 : decode prog_2_method_6_code 95 = .ok (.iload_n 1, 1) := by decide +kernel
theorem d_Cover_search_96 : decode prog_2_method_6_code 96 = .ok (.iload 7, 2) := by decide +kernel
theorem d_Cover_search_98 : decode prog_2_method_6_code 98 = .ok (.ior, 1) := by decide +kernel
theorem d_Cover_search_99 : decode prog_2_method_6_code 99 = .ok (.iload 5, 2) := by decide +kernel
theorem d_Cover_search_101 : decode prog_2_method_6_code 101 = .ok (.iload_n 3, 1) := by decide +kernel
theorem d_Cover_search_102 : decode prog_2_method_6_code 102 = .ok (.iconst 1, 1) := by decide +kernel
theorem d_Cover_search_103 : decode prog_2_method_6_code 103 = .ok (.iadd, 1) := by decide +kernel
theorem d_Cover_search_104 : decode prog_2_method_6_code 104 = .ok (.invokevirtual 38, 3) := by decide +kernel
theorem d_Cover_search_107 : decode prog_2_method_6_code 107 = .ok (.iload 5, 2) := by decide +kernel
theorem d_Cover_search_109 : decode prog_2_method_6_code 109 = .ok (.iload 7, 2) := by decide +kernel
theorem d_Cover_search_111 : decode prog_2_method_6_code 111 = .ok (.ior, 1) := by decide +kernel
theorem d_Cover_search_112 : decode prog_2_method_6_code 112 = .ok (.istore 5, 2) := by decide +kernel
theorem d_Cover_search_114 : decode prog_2_method_6_code 114 = .ok (.iload 6, 2) := by decide +kernel
theorem d_Cover_search_116 : decode prog_2_method_6_code 116 = .ok (.iload 6, 2) := by decide +kernel
theorem d_Cover_search_118 : decode prog_2_method_6_code 118 = .ok (.iconst 1, 1) := by decide +kernel
theorem d_Cover_search_119 : decode prog_2_method_6_code 119 = .ok (.isub, 1) := by decide +kernel
theorem d_Cover_search_120 : decode prog_2_method_6_code 120 = .ok (.iand, 1) := by decide +kernel
theorem d_Cover_search_121 : decode prog_2_method_6_code 121 = .ok (.istore 6, 2) := by decide +kernel
theorem d_Cover_search_123 : decode prog_2_method_6_code 123 = .ok (.goto (-42), 3) := by decide +kernel
theorem d_Cover_search_126 : decode prog_2_method_6_code 126 = .ok (.return_, 1) := by decide +kernel
theorem zc_19 : zI 19 19 19 := ⟨by decide +kernel, by decide +kernel⟩
theorem li_19 : (19 : Int32).toInt = 19 := by decide +kernel
abbrev m_s2_Cover_search : Room := { frames := 3, cells := 0, slots := 0, locals := 73 }
set_option maxHeartbeats 4000000 in
set_option maxRecDepth 100000 in
theorem s2_Cover_search (l : Launch) (G : zG) (b0 : Nat) (b1 : Int32) (b2 : Int32) (b3 : Int32) (b4 : Int32) (b5 : Int32) (b6 : Nat) (b7 : Int32) (b8 : Nat → Int32) (hb3 : zI b3 0 1) (hb7 : zI b7 0 240) : zM l G y_Cover_search prog_2_method_6_code 8 (Option.none : Option Jvm.ClassFile.FieldType) m_s2_Cover_search [.ref b0, .int b1, .int b2, .int 19] [(b0, .inr (9, [.int b3, .int b4, .int b5, .ref b6, .int b7])), (b6, .inl (G.2 0, 240, .inl b8))] (fun v w => ∃ (e0 : Int32), ∃ (e1 : Int32), v = none ∧ w = [(b0, .inr (9, [.int b3, .int e0, .int e1, .ref b6, .int b7])), (b6, .inl (G.2 0, 240, .inl b8))]) := by
  refine z_start (by decide +kernel) (Nat.le_of_ble_eq_true rfl) ?_
  intro p e s m below meth c A Z hr hnm hA hP hD hS ls hl
  have Z : zC p s m _ meth c prog_2_method_6_code 8 "TraceMachines$Cover" G := Z
  obtain ⟨hx, hb, hml, hown, hts, hK, hN, hlocks⟩ := id Z
  have hl : lv_has ls 8 [(0, .ref b0), (1, .int b1), (2, .int b2), (3, .int 19)] := hl
  refine lv_iload_n hx hb d_Cover_search_0 rfl (lv_at hl 3 rfl) ?_
  refine lv_aload_n hx hb d_Cover_search_1 rfl (lv_at hl 0 rfl) ?_
  refine va_get (D := G.1) (ci := 9) (v := .int b5) (C := R_Cover) (T := F_Cover) (N := 5) hx hb hts i_Cover hown hK hP 0 rfl rfl 2 (by decide) (hts _ q343) (fun _ h9 => h9) rfl d_Cover_search_2 ?_
  refine lv_icmp_gt (tgt := 24) hx hb d_Cover_search_5 (by decide) (fun hc_1 => ?_) (fun hc_1 => ?_)
  · have _nhc_1 := hc_1
    have ni_2 := (fa_lt _ _).mp hc_1
    rw [li_19] at ni_2
    have hv_3 : zI b5 (-2147483648) 18 := zI.lt_l (zI_all b5) zc_19 hc_1 (by decide)
    exact z_vret hx hb hr hlocks hP hD hS (Nat.le_of_ble_eq_true rfl) (Nat.le_of_ble_eq_true rfl) d_Cover_search_24 ⟨b4, b5, rfl, rfl⟩
  · have _nhc_1 := hc_1
    have ni_4 := (fa_le _ _).mp (zi_nlt hc_1)
    rw [li_19] at ni_4
    have hv_5 : zI b5 19 2147483647 := zI.le_r zc_19 (zI_all b5) (zi_nlt hc_1) (by decide)
    refine lv_iload_n hx hb d_Cover_search_8 rfl (lv_at hl 3 rfl) ?_
    refine lv_aload_n hx hb d_Cover_search_9 rfl (lv_at hl 0 rfl) ?_
    refine va_get (D := G.1) (ci := 9) (v := .int b5) (C := R_Cover) (T := F_Cover) (N := 5) hx hb hts i_Cover hown hK hP 0 rfl rfl 2 (by decide) (hts _ q343) (fun _ h9 => h9) rfl d_Cover_search_10 ?_
    refine lv_icmp_ne (tgt := 25) hx hb d_Cover_search_13 (by decide) (fun hc_6 => ?_) (fun hc_6 => ?_)
    · have _nhc_6 := hc_6
      have ni_7 : ¬ (19 : Int32).toInt = (b5 : Int32).toInt := fun z => hc_6 ((fa_eq _ _).mpr z)
      simp only [li_19] at ni_7
      refine lv_aload_n hx hb d_Cover_search_25 rfl (lv_at hl 0 rfl) ?_
      refine lv_iload_n hx hb d_Cover_search_26 rfl (lv_at hl 1 rfl) ?_
      refine lv_iload_n hx hb d_Cover_search_27 rfl (lv_at hl 2 rfl) ?_
      refine z_callV (index := 70) (As := [.int b1, .int b2]) (rest := []) (wr := []) Z (s1_Cover_hardest l G (b0) (b1) (b2) (b3) (b4) (b5) (b6) (b7) (b8) hb3 hb7) hl.1 q785 q787 qs21 q10 q788 ⟨by decide, by decide, by show _ = some 2; decide +kernel⟩ ⟨Nat.le_of_ble_eq_true rfl, Nat.le_of_ble_eq_true rfl⟩ ⟨Nat.le_of_ble_eq_true rfl, Nat.le_of_ble_eq_true rfl⟩ rfl (Nat.le_of_ble_eq_true rfl) d_Cover_search_28 hP hD hS hA 0 9 rfl rfl rfl [0, 1] [] rfl rfl rfl rfl (by decide) (fun v w1 H locs hw_8 hP hD hS => ?_)
      obtain ⟨x_9, rfl, rfl, hx_9⟩ := hw_8
      have hP : va_P G.1 classes [(b0, .inr (9, [.int b3, .int b4, .int b5, .ref b6, .int b7])), (b6, .inl (G.2 0, 240, .inl b8))] H := hP
      have hD := z_tie hP hD rfl
      refine W.widen (k := 0) (n := 0) (Nat.le_of_ble_eq_true rfl) (Nat.le_of_ble_eq_true rfl) ?_
      refine lv_istore (lv' := [(4, .int x_9), (0, .ref b0), (1, .int b1), (2, .int b2), (3, .int 19)]) hx hb d_Cover_search_31 hl (by decide) rfl (fun ls hl => ?_)
      refine lv_iload hx hb d_Cover_search_33 (lv_at hl 0 rfl) ?_
      refine lv_iconst (v := (-1)) hx hb d_Cover_search_35 (by decide) ?_
      refine lv_icmp_ne (tgt := 50) hx hb d_Cover_search_36 (by decide) (fun hc_10 => ?_) (fun hc_10 => ?_)
      · have _nhc_10 := hc_10
        have ni_11 : ¬ (x_9 : Int32).toInt = ((-1) : Int32).toInt := fun z => hc_10 ((fa_eq _ _).mpr z)
        simp only [li_m1] at ni_11
        have hv_12 : zI x_9 0 239 := zI.ne_lo hx_9 zc_m1 hc_10 (by decide)
        refine lv_iload_n hx hb d_Cover_search_50 rfl (lv_at hl 4 rfl) ?_
        refine lv_aload_n hx hb d_Cover_search_51 rfl (lv_at hl 1 rfl) ?_
        refine va_get (D := G.1) (ci := 9) (v := .int b5) (C := R_Cover) (T := F_Cover) (N := 5) hx hb hts i_Cover hown hK hP 0 rfl rfl 2 (by decide) (hts _ q343) (fun _ h9 => h9) rfl d_Cover_search_52 ?_
        refine lv_icmp_ge (tgt := 64) hx hb d_Cover_search_55 (by decide) (fun hc_13 => ?_) (fun hc_13 => ?_)
        · have _nhc_13 := hc_13
          have ni_14 := (fa_le _ _).mp hc_13
          rw [li_19] at ni_14
          have hv_15 : zI b5 19 19 := zI.le_l hv_5 zc_19 hc_13 (by decide)
          exact z_vret hx hb hr hlocks hP hD hS (Nat.le_of_ble_eq_true rfl) (Nat.le_of_ble_eq_true rfl) d_Cover_search_64 ⟨b4, b5, rfl, rfl⟩
        · have _nhc_13 := hc_13
          have ni_16 := (fa_lt _ _).mp (zi_nle hc_13)
          rw [li_19] at ni_16
          have hv_17 : zI b5 20 2147483647 := zI.lt_r zc_19 hv_5 (zi_nle hc_13) (by decide)
          refine lv_iload_n hx hb d_Cover_search_58 rfl (lv_at hl 4 rfl) ?_
          refine lv_bipush (v := 20) hx hb d_Cover_search_59 (by decide) ?_
          refine lv_icmp_lt (tgt := 65) hx hb d_Cover_search_61 (by decide) (fun _ => ?_) (fun hc => absurd hc (by decide +kernel))
          refine lv_iload_n hx hb d_Cover_search_65 rfl (lv_at hl 3 rfl) ?_
          refine lv_istore (lv' := [(5, .int b2), (4, .int x_9), (0, .ref b0), (1, .int b1), (2, .int b2), (3, .int 19)]) hx hb d_Cover_search_66 hl (by decide) rfl (fun ls hl => ?_)
          refine lv_aload_n hx hb d_Cover_search_68 rfl (lv_at hl 2 rfl) ?_
          refine va_get (D := G.1) (ci := 9) (v := .ref b6) (C := R_Cover) (T := F_Cover) (N := 5) hx hb hts i_Cover hown hK hP 0 rfl rfl 3 (by decide) (hts _ q344) (fun _ h9 => h9) rfl d_Cover_search_69 ?_
          refine lv_iload hx hb d_Cover_search_72 (lv_at hl 1 rfl) ?_
          refine va_iald hx hb hK hP 1 0 rfl rfl (zI.inn hv_12 (by decide)) d_Cover_search_74 ?_
          refine lv_topi (fun v_18 ev_18 => ?_)
          refine lv_iload_n hx hb d_Cover_search_75 rfl (lv_at hl 4 rfl) ?_
          refine lv_iconst (v := (-1)) hx hb d_Cover_search_76 (by decide) ?_
          refine lv_ixor hx hb d_Cover_search_77 ?_
          refine lv_topi (fun v_19 ev_19 => ?_)
          refine lv_iand hx hb d_Cover_search_78 ?_
          refine lv_topi (fun v_20 ev_20 => ?_)
          refine lv_istore (lv' := [(6, .int v_20), (5, .int b2), (4, .int x_9), (0, .ref b0), (1, .int b1), (2, .int b2), (3, .int 19)]) hx hb d_Cover_search_79 hl (by decide) rfl (fun ls hl => ?_)
          suffices key : ∀ (k_38 : Nat) (y_39 : Int32) (y_40 : Int32) (y_41 : Int32) (y_42 : Int32) (H : Heap) (locs : List Loc) (ls : Array Slot), (y_39).toBitVec.toNat < k_38 → va_P G.1 classes [(b0, .inr (9, [.int b3, .int y_41, .int y_42, .ref b6, .int b7])), (b6, .inl (G.2 0, 240, .inl b8))] H → va_D A [(b0, .inr (9, [.int b3, .int y_41, .int y_42, .ref b6, .int b7])), (b6, .inl (G.2 0, 240, .inl b8))] → va_S A s.heap H locs → lv_has ls 8 [(6, .int y_39), (5, .int y_40), (4, .int x_9), (0, .ref b0), (1, .int b1), (2, .int b2), (3, .int 19)] → W p l e m_s2_Cover_search s m ([.ref b0, .int b1, .int b2, .int 19] : List Value).toArray below meth c H locs 0 0 (MQ below (zQ G (fun v w => ∃ (e0 : Int32), ∃ (e1 : Int32), v = none ∧ w = [(b0, .inr (9, [.int b3, .int e0, .int e1, .ref b6, .int b7])), (b6, .inl (G.2 0, 240, .inl b8))]) A) ([.ref b0, .int b1, .int b2, .int 19] : List Value).toArray s m_s2_Cover_search.cells m_s2_Cover_search.slots A) (F0 m 81 ls []) by
            exact key 4294967296 (v_20) (b2) (b4) (b5) _ _ _  (Nat.lt_of_lt_of_le (v_20).toBitVec.isLt (by decide)) hP hD hS (lv_sub hl [0, 1, 2, 3, 4, 5, 6] rfl)
          intro k_38
          induction k_38 with
          | zero =>
            intro y_39 y_40 y_41 y_42 H locs ls hmk_38 hP hD hS hl
            exfalso; omega
          | succ k_38 ihk_38 =>
            intro y_39 y_40 y_41 y_42 H locs ls hmk_38 hP hD hS hl
            refine lv_iload hx hb d_Cover_search_81 (lv_at hl 0 rfl) ?_
            refine lv_if_eq (tgt := 126) hx hb d_Cover_search_83 (by decide) (fun hc_43 => ?_) (fun hc_43 => ?_)
            · have _nhc_43 := hc_43
              have ni_44 := (fa_eq _ _).mp hc_43
              rw [li_0] at ni_44
              have hv_45 : zI y_39 0 0 := zI.eq_l (zI_all y_39) zc_0 hc_43
              exact z_vret hx hb hr hlocks hP hD hS (Nat.le_of_ble_eq_true rfl) (Nat.le_of_ble_eq_true rfl) d_Cover_search_126 ⟨y_41, y_42, rfl, rfl⟩
            · have _nhc_43 := hc_43
              have ni_46 : ¬ (y_39 : Int32).toInt = (0 : Int32).toInt := fun z => hc_43 ((fa_eq _ _).mpr z)
              simp only [li_0] at ni_46
              refine lv_iload hx hb d_Cover_search_86 (lv_at hl 0 rfl) ?_
              refine lv_iload hx hb d_Cover_search_88 (lv_at hl 0 rfl) ?_
              refine lv_ineg hx hb d_Cover_search_90 ?_
              refine lv_topi (fun v_47 ev_47 => ?_)
              refine lv_iand hx hb d_Cover_search_91 ?_
              refine lv_topi (fun v_48 ev_48 => ?_)
              refine lv_istore (lv' := [(7, .int v_48), (6, .int y_39), (5, .int y_40), (4, .int x_9), (0, .ref b0), (1, .int b1), (2, .int b2), (3, .int 19)]) hx hb d_Cover_search_92 hl (by decide) rfl (fun ls hl => ?_)
              refine lv_aload_n hx hb d_Cover_search_94 rfl (lv_at hl 4 rfl) ?_
              refine lv_iload_n hx hb d_Cover_search_95 rfl (lv_at hl 5 rfl) ?_
              refine lv_iload hx hb d_Cover_search_96 (lv_at hl 0 rfl) ?_
              refine lv_ior hx hb d_Cover_search_98 ?_
              refine lv_topi (fun v_49 ev_49 => ?_)
              refine lv_iload hx hb d_Cover_search_99 (lv_at hl 2 rfl) ?_
              refine lv_iload_n hx hb d_Cover_search_101 rfl (lv_at hl 7 rfl) ?_
              refine lv_iconst (v := 1) hx hb d_Cover_search_102 (by decide) ?_
              refine lv_iadd hx hb d_Cover_search_103 ?_
              refine z_topi (y := 20) (by decide +kernel) ?_
              refine z_callV (index := 38) (As := [.int v_49, .int y_40, .int 20]) (rest := []) (wr := []) Z (s1_Cover_search l G (b0) (v_49) (y_40) (b3) (y_41) (y_42) (b6) (b7) (b8) hb3 hb7) hl.1 q781 q783 qs20 q10 q784 ⟨by decide, by decide, by show _ = some 3; decide +kernel⟩ ⟨Nat.le_of_ble_eq_true rfl, Nat.le_of_ble_eq_true rfl⟩ ⟨Nat.le_of_ble_eq_true rfl, Nat.le_of_ble_eq_true rfl⟩ rfl (Nat.le_of_ble_eq_true rfl) d_Cover_search_104 hP hD hS hA 0 9 rfl rfl rfl [0, 1] [] rfl rfl rfl rfl (by decide) (fun v w1 H locs hw_50 hP hD hS => ?_)
              obtain ⟨x_51, x_52, rfl, rfl⟩ := hw_50
              have hP : va_P G.1 classes [(b0, .inr (9, [.int b3, .int x_51, .int x_52, .ref b6, .int b7])), (b6, .inl (G.2 0, 240, .inl b8))] H := hP
              have hD := z_tie hP hD rfl
              refine W.widen (k := 0) (n := 0) (Nat.le_of_ble_eq_true rfl) (Nat.le_of_ble_eq_true rfl) ?_
              refine lv_iload hx hb d_Cover_search_107 (lv_at hl 2 rfl) ?_
              refine lv_iload hx hb d_Cover_search_109 (lv_at hl 0 rfl) ?_
              refine lv_ior hx hb d_Cover_search_111 ?_
              refine lv_topi (fun v_53 ev_53 => ?_)
              refine lv_istore (lv' := [(5, .int v_53), (7, .int v_48), (6, .int y_39), (4, .int x_9), (0, .ref b0), (1, .int b1), (2, .int b2), (3, .int 19)]) hx hb d_Cover_search_112 hl (by decide) rfl (fun ls hl => ?_)
              refine lv_iload hx hb d_Cover_search_114 (lv_at hl 2 rfl) ?_
              refine lv_iload hx hb d_Cover_search_116 (lv_at hl 2 rfl) ?_
              refine lv_iconst (v := 1) hx hb d_Cover_search_118 (by decide) ?_
              refine lv_isub hx hb d_Cover_search_119 ?_
              refine lv_topi (fun v_54 ev_54 => ?_)
              refine lv_iand hx hb d_Cover_search_120 ?_
              refine lv_topi (fun v_55 ev_55 => ?_)
              refine lv_istore (lv' := [(6, .int v_55), (5, .int v_53), (7, .int v_48), (4, .int x_9), (0, .ref b0), (1, .int b1), (2, .int b2), (3, .int 19)]) hx hb d_Cover_search_121 hl (by decide) rfl (fun ls hl => ?_)
              refine lv_goto (tgt := 81) hx hb d_Cover_search_123 (by decide) ?_
              exact ihk_38 (v_55) (v_53) (x_51) (x_52) _ _ _  (z_dec32 ev_54 ev_55 (by omega) hmk_38) hP hD hS (lv_sub hl [0, 1, 3, 4, 5, 6, 7] rfl)
      · have _nhc_10 := hc_10
        have ni_56 := (fa_eq _ _).mp hc_10
        rw [li_m1] at ni_56
        have hv_57 : zI x_9 (-1) (-1) := zI.eq_l hx_9 zc_m1 hc_10
        refine lv_aload_n hx hb d_Cover_search_39 rfl (lv_at hl 1 rfl) ?_
        refine lv_iload_n hx hb d_Cover_search_40 rfl (lv_at hl 2 rfl) ?_
        refine va_put (D := G.1) (ci := 9) (v := .int b1) (ty := .int) (C := R_Cover) (T := F_Cover) (N := 5) hx hb hts i_Cover t_Cover t_Cover_ok n_Cover hown hK hP hD hS 0 rfl rfl 1 (by decide) (hts _ q341) (fun _ h9 => h9) rfl (by decide +kernel) rfl rfl (Nat.le_of_ble_eq_true rfl) d_Cover_search_41 (fun H locs hP hD hS => ?_)
        have hP : va_P G.1 classes [(b0, .inr (9, [.int b3, .int b1, .int b5, .ref b6, .int b7])), (b6, .inl (G.2 0, 240, .inl b8))] H := hP
        have hD := z_tie hP hD rfl
        refine lv_aload_n hx hb d_Cover_search_44 rfl (lv_at hl 1 rfl) ?_
        refine lv_iload_n hx hb d_Cover_search_45 rfl (lv_at hl 4 rfl) ?_
        refine va_put (D := G.1) (ci := 9) (v := .int 19) (ty := .int) (C := R_Cover) (T := F_Cover) (N := 5) hx hb hts i_Cover t_Cover t_Cover_ok n_Cover hown hK hP hD hS 0 rfl rfl 2 (by decide) (hts _ q343) (fun _ h9 => h9) rfl (by decide +kernel) rfl rfl (Nat.le_of_ble_eq_true rfl) d_Cover_search_46 (fun H locs hP hD hS => ?_)
        have hP : va_P G.1 classes [(b0, .inr (9, [.int b3, .int b1, .int 19, .ref b6, .int b7])), (b6, .inl (G.2 0, 240, .inl b8))] H := hP
        have hD := z_tie hP hD rfl
        exact z_vret hx hb hr hlocks hP hD hS (Nat.le_of_ble_eq_true rfl) (Nat.le_of_ble_eq_true rfl) d_Cover_search_49 ⟨b1, 19, rfl, rfl⟩
    · have _nhc_6 := hc_6
      have ni_58 := (fa_eq _ _).mp hc_6
      rw [li_19] at ni_58
      have hv_59 : zI b5 19 19 := zI.eq_l hv_5 zc_19 hc_6.symm
      refine lv_iload_n hx hb d_Cover_search_16 rfl (lv_at hl 1 rfl) ?_
      refine lv_aload_n hx hb d_Cover_search_17 rfl (lv_at hl 0 rfl) ?_
      refine va_get (D := G.1) (ci := 9) (v := .int b4) (C := R_Cover) (T := F_Cover) (N := 5) hx hb hts i_Cover hown hK hP 0 rfl rfl 1 (by decide) (hts _ q341) (fun _ h9 => h9) rfl d_Cover_search_18 ?_
      refine lv_icmp_lt (tgt := 25) hx hb d_Cover_search_21 (by decide) (fun hc_60 => ?_) (fun hc_60 => ?_)
      · have _nhc_60 := hc_60
        have ni_61 := (fa_lt _ _).mp hc_60
        have hv_62 : zI b1 (-2147483648) 2147483646 := zI.lt_l (zI_all b1) (zI_all b4) hc_60 (by decide)
        have hv_63 : zI b4 (-2147483647) 2147483647 := zI.lt_r (zI_all b1) (zI_all b4) hc_60 (by decide)
        refine lv_aload_n hx hb d_Cover_search_25 rfl (lv_at hl 0 rfl) ?_
        refine lv_iload_n hx hb d_Cover_search_26 rfl (lv_at hl 1 rfl) ?_
        refine lv_iload_n hx hb d_Cover_search_27 rfl (lv_at hl 2 rfl) ?_
        refine z_callV (index := 70) (As := [.int b1, .int b2]) (rest := []) (wr := []) Z (s1_Cover_hardest l G (b0) (b1) (b2) (b3) (b4) (b5) (b6) (b7) (b8) hb3 hb7) hl.1 q785 q787 qs21 q10 q788 ⟨by decide, by decide, by show _ = some 2; decide +kernel⟩ ⟨Nat.le_of_ble_eq_true rfl, Nat.le_of_ble_eq_true rfl⟩ ⟨Nat.le_of_ble_eq_true rfl, Nat.le_of_ble_eq_true rfl⟩ rfl (Nat.le_of_ble_eq_true rfl) d_Cover_search_28 hP hD hS hA 0 9 rfl rfl rfl [0, 1] [] rfl rfl rfl rfl (by decide) (fun v w1 H locs hw_64 hP hD hS => ?_)
        obtain ⟨x_65, rfl, rfl, hx_65⟩ := hw_64
        have hP : va_P G.1 classes [(b0, .inr (9, [.int b3, .int b4, .int b5, .ref b6, .int b7])), (b6, .inl (G.2 0, 240, .inl b8))] H := hP
        have hD := z_tie hP hD rfl
        refine W.widen (k := 0) (n := 0) (Nat.le_of_ble_eq_true rfl) (Nat.le_of_ble_eq_true rfl) ?_
        refine lv_istore (lv' := [(4, .int x_65), (0, .ref b0), (1, .int b1), (2, .int b2), (3, .int 19)]) hx hb d_Cover_search_31 hl (by decide) rfl (fun ls hl => ?_)
        refine lv_iload hx hb d_Cover_search_33 (lv_at hl 0 rfl) ?_
        refine lv_iconst (v := (-1)) hx hb d_Cover_search_35 (by decide) ?_
        refine lv_icmp_ne (tgt := 50) hx hb d_Cover_search_36 (by decide) (fun hc_66 => ?_) (fun hc_66 => ?_)
        · have _nhc_66 := hc_66
          have ni_67 : ¬ (x_65 : Int32).toInt = ((-1) : Int32).toInt := fun z => hc_66 ((fa_eq _ _).mpr z)
          simp only [li_m1] at ni_67
          have hv_68 : zI x_65 0 239 := zI.ne_lo hx_65 zc_m1 hc_66 (by decide)
          refine lv_iload_n hx hb d_Cover_search_50 rfl (lv_at hl 4 rfl) ?_
          refine lv_aload_n hx hb d_Cover_search_51 rfl (lv_at hl 1 rfl) ?_
          refine va_get (D := G.1) (ci := 9) (v := .int b5) (C := R_Cover) (T := F_Cover) (N := 5) hx hb hts i_Cover hown hK hP 0 rfl rfl 2 (by decide) (hts _ q343) (fun _ h9 => h9) rfl d_Cover_search_52 ?_
          refine lv_icmp_ge (tgt := 64) hx hb d_Cover_search_55 (by decide) (fun _ => ?_) (fun hc => zI.no_lt zc_19 hv_59 (zi_nle hc) (by decide))
          exact z_vret hx hb hr hlocks hP hD hS (Nat.le_of_ble_eq_true rfl) (Nat.le_of_ble_eq_true rfl) d_Cover_search_64 ⟨b4, b5, rfl, rfl⟩
        · have _nhc_66 := hc_66
          have ni_69 := (fa_eq _ _).mp hc_66
          rw [li_m1] at ni_69
          have hv_70 : zI x_65 (-1) (-1) := zI.eq_l hx_65 zc_m1 hc_66
          refine lv_aload_n hx hb d_Cover_search_39 rfl (lv_at hl 1 rfl) ?_
          refine lv_iload_n hx hb d_Cover_search_40 rfl (lv_at hl 2 rfl) ?_
          refine va_put (D := G.1) (ci := 9) (v := .int b1) (ty := .int) (C := R_Cover) (T := F_Cover) (N := 5) hx hb hts i_Cover t_Cover t_Cover_ok n_Cover hown hK hP hD hS 0 rfl rfl 1 (by decide) (hts _ q341) (fun _ h9 => h9) rfl (by decide +kernel) rfl rfl (Nat.le_of_ble_eq_true rfl) d_Cover_search_41 (fun H locs hP hD hS => ?_)
          have hP : va_P G.1 classes [(b0, .inr (9, [.int b3, .int b1, .int b5, .ref b6, .int b7])), (b6, .inl (G.2 0, 240, .inl b8))] H := hP
          have hD := z_tie hP hD rfl
          refine lv_aload_n hx hb d_Cover_search_44 rfl (lv_at hl 1 rfl) ?_
          refine lv_iload_n hx hb d_Cover_search_45 rfl (lv_at hl 4 rfl) ?_
          refine va_put (D := G.1) (ci := 9) (v := .int 19) (ty := .int) (C := R_Cover) (T := F_Cover) (N := 5) hx hb hts i_Cover t_Cover t_Cover_ok n_Cover hown hK hP hD hS 0 rfl rfl 2 (by decide) (hts _ q343) (fun _ h9 => h9) rfl (by decide +kernel) rfl rfl (Nat.le_of_ble_eq_true rfl) d_Cover_search_46 (fun H locs hP hD hS => ?_)
          have hP : va_P G.1 classes [(b0, .inr (9, [.int b3, .int b1, .int 19, .ref b6, .int b7])), (b6, .inl (G.2 0, 240, .inl b8))] H := hP
          have hD := z_tie hP hD rfl
          exact z_vret hx hb hr hlocks hP hD hS (Nat.le_of_ble_eq_true rfl) (Nat.le_of_ble_eq_true rfl) d_Cover_search_49 ⟨b1, 19, rfl, rfl⟩
      · have _nhc_60 := hc_60
        have ni_71 := (fa_le _ _).mp (zi_nlt hc_60)
        exact z_vret hx hb hr hlocks hP hD hS (Nat.le_of_ble_eq_true rfl) (Nat.le_of_ble_eq_true rfl) d_Cover_search_24 ⟨b4, b5, rfl, rfl⟩
theorem zc_18 : zI 18 18 18 := ⟨by decide +kernel, by decide +kernel⟩
theorem li_18 : (18 : Int32).toInt = 18 := by decide +kernel
abbrev m_s3_Cover_search : Room := { frames := 4, cells := 0, slots := 0, locals := 100 }
set_option maxHeartbeats 4000000 in
set_option maxRecDepth 100000 in
theorem s3_Cover_search (l : Launch) (G : zG) (b0 : Nat) (b1 : Int32) (b2 : Int32) (b3 : Int32) (b4 : Int32) (b5 : Int32) (b6 : Nat) (b7 : Int32) (b8 : Nat → Int32) (hb3 : zI b3 0 1) (hb7 : zI b7 0 240) : zM l G y_Cover_search prog_2_method_6_code 8 (Option.none : Option Jvm.ClassFile.FieldType) m_s3_Cover_search [.ref b0, .int b1, .int b2, .int 18] [(b0, .inr (9, [.int b3, .int b4, .int b5, .ref b6, .int b7])), (b6, .inl (G.2 0, 240, .inl b8))] (fun v w => ∃ (e0 : Int32), ∃ (e1 : Int32), v = none ∧ w = [(b0, .inr (9, [.int b3, .int e0, .int e1, .ref b6, .int b7])), (b6, .inl (G.2 0, 240, .inl b8))]) := by
  refine z_start (by decide +kernel) (Nat.le_of_ble_eq_true rfl) ?_
  intro p e s m below meth c A Z hr hnm hA hP hD hS ls hl
  have Z : zC p s m _ meth c prog_2_method_6_code 8 "TraceMachines$Cover" G := Z
  obtain ⟨hx, hb, hml, hown, hts, hK, hN, hlocks⟩ := id Z
  have hl : lv_has ls 8 [(0, .ref b0), (1, .int b1), (2, .int b2), (3, .int 18)] := hl
  refine lv_iload_n hx hb d_Cover_search_0 rfl (lv_at hl 3 rfl) ?_
  refine lv_aload_n hx hb d_Cover_search_1 rfl (lv_at hl 0 rfl) ?_
  refine va_get (D := G.1) (ci := 9) (v := .int b5) (C := R_Cover) (T := F_Cover) (N := 5) hx hb hts i_Cover hown hK hP 0 rfl rfl 2 (by decide) (hts _ q343) (fun _ h9 => h9) rfl d_Cover_search_2 ?_
  refine lv_icmp_gt (tgt := 24) hx hb d_Cover_search_5 (by decide) (fun hc_1 => ?_) (fun hc_1 => ?_)
  · have _nhc_1 := hc_1
    have ni_2 := (fa_lt _ _).mp hc_1
    rw [li_18] at ni_2
    have hv_3 : zI b5 (-2147483648) 17 := zI.lt_l (zI_all b5) zc_18 hc_1 (by decide)
    exact z_vret hx hb hr hlocks hP hD hS (Nat.le_of_ble_eq_true rfl) (Nat.le_of_ble_eq_true rfl) d_Cover_search_24 ⟨b4, b5, rfl, rfl⟩
  · have _nhc_1 := hc_1
    have ni_4 := (fa_le _ _).mp (zi_nlt hc_1)
    rw [li_18] at ni_4
    have hv_5 : zI b5 18 2147483647 := zI.le_r zc_18 (zI_all b5) (zi_nlt hc_1) (by decide)
    refine lv_iload_n hx hb d_Cover_search_8 rfl (lv_at hl 3 rfl) ?_
    refine lv_aload_n hx hb d_Cover_search_9 rfl (lv_at hl 0 rfl) ?_
    refine va_get (D := G.1) (ci := 9) (v := .int b5) (C := R_Cover) (T := F_Cover) (N := 5) hx hb hts i_Cover hown hK hP 0 rfl rfl 2 (by decide) (hts _ q343) (fun _ h9 => h9) rfl d_Cover_search_10 ?_
    refine lv_icmp_ne (tgt := 25) hx hb d_Cover_search_13 (by decide) (fun hc_6 => ?_) (fun hc_6 => ?_)
    · have _nhc_6 := hc_6
      have ni_7 : ¬ (18 : Int32).toInt = (b5 : Int32).toInt := fun z => hc_6 ((fa_eq _ _).mpr z)
      simp only [li_18] at ni_7
      refine lv_aload_n hx hb d_Cover_search_25 rfl (lv_at hl 0 rfl) ?_
      refine lv_iload_n hx hb d_Cover_search_26 rfl (lv_at hl 1 rfl) ?_
      refine lv_iload_n hx hb d_Cover_search_27 rfl (lv_at hl 2 rfl) ?_
      refine z_callV (index := 70) (As := [.int b1, .int b2]) (rest := []) (wr := []) Z (s1_Cover_hardest l G (b0) (b1) (b2) (b3) (b4) (b5) (b6) (b7) (b8) hb3 hb7) hl.1 q785 q787 qs21 q10 q788 ⟨by decide, by decide, by show _ = some 2; decide +kernel⟩ ⟨Nat.le_of_ble_eq_true rfl, Nat.le_of_ble_eq_true rfl⟩ ⟨Nat.le_of_ble_eq_true rfl, Nat.le_of_ble_eq_true rfl⟩ rfl (Nat.le_of_ble_eq_true rfl) d_Cover_search_28 hP hD hS hA 0 9 rfl rfl rfl [0, 1] [] rfl rfl rfl rfl (by decide) (fun v w1 H locs hw_8 hP hD hS => ?_)
      obtain ⟨x_9, rfl, rfl, hx_9⟩ := hw_8
      have hP : va_P G.1 classes [(b0, .inr (9, [.int b3, .int b4, .int b5, .ref b6, .int b7])), (b6, .inl (G.2 0, 240, .inl b8))] H := hP
      have hD := z_tie hP hD rfl
      refine W.widen (k := 0) (n := 0) (Nat.le_of_ble_eq_true rfl) (Nat.le_of_ble_eq_true rfl) ?_
      refine lv_istore (lv' := [(4, .int x_9), (0, .ref b0), (1, .int b1), (2, .int b2), (3, .int 18)]) hx hb d_Cover_search_31 hl (by decide) rfl (fun ls hl => ?_)
      refine lv_iload hx hb d_Cover_search_33 (lv_at hl 0 rfl) ?_
      refine lv_iconst (v := (-1)) hx hb d_Cover_search_35 (by decide) ?_
      refine lv_icmp_ne (tgt := 50) hx hb d_Cover_search_36 (by decide) (fun hc_10 => ?_) (fun hc_10 => ?_)
      · have _nhc_10 := hc_10
        have ni_11 : ¬ (x_9 : Int32).toInt = ((-1) : Int32).toInt := fun z => hc_10 ((fa_eq _ _).mpr z)
        simp only [li_m1] at ni_11
        have hv_12 : zI x_9 0 239 := zI.ne_lo hx_9 zc_m1 hc_10 (by decide)
        refine lv_iload_n hx hb d_Cover_search_50 rfl (lv_at hl 4 rfl) ?_
        refine lv_aload_n hx hb d_Cover_search_51 rfl (lv_at hl 1 rfl) ?_
        refine va_get (D := G.1) (ci := 9) (v := .int b5) (C := R_Cover) (T := F_Cover) (N := 5) hx hb hts i_Cover hown hK hP 0 rfl rfl 2 (by decide) (hts _ q343) (fun _ h9 => h9) rfl d_Cover_search_52 ?_
        refine lv_icmp_ge (tgt := 64) hx hb d_Cover_search_55 (by decide) (fun hc_13 => ?_) (fun hc_13 => ?_)
        · have _nhc_13 := hc_13
          have ni_14 := (fa_le _ _).mp hc_13
          rw [li_18] at ni_14
          have hv_15 : zI b5 18 18 := zI.le_l hv_5 zc_18 hc_13 (by decide)
          exact z_vret hx hb hr hlocks hP hD hS (Nat.le_of_ble_eq_true rfl) (Nat.le_of_ble_eq_true rfl) d_Cover_search_64 ⟨b4, b5, rfl, rfl⟩
        · have _nhc_13 := hc_13
          have ni_16 := (fa_lt _ _).mp (zi_nle hc_13)
          rw [li_18] at ni_16
          have hv_17 : zI b5 19 2147483647 := zI.lt_r zc_18 hv_5 (zi_nle hc_13) (by decide)
          refine lv_iload_n hx hb d_Cover_search_58 rfl (lv_at hl 4 rfl) ?_
          refine lv_bipush (v := 20) hx hb d_Cover_search_59 (by decide) ?_
          refine lv_icmp_lt (tgt := 65) hx hb d_Cover_search_61 (by decide) (fun _ => ?_) (fun hc => absurd hc (by decide +kernel))
          refine lv_iload_n hx hb d_Cover_search_65 rfl (lv_at hl 3 rfl) ?_
          refine lv_istore (lv' := [(5, .int b2), (4, .int x_9), (0, .ref b0), (1, .int b1), (2, .int b2), (3, .int 18)]) hx hb d_Cover_search_66 hl (by decide) rfl (fun ls hl => ?_)
          refine lv_aload_n hx hb d_Cover_search_68 rfl (lv_at hl 2 rfl) ?_
          refine va_get (D := G.1) (ci := 9) (v := .ref b6) (C := R_Cover) (T := F_Cover) (N := 5) hx hb hts i_Cover hown hK hP 0 rfl rfl 3 (by decide) (hts _ q344) (fun _ h9 => h9) rfl d_Cover_search_69 ?_
          refine lv_iload hx hb d_Cover_search_72 (lv_at hl 1 rfl) ?_
          refine va_iald hx hb hK hP 1 0 rfl rfl (zI.inn hv_12 (by decide)) d_Cover_search_74 ?_
          refine lv_topi (fun v_18 ev_18 => ?_)
          refine lv_iload_n hx hb d_Cover_search_75 rfl (lv_at hl 4 rfl) ?_
          refine lv_iconst (v := (-1)) hx hb d_Cover_search_76 (by decide) ?_
          refine lv_ixor hx hb d_Cover_search_77 ?_
          refine lv_topi (fun v_19 ev_19 => ?_)
          refine lv_iand hx hb d_Cover_search_78 ?_
          refine lv_topi (fun v_20 ev_20 => ?_)
          refine lv_istore (lv' := [(6, .int v_20), (5, .int b2), (4, .int x_9), (0, .ref b0), (1, .int b1), (2, .int b2), (3, .int 18)]) hx hb d_Cover_search_79 hl (by decide) rfl (fun ls hl => ?_)
          suffices key : ∀ (k_38 : Nat) (y_39 : Int32) (y_40 : Int32) (y_41 : Int32) (y_42 : Int32) (H : Heap) (locs : List Loc) (ls : Array Slot), (y_39).toBitVec.toNat < k_38 → va_P G.1 classes [(b0, .inr (9, [.int b3, .int y_41, .int y_42, .ref b6, .int b7])), (b6, .inl (G.2 0, 240, .inl b8))] H → va_D A [(b0, .inr (9, [.int b3, .int y_41, .int y_42, .ref b6, .int b7])), (b6, .inl (G.2 0, 240, .inl b8))] → va_S A s.heap H locs → lv_has ls 8 [(6, .int y_39), (5, .int y_40), (4, .int x_9), (0, .ref b0), (1, .int b1), (2, .int b2), (3, .int 18)] → W p l e m_s3_Cover_search s m ([.ref b0, .int b1, .int b2, .int 18] : List Value).toArray below meth c H locs 0 0 (MQ below (zQ G (fun v w => ∃ (e0 : Int32), ∃ (e1 : Int32), v = none ∧ w = [(b0, .inr (9, [.int b3, .int e0, .int e1, .ref b6, .int b7])), (b6, .inl (G.2 0, 240, .inl b8))]) A) ([.ref b0, .int b1, .int b2, .int 18] : List Value).toArray s m_s3_Cover_search.cells m_s3_Cover_search.slots A) (F0 m 81 ls []) by
            exact key 4294967296 (v_20) (b2) (b4) (b5) _ _ _  (Nat.lt_of_lt_of_le (v_20).toBitVec.isLt (by decide)) hP hD hS (lv_sub hl [0, 1, 2, 3, 4, 5, 6] rfl)
          intro k_38
          induction k_38 with
          | zero =>
            intro y_39 y_40 y_41 y_42 H locs ls hmk_38 hP hD hS hl
            exfalso; omega
          | succ k_38 ihk_38 =>
            intro y_39 y_40 y_41 y_42 H locs ls hmk_38 hP hD hS hl
            refine lv_iload hx hb d_Cover_search_81 (lv_at hl 0 rfl) ?_
            refine lv_if_eq (tgt := 126) hx hb d_Cover_search_83 (by decide) (fun hc_43 => ?_) (fun hc_43 => ?_)
            · have _nhc_43 := hc_43
              have ni_44 := (fa_eq _ _).mp hc_43
              rw [li_0] at ni_44
              have hv_45 : zI y_39 0 0 := zI.eq_l (zI_all y_39) zc_0 hc_43
              exact z_vret hx hb hr hlocks hP hD hS (Nat.le_of_ble_eq_true rfl) (Nat.le_of_ble_eq_true rfl) d_Cover_search_126 ⟨y_41, y_42, rfl, rfl⟩
            · have _nhc_43 := hc_43
              have ni_46 : ¬ (y_39 : Int32).toInt = (0 : Int32).toInt := fun z => hc_43 ((fa_eq _ _).mpr z)
              simp only [li_0] at ni_46
              refine lv_iload hx hb d_Cover_search_86 (lv_at hl 0 rfl) ?_
              refine lv_iload hx hb d_Cover_search_88 (lv_at hl 0 rfl) ?_
              refine lv_ineg hx hb d_Cover_search_90 ?_
              refine lv_topi (fun v_47 ev_47 => ?_)
              refine lv_iand hx hb d_Cover_search_91 ?_
              refine lv_topi (fun v_48 ev_48 => ?_)
              refine lv_istore (lv' := [(7, .int v_48), (6, .int y_39), (5, .int y_40), (4, .int x_9), (0, .ref b0), (1, .int b1), (2, .int b2), (3, .int 18)]) hx hb d_Cover_search_92 hl (by decide) rfl (fun ls hl => ?_)
              refine lv_aload_n hx hb d_Cover_search_94 rfl (lv_at hl 4 rfl) ?_
              refine lv_iload_n hx hb d_Cover_search_95 rfl (lv_at hl 5 rfl) ?_
              refine lv_iload hx hb d_Cover_search_96 (lv_at hl 0 rfl) ?_
              refine lv_ior hx hb d_Cover_search_98 ?_
              refine lv_topi (fun v_49 ev_49 => ?_)
              refine lv_iload hx hb d_Cover_search_99 (lv_at hl 2 rfl) ?_
              refine lv_iload_n hx hb d_Cover_search_101 rfl (lv_at hl 7 rfl) ?_
              refine lv_iconst (v := 1) hx hb d_Cover_search_102 (by decide) ?_
              refine lv_iadd hx hb d_Cover_search_103 ?_
              refine z_topi (y := 19) (by decide +kernel) ?_
              refine z_callV (index := 38) (As := [.int v_49, .int y_40, .int 19]) (rest := []) (wr := []) Z (s2_Cover_search l G (b0) (v_49) (y_40) (b3) (y_41) (y_42) (b6) (b7) (b8) hb3 hb7) hl.1 q781 q783 qs20 q10 q784 ⟨by decide, by decide, by show _ = some 3; decide +kernel⟩ ⟨Nat.le_of_ble_eq_true rfl, Nat.le_of_ble_eq_true rfl⟩ ⟨Nat.le_of_ble_eq_true rfl, Nat.le_of_ble_eq_true rfl⟩ rfl (Nat.le_of_ble_eq_true rfl) d_Cover_search_104 hP hD hS hA 0 9 rfl rfl rfl [0, 1] [] rfl rfl rfl rfl (by decide) (fun v w1 H locs hw_50 hP hD hS => ?_)
              obtain ⟨x_51, x_52, rfl, rfl⟩ := hw_50
              have hP : va_P G.1 classes [(b0, .inr (9, [.int b3, .int x_51, .int x_52, .ref b6, .int b7])), (b6, .inl (G.2 0, 240, .inl b8))] H := hP
              have hD := z_tie hP hD rfl
              refine W.widen (k := 0) (n := 0) (Nat.le_of_ble_eq_true rfl) (Nat.le_of_ble_eq_true rfl) ?_
              refine lv_iload hx hb d_Cover_search_107 (lv_at hl 2 rfl) ?_
              refine lv_iload hx hb d_Cover_search_109 (lv_at hl 0 rfl) ?_
              refine lv_ior hx hb d_Cover_search_111 ?_
              refine lv_topi (fun v_53 ev_53 => ?_)
              refine lv_istore (lv' := [(5, .int v_53), (7, .int v_48), (6, .int y_39), (4, .int x_9), (0, .ref b0), (1, .int b1), (2, .int b2), (3, .int 18)]) hx hb d_Cover_search_112 hl (by decide) rfl (fun ls hl => ?_)
              refine lv_iload hx hb d_Cover_search_114 (lv_at hl 2 rfl) ?_
              refine lv_iload hx hb d_Cover_search_116 (lv_at hl 2 rfl) ?_
              refine lv_iconst (v := 1) hx hb d_Cover_search_118 (by decide) ?_
              refine lv_isub hx hb d_Cover_search_119 ?_
              refine lv_topi (fun v_54 ev_54 => ?_)
              refine lv_iand hx hb d_Cover_search_120 ?_
              refine lv_topi (fun v_55 ev_55 => ?_)
              refine lv_istore (lv' := [(6, .int v_55), (5, .int v_53), (7, .int v_48), (4, .int x_9), (0, .ref b0), (1, .int b1), (2, .int b2), (3, .int 18)]) hx hb d_Cover_search_121 hl (by decide) rfl (fun ls hl => ?_)
              refine lv_goto (tgt := 81) hx hb d_Cover_search_123 (by decide) ?_
              exact ihk_38 (v_55) (v_53) (x_51) (x_52) _ _ _  (z_dec32 ev_54 ev_55 (by omega) hmk_38) hP hD hS (lv_sub hl [0, 1, 3, 4, 5, 6, 7] rfl)
      · have _nhc_10 := hc_10
        have ni_56 := (fa_eq _ _).mp hc_10
        rw [li_m1] at ni_56
        have hv_57 : zI x_9 (-1) (-1) := zI.eq_l hx_9 zc_m1 hc_10
        refine lv_aload_n hx hb d_Cover_search_39 rfl (lv_at hl 1 rfl) ?_
        refine lv_iload_n hx hb d_Cover_search_40 rfl (lv_at hl 2 rfl) ?_
        refine va_put (D := G.1) (ci := 9) (v := .int b1) (ty := .int) (C := R_Cover) (T := F_Cover) (N := 5) hx hb hts i_Cover t_Cover t_Cover_ok n_Cover hown hK hP hD hS 0 rfl rfl 1 (by decide) (hts _ q341) (fun _ h9 => h9) rfl (by decide +kernel) rfl rfl (Nat.le_of_ble_eq_true rfl) d_Cover_search_41 (fun H locs hP hD hS => ?_)
        have hP : va_P G.1 classes [(b0, .inr (9, [.int b3, .int b1, .int b5, .ref b6, .int b7])), (b6, .inl (G.2 0, 240, .inl b8))] H := hP
        have hD := z_tie hP hD rfl
        refine lv_aload_n hx hb d_Cover_search_44 rfl (lv_at hl 1 rfl) ?_
        refine lv_iload_n hx hb d_Cover_search_45 rfl (lv_at hl 4 rfl) ?_
        refine va_put (D := G.1) (ci := 9) (v := .int 18) (ty := .int) (C := R_Cover) (T := F_Cover) (N := 5) hx hb hts i_Cover t_Cover t_Cover_ok n_Cover hown hK hP hD hS 0 rfl rfl 2 (by decide) (hts _ q343) (fun _ h9 => h9) rfl (by decide +kernel) rfl rfl (Nat.le_of_ble_eq_true rfl) d_Cover_search_46 (fun H locs hP hD hS => ?_)
        have hP : va_P G.1 classes [(b0, .inr (9, [.int b3, .int b1, .int 18, .ref b6, .int b7])), (b6, .inl (G.2 0, 240, .inl b8))] H := hP
        have hD := z_tie hP hD rfl
        exact z_vret hx hb hr hlocks hP hD hS (Nat.le_of_ble_eq_true rfl) (Nat.le_of_ble_eq_true rfl) d_Cover_search_49 ⟨b1, 18, rfl, rfl⟩
    · have _nhc_6 := hc_6
      have ni_58 := (fa_eq _ _).mp hc_6
      rw [li_18] at ni_58
      have hv_59 : zI b5 18 18 := zI.eq_l hv_5 zc_18 hc_6.symm
      refine lv_iload_n hx hb d_Cover_search_16 rfl (lv_at hl 1 rfl) ?_
      refine lv_aload_n hx hb d_Cover_search_17 rfl (lv_at hl 0 rfl) ?_
      refine va_get (D := G.1) (ci := 9) (v := .int b4) (C := R_Cover) (T := F_Cover) (N := 5) hx hb hts i_Cover hown hK hP 0 rfl rfl 1 (by decide) (hts _ q341) (fun _ h9 => h9) rfl d_Cover_search_18 ?_
      refine lv_icmp_lt (tgt := 25) hx hb d_Cover_search_21 (by decide) (fun hc_60 => ?_) (fun hc_60 => ?_)
      · have _nhc_60 := hc_60
        have ni_61 := (fa_lt _ _).mp hc_60
        have hv_62 : zI b1 (-2147483648) 2147483646 := zI.lt_l (zI_all b1) (zI_all b4) hc_60 (by decide)
        have hv_63 : zI b4 (-2147483647) 2147483647 := zI.lt_r (zI_all b1) (zI_all b4) hc_60 (by decide)
        refine lv_aload_n hx hb d_Cover_search_25 rfl (lv_at hl 0 rfl) ?_
        refine lv_iload_n hx hb d_Cover_search_26 rfl (lv_at hl 1 rfl) ?_
        refine lv_iload_n hx hb d_Cover_search_27 rfl (lv_at hl 2 rfl) ?_
        refine z_callV (index := 70) (As := [.int b1, .int b2]) (rest := []) (wr := []) Z (s1_Cover_hardest l G (b0) (b1) (b2) (b3) (b4) (b5) (b6) (b7) (b8) hb3 hb7) hl.1 q785 q787 qs21 q10 q788 ⟨by decide, by decide, by show _ = some 2; decide +kernel⟩ ⟨Nat.le_of_ble_eq_true rfl, Nat.le_of_ble_eq_true rfl⟩ ⟨Nat.le_of_ble_eq_true rfl, Nat.le_of_ble_eq_true rfl⟩ rfl (Nat.le_of_ble_eq_true rfl) d_Cover_search_28 hP hD hS hA 0 9 rfl rfl rfl [0, 1] [] rfl rfl rfl rfl (by decide) (fun v w1 H locs hw_64 hP hD hS => ?_)
        obtain ⟨x_65, rfl, rfl, hx_65⟩ := hw_64
        have hP : va_P G.1 classes [(b0, .inr (9, [.int b3, .int b4, .int b5, .ref b6, .int b7])), (b6, .inl (G.2 0, 240, .inl b8))] H := hP
        have hD := z_tie hP hD rfl
        refine W.widen (k := 0) (n := 0) (Nat.le_of_ble_eq_true rfl) (Nat.le_of_ble_eq_true rfl) ?_
        refine lv_istore (lv' := [(4, .int x_65), (0, .ref b0), (1, .int b1), (2, .int b2), (3, .int 18)]) hx hb d_Cover_search_31 hl (by decide) rfl (fun ls hl => ?_)
        refine lv_iload hx hb d_Cover_search_33 (lv_at hl 0 rfl) ?_
        refine lv_iconst (v := (-1)) hx hb d_Cover_search_35 (by decide) ?_
        refine lv_icmp_ne (tgt := 50) hx hb d_Cover_search_36 (by decide) (fun hc_66 => ?_) (fun hc_66 => ?_)
        · have _nhc_66 := hc_66
          have ni_67 : ¬ (x_65 : Int32).toInt = ((-1) : Int32).toInt := fun z => hc_66 ((fa_eq _ _).mpr z)
          simp only [li_m1] at ni_67
          have hv_68 : zI x_65 0 239 := zI.ne_lo hx_65 zc_m1 hc_66 (by decide)
          refine lv_iload_n hx hb d_Cover_search_50 rfl (lv_at hl 4 rfl) ?_
          refine lv_aload_n hx hb d_Cover_search_51 rfl (lv_at hl 1 rfl) ?_
          refine va_get (D := G.1) (ci := 9) (v := .int b5) (C := R_Cover) (T := F_Cover) (N := 5) hx hb hts i_Cover hown hK hP 0 rfl rfl 2 (by decide) (hts _ q343) (fun _ h9 => h9) rfl d_Cover_search_52 ?_
          refine lv_icmp_ge (tgt := 64) hx hb d_Cover_search_55 (by decide) (fun _ => ?_) (fun hc => zI.no_lt zc_18 hv_59 (zi_nle hc) (by decide))
          exact z_vret hx hb hr hlocks hP hD hS (Nat.le_of_ble_eq_true rfl) (Nat.le_of_ble_eq_true rfl) d_Cover_search_64 ⟨b4, b5, rfl, rfl⟩
        · have _nhc_66 := hc_66
          have ni_69 := (fa_eq _ _).mp hc_66
          rw [li_m1] at ni_69
          have hv_70 : zI x_65 (-1) (-1) := zI.eq_l hx_65 zc_m1 hc_66
          refine lv_aload_n hx hb d_Cover_search_39 rfl (lv_at hl 1 rfl) ?_
          refine lv_iload_n hx hb d_Cover_search_40 rfl (lv_at hl 2 rfl) ?_
          refine va_put (D := G.1) (ci := 9) (v := .int b1) (ty := .int) (C := R_Cover) (T := F_Cover) (N := 5) hx hb hts i_Cover t_Cover t_Cover_ok n_Cover hown hK hP hD hS 0 rfl rfl 1 (by decide) (hts _ q341) (fun _ h9 => h9) rfl (by decide +kernel) rfl rfl (Nat.le_of_ble_eq_true rfl) d_Cover_search_41 (fun H locs hP hD hS => ?_)
          have hP : va_P G.1 classes [(b0, .inr (9, [.int b3, .int b1, .int b5, .ref b6, .int b7])), (b6, .inl (G.2 0, 240, .inl b8))] H := hP
          have hD := z_tie hP hD rfl
          refine lv_aload_n hx hb d_Cover_search_44 rfl (lv_at hl 1 rfl) ?_
          refine lv_iload_n hx hb d_Cover_search_45 rfl (lv_at hl 4 rfl) ?_
          refine va_put (D := G.1) (ci := 9) (v := .int 18) (ty := .int) (C := R_Cover) (T := F_Cover) (N := 5) hx hb hts i_Cover t_Cover t_Cover_ok n_Cover hown hK hP hD hS 0 rfl rfl 2 (by decide) (hts _ q343) (fun _ h9 => h9) rfl (by decide +kernel) rfl rfl (Nat.le_of_ble_eq_true rfl) d_Cover_search_46 (fun H locs hP hD hS => ?_)
          have hP : va_P G.1 classes [(b0, .inr (9, [.int b3, .int b1, .int 18, .ref b6, .int b7])), (b6, .inl (G.2 0, 240, .inl b8))] H := hP
          have hD := z_tie hP hD rfl
          exact z_vret hx hb hr hlocks hP hD hS (Nat.le_of_ble_eq_true rfl) (Nat.le_of_ble_eq_true rfl) d_Cover_search_49 ⟨b1, 18, rfl, rfl⟩
      · have _nhc_60 := hc_60
        have ni_71 := (fa_le _ _).mp (zi_nlt hc_60)
        exact z_vret hx hb hr hlocks hP hD hS (Nat.le_of_ble_eq_true rfl) (Nat.le_of_ble_eq_true rfl) d_Cover_search_24 ⟨b4, b5, rfl, rfl⟩
theorem zc_17 : zI 17 17 17 := ⟨by decide +kernel, by decide +kernel⟩
theorem li_17 : (17 : Int32).toInt = 17 := by decide +kernel
abbrev m_s4_Cover_search : Room := { frames := 5, cells := 0, slots := 0, locals := 127 }
set_option maxHeartbeats 4000000 in
set_option maxRecDepth 100000 in
theorem s4_Cover_search (l : Launch) (G : zG) (b0 : Nat) (b1 : Int32) (b2 : Int32) (b3 : Int32) (b4 : Int32) (b5 : Int32) (b6 : Nat) (b7 : Int32) (b8 : Nat → Int32) (hb3 : zI b3 0 1) (hb7 : zI b7 0 240) : zM l G y_Cover_search prog_2_method_6_code 8 (Option.none : Option Jvm.ClassFile.FieldType) m_s4_Cover_search [.ref b0, .int b1, .int b2, .int 17] [(b0, .inr (9, [.int b3, .int b4, .int b5, .ref b6, .int b7])), (b6, .inl (G.2 0, 240, .inl b8))] (fun v w => ∃ (e0 : Int32), ∃ (e1 : Int32), v = none ∧ w = [(b0, .inr (9, [.int b3, .int e0, .int e1, .ref b6, .int b7])), (b6, .inl (G.2 0, 240, .inl b8))]) := by
  refine z_start (by decide +kernel) (Nat.le_of_ble_eq_true rfl) ?_
  intro p e s m below meth c A Z hr hnm hA hP hD hS ls hl
  have Z : zC p s m _ meth c prog_2_method_6_code 8 "TraceMachines$Cover" G := Z
  obtain ⟨hx, hb, hml, hown, hts, hK, hN, hlocks⟩ := id Z
  have hl : lv_has ls 8 [(0, .ref b0), (1, .int b1), (2, .int b2), (3, .int 17)] := hl
  refine lv_iload_n hx hb d_Cover_search_0 rfl (lv_at hl 3 rfl) ?_
  refine lv_aload_n hx hb d_Cover_search_1 rfl (lv_at hl 0 rfl) ?_
  refine va_get (D := G.1) (ci := 9) (v := .int b5) (C := R_Cover) (T := F_Cover) (N := 5) hx hb hts i_Cover hown hK hP 0 rfl rfl 2 (by decide) (hts _ q343) (fun _ h9 => h9) rfl d_Cover_search_2 ?_
  refine lv_icmp_gt (tgt := 24) hx hb d_Cover_search_5 (by decide) (fun hc_1 => ?_) (fun hc_1 => ?_)
  · have _nhc_1 := hc_1
    have ni_2 := (fa_lt _ _).mp hc_1
    rw [li_17] at ni_2
    have hv_3 : zI b5 (-2147483648) 16 := zI.lt_l (zI_all b5) zc_17 hc_1 (by decide)
    exact z_vret hx hb hr hlocks hP hD hS (Nat.le_of_ble_eq_true rfl) (Nat.le_of_ble_eq_true rfl) d_Cover_search_24 ⟨b4, b5, rfl, rfl⟩
  · have _nhc_1 := hc_1
    have ni_4 := (fa_le _ _).mp (zi_nlt hc_1)
    rw [li_17] at ni_4
    have hv_5 : zI b5 17 2147483647 := zI.le_r zc_17 (zI_all b5) (zi_nlt hc_1) (by decide)
    refine lv_iload_n hx hb d_Cover_search_8 rfl (lv_at hl 3 rfl) ?_
    refine lv_aload_n hx hb d_Cover_search_9 rfl (lv_at hl 0 rfl) ?_
    refine va_get (D := G.1) (ci := 9) (v := .int b5) (C := R_Cover) (T := F_Cover) (N := 5) hx hb hts i_Cover hown hK hP 0 rfl rfl 2 (by decide) (hts _ q343) (fun _ h9 => h9) rfl d_Cover_search_10 ?_
    refine lv_icmp_ne (tgt := 25) hx hb d_Cover_search_13 (by decide) (fun hc_6 => ?_) (fun hc_6 => ?_)
    · have _nhc_6 := hc_6
      have ni_7 : ¬ (17 : Int32).toInt = (b5 : Int32).toInt := fun z => hc_6 ((fa_eq _ _).mpr z)
      simp only [li_17] at ni_7
      refine lv_aload_n hx hb d_Cover_search_25 rfl (lv_at hl 0 rfl) ?_
      refine lv_iload_n hx hb d_Cover_search_26 rfl (lv_at hl 1 rfl) ?_
      refine lv_iload_n hx hb d_Cover_search_27 rfl (lv_at hl 2 rfl) ?_
      refine z_callV (index := 70) (As := [.int b1, .int b2]) (rest := []) (wr := []) Z (s1_Cover_hardest l G (b0) (b1) (b2) (b3) (b4) (b5) (b6) (b7) (b8) hb3 hb7) hl.1 q785 q787 qs21 q10 q788 ⟨by decide, by decide, by show _ = some 2; decide +kernel⟩ ⟨Nat.le_of_ble_eq_true rfl, Nat.le_of_ble_eq_true rfl⟩ ⟨Nat.le_of_ble_eq_true rfl, Nat.le_of_ble_eq_true rfl⟩ rfl (Nat.le_of_ble_eq_true rfl) d_Cover_search_28 hP hD hS hA 0 9 rfl rfl rfl [0, 1] [] rfl rfl rfl rfl (by decide) (fun v w1 H locs hw_8 hP hD hS => ?_)
      obtain ⟨x_9, rfl, rfl, hx_9⟩ := hw_8
      have hP : va_P G.1 classes [(b0, .inr (9, [.int b3, .int b4, .int b5, .ref b6, .int b7])), (b6, .inl (G.2 0, 240, .inl b8))] H := hP
      have hD := z_tie hP hD rfl
      refine W.widen (k := 0) (n := 0) (Nat.le_of_ble_eq_true rfl) (Nat.le_of_ble_eq_true rfl) ?_
      refine lv_istore (lv' := [(4, .int x_9), (0, .ref b0), (1, .int b1), (2, .int b2), (3, .int 17)]) hx hb d_Cover_search_31 hl (by decide) rfl (fun ls hl => ?_)
      refine lv_iload hx hb d_Cover_search_33 (lv_at hl 0 rfl) ?_
      refine lv_iconst (v := (-1)) hx hb d_Cover_search_35 (by decide) ?_
      refine lv_icmp_ne (tgt := 50) hx hb d_Cover_search_36 (by decide) (fun hc_10 => ?_) (fun hc_10 => ?_)
      · have _nhc_10 := hc_10
        have ni_11 : ¬ (x_9 : Int32).toInt = ((-1) : Int32).toInt := fun z => hc_10 ((fa_eq _ _).mpr z)
        simp only [li_m1] at ni_11
        have hv_12 : zI x_9 0 239 := zI.ne_lo hx_9 zc_m1 hc_10 (by decide)
        refine lv_iload_n hx hb d_Cover_search_50 rfl (lv_at hl 4 rfl) ?_
        refine lv_aload_n hx hb d_Cover_search_51 rfl (lv_at hl 1 rfl) ?_
        refine va_get (D := G.1) (ci := 9) (v := .int b5) (C := R_Cover) (T := F_Cover) (N := 5) hx hb hts i_Cover hown hK hP 0 rfl rfl 2 (by decide) (hts _ q343) (fun _ h9 => h9) rfl d_Cover_search_52 ?_
        refine lv_icmp_ge (tgt := 64) hx hb d_Cover_search_55 (by decide) (fun hc_13 => ?_) (fun hc_13 => ?_)
        · have _nhc_13 := hc_13
          have ni_14 := (fa_le _ _).mp hc_13
          rw [li_17] at ni_14
          have hv_15 : zI b5 17 17 := zI.le_l hv_5 zc_17 hc_13 (by decide)
          exact z_vret hx hb hr hlocks hP hD hS (Nat.le_of_ble_eq_true rfl) (Nat.le_of_ble_eq_true rfl) d_Cover_search_64 ⟨b4, b5, rfl, rfl⟩
        · have _nhc_13 := hc_13
          have ni_16 := (fa_lt _ _).mp (zi_nle hc_13)
          rw [li_17] at ni_16
          have hv_17 : zI b5 18 2147483647 := zI.lt_r zc_17 hv_5 (zi_nle hc_13) (by decide)
          refine lv_iload_n hx hb d_Cover_search_58 rfl (lv_at hl 4 rfl) ?_
          refine lv_bipush (v := 20) hx hb d_Cover_search_59 (by decide) ?_
          refine lv_icmp_lt (tgt := 65) hx hb d_Cover_search_61 (by decide) (fun _ => ?_) (fun hc => absurd hc (by decide +kernel))
          refine lv_iload_n hx hb d_Cover_search_65 rfl (lv_at hl 3 rfl) ?_
          refine lv_istore (lv' := [(5, .int b2), (4, .int x_9), (0, .ref b0), (1, .int b1), (2, .int b2), (3, .int 17)]) hx hb d_Cover_search_66 hl (by decide) rfl (fun ls hl => ?_)
          refine lv_aload_n hx hb d_Cover_search_68 rfl (lv_at hl 2 rfl) ?_
          refine va_get (D := G.1) (ci := 9) (v := .ref b6) (C := R_Cover) (T := F_Cover) (N := 5) hx hb hts i_Cover hown hK hP 0 rfl rfl 3 (by decide) (hts _ q344) (fun _ h9 => h9) rfl d_Cover_search_69 ?_
          refine lv_iload hx hb d_Cover_search_72 (lv_at hl 1 rfl) ?_
          refine va_iald hx hb hK hP 1 0 rfl rfl (zI.inn hv_12 (by decide)) d_Cover_search_74 ?_
          refine lv_topi (fun v_18 ev_18 => ?_)
          refine lv_iload_n hx hb d_Cover_search_75 rfl (lv_at hl 4 rfl) ?_
          refine lv_iconst (v := (-1)) hx hb d_Cover_search_76 (by decide) ?_
          refine lv_ixor hx hb d_Cover_search_77 ?_
          refine lv_topi (fun v_19 ev_19 => ?_)
          refine lv_iand hx hb d_Cover_search_78 ?_
          refine lv_topi (fun v_20 ev_20 => ?_)
          refine lv_istore (lv' := [(6, .int v_20), (5, .int b2), (4, .int x_9), (0, .ref b0), (1, .int b1), (2, .int b2), (3, .int 17)]) hx hb d_Cover_search_79 hl (by decide) rfl (fun ls hl => ?_)
          suffices key : ∀ (k_38 : Nat) (y_39 : Int32) (y_40 : Int32) (y_41 : Int32) (y_42 : Int32) (H : Heap) (locs : List Loc) (ls : Array Slot), (y_39).toBitVec.toNat < k_38 → va_P G.1 classes [(b0, .inr (9, [.int b3, .int y_41, .int y_42, .ref b6, .int b7])), (b6, .inl (G.2 0, 240, .inl b8))] H → va_D A [(b0, .inr (9, [.int b3, .int y_41, .int y_42, .ref b6, .int b7])), (b6, .inl (G.2 0, 240, .inl b8))] → va_S A s.heap H locs → lv_has ls 8 [(6, .int y_39), (5, .int y_40), (4, .int x_9), (0, .ref b0), (1, .int b1), (2, .int b2), (3, .int 17)] → W p l e m_s4_Cover_search s m ([.ref b0, .int b1, .int b2, .int 17] : List Value).toArray below meth c H locs 0 0 (MQ below (zQ G (fun v w => ∃ (e0 : Int32), ∃ (e1 : Int32), v = none ∧ w = [(b0, .inr (9, [.int b3, .int e0, .int e1, .ref b6, .int b7])), (b6, .inl (G.2 0, 240, .inl b8))]) A) ([.ref b0, .int b1, .int b2, .int 17] : List Value).toArray s m_s4_Cover_search.cells m_s4_Cover_search.slots A) (F0 m 81 ls []) by
            exact key 4294967296 (v_20) (b2) (b4) (b5) _ _ _  (Nat.lt_of_lt_of_le (v_20).toBitVec.isLt (by decide)) hP hD hS (lv_sub hl [0, 1, 2, 3, 4, 5, 6] rfl)
          intro k_38
          induction k_38 with
          | zero =>
            intro y_39 y_40 y_41 y_42 H locs ls hmk_38 hP hD hS hl
            exfalso; omega
          | succ k_38 ihk_38 =>
            intro y_39 y_40 y_41 y_42 H locs ls hmk_38 hP hD hS hl
            refine lv_iload hx hb d_Cover_search_81 (lv_at hl 0 rfl) ?_
            refine lv_if_eq (tgt := 126) hx hb d_Cover_search_83 (by decide) (fun hc_43 => ?_) (fun hc_43 => ?_)
            · have _nhc_43 := hc_43
              have ni_44 := (fa_eq _ _).mp hc_43
              rw [li_0] at ni_44
              have hv_45 : zI y_39 0 0 := zI.eq_l (zI_all y_39) zc_0 hc_43
              exact z_vret hx hb hr hlocks hP hD hS (Nat.le_of_ble_eq_true rfl) (Nat.le_of_ble_eq_true rfl) d_Cover_search_126 ⟨y_41, y_42, rfl, rfl⟩
            · have _nhc_43 := hc_43
              have ni_46 : ¬ (y_39 : Int32).toInt = (0 : Int32).toInt := fun z => hc_43 ((fa_eq _ _).mpr z)
              simp only [li_0] at ni_46
              refine lv_iload hx hb d_Cover_search_86 (lv_at hl 0 rfl) ?_
              refine lv_iload hx hb d_Cover_search_88 (lv_at hl 0 rfl) ?_
              refine lv_ineg hx hb d_Cover_search_90 ?_
              refine lv_topi (fun v_47 ev_47 => ?_)
              refine lv_iand hx hb d_Cover_search_91 ?_
              refine lv_topi (fun v_48 ev_48 => ?_)
              refine lv_istore (lv' := [(7, .int v_48), (6, .int y_39), (5, .int y_40), (4, .int x_9), (0, .ref b0), (1, .int b1), (2, .int b2), (3, .int 17)]) hx hb d_Cover_search_92 hl (by decide) rfl (fun ls hl => ?_)
              refine lv_aload_n hx hb d_Cover_search_94 rfl (lv_at hl 4 rfl) ?_
              refine lv_iload_n hx hb d_Cover_search_95 rfl (lv_at hl 5 rfl) ?_
              refine lv_iload hx hb d_Cover_search_96 (lv_at hl 0 rfl) ?_
              refine lv_ior hx hb d_Cover_search_98 ?_
              refine lv_topi (fun v_49 ev_49 => ?_)
              refine lv_iload hx hb d_Cover_search_99 (lv_at hl 2 rfl) ?_
              refine lv_iload_n hx hb d_Cover_search_101 rfl (lv_at hl 7 rfl) ?_
              refine lv_iconst (v := 1) hx hb d_Cover_search_102 (by decide) ?_
              refine lv_iadd hx hb d_Cover_search_103 ?_
              refine z_topi (y := 18) (by decide +kernel) ?_
              refine z_callV (index := 38) (As := [.int v_49, .int y_40, .int 18]) (rest := []) (wr := []) Z (s3_Cover_search l G (b0) (v_49) (y_40) (b3) (y_41) (y_42) (b6) (b7) (b8) hb3 hb7) hl.1 q781 q783 qs20 q10 q784 ⟨by decide, by decide, by show _ = some 3; decide +kernel⟩ ⟨Nat.le_of_ble_eq_true rfl, Nat.le_of_ble_eq_true rfl⟩ ⟨Nat.le_of_ble_eq_true rfl, Nat.le_of_ble_eq_true rfl⟩ rfl (Nat.le_of_ble_eq_true rfl) d_Cover_search_104 hP hD hS hA 0 9 rfl rfl rfl [0, 1] [] rfl rfl rfl rfl (by decide) (fun v w1 H locs hw_50 hP hD hS => ?_)
              obtain ⟨x_51, x_52, rfl, rfl⟩ := hw_50
              have hP : va_P G.1 classes [(b0, .inr (9, [.int b3, .int x_51, .int x_52, .ref b6, .int b7])), (b6, .inl (G.2 0, 240, .inl b8))] H := hP
              have hD := z_tie hP hD rfl
              refine W.widen (k := 0) (n := 0) (Nat.le_of_ble_eq_true rfl) (Nat.le_of_ble_eq_true rfl) ?_
              refine lv_iload hx hb d_Cover_search_107 (lv_at hl 2 rfl) ?_
              refine lv_iload hx hb d_Cover_search_109 (lv_at hl 0 rfl) ?_
              refine lv_ior hx hb d_Cover_search_111 ?_
              refine lv_topi (fun v_53 ev_53 => ?_)
              refine lv_istore (lv' := [(5, .int v_53), (7, .int v_48), (6, .int y_39), (4, .int x_9), (0, .ref b0), (1, .int b1), (2, .int b2), (3, .int 17)]) hx hb d_Cover_search_112 hl (by decide) rfl (fun ls hl => ?_)
              refine lv_iload hx hb d_Cover_search_114 (lv_at hl 2 rfl) ?_
              refine lv_iload hx hb d_Cover_search_116 (lv_at hl 2 rfl) ?_
              refine lv_iconst (v := 1) hx hb d_Cover_search_118 (by decide) ?_
              refine lv_isub hx hb d_Cover_search_119 ?_
              refine lv_topi (fun v_54 ev_54 => ?_)
              refine lv_iand hx hb d_Cover_search_120 ?_
              refine lv_topi (fun v_55 ev_55 => ?_)
              refine lv_istore (lv' := [(6, .int v_55), (5, .int v_53), (7, .int v_48), (4, .int x_9), (0, .ref b0), (1, .int b1), (2, .int b2), (3, .int 17)]) hx hb d_Cover_search_121 hl (by decide) rfl (fun ls hl => ?_)
              refine lv_goto (tgt := 81) hx hb d_Cover_search_123 (by decide) ?_
              exact ihk_38 (v_55) (v_53) (x_51) (x_52) _ _ _  (z_dec32 ev_54 ev_55 (by omega) hmk_38) hP hD hS (lv_sub hl [0, 1, 3, 4, 5, 6, 7] rfl)
      · have _nhc_10 := hc_10
        have ni_56 := (fa_eq _ _).mp hc_10
        rw [li_m1] at ni_56
        have hv_57 : zI x_9 (-1) (-1) := zI.eq_l hx_9 zc_m1 hc_10
        refine lv_aload_n hx hb d_Cover_search_39 rfl (lv_at hl 1 rfl) ?_
        refine lv_iload_n hx hb d_Cover_search_40 rfl (lv_at hl 2 rfl) ?_
        refine va_put (D := G.1) (ci := 9) (v := .int b1) (ty := .int) (C := R_Cover) (T := F_Cover) (N := 5) hx hb hts i_Cover t_Cover t_Cover_ok n_Cover hown hK hP hD hS 0 rfl rfl 1 (by decide) (hts _ q341) (fun _ h9 => h9) rfl (by decide +kernel) rfl rfl (Nat.le_of_ble_eq_true rfl) d_Cover_search_41 (fun H locs hP hD hS => ?_)
        have hP : va_P G.1 classes [(b0, .inr (9, [.int b3, .int b1, .int b5, .ref b6, .int b7])), (b6, .inl (G.2 0, 240, .inl b8))] H := hP
        have hD := z_tie hP hD rfl
        refine lv_aload_n hx hb d_Cover_search_44 rfl (lv_at hl 1 rfl) ?_
        refine lv_iload_n hx hb d_Cover_search_45 rfl (lv_at hl 4 rfl) ?_
        refine va_put (D := G.1) (ci := 9) (v := .int 17) (ty := .int) (C := R_Cover) (T := F_Cover) (N := 5) hx hb hts i_Cover t_Cover t_Cover_ok n_Cover hown hK hP hD hS 0 rfl rfl 2 (by decide) (hts _ q343) (fun _ h9 => h9) rfl (by decide +kernel) rfl rfl (Nat.le_of_ble_eq_true rfl) d_Cover_search_46 (fun H locs hP hD hS => ?_)
        have hP : va_P G.1 classes [(b0, .inr (9, [.int b3, .int b1, .int 17, .ref b6, .int b7])), (b6, .inl (G.2 0, 240, .inl b8))] H := hP
        have hD := z_tie hP hD rfl
        exact z_vret hx hb hr hlocks hP hD hS (Nat.le_of_ble_eq_true rfl) (Nat.le_of_ble_eq_true rfl) d_Cover_search_49 ⟨b1, 17, rfl, rfl⟩
    · have _nhc_6 := hc_6
      have ni_58 := (fa_eq _ _).mp hc_6
      rw [li_17] at ni_58
      have hv_59 : zI b5 17 17 := zI.eq_l hv_5 zc_17 hc_6.symm
      refine lv_iload_n hx hb d_Cover_search_16 rfl (lv_at hl 1 rfl) ?_
      refine lv_aload_n hx hb d_Cover_search_17 rfl (lv_at hl 0 rfl) ?_
      refine va_get (D := G.1) (ci := 9) (v := .int b4) (C := R_Cover) (T := F_Cover) (N := 5) hx hb hts i_Cover hown hK hP 0 rfl rfl 1 (by decide) (hts _ q341) (fun _ h9 => h9) rfl d_Cover_search_18 ?_
      refine lv_icmp_lt (tgt := 25) hx hb d_Cover_search_21 (by decide) (fun hc_60 => ?_) (fun hc_60 => ?_)
      · have _nhc_60 := hc_60
        have ni_61 := (fa_lt _ _).mp hc_60
        have hv_62 : zI b1 (-2147483648) 2147483646 := zI.lt_l (zI_all b1) (zI_all b4) hc_60 (by decide)
        have hv_63 : zI b4 (-2147483647) 2147483647 := zI.lt_r (zI_all b1) (zI_all b4) hc_60 (by decide)
        refine lv_aload_n hx hb d_Cover_search_25 rfl (lv_at hl 0 rfl) ?_
        refine lv_iload_n hx hb d_Cover_search_26 rfl (lv_at hl 1 rfl) ?_
        refine lv_iload_n hx hb d_Cover_search_27 rfl (lv_at hl 2 rfl) ?_
        refine z_callV (index := 70) (As := [.int b1, .int b2]) (rest := []) (wr := []) Z (s1_Cover_hardest l G (b0) (b1) (b2) (b3) (b4) (b5) (b6) (b7) (b8) hb3 hb7) hl.1 q785 q787 qs21 q10 q788 ⟨by decide, by decide, by show _ = some 2; decide +kernel⟩ ⟨Nat.le_of_ble_eq_true rfl, Nat.le_of_ble_eq_true rfl⟩ ⟨Nat.le_of_ble_eq_true rfl, Nat.le_of_ble_eq_true rfl⟩ rfl (Nat.le_of_ble_eq_true rfl) d_Cover_search_28 hP hD hS hA 0 9 rfl rfl rfl [0, 1] [] rfl rfl rfl rfl (by decide) (fun v w1 H locs hw_64 hP hD hS => ?_)
        obtain ⟨x_65, rfl, rfl, hx_65⟩ := hw_64
        have hP : va_P G.1 classes [(b0, .inr (9, [.int b3, .int b4, .int b5, .ref b6, .int b7])), (b6, .inl (G.2 0, 240, .inl b8))] H := hP
        have hD := z_tie hP hD rfl
        refine W.widen (k := 0) (n := 0) (Nat.le_of_ble_eq_true rfl) (Nat.le_of_ble_eq_true rfl) ?_
        refine lv_istore (lv' := [(4, .int x_65), (0, .ref b0), (1, .int b1), (2, .int b2), (3, .int 17)]) hx hb d_Cover_search_31 hl (by decide) rfl (fun ls hl => ?_)
        refine lv_iload hx hb d_Cover_search_33 (lv_at hl 0 rfl) ?_
        refine lv_iconst (v := (-1)) hx hb d_Cover_search_35 (by decide) ?_
        refine lv_icmp_ne (tgt := 50) hx hb d_Cover_search_36 (by decide) (fun hc_66 => ?_) (fun hc_66 => ?_)
        · have _nhc_66 := hc_66
          have ni_67 : ¬ (x_65 : Int32).toInt = ((-1) : Int32).toInt := fun z => hc_66 ((fa_eq _ _).mpr z)
          simp only [li_m1] at ni_67
          have hv_68 : zI x_65 0 239 := zI.ne_lo hx_65 zc_m1 hc_66 (by decide)
          refine lv_iload_n hx hb d_Cover_search_50 rfl (lv_at hl 4 rfl) ?_
          refine lv_aload_n hx hb d_Cover_search_51 rfl (lv_at hl 1 rfl) ?_
          refine va_get (D := G.1) (ci := 9) (v := .int b5) (C := R_Cover) (T := F_Cover) (N := 5) hx hb hts i_Cover hown hK hP 0 rfl rfl 2 (by decide) (hts _ q343) (fun _ h9 => h9) rfl d_Cover_search_52 ?_
          refine lv_icmp_ge (tgt := 64) hx hb d_Cover_search_55 (by decide) (fun _ => ?_) (fun hc => zI.no_lt zc_17 hv_59 (zi_nle hc) (by decide))
          exact z_vret hx hb hr hlocks hP hD hS (Nat.le_of_ble_eq_true rfl) (Nat.le_of_ble_eq_true rfl) d_Cover_search_64 ⟨b4, b5, rfl, rfl⟩
        · have _nhc_66 := hc_66
          have ni_69 := (fa_eq _ _).mp hc_66
          rw [li_m1] at ni_69
          have hv_70 : zI x_65 (-1) (-1) := zI.eq_l hx_65 zc_m1 hc_66
          refine lv_aload_n hx hb d_Cover_search_39 rfl (lv_at hl 1 rfl) ?_
          refine lv_iload_n hx hb d_Cover_search_40 rfl (lv_at hl 2 rfl) ?_
          refine va_put (D := G.1) (ci := 9) (v := .int b1) (ty := .int) (C := R_Cover) (T := F_Cover) (N := 5) hx hb hts i_Cover t_Cover t_Cover_ok n_Cover hown hK hP hD hS 0 rfl rfl 1 (by decide) (hts _ q341) (fun _ h9 => h9) rfl (by decide +kernel) rfl rfl (Nat.le_of_ble_eq_true rfl) d_Cover_search_41 (fun H locs hP hD hS => ?_)
          have hP : va_P G.1 classes [(b0, .inr (9, [.int b3, .int b1, .int b5, .ref b6, .int b7])), (b6, .inl (G.2 0, 240, .inl b8))] H := hP
          have hD := z_tie hP hD rfl
          refine lv_aload_n hx hb d_Cover_search_44 rfl (lv_at hl 1 rfl) ?_
          refine lv_iload_n hx hb d_Cover_search_45 rfl (lv_at hl 4 rfl) ?_
          refine va_put (D := G.1) (ci := 9) (v := .int 17) (ty := .int) (C := R_Cover) (T := F_Cover) (N := 5) hx hb hts i_Cover t_Cover t_Cover_ok n_Cover hown hK hP hD hS 0 rfl rfl 2 (by decide) (hts _ q343) (fun _ h9 => h9) rfl (by decide +kernel) rfl rfl (Nat.le_of_ble_eq_true rfl) d_Cover_search_46 (fun H locs hP hD hS => ?_)
          have hP : va_P G.1 classes [(b0, .inr (9, [.int b3, .int b1, .int 17, .ref b6, .int b7])), (b6, .inl (G.2 0, 240, .inl b8))] H := hP
          have hD := z_tie hP hD rfl
          exact z_vret hx hb hr hlocks hP hD hS (Nat.le_of_ble_eq_true rfl) (Nat.le_of_ble_eq_true rfl) d_Cover_search_49 ⟨b1, 17, rfl, rfl⟩
      · have _nhc_60 := hc_60
        have ni_71 := (fa_le _ _).mp (zi_nlt hc_60)
        exact z_vret hx hb hr hlocks hP hD hS (Nat.le_of_ble_eq_true rfl) (Nat.le_of_ble_eq_true rfl) d_Cover_search_24 ⟨b4, b5, rfl, rfl⟩
theorem zc_16 : zI 16 16 16 := ⟨by decide +kernel, by decide +kernel⟩
theorem li_16 : (16 : Int32).toInt = 16 := by decide +kernel
abbrev m_s5_Cover_search : Room := { frames := 6, cells := 0, slots := 0, locals := 154 }
set_option maxHeartbeats 4000000 in
set_option maxRecDepth 100000 in
theorem s5_Cover_search (l : Launch) (G : zG) (b0 : Nat) (b1 : Int32) (b2 : Int32) (b3 : Int32) (b4 : Int32) (b5 : Int32) (b6 : Nat) (b7 : Int32) (b8 : Nat → Int32) (hb3 : zI b3 0 1) (hb7 : zI b7 0 240) : zM l G y_Cover_search prog_2_method_6_code 8 (Option.none : Option Jvm.ClassFile.FieldType) m_s5_Cover_search [.ref b0, .int b1, .int b2, .int 16] [(b0, .inr (9, [.int b3, .int b4, .int b5, .ref b6, .int b7])), (b6, .inl (G.2 0, 240, .inl b8))] (fun v w => ∃ (e0 : Int32), ∃ (e1 : Int32), v = none ∧ w = [(b0, .inr (9, [.int b3, .int e0, .int e1, .ref b6, .int b7])), (b6, .inl (G.2 0, 240, .inl b8))]) := by
  refine z_start (by decide +kernel) (Nat.le_of_ble_eq_true rfl) ?_
  intro p e s m below meth c A Z hr hnm hA hP hD hS ls hl
  have Z : zC p s m _ meth c prog_2_method_6_code 8 "TraceMachines$Cover" G := Z
  obtain ⟨hx, hb, hml, hown, hts, hK, hN, hlocks⟩ := id Z
  have hl : lv_has ls 8 [(0, .ref b0), (1, .int b1), (2, .int b2), (3, .int 16)] := hl
  refine lv_iload_n hx hb d_Cover_search_0 rfl (lv_at hl 3 rfl) ?_
  refine lv_aload_n hx hb d_Cover_search_1 rfl (lv_at hl 0 rfl) ?_
  refine va_get (D := G.1) (ci := 9) (v := .int b5) (C := R_Cover) (T := F_Cover) (N := 5) hx hb hts i_Cover hown hK hP 0 rfl rfl 2 (by decide) (hts _ q343) (fun _ h9 => h9) rfl d_Cover_search_2 ?_
  refine lv_icmp_gt (tgt := 24) hx hb d_Cover_search_5 (by decide) (fun hc_1 => ?_) (fun hc_1 => ?_)
  · have _nhc_1 := hc_1
    have ni_2 := (fa_lt _ _).mp hc_1
    rw [li_16] at ni_2
    have hv_3 : zI b5 (-2147483648) 15 := zI.lt_l (zI_all b5) zc_16 hc_1 (by decide)
    exact z_vret hx hb hr hlocks hP hD hS (Nat.le_of_ble_eq_true rfl) (Nat.le_of_ble_eq_true rfl) d_Cover_search_24 ⟨b4, b5, rfl, rfl⟩
  · have _nhc_1 := hc_1
    have ni_4 := (fa_le _ _).mp (zi_nlt hc_1)
    rw [li_16] at ni_4
    have hv_5 : zI b5 16 2147483647 := zI.le_r zc_16 (zI_all b5) (zi_nlt hc_1) (by decide)
    refine lv_iload_n hx hb d_Cover_search_8 rfl (lv_at hl 3 rfl) ?_
    refine lv_aload_n hx hb d_Cover_search_9 rfl (lv_at hl 0 rfl) ?_
    refine va_get (D := G.1) (ci := 9) (v := .int b5) (C := R_Cover) (T := F_Cover) (N := 5) hx hb hts i_Cover hown hK hP 0 rfl rfl 2 (by decide) (hts _ q343) (fun _ h9 => h9) rfl d_Cover_search_10 ?_
    refine lv_icmp_ne (tgt := 25) hx hb d_Cover_search_13 (by decide) (fun hc_6 => ?_) (fun hc_6 => ?_)
    · have _nhc_6 := hc_6
      have ni_7 : ¬ (16 : Int32).toInt = (b5 : Int32).toInt := fun z => hc_6 ((fa_eq _ _).mpr z)
      simp only [li_16] at ni_7
      refine lv_aload_n hx hb d_Cover_search_25 rfl (lv_at hl 0 rfl) ?_
      refine lv_iload_n hx hb d_Cover_search_26 rfl (lv_at hl 1 rfl) ?_
      refine lv_iload_n hx hb d_Cover_search_27 rfl (lv_at hl 2 rfl) ?_
      refine z_callV (index := 70) (As := [.int b1, .int b2]) (rest := []) (wr := []) Z (s1_Cover_hardest l G (b0) (b1) (b2) (b3) (b4) (b5) (b6) (b7) (b8) hb3 hb7) hl.1 q785 q787 qs21 q10 q788 ⟨by decide, by decide, by show _ = some 2; decide +kernel⟩ ⟨Nat.le_of_ble_eq_true rfl, Nat.le_of_ble_eq_true rfl⟩ ⟨Nat.le_of_ble_eq_true rfl, Nat.le_of_ble_eq_true rfl⟩ rfl (Nat.le_of_ble_eq_true rfl) d_Cover_search_28 hP hD hS hA 0 9 rfl rfl rfl [0, 1] [] rfl rfl rfl rfl (by decide) (fun v w1 H locs hw_8 hP hD hS => ?_)
      obtain ⟨x_9, rfl, rfl, hx_9⟩ := hw_8
      have hP : va_P G.1 classes [(b0, .inr (9, [.int b3, .int b4, .int b5, .ref b6, .int b7])), (b6, .inl (G.2 0, 240, .inl b8))] H := hP
      have hD := z_tie hP hD rfl
      refine W.widen (k := 0) (n := 0) (Nat.le_of_ble_eq_true rfl) (Nat.le_of_ble_eq_true rfl) ?_
      refine lv_istore (lv' := [(4, .int x_9), (0, .ref b0), (1, .int b1), (2, .int b2), (3, .int 16)]) hx hb d_Cover_search_31 hl (by decide) rfl (fun ls hl => ?_)
      refine lv_iload hx hb d_Cover_search_33 (lv_at hl 0 rfl) ?_
      refine lv_iconst (v := (-1)) hx hb d_Cover_search_35 (by decide) ?_
      refine lv_icmp_ne (tgt := 50) hx hb d_Cover_search_36 (by decide) (fun hc_10 => ?_) (fun hc_10 => ?_)
      · have _nhc_10 := hc_10
        have ni_11 : ¬ (x_9 : Int32).toInt = ((-1) : Int32).toInt := fun z => hc_10 ((fa_eq _ _).mpr z)
        simp only [li_m1] at ni_11
        have hv_12 : zI x_9 0 239 := zI.ne_lo hx_9 zc_m1 hc_10 (by decide)
        refine lv_iload_n hx hb d_Cover_search_50 rfl (lv_at hl 4 rfl) ?_
        refine lv_aload_n hx hb d_Cover_search_51 rfl (lv_at hl 1 rfl) ?_
        refine va_get (D := G.1) (ci := 9) (v := .int b5) (C := R_Cover) (T := F_Cover) (N := 5) hx hb hts i_Cover hown hK hP 0 rfl rfl 2 (by decide) (hts _ q343) (fun _ h9 => h9) rfl d_Cover_search_52 ?_
        refine lv_icmp_ge (tgt := 64) hx hb d_Cover_search_55 (by decide) (fun hc_13 => ?_) (fun hc_13 => ?_)
        · have _nhc_13 := hc_13
          have ni_14 := (fa_le _ _).mp hc_13
          rw [li_16] at ni_14
          have hv_15 : zI b5 16 16 := zI.le_l hv_5 zc_16 hc_13 (by decide)
          exact z_vret hx hb hr hlocks hP hD hS (Nat.le_of_ble_eq_true rfl) (Nat.le_of_ble_eq_true rfl) d_Cover_search_64 ⟨b4, b5, rfl, rfl⟩
        · have _nhc_13 := hc_13
          have ni_16 := (fa_lt _ _).mp (zi_nle hc_13)
          rw [li_16] at ni_16
          have hv_17 : zI b5 17 2147483647 := zI.lt_r zc_16 hv_5 (zi_nle hc_13) (by decide)
          refine lv_iload_n hx hb d_Cover_search_58 rfl (lv_at hl 4 rfl) ?_
          refine lv_bipush (v := 20) hx hb d_Cover_search_59 (by decide) ?_
          refine lv_icmp_lt (tgt := 65) hx hb d_Cover_search_61 (by decide) (fun _ => ?_) (fun hc => absurd hc (by decide +kernel))
          refine lv_iload_n hx hb d_Cover_search_65 rfl (lv_at hl 3 rfl) ?_
          refine lv_istore (lv' := [(5, .int b2), (4, .int x_9), (0, .ref b0), (1, .int b1), (2, .int b2), (3, .int 16)]) hx hb d_Cover_search_66 hl (by decide) rfl (fun ls hl => ?_)
          refine lv_aload_n hx hb d_Cover_search_68 rfl (lv_at hl 2 rfl) ?_
          refine va_get (D := G.1) (ci := 9) (v := .ref b6) (C := R_Cover) (T := F_Cover) (N := 5) hx hb hts i_Cover hown hK hP 0 rfl rfl 3 (by decide) (hts _ q344) (fun _ h9 => h9) rfl d_Cover_search_69 ?_
          refine lv_iload hx hb d_Cover_search_72 (lv_at hl 1 rfl) ?_
          refine va_iald hx hb hK hP 1 0 rfl rfl (zI.inn hv_12 (by decide)) d_Cover_search_74 ?_
          refine lv_topi (fun v_18 ev_18 => ?_)
          refine lv_iload_n hx hb d_Cover_search_75 rfl (lv_at hl 4 rfl) ?_
          refine lv_iconst (v := (-1)) hx hb d_Cover_search_76 (by decide) ?_
          refine lv_ixor hx hb d_Cover_search_77 ?_
          refine lv_topi (fun v_19 ev_19 => ?_)
          refine lv_iand hx hb d_Cover_search_78 ?_
          refine lv_topi (fun v_20 ev_20 => ?_)
          refine lv_istore (lv' := [(6, .int v_20), (5, .int b2), (4, .int x_9), (0, .ref b0), (1, .int b1), (2, .int b2), (3, .int 16)]) hx hb d_Cover_search_79 hl (by decide) rfl (fun ls hl => ?_)
          suffices key : ∀ (k_38 : Nat) (y_39 : Int32) (y_40 : Int32) (y_41 : Int32) (y_42 : Int32) (H : Heap) (locs : List Loc) (ls : Array Slot), (y_39).toBitVec.toNat < k_38 → va_P G.1 classes [(b0, .inr (9, [.int b3, .int y_41, .int y_42, .ref b6, .int b7])), (b6, .inl (G.2 0, 240, .inl b8))] H → va_D A [(b0, .inr (9, [.int b3, .int y_41, .int y_42, .ref b6, .int b7])), (b6, .inl (G.2 0, 240, .inl b8))] → va_S A s.heap H locs → lv_has ls 8 [(6, .int y_39), (5, .int y_40), (4, .int x_9), (0, .ref b0), (1, .int b1), (2, .int b2), (3, .int 16)] → W p l e m_s5_Cover_search s m ([.ref b0, .int b1, .int b2, .int 16] : List Value).toArray below meth c H locs 0 0 (MQ below (zQ G (fun v w => ∃ (e0 : Int32), ∃ (e1 : Int32), v = none ∧ w = [(b0, .inr (9, [.int b3, .int e0, .int e1, .ref b6, .int b7])), (b6, .inl (G.2 0, 240, .inl b8))]) A) ([.ref b0, .int b1, .int b2, .int 16] : List Value).toArray s m_s5_Cover_search.cells m_s5_Cover_search.slots A) (F0 m 81 ls []) by
            exact key 4294967296 (v_20) (b2) (b4) (b5) _ _ _  (Nat.lt_of_lt_of_le (v_20).toBitVec.isLt (by decide)) hP hD hS (lv_sub hl [0, 1, 2, 3, 4, 5, 6] rfl)
          intro k_38
          induction k_38 with
          | zero =>
            intro y_39 y_40 y_41 y_42 H locs ls hmk_38 hP hD hS hl
            exfalso; omega
          | succ k_38 ihk_38 =>
            intro y_39 y_40 y_41 y_42 H locs ls hmk_38 hP hD hS hl
            refine lv_iload hx hb d_Cover_search_81 (lv_at hl 0 rfl) ?_
            refine lv_if_eq (tgt := 126) hx hb d_Cover_search_83 (by decide) (fun hc_43 => ?_) (fun hc_43 => ?_)
            · have _nhc_43 := hc_43
              have ni_44 := (fa_eq _ _).mp hc_43
              rw [li_0] at ni_44
              have hv_45 : zI y_39 0 0 := zI.eq_l (zI_all y_39) zc_0 hc_43
              exact z_vret hx hb hr hlocks hP hD hS (Nat.le_of_ble_eq_true rfl) (Nat.le_of_ble_eq_true rfl) d_Cover_search_126 ⟨y_41, y_42, rfl, rfl⟩
            · have _nhc_43 := hc_43
              have ni_46 : ¬ (y_39 : Int32).toInt = (0 : Int32).toInt := fun z => hc_43 ((fa_eq _ _).mpr z)
              simp only [li_0] at ni_46
              refine lv_iload hx hb d_Cover_search_86 (lv_at hl 0 rfl) ?_
              refine lv_iload hx hb d_Cover_search_88 (lv_at hl 0 rfl) ?_
              refine lv_ineg hx hb d_Cover_search_90 ?_
              refine lv_topi (fun v_47 ev_47 => ?_)
              refine lv_iand hx hb d_Cover_search_91 ?_
              refine lv_topi (fun v_48 ev_48 => ?_)
              refine lv_istore (lv' := [(7, .int v_48), (6, .int y_39), (5, .int y_40), (4, .int x_9), (0, .ref b0), (1, .int b1), (2, .int b2), (3, .int 16)]) hx hb d_Cover_search_92 hl (by decide) rfl (fun ls hl => ?_)
              refine lv_aload_n hx hb d_Cover_search_94 rfl (lv_at hl 4 rfl) ?_
              refine lv_iload_n hx hb d_Cover_search_95 rfl (lv_at hl 5 rfl) ?_
              refine lv_iload hx hb d_Cover_search_96 (lv_at hl 0 rfl) ?_
              refine lv_ior hx hb d_Cover_search_98 ?_
              refine lv_topi (fun v_49 ev_49 => ?_)
              refine lv_iload hx hb d_Cover_search_99 (lv_at hl 2 rfl) ?_
              refine lv_iload_n hx hb d_Cover_search_101 rfl (lv_at hl 7 rfl) ?_
              refine lv_iconst (v := 1) hx hb d_Cover_search_102 (by decide) ?_
              refine lv_iadd hx hb d_Cover_search_103 ?_
              refine z_topi (y := 17) (by decide +kernel) ?_
              refine z_callV (index := 38) (As := [.int v_49, .int y_40, .int 17]) (rest := []) (wr := []) Z (s4_Cover_search l G (b0) (v_49) (y_40) (b3) (y_41) (y_42) (b6) (b7) (b8) hb3 hb7) hl.1 q781 q783 qs20 q10 q784 ⟨by decide, by decide, by show _ = some 3; decide +kernel⟩ ⟨Nat.le_of_ble_eq_true rfl, Nat.le_of_ble_eq_true rfl⟩ ⟨Nat.le_of_ble_eq_true rfl, Nat.le_of_ble_eq_true rfl⟩ rfl (Nat.le_of_ble_eq_true rfl) d_Cover_search_104 hP hD hS hA 0 9 rfl rfl rfl [0, 1] [] rfl rfl rfl rfl (by decide) (fun v w1 H locs hw_50 hP hD hS => ?_)
              obtain ⟨x_51, x_52, rfl, rfl⟩ := hw_50
              have hP : va_P G.1 classes [(b0, .inr (9, [.int b3, .int x_51, .int x_52, .ref b6, .int b7])), (b6, .inl (G.2 0, 240, .inl b8))] H := hP
              have hD := z_tie hP hD rfl
              refine W.widen (k := 0) (n := 0) (Nat.le_of_ble_eq_true rfl) (Nat.le_of_ble_eq_true rfl) ?_
              refine lv_iload hx hb d_Cover_search_107 (lv_at hl 2 rfl) ?_
              refine lv_iload hx hb d_Cover_search_109 (lv_at hl 0 rfl) ?_
              refine lv_ior hx hb d_Cover_search_111 ?_
              refine lv_topi (fun v_53 ev_53 => ?_)
              refine lv_istore (lv' := [(5, .int v_53), (7, .int v_48), (6, .int y_39), (4, .int x_9), (0, .ref b0), (1, .int b1), (2, .int b2), (3, .int 16)]) hx hb d_Cover_search_112 hl (by decide) rfl (fun ls hl => ?_)
              refine lv_iload hx hb d_Cover_search_114 (lv_at hl 2 rfl) ?_
              refine lv_iload hx hb d_Cover_search_116 (lv_at hl 2 rfl) ?_
              refine lv_iconst (v := 1) hx hb d_Cover_search_118 (by decide) ?_
              refine lv_isub hx hb d_Cover_search_119 ?_
              refine lv_topi (fun v_54 ev_54 => ?_)
              refine lv_iand hx hb d_Cover_search_120 ?_
              refine lv_topi (fun v_55 ev_55 => ?_)
              refine lv_istore (lv' := [(6, .int v_55), (5, .int v_53), (7, .int v_48), (4, .int x_9), (0, .ref b0), (1, .int b1), (2, .int b2), (3, .int 16)]) hx hb d_Cover_search_121 hl (by decide) rfl (fun ls hl => ?_)
              refine lv_goto (tgt := 81) hx hb d_Cover_search_123 (by decide) ?_
              exact ihk_38 (v_55) (v_53) (x_51) (x_52) _ _ _  (z_dec32 ev_54 ev_55 (by omega) hmk_38) hP hD hS (lv_sub hl [0, 1, 3, 4, 5, 6, 7] rfl)
      · have _nhc_10 := hc_10
        have ni_56 := (fa_eq _ _).mp hc_10
        rw [li_m1] at ni_56
        have hv_57 : zI x_9 (-1) (-1) := zI.eq_l hx_9 zc_m1 hc_10
        refine lv_aload_n hx hb d_Cover_search_39 rfl (lv_at hl 1 rfl) ?_
        refine lv_iload_n hx hb d_Cover_search_40 rfl (lv_at hl 2 rfl) ?_
        refine va_put (D := G.1) (ci := 9) (v := .int b1) (ty := .int) (C := R_Cover) (T := F_Cover) (N := 5) hx hb hts i_Cover t_Cover t_Cover_ok n_Cover hown hK hP hD hS 0 rfl rfl 1 (by decide) (hts _ q341) (fun _ h9 => h9) rfl (by decide +kernel) rfl rfl (Nat.le_of_ble_eq_true rfl) d_Cover_search_41 (fun H locs hP hD hS => ?_)
        have hP : va_P G.1 classes [(b0, .inr (9, [.int b3, .int b1, .int b5, .ref b6, .int b7])), (b6, .inl (G.2 0, 240, .inl b8))] H := hP
        have hD := z_tie hP hD rfl
        refine lv_aload_n hx hb d_Cover_search_44 rfl (lv_at hl 1 rfl) ?_
        refine lv_iload_n hx hb d_Cover_search_45 rfl (lv_at hl 4 rfl) ?_
        refine va_put (D := G.1) (ci := 9) (v := .int 16) (ty := .int) (C := R_Cover) (T := F_Cover) (N := 5) hx hb hts i_Cover t_Cover t_Cover_ok n_Cover hown hK hP hD hS 0 rfl rfl 2 (by decide) (hts _ q343) (fun _ h9 => h9) rfl (by decide +kernel) rfl rfl (Nat.le_of_ble_eq_true rfl) d_Cover_search_46 (fun H locs hP hD hS => ?_)
        have hP : va_P G.1 classes [(b0, .inr (9, [.int b3, .int b1, .int 16, .ref b6, .int b7])), (b6, .inl (G.2 0, 240, .inl b8))] H := hP
        have hD := z_tie hP hD rfl
        exact z_vret hx hb hr hlocks hP hD hS (Nat.le_of_ble_eq_true rfl) (Nat.le_of_ble_eq_true rfl) d_Cover_search_49 ⟨b1, 16, rfl, rfl⟩
    · have _nhc_6 := hc_6
      have ni_58 := (fa_eq _ _).mp hc_6
      rw [li_16] at ni_58
      have hv_59 : zI b5 16 16 := zI.eq_l hv_5 zc_16 hc_6.symm
      refine lv_iload_n hx hb d_Cover_search_16 rfl (lv_at hl 1 rfl) ?_
      refine lv_aload_n hx hb d_Cover_search_17 rfl (lv_at hl 0 rfl) ?_
      refine va_get (D := G.1) (ci := 9) (v := .int b4) (C := R_Cover) (T := F_Cover) (N := 5) hx hb hts i_Cover hown hK hP 0 rfl rfl 1 (by decide) (hts _ q341) (fun _ h9 => h9) rfl d_Cover_search_18 ?_
      refine lv_icmp_lt (tgt := 25) hx hb d_Cover_search_21 (by decide) (fun hc_60 => ?_) (fun hc_60 => ?_)
      · have _nhc_60 := hc_60
        have ni_61 := (fa_lt _ _).mp hc_60
        have hv_62 : zI b1 (-2147483648) 2147483646 := zI.lt_l (zI_all b1) (zI_all b4) hc_60 (by decide)
        have hv_63 : zI b4 (-2147483647) 2147483647 := zI.lt_r (zI_all b1) (zI_all b4) hc_60 (by decide)
        refine lv_aload_n hx hb d_Cover_search_25 rfl (lv_at hl 0 rfl) ?_
        refine lv_iload_n hx hb d_Cover_search_26 rfl (lv_at hl 1 rfl) ?_
        refine lv_iload_n hx hb d_Cover_search_27 rfl (lv_at hl 2 rfl) ?_
        refine z_callV (index := 70) (As := [.int b1, .int b2]) (rest := []) (wr := []) Z (s1_Cover_hardest l G (b0) (b1) (b2) (b3) (b4) (b5) (b6) (b7) (b8) hb3 hb7) hl.1 q785 q787 qs21 q10 q788 ⟨by decide, by decide, by show _ = some 2; decide +kernel⟩ ⟨Nat.le_of_ble_eq_true rfl, Nat.le_of_ble_eq_true rfl⟩ ⟨Nat.le_of_ble_eq_true rfl, Nat.le_of_ble_eq_true rfl⟩ rfl (Nat.le_of_ble_eq_true rfl) d_Cover_search_28 hP hD hS hA 0 9 rfl rfl rfl [0, 1] [] rfl rfl rfl rfl (by decide) (fun v w1 H locs hw_64 hP hD hS => ?_)
        obtain ⟨x_65, rfl, rfl, hx_65⟩ := hw_64
        have hP : va_P G.1 classes [(b0, .inr (9, [.int b3, .int b4, .int b5, .ref b6, .int b7])), (b6, .inl (G.2 0, 240, .inl b8))] H := hP
        have hD := z_tie hP hD rfl
        refine W.widen (k := 0) (n := 0) (Nat.le_of_ble_eq_true rfl) (Nat.le_of_ble_eq_true rfl) ?_
        refine lv_istore (lv' := [(4, .int x_65), (0, .ref b0), (1, .int b1), (2, .int b2), (3, .int 16)]) hx hb d_Cover_search_31 hl (by decide) rfl (fun ls hl => ?_)
        refine lv_iload hx hb d_Cover_search_33 (lv_at hl 0 rfl) ?_
        refine lv_iconst (v := (-1)) hx hb d_Cover_search_35 (by decide) ?_
        refine lv_icmp_ne (tgt := 50) hx hb d_Cover_search_36 (by decide) (fun hc_66 => ?_) (fun hc_66 => ?_)
        · have _nhc_66 := hc_66
          have ni_67 : ¬ (x_65 : Int32).toInt = ((-1) : Int32).toInt := fun z => hc_66 ((fa_eq _ _).mpr z)
          simp only [li_m1] at ni_67
          have hv_68 : zI x_65 0 239 := zI.ne_lo hx_65 zc_m1 hc_66 (by decide)
          refine lv_iload_n hx hb d_Cover_search_50 rfl (lv_at hl 4 rfl) ?_
          refine lv_aload_n hx hb d_Cover_search_51 rfl (lv_at hl 1 rfl) ?_
          refine va_get (D := G.1) (ci := 9) (v := .int b5) (C := R_Cover) (T := F_Cover) (N := 5) hx hb hts i_Cover hown hK hP 0 rfl rfl 2 (by decide) (hts _ q343) (fun _ h9 => h9) rfl d_Cover_search_52 ?_
          refine lv_icmp_ge (tgt := 64) hx hb d_Cover_search_55 (by decide) (fun _ => ?_) (fun hc => zI.no_lt zc_16 hv_59 (zi_nle hc) (by decide))
          exact z_vret hx hb hr hlocks hP hD hS (Nat.le_of_ble_eq_true rfl) (Nat.le_of_ble_eq_true rfl) d_Cover_search_64 ⟨b4, b5, rfl, rfl⟩
        · have _nhc_66 := hc_66
          have ni_69 := (fa_eq _ _).mp hc_66
          rw [li_m1] at ni_69
          have hv_70 : zI x_65 (-1) (-1) := zI.eq_l hx_65 zc_m1 hc_66
          refine lv_aload_n hx hb d_Cover_search_39 rfl (lv_at hl 1 rfl) ?_
          refine lv_iload_n hx hb d_Cover_search_40 rfl (lv_at hl 2 rfl) ?_
          refine va_put (D := G.1) (ci := 9) (v := .int b1) (ty := .int) (C := R_Cover) (T := F_Cover) (N := 5) hx hb hts i_Cover t_Cover t_Cover_ok n_Cover hown hK hP hD hS 0 rfl rfl 1 (by decide) (hts _ q341) (fun _ h9 => h9) rfl (by decide +kernel) rfl rfl (Nat.le_of_ble_eq_true rfl) d_Cover_search_41 (fun H locs hP hD hS => ?_)
          have hP : va_P G.1 classes [(b0, .inr (9, [.int b3, .int b1, .int b5, .ref b6, .int b7])), (b6, .inl (G.2 0, 240, .inl b8))] H := hP
          have hD := z_tie hP hD rfl
          refine lv_aload_n hx hb d_Cover_search_44 rfl (lv_at hl 1 rfl) ?_
          refine lv_iload_n hx hb d_Cover_search_45 rfl (lv_at hl 4 rfl) ?_
          refine va_put (D := G.1) (ci := 9) (v := .int 16) (ty := .int) (C := R_Cover) (T := F_Cover) (N := 5) hx hb hts i_Cover t_Cover t_Cover_ok n_Cover hown hK hP hD hS 0 rfl rfl 2 (by decide) (hts _ q343) (fun _ h9 => h9) rfl (by decide +kernel) rfl rfl (Nat.le_of_ble_eq_true rfl) d_Cover_search_46 (fun H locs hP hD hS => ?_)
          have hP : va_P G.1 classes [(b0, .inr (9, [.int b3, .int b1, .int 16, .ref b6, .int b7])), (b6, .inl (G.2 0, 240, .inl b8))] H := hP
          have hD := z_tie hP hD rfl
          exact z_vret hx hb hr hlocks hP hD hS (Nat.le_of_ble_eq_true rfl) (Nat.le_of_ble_eq_true rfl) d_Cover_search_49 ⟨b1, 16, rfl, rfl⟩
      · have _nhc_60 := hc_60
        have ni_71 := (fa_le _ _).mp (zi_nlt hc_60)
        exact z_vret hx hb hr hlocks hP hD hS (Nat.le_of_ble_eq_true rfl) (Nat.le_of_ble_eq_true rfl) d_Cover_search_24 ⟨b4, b5, rfl, rfl⟩
theorem zc_15 : zI 15 15 15 := ⟨by decide +kernel, by decide +kernel⟩
theorem li_15 : (15 : Int32).toInt = 15 := by decide +kernel
abbrev m_s6_Cover_search : Room := { frames := 7, cells := 0, slots := 0, locals := 181 }
set_option maxHeartbeats 4000000 in
set_option maxRecDepth 100000 in
theorem s6_Cover_search (l : Launch) (G : zG) (b0 : Nat) (b1 : Int32) (b2 : Int32) (b3 : Int32) (b4 : Int32) (b5 : Int32) (b6 : Nat) (b7 : Int32) (b8 : Nat → Int32) (hb3 : zI b3 0 1) (hb7 : zI b7 0 240) : zM l G y_Cover_search prog_2_method_6_code 8 (Option.none : Option Jvm.ClassFile.FieldType) m_s6_Cover_search [.ref b0, .int b1, .int b2, .int 15] [(b0, .inr (9, [.int b3, .int b4, .int b5, .ref b6, .int b7])), (b6, .inl (G.2 0, 240, .inl b8))] (fun v w => ∃ (e0 : Int32), ∃ (e1 : Int32), v = none ∧ w = [(b0, .inr (9, [.int b3, .int e0, .int e1, .ref b6, .int b7])), (b6, .inl (G.2 0, 240, .inl b8))]) := by
  refine z_start (by decide +kernel) (Nat.le_of_ble_eq_true rfl) ?_
  intro p e s m below meth c A Z hr hnm hA hP hD hS ls hl
  have Z : zC p s m _ meth c prog_2_method_6_code 8 "TraceMachines$Cover" G := Z
  obtain ⟨hx, hb, hml, hown, hts, hK, hN, hlocks⟩ := id Z
  have hl : lv_has ls 8 [(0, .ref b0), (1, .int b1), (2, .int b2), (3, .int 15)] := hl
  refine lv_iload_n hx hb d_Cover_search_0 rfl (lv_at hl 3 rfl) ?_
  refine lv_aload_n hx hb d_Cover_search_1 rfl (lv_at hl 0 rfl) ?_
  refine va_get (D := G.1) (ci := 9) (v := .int b5) (C := R_Cover) (T := F_Cover) (N := 5) hx hb hts i_Cover hown hK hP 0 rfl rfl 2 (by decide) (hts _ q343) (fun _ h9 => h9) rfl d_Cover_search_2 ?_
  refine lv_icmp_gt (tgt := 24) hx hb d_Cover_search_5 (by decide) (fun hc_1 => ?_) (fun hc_1 => ?_)
  · have _nhc_1 := hc_1
    have ni_2 := (fa_lt _ _).mp hc_1
    rw [li_15] at ni_2
    have hv_3 : zI b5 (-2147483648) 14 := zI.lt_l (zI_all b5) zc_15 hc_1 (by decide)
    exact z_vret hx hb hr hlocks hP hD hS (Nat.le_of_ble_eq_true rfl) (Nat.le_of_ble_eq_true rfl) d_Cover_search_24 ⟨b4, b5, rfl, rfl⟩
  · have _nhc_1 := hc_1
    have ni_4 := (fa_le _ _).mp (zi_nlt hc_1)
    rw [li_15] at ni_4
    have hv_5 : zI b5 15 2147483647 := zI.le_r zc_15 (zI_all b5) (zi_nlt hc_1) (by decide)
    refine lv_iload_n hx hb d_Cover_search_8 rfl (lv_at hl 3 rfl) ?_
    refine lv_aload_n hx hb d_Cover_search_9 rfl (lv_at hl 0 rfl) ?_
    refine va_get (D := G.1) (ci := 9) (v := .int b5) (C := R_Cover) (T := F_Cover) (N := 5) hx hb hts i_Cover hown hK hP 0 rfl rfl 2 (by decide) (hts _ q343) (fun _ h9 => h9) rfl d_Cover_search_10 ?_
    refine lv_icmp_ne (tgt := 25) hx hb d_Cover_search_13 (by decide) (fun hc_6 => ?_) (fun hc_6 => ?_)
    · have _nhc_6 := hc_6
      have ni_7 : ¬ (15 : Int32).toInt = (b5 : Int32).toInt := fun z => hc_6 ((fa_eq _ _).mpr z)
      simp only [li_15] at ni_7
      refine lv_aload_n hx hb d_Cover_search_25 rfl (lv_at hl 0 rfl) ?_
      refine lv_iload_n hx hb d_Cover_search_26 rfl (lv_at hl 1 rfl) ?_
      refine lv_iload_n hx hb d_Cover_search_27 rfl (lv_at hl 2 rfl) ?_
      refine z_callV (index := 70) (As := [.int b1, .int b2]) (rest := []) (wr := []) Z (s1_Cover_hardest l G (b0) (b1) (b2) (b3) (b4) (b5) (b6) (b7) (b8) hb3 hb7) hl.1 q785 q787 qs21 q10 q788 ⟨by decide, by decide, by show _ = some 2; decide +kernel⟩ ⟨Nat.le_of_ble_eq_true rfl, Nat.le_of_ble_eq_true rfl⟩ ⟨Nat.le_of_ble_eq_true rfl, Nat.le_of_ble_eq_true rfl⟩ rfl (Nat.le_of_ble_eq_true rfl) d_Cover_search_28 hP hD hS hA 0 9 rfl rfl rfl [0, 1] [] rfl rfl rfl rfl (by decide) (fun v w1 H locs hw_8 hP hD hS => ?_)
      obtain ⟨x_9, rfl, rfl, hx_9⟩ := hw_8
      have hP : va_P G.1 classes [(b0, .inr (9, [.int b3, .int b4, .int b5, .ref b6, .int b7])), (b6, .inl (G.2 0, 240, .inl b8))] H := hP
      have hD := z_tie hP hD rfl
      refine W.widen (k := 0) (n := 0) (Nat.le_of_ble_eq_true rfl) (Nat.le_of_ble_eq_true rfl) ?_
      refine lv_istore (lv' := [(4, .int x_9), (0, .ref b0), (1, .int b1), (2, .int b2), (3, .int 15)]) hx hb d_Cover_search_31 hl (by decide) rfl (fun ls hl => ?_)
      refine lv_iload hx hb d_Cover_search_33 (lv_at hl 0 rfl) ?_
      refine lv_iconst (v := (-1)) hx hb d_Cover_search_35 (by decide) ?_
      refine lv_icmp_ne (tgt := 50) hx hb d_Cover_search_36 (by decide) (fun hc_10 => ?_) (fun hc_10 => ?_)
      · have _nhc_10 := hc_10
        have ni_11 : ¬ (x_9 : Int32).toInt = ((-1) : Int32).toInt := fun z => hc_10 ((fa_eq _ _).mpr z)
        simp only [li_m1] at ni_11
        have hv_12 : zI x_9 0 239 := zI.ne_lo hx_9 zc_m1 hc_10 (by decide)
        refine lv_iload_n hx hb d_Cover_search_50 rfl (lv_at hl 4 rfl) ?_
        refine lv_aload_n hx hb d_Cover_search_51 rfl (lv_at hl 1 rfl) ?_
        refine va_get (D := G.1) (ci := 9) (v := .int b5) (C := R_Cover) (T := F_Cover) (N := 5) hx hb hts i_Cover hown hK hP 0 rfl rfl 2 (by decide) (hts _ q343) (fun _ h9 => h9) rfl d_Cover_search_52 ?_
        refine lv_icmp_ge (tgt := 64) hx hb d_Cover_search_55 (by decide) (fun hc_13 => ?_) (fun hc_13 => ?_)
        · have _nhc_13 := hc_13
          have ni_14 := (fa_le _ _).mp hc_13
          rw [li_15] at ni_14
          have hv_15 : zI b5 15 15 := zI.le_l hv_5 zc_15 hc_13 (by decide)
          exact z_vret hx hb hr hlocks hP hD hS (Nat.le_of_ble_eq_true rfl) (Nat.le_of_ble_eq_true rfl) d_Cover_search_64 ⟨b4, b5, rfl, rfl⟩
        · have _nhc_13 := hc_13
          have ni_16 := (fa_lt _ _).mp (zi_nle hc_13)
          rw [li_15] at ni_16
          have hv_17 : zI b5 16 2147483647 := zI.lt_r zc_15 hv_5 (zi_nle hc_13) (by decide)
          refine lv_iload_n hx hb d_Cover_search_58 rfl (lv_at hl 4 rfl) ?_
          refine lv_bipush (v := 20) hx hb d_Cover_search_59 (by decide) ?_
          refine lv_icmp_lt (tgt := 65) hx hb d_Cover_search_61 (by decide) (fun _ => ?_) (fun hc => absurd hc (by decide +kernel))
          refine lv_iload_n hx hb d_Cover_search_65 rfl (lv_at hl 3 rfl) ?_
          refine lv_istore (lv' := [(5, .int b2), (4, .int x_9), (0, .ref b0), (1, .int b1), (2, .int b2), (3, .int 15)]) hx hb d_Cover_search_66 hl (by decide) rfl (fun ls hl => ?_)
          refine lv_aload_n hx hb d_Cover_search_68 rfl (lv_at hl 2 rfl) ?_
          refine va_get (D := G.1) (ci := 9) (v := .ref b6) (C := R_Cover) (T := F_Cover) (N := 5) hx hb hts i_Cover hown hK hP 0 rfl rfl 3 (by decide) (hts _ q344) (fun _ h9 => h9) rfl d_Cover_search_69 ?_
          refine lv_iload hx hb d_Cover_search_72 (lv_at hl 1 rfl) ?_
          refine va_iald hx hb hK hP 1 0 rfl rfl (zI.inn hv_12 (by decide)) d_Cover_search_74 ?_
          refine lv_topi (fun v_18 ev_18 => ?_)
          refine lv_iload_n hx hb d_Cover_search_75 rfl (lv_at hl 4 rfl) ?_
          refine lv_iconst (v := (-1)) hx hb d_Cover_search_76 (by decide) ?_
          refine lv_ixor hx hb d_Cover_search_77 ?_
          refine lv_topi (fun v_19 ev_19 => ?_)
          refine lv_iand hx hb d_Cover_search_78 ?_
          refine lv_topi (fun v_20 ev_20 => ?_)
          refine lv_istore (lv' := [(6, .int v_20), (5, .int b2), (4, .int x_9), (0, .ref b0), (1, .int b1), (2, .int b2), (3, .int 15)]) hx hb d_Cover_search_79 hl (by decide) rfl (fun ls hl => ?_)
          suffices key : ∀ (k_38 : Nat) (y_39 : Int32) (y_40 : Int32) (y_41 : Int32) (y_42 : Int32) (H : Heap) (locs : List Loc) (ls : Array Slot), (y_39).toBitVec.toNat < k_38 → va_P G.1 classes [(b0, .inr (9, [.int b3, .int y_41, .int y_42, .ref b6, .int b7])), (b6, .inl (G.2 0, 240, .inl b8))] H → va_D A [(b0, .inr (9, [.int b3, .int y_41, .int y_42, .ref b6, .int b7])), (b6, .inl (G.2 0, 240, .inl b8))] → va_S A s.heap H locs → lv_has ls 8 [(6, .int y_39), (5, .int y_40), (4, .int x_9), (0, .ref b0), (1, .int b1), (2, .int b2), (3, .int 15)] → W p l e m_s6_Cover_search s m ([.ref b0, .int b1, .int b2, .int 15] : List Value).toArray below meth c H locs 0 0 (MQ below (zQ G (fun v w => ∃ (e0 : Int32), ∃ (e1 : Int32), v = none ∧ w = [(b0, .inr (9, [.int b3, .int e0, .int e1, .ref b6, .int b7])), (b6, .inl (G.2 0, 240, .inl b8))]) A) ([.ref b0, .int b1, .int b2, .int 15] : List Value).toArray s m_s6_Cover_search.cells m_s6_Cover_search.slots A) (F0 m 81 ls []) by
            exact key 4294967296 (v_20) (b2) (b4) (b5) _ _ _  (Nat.lt_of_lt_of_le (v_20).toBitVec.isLt (by decide)) hP hD hS (lv_sub hl [0, 1, 2, 3, 4, 5, 6] rfl)
          intro k_38
          induction k_38 with
          | zero =>
            intro y_39 y_40 y_41 y_42 H locs ls hmk_38 hP hD hS hl
            exfalso; omega
          | succ k_38 ihk_38 =>
            intro y_39 y_40 y_41 y_42 H locs ls hmk_38 hP hD hS hl
            refine lv_iload hx hb d_Cover_search_81 (lv_at hl 0 rfl) ?_
            refine lv_if_eq (tgt := 126) hx hb d_Cover_search_83 (by decide) (fun hc_43 => ?_) (fun hc_43 => ?_)
            · have _nhc_43 := hc_43
              have ni_44 := (fa_eq _ _).mp hc_43
              rw [li_0] at ni_44
              have hv_45 : zI y_39 0 0 := zI.eq_l (zI_all y_39) zc_0 hc_43
              exact z_vret hx hb hr hlocks hP hD hS (Nat.le_of_ble_eq_true rfl) (Nat.le_of_ble_eq_true rfl) d_Cover_search_126 ⟨y_41, y_42, rfl, rfl⟩
            · have _nhc_43 := hc_43
              have ni_46 : ¬ (y_39 : Int32).toInt = (0 : Int32).toInt := fun z => hc_43 ((fa_eq _ _).mpr z)
              simp only [li_0] at ni_46
              refine lv_iload hx hb d_Cover_search_86 (lv_at hl 0 rfl) ?_
              refine lv_iload hx hb d_Cover_search_88 (lv_at hl 0 rfl) ?_
              refine lv_ineg hx hb d_Cover_search_90 ?_
              refine lv_topi (fun v_47 ev_47 => ?_)
              refine lv_iand hx hb d_Cover_search_91 ?_
              refine lv_topi (fun v_48 ev_48 => ?_)
              refine lv_istore (lv' := [(7, .int v_48), (6, .int y_39), (5, .int y_40), (4, .int x_9), (0, .ref b0), (1, .int b1), (2, .int b2), (3, .int 15)]) hx hb d_Cover_search_92 hl (by decide) rfl (fun ls hl => ?_)
              refine lv_aload_n hx hb d_Cover_search_94 rfl (lv_at hl 4 rfl) ?_
              refine lv_iload_n hx hb d_Cover_search_95 rfl (lv_at hl 5 rfl) ?_
              refine lv_iload hx hb d_Cover_search_96 (lv_at hl 0 rfl) ?_
              refine lv_ior hx hb d_Cover_search_98 ?_
              refine lv_topi (fun v_49 ev_49 => ?_)
              refine lv_iload hx hb d_Cover_search_99 (lv_at hl 2 rfl) ?_
              refine lv_iload_n hx hb d_Cover_search_101 rfl (lv_at hl 7 rfl) ?_
              refine lv_iconst (v := 1) hx hb d_Cover_search_102 (by decide) ?_
              refine lv_iadd hx hb d_Cover_search_103 ?_
              refine z_topi (y := 16) (by decide +kernel) ?_
              refine z_callV (index := 38) (As := [.int v_49, .int y_40, .int 16]) (rest := []) (wr := []) Z (s5_Cover_search l G (b0) (v_49) (y_40) (b3) (y_41) (y_42) (b6) (b7) (b8) hb3 hb7) hl.1 q781 q783 qs20 q10 q784 ⟨by decide, by decide, by show _ = some 3; decide +kernel⟩ ⟨Nat.le_of_ble_eq_true rfl, Nat.le_of_ble_eq_true rfl⟩ ⟨Nat.le_of_ble_eq_true rfl, Nat.le_of_ble_eq_true rfl⟩ rfl (Nat.le_of_ble_eq_true rfl) d_Cover_search_104 hP hD hS hA 0 9 rfl rfl rfl [0, 1] [] rfl rfl rfl rfl (by decide) (fun v w1 H locs hw_50 hP hD hS => ?_)
              obtain ⟨x_51, x_52, rfl, rfl⟩ := hw_50
              have hP : va_P G.1 classes [(b0, .inr (9, [.int b3, .int x_51, .int x_52, .ref b6, .int b7])), (b6, .inl (G.2 0, 240, .inl b8))] H := hP
              have hD := z_tie hP hD rfl
              refine W.widen (k := 0) (n := 0) (Nat.le_of_ble_eq_true rfl) (Nat.le_of_ble_eq_true rfl) ?_
              refine lv_iload hx hb d_Cover_search_107 (lv_at hl 2 rfl) ?_
              refine lv_iload hx hb d_Cover_search_109 (lv_at hl 0 rfl) ?_
              refine lv_ior hx hb d_Cover_search_111 ?_
              refine lv_topi (fun v_53 ev_53 => ?_)
              refine lv_istore (lv' := [(5, .int v_53), (7, .int v_48), (6, .int y_39), (4, .int x_9), (0, .ref b0), (1, .int b1), (2, .int b2), (3, .int 15)]) hx hb d_Cover_search_112 hl (by decide) rfl (fun ls hl => ?_)
              refine lv_iload hx hb d_Cover_search_114 (lv_at hl 2 rfl) ?_
              refine lv_iload hx hb d_Cover_search_116 (lv_at hl 2 rfl) ?_
              refine lv_iconst (v := 1) hx hb d_Cover_search_118 (by decide) ?_
              refine lv_isub hx hb d_Cover_search_119 ?_
              refine lv_topi (fun v_54 ev_54 => ?_)
              refine lv_iand hx hb d_Cover_search_120 ?_
              refine lv_topi (fun v_55 ev_55 => ?_)
              refine lv_istore (lv' := [(6, .int v_55), (5, .int v_53), (7, .int v_48), (4, .int x_9), (0, .ref b0), (1, .int b1), (2, .int b2), (3, .int 15)]) hx hb d_Cover_search_121 hl (by decide) rfl (fun ls hl => ?_)
              refine lv_goto (tgt := 81) hx hb d_Cover_search_123 (by decide) ?_
              exact ihk_38 (v_55) (v_53) (x_51) (x_52) _ _ _  (z_dec32 ev_54 ev_55 (by omega) hmk_38) hP hD hS (lv_sub hl [0, 1, 3, 4, 5, 6, 7] rfl)
      · have _nhc_10 := hc_10
        have ni_56 := (fa_eq _ _).mp hc_10
        rw [li_m1] at ni_56
        have hv_57 : zI x_9 (-1) (-1) := zI.eq_l hx_9 zc_m1 hc_10
        refine lv_aload_n hx hb d_Cover_search_39 rfl (lv_at hl 1 rfl) ?_
        refine lv_iload_n hx hb d_Cover_search_40 rfl (lv_at hl 2 rfl) ?_
        refine va_put (D := G.1) (ci := 9) (v := .int b1) (ty := .int) (C := R_Cover) (T := F_Cover) (N := 5) hx hb hts i_Cover t_Cover t_Cover_ok n_Cover hown hK hP hD hS 0 rfl rfl 1 (by decide) (hts _ q341) (fun _ h9 => h9) rfl (by decide +kernel) rfl rfl (Nat.le_of_ble_eq_true rfl) d_Cover_search_41 (fun H locs hP hD hS => ?_)
        have hP : va_P G.1 classes [(b0, .inr (9, [.int b3, .int b1, .int b5, .ref b6, .int b7])), (b6, .inl (G.2 0, 240, .inl b8))] H := hP
        have hD := z_tie hP hD rfl
        refine lv_aload_n hx hb d_Cover_search_44 rfl (lv_at hl 1 rfl) ?_
        refine lv_iload_n hx hb d_Cover_search_45 rfl (lv_at hl 4 rfl) ?_
        refine va_put (D := G.1) (ci := 9) (v := .int 15) (ty := .int) (C := R_Cover) (T := F_Cover) (N := 5) hx hb hts i_Cover t_Cover t_Cover_ok n_Cover hown hK hP hD hS 0 rfl rfl 2 (by decide) (hts _ q343) (fun _ h9 => h9) rfl (by decide +kernel) rfl rfl (Nat.le_of_ble_eq_true rfl) d_Cover_search_46 (fun H locs hP hD hS => ?_)
        have hP : va_P G.1 classes [(b0, .inr (9, [.int b3, .int b1, .int 15, .ref b6, .int b7])), (b6, .inl (G.2 0, 240, .inl b8))] H := hP
        have hD := z_tie hP hD rfl
        exact z_vret hx hb hr hlocks hP hD hS (Nat.le_of_ble_eq_true rfl) (Nat.le_of_ble_eq_true rfl) d_Cover_search_49 ⟨b1, 15, rfl, rfl⟩
    · have _nhc_6 := hc_6
      have ni_58 := (fa_eq _ _).mp hc_6
      rw [li_15] at ni_58
      have hv_59 : zI b5 15 15 := zI.eq_l hv_5 zc_15 hc_6.symm
      refine lv_iload_n hx hb d_Cover_search_16 rfl (lv_at hl 1 rfl) ?_
      refine lv_aload_n hx hb d_Cover_search_17 rfl (lv_at hl 0 rfl) ?_
      refine va_get (D := G.1) (ci := 9) (v := .int b4) (C := R_Cover) (T := F_Cover) (N := 5) hx hb hts i_Cover hown hK hP 0 rfl rfl 1 (by decide) (hts _ q341) (fun _ h9 => h9) rfl d_Cover_search_18 ?_
      refine lv_icmp_lt (tgt := 25) hx hb d_Cover_search_21 (by decide) (fun hc_60 => ?_) (fun hc_60 => ?_)
      · have _nhc_60 := hc_60
        have ni_61 := (fa_lt _ _).mp hc_60
        have hv_62 : zI b1 (-2147483648) 2147483646 := zI.lt_l (zI_all b1) (zI_all b4) hc_60 (by decide)
        have hv_63 : zI b4 (-2147483647) 2147483647 := zI.lt_r (zI_all b1) (zI_all b4) hc_60 (by decide)
        refine lv_aload_n hx hb d_Cover_search_25 rfl (lv_at hl 0 rfl) ?_
        refine lv_iload_n hx hb d_Cover_search_26 rfl (lv_at hl 1 rfl) ?_
        refine lv_iload_n hx hb d_Cover_search_27 rfl (lv_at hl 2 rfl) ?_
        refine z_callV (index := 70) (As := [.int b1, .int b2]) (rest := []) (wr := []) Z (s1_Cover_hardest l G (b0) (b1) (b2) (b3) (b4) (b5) (b6) (b7) (b8) hb3 hb7) hl.1 q785 q787 qs21 q10 q788 ⟨by decide, by decide, by show _ = some 2; decide +kernel⟩ ⟨Nat.le_of_ble_eq_true rfl, Nat.le_of_ble_eq_true rfl⟩ ⟨Nat.le_of_ble_eq_true rfl, Nat.le_of_ble_eq_true rfl⟩ rfl (Nat.le_of_ble_eq_true rfl) d_Cover_search_28 hP hD hS hA 0 9 rfl rfl rfl [0, 1] [] rfl rfl rfl rfl (by decide) (fun v w1 H locs hw_64 hP hD hS => ?_)
        obtain ⟨x_65, rfl, rfl, hx_65⟩ := hw_64
        have hP : va_P G.1 classes [(b0, .inr (9, [.int b3, .int b4, .int b5, .ref b6, .int b7])), (b6, .inl (G.2 0, 240, .inl b8))] H := hP
        have hD := z_tie hP hD rfl
        refine W.widen (k := 0) (n := 0) (Nat.le_of_ble_eq_true rfl) (Nat.le_of_ble_eq_true rfl) ?_
        refine lv_istore (lv' := [(4, .int x_65), (0, .ref b0), (1, .int b1), (2, .int b2), (3, .int 15)]) hx hb d_Cover_search_31 hl (by decide) rfl (fun ls hl => ?_)
        refine lv_iload hx hb d_Cover_search_33 (lv_at hl 0 rfl) ?_
        refine lv_iconst (v := (-1)) hx hb d_Cover_search_35 (by decide) ?_
        refine lv_icmp_ne (tgt := 50) hx hb d_Cover_search_36 (by decide) (fun hc_66 => ?_) (fun hc_66 => ?_)
        · have _nhc_66 := hc_66
          have ni_67 : ¬ (x_65 : Int32).toInt = ((-1) : Int32).toInt := fun z => hc_66 ((fa_eq _ _).mpr z)
          simp only [li_m1] at ni_67
          have hv_68 : zI x_65 0 239 := zI.ne_lo hx_65 zc_m1 hc_66 (by decide)
          refine lv_iload_n hx hb d_Cover_search_50 rfl (lv_at hl 4 rfl) ?_
          refine lv_aload_n hx hb d_Cover_search_51 rfl (lv_at hl 1 rfl) ?_
          refine va_get (D := G.1) (ci := 9) (v := .int b5) (C := R_Cover) (T := F_Cover) (N := 5) hx hb hts i_Cover hown hK hP 0 rfl rfl 2 (by decide) (hts _ q343) (fun _ h9 => h9) rfl d_Cover_search_52 ?_
          refine lv_icmp_ge (tgt := 64) hx hb d_Cover_search_55 (by decide) (fun _ => ?_) (fun hc => zI.no_lt zc_15 hv_59 (zi_nle hc) (by decide))
          exact z_vret hx hb hr hlocks hP hD hS (Nat.le_of_ble_eq_true rfl) (Nat.le_of_ble_eq_true rfl) d_Cover_search_64 ⟨b4, b5, rfl, rfl⟩
        · have _nhc_66 := hc_66
          have ni_69 := (fa_eq _ _).mp hc_66
          rw [li_m1] at ni_69
          have hv_70 : zI x_65 (-1) (-1) := zI.eq_l hx_65 zc_m1 hc_66
          refine lv_aload_n hx hb d_Cover_search_39 rfl (lv_at hl 1 rfl) ?_
          refine lv_iload_n hx hb d_Cover_search_40 rfl (lv_at hl 2 rfl) ?_
          refine va_put (D := G.1) (ci := 9) (v := .int b1) (ty := .int) (C := R_Cover) (T := F_Cover) (N := 5) hx hb hts i_Cover t_Cover t_Cover_ok n_Cover hown hK hP hD hS 0 rfl rfl 1 (by decide) (hts _ q341) (fun _ h9 => h9) rfl (by decide +kernel) rfl rfl (Nat.le_of_ble_eq_true rfl) d_Cover_search_41 (fun H locs hP hD hS => ?_)
          have hP : va_P G.1 classes [(b0, .inr (9, [.int b3, .int b1, .int b5, .ref b6, .int b7])), (b6, .inl (G.2 0, 240, .inl b8))] H := hP
          have hD := z_tie hP hD rfl
          refine lv_aload_n hx hb d_Cover_search_44 rfl (lv_at hl 1 rfl) ?_
          refine lv_iload_n hx hb d_Cover_search_45 rfl (lv_at hl 4 rfl) ?_
          refine va_put (D := G.1) (ci := 9) (v := .int 15) (ty := .int) (C := R_Cover) (T := F_Cover) (N := 5) hx hb hts i_Cover t_Cover t_Cover_ok n_Cover hown hK hP hD hS 0 rfl rfl 2 (by decide) (hts _ q343) (fun _ h9 => h9) rfl (by decide +kernel) rfl rfl (Nat.le_of_ble_eq_true rfl) d_Cover_search_46 (fun H locs hP hD hS => ?_)
          have hP : va_P G.1 classes [(b0, .inr (9, [.int b3, .int b1, .int 15, .ref b6, .int b7])), (b6, .inl (G.2 0, 240, .inl b8))] H := hP
          have hD := z_tie hP hD rfl
          exact z_vret hx hb hr hlocks hP hD hS (Nat.le_of_ble_eq_true rfl) (Nat.le_of_ble_eq_true rfl) d_Cover_search_49 ⟨b1, 15, rfl, rfl⟩
      · have _nhc_60 := hc_60
        have ni_71 := (fa_le _ _).mp (zi_nlt hc_60)
        exact z_vret hx hb hr hlocks hP hD hS (Nat.le_of_ble_eq_true rfl) (Nat.le_of_ble_eq_true rfl) d_Cover_search_24 ⟨b4, b5, rfl, rfl⟩
theorem zc_14 : zI 14 14 14 := ⟨by decide +kernel, by decide +kernel⟩
theorem li_14 : (14 : Int32).toInt = 14 := by decide +kernel
abbrev m_s7_Cover_search : Room := { frames := 8, cells := 0, slots := 0, locals := 208 }
set_option maxHeartbeats 4000000 in
set_option maxRecDepth 100000 in
theorem s7_Cover_search (l : Launch) (G : zG) (b0 : Nat) (b1 : Int32) (b2 : Int32) (b3 : Int32) (b4 : Int32) (b5 : Int32) (b6 : Nat) (b7 : Int32) (b8 : Nat → Int32) (hb3 : zI b3 0 1) (hb7 : zI b7 0 240) : zM l G y_Cover_search prog_2_method_6_code 8 (Option.none : Option Jvm.ClassFile.FieldType) m_s7_Cover_search [.ref b0, .int b1, .int b2, .int 14] [(b0, .inr (9, [.int b3, .int b4, .int b5, .ref b6, .int b7])), (b6, .inl (G.2 0, 240, .inl b8))] (fun v w => ∃ (e0 : Int32), ∃ (e1 : Int32), v = none ∧ w = [(b0, .inr (9, [.int b3, .int e0, .int e1, .ref b6, .int b7])), (b6, .inl (G.2 0, 240, .inl b8))]) := by
  refine z_start (by decide +kernel) (Nat.le_of_ble_eq_true rfl) ?_
  intro p e s m below meth c A Z hr hnm hA hP hD hS ls hl
  have Z : zC p s m _ meth c prog_2_method_6_code 8 "TraceMachines$Cover" G := Z
  obtain ⟨hx, hb, hml, hown, hts, hK, hN, hlocks⟩ := id Z
  have hl : lv_has ls 8 [(0, .ref b0), (1, .int b1), (2, .int b2), (3, .int 14)] := hl
  refine lv_iload_n hx hb d_Cover_search_0 rfl (lv_at hl 3 rfl) ?_
  refine lv_aload_n hx hb d_Cover_search_1 rfl (lv_at hl 0 rfl) ?_
  refine va_get (D := G.1) (ci := 9) (v := .int b5) (C := R_Cover) (T := F_Cover) (N := 5) hx hb hts i_Cover hown hK hP 0 rfl rfl 2 (by decide) (hts _ q343) (fun _ h9 => h9) rfl d_Cover_search_2 ?_
  refine lv_icmp_gt (tgt := 24) hx hb d_Cover_search_5 (by decide) (fun hc_1 => ?_) (fun hc_1 => ?_)
  · have _nhc_1 := hc_1
    have ni_2 := (fa_lt _ _).mp hc_1
    rw [li_14] at ni_2
    have hv_3 : zI b5 (-2147483648) 13 := zI.lt_l (zI_all b5) zc_14 hc_1 (by decide)
    exact z_vret hx hb hr hlocks hP hD hS (Nat.le_of_ble_eq_true rfl) (Nat.le_of_ble_eq_true rfl) d_Cover_search_24 ⟨b4, b5, rfl, rfl⟩
  · have _nhc_1 := hc_1
    have ni_4 := (fa_le _ _).mp (zi_nlt hc_1)
    rw [li_14] at ni_4
    have hv_5 : zI b5 14 2147483647 := zI.le_r zc_14 (zI_all b5) (zi_nlt hc_1) (by decide)
    refine lv_iload_n hx hb d_Cover_search_8 rfl (lv_at hl 3 rfl) ?_
    refine lv_aload_n hx hb d_Cover_search_9 rfl (lv_at hl 0 rfl) ?_
    refine va_get (D := G.1) (ci := 9) (v := .int b5) (C := R_Cover) (T := F_Cover) (N := 5) hx hb hts i_Cover hown hK hP 0 rfl rfl 2 (by decide) (hts _ q343) (fun _ h9 => h9) rfl d_Cover_search_10 ?_
    refine lv_icmp_ne (tgt := 25) hx hb d_Cover_search_13 (by decide) (fun hc_6 => ?_) (fun hc_6 => ?_)
    · have _nhc_6 := hc_6
      have ni_7 : ¬ (14 : Int32).toInt = (b5 : Int32).toInt := fun z => hc_6 ((fa_eq _ _).mpr z)
      simp only [li_14] at ni_7
      refine lv_aload_n hx hb d_Cover_search_25 rfl (lv_at hl 0 rfl) ?_
      refine lv_iload_n hx hb d_Cover_search_26 rfl (lv_at hl 1 rfl) ?_
      refine lv_iload_n hx hb d_Cover_search_27 rfl (lv_at hl 2 rfl) ?_
      refine z_callV (index := 70) (As := [.int b1, .int b2]) (rest := []) (wr := []) Z (s1_Cover_hardest l G (b0) (b1) (b2) (b3) (b4) (b5) (b6) (b7) (b8) hb3 hb7) hl.1 q785 q787 qs21 q10 q788 ⟨by decide, by decide, by show _ = some 2; decide +kernel⟩ ⟨Nat.le_of_ble_eq_true rfl, Nat.le_of_ble_eq_true rfl⟩ ⟨Nat.le_of_ble_eq_true rfl, Nat.le_of_ble_eq_true rfl⟩ rfl (Nat.le_of_ble_eq_true rfl) d_Cover_search_28 hP hD hS hA 0 9 rfl rfl rfl [0, 1] [] rfl rfl rfl rfl (by decide) (fun v w1 H locs hw_8 hP hD hS => ?_)
      obtain ⟨x_9, rfl, rfl, hx_9⟩ := hw_8
      have hP : va_P G.1 classes [(b0, .inr (9, [.int b3, .int b4, .int b5, .ref b6, .int b7])), (b6, .inl (G.2 0, 240, .inl b8))] H := hP
      have hD := z_tie hP hD rfl
      refine W.widen (k := 0) (n := 0) (Nat.le_of_ble_eq_true rfl) (Nat.le_of_ble_eq_true rfl) ?_
      refine lv_istore (lv' := [(4, .int x_9), (0, .ref b0), (1, .int b1), (2, .int b2), (3, .int 14)]) hx hb d_Cover_search_31 hl (by decide) rfl (fun ls hl => ?_)
      refine lv_iload hx hb d_Cover_search_33 (lv_at hl 0 rfl) ?_
      refine lv_iconst (v := (-1)) hx hb d_Cover_search_35 (by decide) ?_
      refine lv_icmp_ne (tgt := 50) hx hb d_Cover_search_36 (by decide) (fun hc_10 => ?_) (fun hc_10 => ?_)
      · have _nhc_10 := hc_10
        have ni_11 : ¬ (x_9 : Int32).toInt = ((-1) : Int32).toInt := fun z => hc_10 ((fa_eq _ _).mpr z)
        simp only [li_m1] at ni_11
        have hv_12 : zI x_9 0 239 := zI.ne_lo hx_9 zc_m1 hc_10 (by decide)
        refine lv_iload_n hx hb d_Cover_search_50 rfl (lv_at hl 4 rfl) ?_
        refine lv_aload_n hx hb d_Cover_search_51 rfl (lv_at hl 1 rfl) ?_
        refine va_get (D := G.1) (ci := 9) (v := .int b5) (C := R_Cover) (T := F_Cover) (N := 5) hx hb hts i_Cover hown hK hP 0 rfl rfl 2 (by decide) (hts _ q343) (fun _ h9 => h9) rfl d_Cover_search_52 ?_
        refine lv_icmp_ge (tgt := 64) hx hb d_Cover_search_55 (by decide) (fun hc_13 => ?_) (fun hc_13 => ?_)
        · have _nhc_13 := hc_13
          have ni_14 := (fa_le _ _).mp hc_13
          rw [li_14] at ni_14
          have hv_15 : zI b5 14 14 := zI.le_l hv_5 zc_14 hc_13 (by decide)
          exact z_vret hx hb hr hlocks hP hD hS (Nat.le_of_ble_eq_true rfl) (Nat.le_of_ble_eq_true rfl) d_Cover_search_64 ⟨b4, b5, rfl, rfl⟩
        · have _nhc_13 := hc_13
          have ni_16 := (fa_lt _ _).mp (zi_nle hc_13)
          rw [li_14] at ni_16
          have hv_17 : zI b5 15 2147483647 := zI.lt_r zc_14 hv_5 (zi_nle hc_13) (by decide)
          refine lv_iload_n hx hb d_Cover_search_58 rfl (lv_at hl 4 rfl) ?_
          refine lv_bipush (v := 20) hx hb d_Cover_search_59 (by decide) ?_
          refine lv_icmp_lt (tgt := 65) hx hb d_Cover_search_61 (by decide) (fun _ => ?_) (fun hc => absurd hc (by decide +kernel))
          refine lv_iload_n hx hb d_Cover_search_65 rfl (lv_at hl 3 rfl) ?_
          refine lv_istore (lv' := [(5, .int b2), (4, .int x_9), (0, .ref b0), (1, .int b1), (2, .int b2), (3, .int 14)]) hx hb d_Cover_search_66 hl (by decide) rfl (fun ls hl => ?_)
          refine lv_aload_n hx hb d_Cover_search_68 rfl (lv_at hl 2 rfl) ?_
          refine va_get (D := G.1) (ci := 9) (v := .ref b6) (C := R_Cover) (T := F_Cover) (N := 5) hx hb hts i_Cover hown hK hP 0 rfl rfl 3 (by decide) (hts _ q344) (fun _ h9 => h9) rfl d_Cover_search_69 ?_
          refine lv_iload hx hb d_Cover_search_72 (lv_at hl 1 rfl) ?_
          refine va_iald hx hb hK hP 1 0 rfl rfl (zI.inn hv_12 (by decide)) d_Cover_search_74 ?_
          refine lv_topi (fun v_18 ev_18 => ?_)
          refine lv_iload_n hx hb d_Cover_search_75 rfl (lv_at hl 4 rfl) ?_
          refine lv_iconst (v := (-1)) hx hb d_Cover_search_76 (by decide) ?_
          refine lv_ixor hx hb d_Cover_search_77 ?_
          refine lv_topi (fun v_19 ev_19 => ?_)
          refine lv_iand hx hb d_Cover_search_78 ?_
          refine lv_topi (fun v_20 ev_20 => ?_)
          refine lv_istore (lv' := [(6, .int v_20), (5, .int b2), (4, .int x_9), (0, .ref b0), (1, .int b1), (2, .int b2), (3, .int 14)]) hx hb d_Cover_search_79 hl (by decide) rfl (fun ls hl => ?_)
          suffices key : ∀ (k_38 : Nat) (y_39 : Int32) (y_40 : Int32) (y_41 : Int32) (y_42 : Int32) (H : Heap) (locs : List Loc) (ls : Array Slot), (y_39).toBitVec.toNat < k_38 → va_P G.1 classes [(b0, .inr (9, [.int b3, .int y_41, .int y_42, .ref b6, .int b7])), (b6, .inl (G.2 0, 240, .inl b8))] H → va_D A [(b0, .inr (9, [.int b3, .int y_41, .int y_42, .ref b6, .int b7])), (b6, .inl (G.2 0, 240, .inl b8))] → va_S A s.heap H locs → lv_has ls 8 [(6, .int y_39), (5, .int y_40), (4, .int x_9), (0, .ref b0), (1, .int b1), (2, .int b2), (3, .int 14)] → W p l e m_s7_Cover_search s m ([.ref b0, .int b1, .int b2, .int 14] : List Value).toArray below meth c H locs 0 0 (MQ below (zQ G (fun v w => ∃ (e0 : Int32), ∃ (e1 : Int32), v = none ∧ w = [(b0, .inr (9, [.int b3, .int e0, .int e1, .ref b6, .int b7])), (b6, .inl (G.2 0, 240, .inl b8))]) A) ([.ref b0, .int b1, .int b2, .int 14] : List Value).toArray s m_s7_Cover_search.cells m_s7_Cover_search.slots A) (F0 m 81 ls []) by
            exact key 4294967296 (v_20) (b2) (b4) (b5) _ _ _  (Nat.lt_of_lt_of_le (v_20).toBitVec.isLt (by decide)) hP hD hS (lv_sub hl [0, 1, 2, 3, 4, 5, 6] rfl)
          intro k_38
          induction k_38 with
          | zero =>
            intro y_39 y_40 y_41 y_42 H locs ls hmk_38 hP hD hS hl
            exfalso; omega
          | succ k_38 ihk_38 =>
            intro y_39 y_40 y_41 y_42 H locs ls hmk_38 hP hD hS hl
            refine lv_iload hx hb d_Cover_search_81 (lv_at hl 0 rfl) ?_
            refine lv_if_eq (tgt := 126) hx hb d_Cover_search_83 (by decide) (fun hc_43 => ?_) (fun hc_43 => ?_)
            · have _nhc_43 := hc_43
              have ni_44 := (fa_eq _ _).mp hc_43
              rw [li_0] at ni_44
              have hv_45 : zI y_39 0 0 := zI.eq_l (zI_all y_39) zc_0 hc_43
              exact z_vret hx hb hr hlocks hP hD hS (Nat.le_of_ble_eq_true rfl) (Nat.le_of_ble_eq_true rfl) d_Cover_search_126 ⟨y_41, y_42, rfl, rfl⟩
            · have _nhc_43 := hc_43
              have ni_46 : ¬ (y_39 : Int32).toInt = (0 : Int32).toInt := fun z => hc_43 ((fa_eq _ _).mpr z)
              simp only [li_0] at ni_46
              refine lv_iload hx hb d_Cover_search_86 (lv_at hl 0 rfl) ?_
              refine lv_iload hx hb d_Cover_search_88 (lv_at hl 0 rfl) ?_
              refine lv_ineg hx hb d_Cover_search_90 ?_
              refine lv_topi (fun v_47 ev_47 => ?_)
              refine lv_iand hx hb d_Cover_search_91 ?_
              refine lv_topi (fun v_48 ev_48 => ?_)
              refine lv_istore (lv' := [(7, .int v_48), (6, .int y_39), (5, .int y_40), (4, .int x_9), (0, .ref b0), (1, .int b1), (2, .int b2), (3, .int 14)]) hx hb d_Cover_search_92 hl (by decide) rfl (fun ls hl => ?_)
              refine lv_aload_n hx hb d_Cover_search_94 rfl (lv_at hl 4 rfl) ?_
              refine lv_iload_n hx hb d_Cover_search_95 rfl (lv_at hl 5 rfl) ?_
              refine lv_iload hx hb d_Cover_search_96 (lv_at hl 0 rfl) ?_
              refine lv_ior hx hb d_Cover_search_98 ?_
              refine lv_topi (fun v_49 ev_49 => ?_)
              refine lv_iload hx hb d_Cover_search_99 (lv_at hl 2 rfl) ?_
              refine lv_iload_n hx hb d_Cover_search_101 rfl (lv_at hl 7 rfl) ?_
              refine lv_iconst (v := 1) hx hb d_Cover_search_102 (by decide) ?_
              refine lv_iadd hx hb d_Cover_search_103 ?_
              refine z_topi (y := 15) (by decide +kernel) ?_
              refine z_callV (index := 38) (As := [.int v_49, .int y_40, .int 15]) (rest := []) (wr := []) Z (s6_Cover_search l G (b0) (v_49) (y_40) (b3) (y_41) (y_42) (b6) (b7) (b8) hb3 hb7) hl.1 q781 q783 qs20 q10 q784 ⟨by decide, by decide, by show _ = some 3; decide +kernel⟩ ⟨Nat.le_of_ble_eq_true rfl, Nat.le_of_ble_eq_true rfl⟩ ⟨Nat.le_of_ble_eq_true rfl, Nat.le_of_ble_eq_true rfl⟩ rfl (Nat.le_of_ble_eq_true rfl) d_Cover_search_104 hP hD hS hA 0 9 rfl rfl rfl [0, 1] [] rfl rfl rfl rfl (by decide) (fun v w1 H locs hw_50 hP hD hS => ?_)
              obtain ⟨x_51, x_52, rfl, rfl⟩ := hw_50
              have hP : va_P G.1 classes [(b0, .inr (9, [.int b3, .int x_51, .int x_52, .ref b6, .int b7])), (b6, .inl (G.2 0, 240, .inl b8))] H := hP
              have hD := z_tie hP hD rfl
              refine W.widen (k := 0) (n := 0) (Nat.le_of_ble_eq_true rfl) (Nat.le_of_ble_eq_true rfl) ?_
              refine lv_iload hx hb d_Cover_search_107 (lv_at hl 2 rfl) ?_
              refine lv_iload hx hb d_Cover_search_109 (lv_at hl 0 rfl) ?_
              refine lv_ior hx hb d_Cover_search_111 ?_
              refine lv_topi (fun v_53 ev_53 => ?_)
              refine lv_istore (lv' := [(5, .int v_53), (7, .int v_48), (6, .int y_39), (4, .int x_9), (0, .ref b0), (1, .int b1), (2, .int b2), (3, .int 14)]) hx hb d_Cover_search_112 hl (by decide) rfl (fun ls hl => ?_)
              refine lv_iload hx hb d_Cover_search_114 (lv_at hl 2 rfl) ?_
              refine lv_iload hx hb d_Cover_search_116 (lv_at hl 2 rfl) ?_
              refine lv_iconst (v := 1) hx hb d_Cover_search_118 (by decide) ?_
              refine lv_isub hx hb d_Cover_search_119 ?_
              refine lv_topi (fun v_54 ev_54 => ?_)
              refine lv_iand hx hb d_Cover_search_120 ?_
              refine lv_topi (fun v_55 ev_55 => ?_)
              refine lv_istore (lv' := [(6, .int v_55), (5, .int v_53), (7, .int v_48), (4, .int x_9), (0, .ref b0), (1, .int b1), (2, .int b2), (3, .int 14)]) hx hb d_Cover_search_121 hl (by decide) rfl (fun ls hl => ?_)
              refine lv_goto (tgt := 81) hx hb d_Cover_search_123 (by decide) ?_
              exact ihk_38 (v_55) (v_53) (x_51) (x_52) _ _ _  (z_dec32 ev_54 ev_55 (by omega) hmk_38) hP hD hS (lv_sub hl [0, 1, 3, 4, 5, 6, 7] rfl)
      · have _nhc_10 := hc_10
        have ni_56 := (fa_eq _ _).mp hc_10
        rw [li_m1] at ni_56
        have hv_57 : zI x_9 (-1) (-1) := zI.eq_l hx_9 zc_m1 hc_10
        refine lv_aload_n hx hb d_Cover_search_39 rfl (lv_at hl 1 rfl) ?_
        refine lv_iload_n hx hb d_Cover_search_40 rfl (lv_at hl 2 rfl) ?_
        refine va_put (D := G.1) (ci := 9) (v := .int b1) (ty := .int) (C := R_Cover) (T := F_Cover) (N := 5) hx hb hts i_Cover t_Cover t_Cover_ok n_Cover hown hK hP hD hS 0 rfl rfl 1 (by decide) (hts _ q341) (fun _ h9 => h9) rfl (by decide +kernel) rfl rfl (Nat.le_of_ble_eq_true rfl) d_Cover_search_41 (fun H locs hP hD hS => ?_)
        have hP : va_P G.1 classes [(b0, .inr (9, [.int b3, .int b1, .int b5, .ref b6, .int b7])), (b6, .inl (G.2 0, 240, .inl b8))] H := hP
        have hD := z_tie hP hD rfl
        refine lv_aload_n hx hb d_Cover_search_44 rfl (lv_at hl 1 rfl) ?_
        refine lv_iload_n hx hb d_Cover_search_45 rfl (lv_at hl 4 rfl) ?_
        refine va_put (D := G.1) (ci := 9) (v := .int 14) (ty := .int) (C := R_Cover) (T := F_Cover) (N := 5) hx hb hts i_Cover t_Cover t_Cover_ok n_Cover hown hK hP hD hS 0 rfl rfl 2 (by decide) (hts _ q343) (fun _ h9 => h9) rfl (by decide +kernel) rfl rfl (Nat.le_of_ble_eq_true rfl) d_Cover_search_46 (fun H locs hP hD hS => ?_)
        have hP : va_P G.1 classes [(b0, .inr (9, [.int b3, .int b1, .int 14, .ref b6, .int b7])), (b6, .inl (G.2 0, 240, .inl b8))] H := hP
        have hD := z_tie hP hD rfl
        exact z_vret hx hb hr hlocks hP hD hS (Nat.le_of_ble_eq_true rfl) (Nat.le_of_ble_eq_true rfl) d_Cover_search_49 ⟨b1, 14, rfl, rfl⟩
    · have _nhc_6 := hc_6
      have ni_58 := (fa_eq _ _).mp hc_6
      rw [li_14] at ni_58
      have hv_59 : zI b5 14 14 := zI.eq_l hv_5 zc_14 hc_6.symm
      refine lv_iload_n hx hb d_Cover_search_16 rfl (lv_at hl 1 rfl) ?_
      refine lv_aload_n hx hb d_Cover_search_17 rfl (lv_at hl 0 rfl) ?_
      refine va_get (D := G.1) (ci := 9) (v := .int b4) (C := R_Cover) (T := F_Cover) (N := 5) hx hb hts i_Cover hown hK hP 0 rfl rfl 1 (by decide) (hts _ q341) (fun _ h9 => h9) rfl d_Cover_search_18 ?_
      refine lv_icmp_lt (tgt := 25) hx hb d_Cover_search_21 (by decide) (fun hc_60 => ?_) (fun hc_60 => ?_)
      · have _nhc_60 := hc_60
        have ni_61 := (fa_lt _ _).mp hc_60
        have hv_62 : zI b1 (-2147483648) 2147483646 := zI.lt_l (zI_all b1) (zI_all b4) hc_60 (by decide)
        have hv_63 : zI b4 (-2147483647) 2147483647 := zI.lt_r (zI_all b1) (zI_all b4) hc_60 (by decide)
        refine lv_aload_n hx hb d_Cover_search_25 rfl (lv_at hl 0 rfl) ?_
        refine lv_iload_n hx hb d_Cover_search_26 rfl (lv_at hl 1 rfl) ?_
        refine lv_iload_n hx hb d_Cover_search_27 rfl (lv_at hl 2 rfl) ?_
        refine z_callV (index := 70) (As := [.int b1, .int b2]) (rest := []) (wr := []) Z (s1_Cover_hardest l G (b0) (b1) (b2) (b3) (b4) (b5) (b6) (b7) (b8) hb3 hb7) hl.1 q785 q787 qs21 q10 q788 ⟨by decide, by decide, by show _ = some 2; decide +kernel⟩ ⟨Nat.le_of_ble_eq_true rfl, Nat.le_of_ble_eq_true rfl⟩ ⟨Nat.le_of_ble_eq_true rfl, Nat.le_of_ble_eq_true rfl⟩ rfl (Nat.le_of_ble_eq_true rfl) d_Cover_search_28 hP hD hS hA 0 9 rfl rfl rfl [0, 1] [] rfl rfl rfl rfl (by decide) (fun v w1 H locs hw_64 hP hD hS => ?_)
        obtain ⟨x_65, rfl, rfl, hx_65⟩ := hw_64
        have hP : va_P G.1 classes [(b0, .inr (9, [.int b3, .int b4, .int b5, .ref b6, .int b7])), (b6, .inl (G.2 0, 240, .inl b8))] H := hP
        have hD := z_tie hP hD rfl
        refine W.widen (k := 0) (n := 0) (Nat.le_of_ble_eq_true rfl) (Nat.le_of_ble_eq_true rfl) ?_
        refine lv_istore (lv' := [(4, .int x_65), (0, .ref b0), (1, .int b1), (2, .int b2), (3, .int 14)]) hx hb d_Cover_search_31 hl (by decide) rfl (fun ls hl => ?_)
        refine lv_iload hx hb d_Cover_search_33 (lv_at hl 0 rfl) ?_
        refine lv_iconst (v := (-1)) hx hb d_Cover_search_35 (by decide) ?_
        refine lv_icmp_ne (tgt := 50) hx hb d_Cover_search_36 (by decide) (fun hc_66 => ?_) (fun hc_66 => ?_)
        · have _nhc_66 := hc_66
          have ni_67 : ¬ (x_65 : Int32).toInt = ((-1) : Int32).toInt := fun z => hc_66 ((fa_eq _ _).mpr z)
          simp only [li_m1] at ni_67
          have hv_68 : zI x_65 0 239 := zI.ne_lo hx_65 zc_m1 hc_66 (by decide)
          refine lv_iload_n hx hb d_Cover_search_50 rfl (lv_at hl 4 rfl) ?_
          refine lv_aload_n hx hb d_Cover_search_51 rfl (lv_at hl 1 rfl) ?_
          refine va_get (D := G.1) (ci := 9) (v := .int b5) (C := R_Cover) (T := F_Cover) (N := 5) hx hb hts i_Cover hown hK hP 0 rfl rfl 2 (by decide) (hts _ q343) (fun _ h9 => h9) rfl d_Cover_search_52 ?_
          refine lv_icmp_ge (tgt := 64) hx hb d_Cover_search_55 (by decide) (fun _ => ?_) (fun hc => zI.no_lt zc_14 hv_59 (zi_nle hc) (by decide))
          exact z_vret hx hb hr hlocks hP hD hS (Nat.le_of_ble_eq_true rfl) (Nat.le_of_ble_eq_true rfl) d_Cover_search_64 ⟨b4, b5, rfl, rfl⟩
        · have _nhc_66 := hc_66
          have ni_69 := (fa_eq _ _).mp hc_66
          rw [li_m1] at ni_69
          have hv_70 : zI x_65 (-1) (-1) := zI.eq_l hx_65 zc_m1 hc_66
          refine lv_aload_n hx hb d_Cover_search_39 rfl (lv_at hl 1 rfl) ?_
          refine lv_iload_n hx hb d_Cover_search_40 rfl (lv_at hl 2 rfl) ?_
          refine va_put (D := G.1) (ci := 9) (v := .int b1) (ty := .int) (C := R_Cover) (T := F_Cover) (N := 5) hx hb hts i_Cover t_Cover t_Cover_ok n_Cover hown hK hP hD hS 0 rfl rfl 1 (by decide) (hts _ q341) (fun _ h9 => h9) rfl (by decide +kernel) rfl rfl (Nat.le_of_ble_eq_true rfl) d_Cover_search_41 (fun H locs hP hD hS => ?_)
          have hP : va_P G.1 classes [(b0, .inr (9, [.int b3, .int b1, .int b5, .ref b6, .int b7])), (b6, .inl (G.2 0, 240, .inl b8))] H := hP
          have hD := z_tie hP hD rfl
          refine lv_aload_n hx hb d_Cover_search_44 rfl (lv_at hl 1 rfl) ?_
          refine lv_iload_n hx hb d_Cover_search_45 rfl (lv_at hl 4 rfl) ?_
          refine va_put (D := G.1) (ci := 9) (v := .int 14) (ty := .int) (C := R_Cover) (T := F_Cover) (N := 5) hx hb hts i_Cover t_Cover t_Cover_ok n_Cover hown hK hP hD hS 0 rfl rfl 2 (by decide) (hts _ q343) (fun _ h9 => h9) rfl (by decide +kernel) rfl rfl (Nat.le_of_ble_eq_true rfl) d_Cover_search_46 (fun H locs hP hD hS => ?_)
          have hP : va_P G.1 classes [(b0, .inr (9, [.int b3, .int b1, .int 14, .ref b6, .int b7])), (b6, .inl (G.2 0, 240, .inl b8))] H := hP
          have hD := z_tie hP hD rfl
          exact z_vret hx hb hr hlocks hP hD hS (Nat.le_of_ble_eq_true rfl) (Nat.le_of_ble_eq_true rfl) d_Cover_search_49 ⟨b1, 14, rfl, rfl⟩
      · have _nhc_60 := hc_60
        have ni_71 := (fa_le _ _).mp (zi_nlt hc_60)
        exact z_vret hx hb hr hlocks hP hD hS (Nat.le_of_ble_eq_true rfl) (Nat.le_of_ble_eq_true rfl) d_Cover_search_24 ⟨b4, b5, rfl, rfl⟩
abbrev m_s8_Cover_search : Room := { frames := 9, cells := 0, slots := 0, locals := 235 }
set_option maxHeartbeats 4000000 in
set_option maxRecDepth 100000 in
theorem s8_Cover_search (l : Launch) (G : zG) (b0 : Nat) (b1 : Int32) (b2 : Int32) (b3 : Int32) (b4 : Int32) (b5 : Int32) (b6 : Nat) (b7 : Int32) (b8 : Nat → Int32) (hb3 : zI b3 0 1) (hb7 : zI b7 0 240) : zM l G y_Cover_search prog_2_method_6_code 8 (Option.none : Option Jvm.ClassFile.FieldType) m_s8_Cover_search [.ref b0, .int b1, .int b2, .int 13] [(b0, .inr (9, [.int b3, .int b4, .int b5, .ref b6, .int b7])), (b6, .inl (G.2 0, 240, .inl b8))] (fun v w => ∃ (e0 : Int32), ∃ (e1 : Int32), v = none ∧ w = [(b0, .inr (9, [.int b3, .int e0, .int e1, .ref b6, .int b7])), (b6, .inl (G.2 0, 240, .inl b8))]) := by
  refine z_start (by decide +kernel) (Nat.le_of_ble_eq_true rfl) ?_
  intro p e s m below meth c A Z hr hnm hA hP hD hS ls hl
  have Z : zC p s m _ meth c prog_2_method_6_code 8 "TraceMachines$Cover" G := Z
  obtain ⟨hx, hb, hml, hown, hts, hK, hN, hlocks⟩ := id Z
  have hl : lv_has ls 8 [(0, .ref b0), (1, .int b1), (2, .int b2), (3, .int 13)] := hl
  refine lv_iload_n hx hb d_Cover_search_0 rfl (lv_at hl 3 rfl) ?_
  refine lv_aload_n hx hb d_Cover_search_1 rfl (lv_at hl 0 rfl) ?_
  refine va_get (D := G.1) (ci := 9) (v := .int b5) (C := R_Cover) (T := F_Cover) (N := 5) hx hb hts i_Cover hown hK hP 0 rfl rfl 2 (by decide) (hts _ q343) (fun _ h9 => h9) rfl d_Cover_search_2 ?_
  refine lv_icmp_gt (tgt := 24) hx hb d_Cover_search_5 (by decide) (fun hc_1 => ?_) (fun hc_1 => ?_)
  · have _nhc_1 := hc_1
    have ni_2 := (fa_lt _ _).mp hc_1
    rw [li_13] at ni_2
    have hv_3 : zI b5 (-2147483648) 12 := zI.lt_l (zI_all b5) zc_13 hc_1 (by decide)
    exact z_vret hx hb hr hlocks hP hD hS (Nat.le_of_ble_eq_true rfl) (Nat.le_of_ble_eq_true rfl) d_Cover_search_24 ⟨b4, b5, rfl, rfl⟩
  · have _nhc_1 := hc_1
    have ni_4 := (fa_le _ _).mp (zi_nlt hc_1)
    rw [li_13] at ni_4
    have hv_5 : zI b5 13 2147483647 := zI.le_r zc_13 (zI_all b5) (zi_nlt hc_1) (by decide)
    refine lv_iload_n hx hb d_Cover_search_8 rfl (lv_at hl 3 rfl) ?_
    refine lv_aload_n hx hb d_Cover_search_9 rfl (lv_at hl 0 rfl) ?_
    refine va_get (D := G.1) (ci := 9) (v := .int b5) (C := R_Cover) (T := F_Cover) (N := 5) hx hb hts i_Cover hown hK hP 0 rfl rfl 2 (by decide) (hts _ q343) (fun _ h9 => h9) rfl d_Cover_search_10 ?_
    refine lv_icmp_ne (tgt := 25) hx hb d_Cover_search_13 (by decide) (fun hc_6 => ?_) (fun hc_6 => ?_)
    · have _nhc_6 := hc_6
      have ni_7 : ¬ (13 : Int32).toInt = (b5 : Int32).toInt := fun z => hc_6 ((fa_eq _ _).mpr z)
      simp only [li_13] at ni_7
      refine lv_aload_n hx hb d_Cover_search_25 rfl (lv_at hl 0 rfl) ?_
      refine lv_iload_n hx hb d_Cover_search_26 rfl (lv_at hl 1 rfl) ?_
      refine lv_iload_n hx hb d_Cover_search_27 rfl (lv_at hl 2 rfl) ?_
      refine z_callV (index := 70) (As := [.int b1, .int b2]) (rest := []) (wr := []) Z (s1_Cover_hardest l G (b0) (b1) (b2) (b3) (b4) (b5) (b6) (b7) (b8) hb3 hb7) hl.1 q785 q787 qs21 q10 q788 ⟨by decide, by decide, by show _ = some 2; decide +kernel⟩ ⟨Nat.le_of_ble_eq_true rfl, Nat.le_of_ble_eq_true rfl⟩ ⟨Nat.le_of_ble_eq_true rfl, Nat.le_of_ble_eq_true rfl⟩ rfl (Nat.le_of_ble_eq_true rfl) d_Cover_search_28 hP hD hS hA 0 9 rfl rfl rfl [0, 1] [] rfl rfl rfl rfl (by decide) (fun v w1 H locs hw_8 hP hD hS => ?_)
      obtain ⟨x_9, rfl, rfl, hx_9⟩ := hw_8
      have hP : va_P G.1 classes [(b0, .inr (9, [.int b3, .int b4, .int b5, .ref b6, .int b7])), (b6, .inl (G.2 0, 240, .inl b8))] H := hP
      have hD := z_tie hP hD rfl
      refine W.widen (k := 0) (n := 0) (Nat.le_of_ble_eq_true rfl) (Nat.le_of_ble_eq_true rfl) ?_
      refine lv_istore (lv' := [(4, .int x_9), (0, .ref b0), (1, .int b1), (2, .int b2), (3, .int 13)]) hx hb d_Cover_search_31 hl (by decide) rfl (fun ls hl => ?_)
      refine lv_iload hx hb d_Cover_search_33 (lv_at hl 0 rfl) ?_
      refine lv_iconst (v := (-1)) hx hb d_Cover_search_35 (by decide) ?_
      refine lv_icmp_ne (tgt := 50) hx hb d_Cover_search_36 (by decide) (fun hc_10 => ?_) (fun hc_10 => ?_)
      · have _nhc_10 := hc_10
        have ni_11 : ¬ (x_9 : Int32).toInt = ((-1) : Int32).toInt := fun z => hc_10 ((fa_eq _ _).mpr z)
        simp only [li_m1] at ni_11
        have hv_12 : zI x_9 0 239 := zI.ne_lo hx_9 zc_m1 hc_10 (by decide)
        refine lv_iload_n hx hb d_Cover_search_50 rfl (lv_at hl 4 rfl) ?_
        refine lv_aload_n hx hb d_Cover_search_51 rfl (lv_at hl 1 rfl) ?_
        refine va_get (D := G.1) (ci := 9) (v := .int b5) (C := R_Cover) (T := F_Cover) (N := 5) hx hb hts i_Cover hown hK hP 0 rfl rfl 2 (by decide) (hts _ q343) (fun _ h9 => h9) rfl d_Cover_search_52 ?_
        refine lv_icmp_ge (tgt := 64) hx hb d_Cover_search_55 (by decide) (fun hc_13 => ?_) (fun hc_13 => ?_)
        · have _nhc_13 := hc_13
          have ni_14 := (fa_le _ _).mp hc_13
          rw [li_13] at ni_14
          have hv_15 : zI b5 13 13 := zI.le_l hv_5 zc_13 hc_13 (by decide)
          exact z_vret hx hb hr hlocks hP hD hS (Nat.le_of_ble_eq_true rfl) (Nat.le_of_ble_eq_true rfl) d_Cover_search_64 ⟨b4, b5, rfl, rfl⟩
        · have _nhc_13 := hc_13
          have ni_16 := (fa_lt _ _).mp (zi_nle hc_13)
          rw [li_13] at ni_16
          have hv_17 : zI b5 14 2147483647 := zI.lt_r zc_13 hv_5 (zi_nle hc_13) (by decide)
          refine lv_iload_n hx hb d_Cover_search_58 rfl (lv_at hl 4 rfl) ?_
          refine lv_bipush (v := 20) hx hb d_Cover_search_59 (by decide) ?_
          refine lv_icmp_lt (tgt := 65) hx hb d_Cover_search_61 (by decide) (fun _ => ?_) (fun hc => absurd hc (by decide +kernel))
          refine lv_iload_n hx hb d_Cover_search_65 rfl (lv_at hl 3 rfl) ?_
          refine lv_istore (lv' := [(5, .int b2), (4, .int x_9), (0, .ref b0), (1, .int b1), (2, .int b2), (3, .int 13)]) hx hb d_Cover_search_66 hl (by decide) rfl (fun ls hl => ?_)
          refine lv_aload_n hx hb d_Cover_search_68 rfl (lv_at hl 2 rfl) ?_
          refine va_get (D := G.1) (ci := 9) (v := .ref b6) (C := R_Cover) (T := F_Cover) (N := 5) hx hb hts i_Cover hown hK hP 0 rfl rfl 3 (by decide) (hts _ q344) (fun _ h9 => h9) rfl d_Cover_search_69 ?_
          refine lv_iload hx hb d_Cover_search_72 (lv_at hl 1 rfl) ?_
          refine va_iald hx hb hK hP 1 0 rfl rfl (zI.inn hv_12 (by decide)) d_Cover_search_74 ?_
          refine lv_topi (fun v_18 ev_18 => ?_)
          refine lv_iload_n hx hb d_Cover_search_75 rfl (lv_at hl 4 rfl) ?_
          refine lv_iconst (v := (-1)) hx hb d_Cover_search_76 (by decide) ?_
          refine lv_ixor hx hb d_Cover_search_77 ?_
          refine lv_topi (fun v_19 ev_19 => ?_)
          refine lv_iand hx hb d_Cover_search_78 ?_
          refine lv_topi (fun v_20 ev_20 => ?_)
          refine lv_istore (lv' := [(6, .int v_20), (5, .int b2), (4, .int x_9), (0, .ref b0), (1, .int b1), (2, .int b2), (3, .int 13)]) hx hb d_Cover_search_79 hl (by decide) rfl (fun ls hl => ?_)
          suffices key : ∀ (k_38 : Nat) (y_39 : Int32) (y_40 : Int32) (y_41 : Int32) (y_42 : Int32) (H : Heap) (locs : List Loc) (ls : Array Slot), (y_39).toBitVec.toNat < k_38 → va_P G.1 classes [(b0, .inr (9, [.int b3, .int y_41, .int y_42, .ref b6, .int b7])), (b6, .inl (G.2 0, 240, .inl b8))] H → va_D A [(b0, .inr (9, [.int b3, .int y_41, .int y_42, .ref b6, .int b7])), (b6, .inl (G.2 0, 240, .inl b8))] → va_S A s.heap H locs → lv_has ls 8 [(6, .int y_39), (5, .int y_40), (4, .int x_9), (0, .ref b0), (1, .int b1), (2, .int b2), (3, .int 13)] → W p l e m_s8_Cover_search s m ([.ref b0, .int b1, .int b2, .int 13] : List Value).toArray below meth c H locs 0 0 (MQ below (zQ G (fun v w => ∃ (e0 : Int32), ∃ (e1 : Int32), v = none ∧ w = [(b0, .inr (9, [.int b3, .int e0, .int e1, .ref b6, .int b7])), (b6, .inl (G.2 0, 240, .inl b8))]) A) ([.ref b0, .int b1, .int b2, .int 13] : List Value).toArray s m_s8_Cover_search.cells m_s8_Cover_search.slots A) (F0 m 81 ls []) by
            exact key 4294967296 (v_20) (b2) (b4) (b5) _ _ _  (Nat.lt_of_lt_of_le (v_20).toBitVec.isLt (by decide)) hP hD hS (lv_sub hl [0, 1, 2, 3, 4, 5, 6] rfl)
          intro k_38
          induction k_38 with
          | zero =>
            intro y_39 y_40 y_41 y_42 H locs ls hmk_38 hP hD hS hl
            exfalso; omega
          | succ k_38 ihk_38 =>
            intro y_39 y_40 y_41 y_42 H locs ls hmk_38 hP hD hS hl
            refine lv_iload hx hb d_Cover_search_81 (lv_at hl 0 rfl) ?_
            refine lv_if_eq (tgt := 126) hx hb d_Cover_search_83 (by decide) (fun hc_43 => ?_) (fun hc_43 => ?_)
            · have _nhc_43 := hc_43
              have ni_44 := (fa_eq _ _).mp hc_43
              rw [li_0] at ni_44
              have hv_45 : zI y_39 0 0 := zI.eq_l (zI_all y_39) zc_0 hc_43
              exact z_vret hx hb hr hlocks hP hD hS (Nat.le_of_ble_eq_true rfl) (Nat.le_of_ble_eq_true rfl) d_Cover_search_126 ⟨y_41, y_42, rfl, rfl⟩
            · have _nhc_43 := hc_43
              have ni_46 : ¬ (y_39 : Int32).toInt = (0 : Int32).toInt := fun z => hc_43 ((fa_eq _ _).mpr z)
              simp only [li_0] at ni_46
              refine lv_iload hx hb d_Cover_search_86 (lv_at hl 0 rfl) ?_
              refine lv_iload hx hb d_Cover_search_88 (lv_at hl 0 rfl) ?_
              refine lv_ineg hx hb d_Cover_search_90 ?_
              refine lv_topi (fun v_47 ev_47 => ?_)
              refine lv_iand hx hb d_Cover_search_91 ?_
              refine lv_topi (fun v_48 ev_48 => ?_)
              refine lv_istore (lv' := [(7, .int v_48), (6, .int y_39), (5, .int y_40), (4, .int x_9), (0, .ref b0), (1, .int b1), (2, .int b2), (3, .int 13)]) hx hb d_Cover_search_92 hl (by decide) rfl (fun ls hl => ?_)
              refine lv_aload_n hx hb d_Cover_search_94 rfl (lv_at hl 4 rfl) ?_
              refine lv_iload_n hx hb d_Cover_search_95 rfl (lv_at hl 5 rfl) ?_
              refine lv_iload hx hb d_Cover_search_96 (lv_at hl 0 rfl) ?_
              refine lv_ior hx hb d_Cover_search_98 ?_
              refine lv_topi (fun v_49 ev_49 => ?_)
              refine lv_iload hx hb d_Cover_search_99 (lv_at hl 2 rfl) ?_
              refine lv_iload_n hx hb d_Cover_search_101 rfl (lv_at hl 7 rfl) ?_
              refine lv_iconst (v := 1) hx hb d_Cover_search_102 (by decide) ?_
              refine lv_iadd hx hb d_Cover_search_103 ?_
              refine z_topi (y := 14) (by decide +kernel) ?_
              refine z_callV (index := 38) (As := [.int v_49, .int y_40, .int 14]) (rest := []) (wr := []) Z (s7_Cover_search l G (b0) (v_49) (y_40) (b3) (y_41) (y_42) (b6) (b7) (b8) hb3 hb7) hl.1 q781 q783 qs20 q10 q784 ⟨by decide, by decide, by show _ = some 3; decide +kernel⟩ ⟨Nat.le_of_ble_eq_true rfl, Nat.le_of_ble_eq_true rfl⟩ ⟨Nat.le_of_ble_eq_true rfl, Nat.le_of_ble_eq_true rfl⟩ rfl (Nat.le_of_ble_eq_true rfl) d_Cover_search_104 hP hD hS hA 0 9 rfl rfl rfl [0, 1] [] rfl rfl rfl rfl (by decide) (fun v w1 H locs hw_50 hP hD hS => ?_)
              obtain ⟨x_51, x_52, rfl, rfl⟩ := hw_50
              have hP : va_P G.1 classes [(b0, .inr (9, [.int b3, .int x_51, .int x_52, .ref b6, .int b7])), (b6, .inl (G.2 0, 240, .inl b8))] H := hP
              have hD := z_tie hP hD rfl
              refine W.widen (k := 0) (n := 0) (Nat.le_of_ble_eq_true rfl) (Nat.le_of_ble_eq_true rfl) ?_
              refine lv_iload hx hb d_Cover_search_107 (lv_at hl 2 rfl) ?_
              refine lv_iload hx hb d_Cover_search_109 (lv_at hl 0 rfl) ?_
              refine lv_ior hx hb d_Cover_search_111 ?_
              refine lv_topi (fun v_53 ev_53 => ?_)
              refine lv_istore (lv' := [(5, .int v_53), (7, .int v_48), (6, .int y_39), (4, .int x_9), (0, .ref b0), (1, .int b1), (2, .int b2), (3, .int 13)]) hx hb d_Cover_search_112 hl (by decide) rfl (fun ls hl => ?_)
              refine lv_iload hx hb d_Cover_search_114 (lv_at hl 2 rfl) ?_
              refine lv_iload hx hb d_Cover_search_116 (lv_at hl 2 rfl) ?_
              refine lv_iconst (v := 1) hx hb d_Cover_search_118 (by decide) ?_
              refine lv_isub hx hb d_Cover_search_119 ?_
              refine lv_topi (fun v_54 ev_54 => ?_)
              refine lv_iand hx hb d_Cover_search_120 ?_
              refine lv_topi (fun v_55 ev_55 => ?_)
              refine lv_istore (lv' := [(6, .int v_55), (5, .int v_53), (7, .int v_48), (4, .int x_9), (0, .ref b0), (1, .int b1), (2, .int b2), (3, .int 13)]) hx hb d_Cover_search_121 hl (by decide) rfl (fun ls hl => ?_)
              refine lv_goto (tgt := 81) hx hb d_Cover_search_123 (by decide) ?_
              exact ihk_38 (v_55) (v_53) (x_51) (x_52) _ _ _  (z_dec32 ev_54 ev_55 (by omega) hmk_38) hP hD hS (lv_sub hl [0, 1, 3, 4, 5, 6, 7] rfl)
      · have _nhc_10 := hc_10
        have ni_56 := (fa_eq _ _).mp hc_10
        rw [li_m1] at ni_56
        have hv_57 : zI x_9 (-1) (-1) := zI.eq_l hx_9 zc_m1 hc_10
        refine lv_aload_n hx hb d_Cover_search_39 rfl (lv_at hl 1 rfl) ?_
        refine lv_iload_n hx hb d_Cover_search_40 rfl (lv_at hl 2 rfl) ?_
        refine va_put (D := G.1) (ci := 9) (v := .int b1) (ty := .int) (C := R_Cover) (T := F_Cover) (N := 5) hx hb hts i_Cover t_Cover t_Cover_ok n_Cover hown hK hP hD hS 0 rfl rfl 1 (by decide) (hts _ q341) (fun _ h9 => h9) rfl (by decide +kernel) rfl rfl (Nat.le_of_ble_eq_true rfl) d_Cover_search_41 (fun H locs hP hD hS => ?_)
        have hP : va_P G.1 classes [(b0, .inr (9, [.int b3, .int b1, .int b5, .ref b6, .int b7])), (b6, .inl (G.2 0, 240, .inl b8))] H := hP
        have hD := z_tie hP hD rfl
        refine lv_aload_n hx hb d_Cover_search_44 rfl (lv_at hl 1 rfl) ?_
        refine lv_iload_n hx hb d_Cover_search_45 rfl (lv_at hl 4 rfl) ?_
        refine va_put (D := G.1) (ci := 9) (v := .int 13) (ty := .int) (C := R_Cover) (T := F_Cover) (N := 5) hx hb hts i_Cover t_Cover t_Cover_ok n_Cover hown hK hP hD hS 0 rfl rfl 2 (by decide) (hts _ q343) (fun _ h9 => h9) rfl (by decide +kernel) rfl rfl (Nat.le_of_ble_eq_true rfl) d_Cover_search_46 (fun H locs hP hD hS => ?_)
        have hP : va_P G.1 classes [(b0, .inr (9, [.int b3, .int b1, .int 13, .ref b6, .int b7])), (b6, .inl (G.2 0, 240, .inl b8))] H := hP
        have hD := z_tie hP hD rfl
        exact z_vret hx hb hr hlocks hP hD hS (Nat.le_of_ble_eq_true rfl) (Nat.le_of_ble_eq_true rfl) d_Cover_search_49 ⟨b1, 13, rfl, rfl⟩
    · have _nhc_6 := hc_6
      have ni_58 := (fa_eq _ _).mp hc_6
      rw [li_13] at ni_58
      have hv_59 : zI b5 13 13 := zI.eq_l hv_5 zc_13 hc_6.symm
      refine lv_iload_n hx hb d_Cover_search_16 rfl (lv_at hl 1 rfl) ?_
      refine lv_aload_n hx hb d_Cover_search_17 rfl (lv_at hl 0 rfl) ?_
      refine va_get (D := G.1) (ci := 9) (v := .int b4) (C := R_Cover) (T := F_Cover) (N := 5) hx hb hts i_Cover hown hK hP 0 rfl rfl 1 (by decide) (hts _ q341) (fun _ h9 => h9) rfl d_Cover_search_18 ?_
      refine lv_icmp_lt (tgt := 25) hx hb d_Cover_search_21 (by decide) (fun hc_60 => ?_) (fun hc_60 => ?_)
      · have _nhc_60 := hc_60
        have ni_61 := (fa_lt _ _).mp hc_60
        have hv_62 : zI b1 (-2147483648) 2147483646 := zI.lt_l (zI_all b1) (zI_all b4) hc_60 (by decide)
        have hv_63 : zI b4 (-2147483647) 2147483647 := zI.lt_r (zI_all b1) (zI_all b4) hc_60 (by decide)
        refine lv_aload_n hx hb d_Cover_search_25 rfl (lv_at hl 0 rfl) ?_
        refine lv_iload_n hx hb d_Cover_search_26 rfl (lv_at hl 1 rfl) ?_
        refine lv_iload_n hx hb d_Cover_search_27 rfl (lv_at hl 2 rfl) ?_
        refine z_callV (index := 70) (As := [.int b1, .int b2]) (rest := []) (wr := []) Z (s1_Cover_hardest l G (b0) (b1) (b2) (b3) (b4) (b5) (b6) (b7) (b8) hb3 hb7) hl.1 q785 q787 qs21 q10 q788 ⟨by decide, by decide, by show _ = some 2; decide +kernel⟩ ⟨Nat.le_of_ble_eq_true rfl, Nat.le_of_ble_eq_true rfl⟩ ⟨Nat.le_of_ble_eq_true rfl, Nat.le_of_ble_eq_true rfl⟩ rfl (Nat.le_of_ble_eq_true rfl) d_Cover_search_28 hP hD hS hA 0 9 rfl rfl rfl [0, 1] [] rfl rfl rfl rfl (by decide) (fun v w1 H locs hw_64 hP hD hS => ?_)
        obtain ⟨x_65, rfl, rfl, hx_65⟩ := hw_64
        have hP : va_P G.1 classes [(b0, .inr (9, [.int b3, .int b4, .int b5, .ref b6, .int b7])), (b6, .inl (G.2 0, 240, .inl b8))] H := hP
        have hD := z_tie hP hD rfl
        refine W.widen (k := 0) (n := 0) (Nat.le_of_ble_eq_true rfl) (Nat.le_of_ble_eq_true rfl) ?_
        refine lv_istore (lv' := [(4, .int x_65), (0, .ref b0), (1, .int b1), (2, .int b2), (3, .int 13)]) hx hb d_Cover_search_31 hl (by decide) rfl (fun ls hl => ?_)
        refine lv_iload hx hb d_Cover_search_33 (lv_at hl 0 rfl) ?_
        refine lv_iconst (v := (-1)) hx hb d_Cover_search_35 (by decide) ?_
        refine lv_icmp_ne (tgt := 50) hx hb d_Cover_search_36 (by decide) (fun hc_66 => ?_) (fun hc_66 => ?_)
        · have _nhc_66 := hc_66
          have ni_67 : ¬ (x_65 : Int32).toInt = ((-1) : Int32).toInt := fun z => hc_66 ((fa_eq _ _).mpr z)
          simp only [li_m1] at ni_67
          have hv_68 : zI x_65 0 239 := zI.ne_lo hx_65 zc_m1 hc_66 (by decide)
          refine lv_iload_n hx hb d_Cover_search_50 rfl (lv_at hl 4 rfl) ?_
          refine lv_aload_n hx hb d_Cover_search_51 rfl (lv_at hl 1 rfl) ?_
          refine va_get (D := G.1) (ci := 9) (v := .int b5) (C := R_Cover) (T := F_Cover) (N := 5) hx hb hts i_Cover hown hK hP 0 rfl rfl 2 (by decide) (hts _ q343) (fun _ h9 => h9) rfl d_Cover_search_52 ?_
          refine lv_icmp_ge (tgt := 64) hx hb d_Cover_search_55 (by decide) (fun _ => ?_) (fun hc => zI.no_lt zc_13 hv_59 (zi_nle hc) (by decide))
          exact z_vret hx hb hr hlocks hP hD hS (Nat.le_of_ble_eq_true rfl) (Nat.le_of_ble_eq_true rfl) d_Cover_search_64 ⟨b4, b5, rfl, rfl⟩
        · have _nhc_66 := hc_66
          have ni_69 := (fa_eq _ _).mp hc_66
          rw [li_m1] at ni_69
          have hv_70 : zI x_65 (-1) (-1) := zI.eq_l hx_65 zc_m1 hc_66
          refine lv_aload_n hx hb d_Cover_search_39 rfl (lv_at hl 1 rfl) ?_
          refine lv_iload_n hx hb d_Cover_search_40 rfl (lv_at hl 2 rfl) ?_
          refine va_put (D := G.1) (ci := 9) (v := .int b1) (ty := .int) (C := R_Cover) (T := F_Cover) (N := 5) hx hb hts i_Cover t_Cover t_Cover_ok n_Cover hown hK hP hD hS 0 rfl rfl 1 (by decide) (hts _ q341) (fun _ h9 => h9) rfl (by decide +kernel) rfl rfl (Nat.le_of_ble_eq_true rfl) d_Cover_search_41 (fun H locs hP hD hS => ?_)
          have hP : va_P G.1 classes [(b0, .inr (9, [.int b3, .int b1, .int b5, .ref b6, .int b7])), (b6, .inl (G.2 0, 240, .inl b8))] H := hP
          have hD := z_tie hP hD rfl
          refine lv_aload_n hx hb d_Cover_search_44 rfl (lv_at hl 1 rfl) ?_
          refine lv_iload_n hx hb d_Cover_search_45 rfl (lv_at hl 4 rfl) ?_
          refine va_put (D := G.1) (ci := 9) (v := .int 13) (ty := .int) (C := R_Cover) (T := F_Cover) (N := 5) hx hb hts i_Cover t_Cover t_Cover_ok n_Cover hown hK hP hD hS 0 rfl rfl 2 (by decide) (hts _ q343) (fun _ h9 => h9) rfl (by decide +kernel) rfl rfl (Nat.le_of_ble_eq_true rfl) d_Cover_search_46 (fun H locs hP hD hS => ?_)
          have hP : va_P G.1 classes [(b0, .inr (9, [.int b3, .int b1, .int 13, .ref b6, .int b7])), (b6, .inl (G.2 0, 240, .inl b8))] H := hP
          have hD := z_tie hP hD rfl
          exact z_vret hx hb hr hlocks hP hD hS (Nat.le_of_ble_eq_true rfl) (Nat.le_of_ble_eq_true rfl) d_Cover_search_49 ⟨b1, 13, rfl, rfl⟩
      · have _nhc_60 := hc_60
        have ni_71 := (fa_le _ _).mp (zi_nlt hc_60)
        exact z_vret hx hb hr hlocks hP hD hS (Nat.le_of_ble_eq_true rfl) (Nat.le_of_ble_eq_true rfl) d_Cover_search_24 ⟨b4, b5, rfl, rfl⟩
abbrev m_s9_Cover_search : Room := { frames := 10, cells := 0, slots := 0, locals := 262 }
set_option maxHeartbeats 4000000 in
set_option maxRecDepth 100000 in
theorem s9_Cover_search (l : Launch) (G : zG) (b0 : Nat) (b1 : Int32) (b2 : Int32) (b3 : Int32) (b4 : Int32) (b5 : Int32) (b6 : Nat) (b7 : Int32) (b8 : Nat → Int32) (hb3 : zI b3 0 1) (hb7 : zI b7 0 240) : zM l G y_Cover_search prog_2_method_6_code 8 (Option.none : Option Jvm.ClassFile.FieldType) m_s9_Cover_search [.ref b0, .int b1, .int b2, .int 12] [(b0, .inr (9, [.int b3, .int b4, .int b5, .ref b6, .int b7])), (b6, .inl (G.2 0, 240, .inl b8))] (fun v w => ∃ (e0 : Int32), ∃ (e1 : Int32), v = none ∧ w = [(b0, .inr (9, [.int b3, .int e0, .int e1, .ref b6, .int b7])), (b6, .inl (G.2 0, 240, .inl b8))]) := by
  refine z_start (by decide +kernel) (Nat.le_of_ble_eq_true rfl) ?_
  intro p e s m below meth c A Z hr hnm hA hP hD hS ls hl
  have Z : zC p s m _ meth c prog_2_method_6_code 8 "TraceMachines$Cover" G := Z
  obtain ⟨hx, hb, hml, hown, hts, hK, hN, hlocks⟩ := id Z
  have hl : lv_has ls 8 [(0, .ref b0), (1, .int b1), (2, .int b2), (3, .int 12)] := hl
  refine lv_iload_n hx hb d_Cover_search_0 rfl (lv_at hl 3 rfl) ?_
  refine lv_aload_n hx hb d_Cover_search_1 rfl (lv_at hl 0 rfl) ?_
  refine va_get (D := G.1) (ci := 9) (v := .int b5) (C := R_Cover) (T := F_Cover) (N := 5) hx hb hts i_Cover hown hK hP 0 rfl rfl 2 (by decide) (hts _ q343) (fun _ h9 => h9) rfl d_Cover_search_2 ?_
  refine lv_icmp_gt (tgt := 24) hx hb d_Cover_search_5 (by decide) (fun hc_1 => ?_) (fun hc_1 => ?_)
  · have _nhc_1 := hc_1
    have ni_2 := (fa_lt _ _).mp hc_1
    rw [li_12] at ni_2
    have hv_3 : zI b5 (-2147483648) 11 := zI.lt_l (zI_all b5) zc_12 hc_1 (by decide)
    exact z_vret hx hb hr hlocks hP hD hS (Nat.le_of_ble_eq_true rfl) (Nat.le_of_ble_eq_true rfl) d_Cover_search_24 ⟨b4, b5, rfl, rfl⟩
  · have _nhc_1 := hc_1
    have ni_4 := (fa_le _ _).mp (zi_nlt hc_1)
    rw [li_12] at ni_4
    have hv_5 : zI b5 12 2147483647 := zI.le_r zc_12 (zI_all b5) (zi_nlt hc_1) (by decide)
    refine lv_iload_n hx hb d_Cover_search_8 rfl (lv_at hl 3 rfl) ?_
    refine lv_aload_n hx hb d_Cover_search_9 rfl (lv_at hl 0 rfl) ?_
    refine va_get (D := G.1) (ci := 9) (v := .int b5) (C := R_Cover) (T := F_Cover) (N := 5) hx hb hts i_Cover hown hK hP 0 rfl rfl 2 (by decide) (hts _ q343) (fun _ h9 => h9) rfl d_Cover_search_10 ?_
    refine lv_icmp_ne (tgt := 25) hx hb d_Cover_search_13 (by decide) (fun hc_6 => ?_) (fun hc_6 => ?_)
    · have _nhc_6 := hc_6
      have ni_7 : ¬ (12 : Int32).toInt = (b5 : Int32).toInt := fun z => hc_6 ((fa_eq _ _).mpr z)
      simp only [li_12] at ni_7
      refine lv_aload_n hx hb d_Cover_search_25 rfl (lv_at hl 0 rfl) ?_
      refine lv_iload_n hx hb d_Cover_search_26 rfl (lv_at hl 1 rfl) ?_
      refine lv_iload_n hx hb d_Cover_search_27 rfl (lv_at hl 2 rfl) ?_
      refine z_callV (index := 70) (As := [.int b1, .int b2]) (rest := []) (wr := []) Z (s1_Cover_hardest l G (b0) (b1) (b2) (b3) (b4) (b5) (b6) (b7) (b8) hb3 hb7) hl.1 q785 q787 qs21 q10 q788 ⟨by decide, by decide, by show _ = some 2; decide +kernel⟩ ⟨Nat.le_of_ble_eq_true rfl, Nat.le_of_ble_eq_true rfl⟩ ⟨Nat.le_of_ble_eq_true rfl, Nat.le_of_ble_eq_true rfl⟩ rfl (Nat.le_of_ble_eq_true rfl) d_Cover_search_28 hP hD hS hA 0 9 rfl rfl rfl [0, 1] [] rfl rfl rfl rfl (by decide) (fun v w1 H locs hw_8 hP hD hS => ?_)
      obtain ⟨x_9, rfl, rfl, hx_9⟩ := hw_8
      have hP : va_P G.1 classes [(b0, .inr (9, [.int b3, .int b4, .int b5, .ref b6, .int b7])), (b6, .inl (G.2 0, 240, .inl b8))] H := hP
      have hD := z_tie hP hD rfl
      refine W.widen (k := 0) (n := 0) (Nat.le_of_ble_eq_true rfl) (Nat.le_of_ble_eq_true rfl) ?_
      refine lv_istore (lv' := [(4, .int x_9), (0, .ref b0), (1, .int b1), (2, .int b2), (3, .int 12)]) hx hb d_Cover_search_31 hl (by decide) rfl (fun ls hl => ?_)
      refine lv_iload hx hb d_Cover_search_33 (lv_at hl 0 rfl) ?_
      refine lv_iconst (v := (-1)) hx hb d_Cover_search_35 (by decide) ?_
      refine lv_icmp_ne (tgt := 50) hx hb d_Cover_search_36 (by decide) (fun hc_10 => ?_) (fun hc_10 => ?_)
      · have _nhc_10 := hc_10
        have ni_11 : ¬ (x_9 : Int32).toInt = ((-1) : Int32).toInt := fun z => hc_10 ((fa_eq _ _).mpr z)
        simp only [li_m1] at ni_11
        have hv_12 : zI x_9 0 239 := zI.ne_lo hx_9 zc_m1 hc_10 (by decide)
        refine lv_iload_n hx hb d_Cover_search_50 rfl (lv_at hl 4 rfl) ?_
        refine lv_aload_n hx hb d_Cover_search_51 rfl (lv_at hl 1 rfl) ?_
        refine va_get (D := G.1) (ci := 9) (v := .int b5) (C := R_Cover) (T := F_Cover) (N := 5) hx hb hts i_Cover hown hK hP 0 rfl rfl 2 (by decide) (hts _ q343) (fun _ h9 => h9) rfl d_Cover_search_52 ?_
        refine lv_icmp_ge (tgt := 64) hx hb d_Cover_search_55 (by decide) (fun hc_13 => ?_) (fun hc_13 => ?_)
        · have _nhc_13 := hc_13
          have ni_14 := (fa_le _ _).mp hc_13
          rw [li_12] at ni_14
          have hv_15 : zI b5 12 12 := zI.le_l hv_5 zc_12 hc_13 (by decide)
          exact z_vret hx hb hr hlocks hP hD hS (Nat.le_of_ble_eq_true rfl) (Nat.le_of_ble_eq_true rfl) d_Cover_search_64 ⟨b4, b5, rfl, rfl⟩
        · have _nhc_13 := hc_13
          have ni_16 := (fa_lt _ _).mp (zi_nle hc_13)
          rw [li_12] at ni_16
          have hv_17 : zI b5 13 2147483647 := zI.lt_r zc_12 hv_5 (zi_nle hc_13) (by decide)
          refine lv_iload_n hx hb d_Cover_search_58 rfl (lv_at hl 4 rfl) ?_
          refine lv_bipush (v := 20) hx hb d_Cover_search_59 (by decide) ?_
          refine lv_icmp_lt (tgt := 65) hx hb d_Cover_search_61 (by decide) (fun _ => ?_) (fun hc => absurd hc (by decide +kernel))
          refine lv_iload_n hx hb d_Cover_search_65 rfl (lv_at hl 3 rfl) ?_
          refine lv_istore (lv' := [(5, .int b2), (4, .int x_9), (0, .ref b0), (1, .int b1), (2, .int b2), (3, .int 12)]) hx hb d_Cover_search_66 hl (by decide) rfl (fun ls hl => ?_)
          refine lv_aload_n hx hb d_Cover_search_68 rfl (lv_at hl 2 rfl) ?_
          refine va_get (D := G.1) (ci := 9) (v := .ref b6) (C := R_Cover) (T := F_Cover) (N := 5) hx hb hts i_Cover hown hK hP 0 rfl rfl 3 (by decide) (hts _ q344) (fun _ h9 => h9) rfl d_Cover_search_69 ?_
          refine lv_iload hx hb d_Cover_search_72 (lv_at hl 1 rfl) ?_
          refine va_iald hx hb hK hP 1 0 rfl rfl (zI.inn hv_12 (by decide)) d_Cover_search_74 ?_
          refine lv_topi (fun v_18 ev_18 => ?_)
          refine lv_iload_n hx hb d_Cover_search_75 rfl (lv_at hl 4 rfl) ?_
          refine lv_iconst (v := (-1)) hx hb d_Cover_search_76 (by decide) ?_
          refine lv_ixor hx hb d_Cover_search_77 ?_
          refine lv_topi (fun v_19 ev_19 => ?_)
          refine lv_iand hx hb d_Cover_search_78 ?_
          refine lv_topi (fun v_20 ev_20 => ?_)
          refine lv_istore (lv' := [(6, .int v_20), (5, .int b2), (4, .int x_9), (0, .ref b0), (1, .int b1), (2, .int b2), (3, .int 12)]) hx hb d_Cover_search_79 hl (by decide) rfl (fun ls hl => ?_)
          suffices key : ∀ (k_38 : Nat) (y_39 : Int32) (y_40 : Int32) (y_41 : Int32) (y_42 : Int32) (H : Heap) (locs : List Loc) (ls : Array Slot), (y_39).toBitVec.toNat < k_38 → va_P G.1 classes [(b0, .inr (9, [.int b3, .int y_41, .int y_42, .ref b6, .int b7])), (b6, .inl (G.2 0, 240, .inl b8))] H → va_D A [(b0, .inr (9, [.int b3, .int y_41, .int y_42, .ref b6, .int b7])), (b6, .inl (G.2 0, 240, .inl b8))] → va_S A s.heap H locs → lv_has ls 8 [(6, .int y_39), (5, .int y_40), (4, .int x_9), (0, .ref b0), (1, .int b1), (2, .int b2), (3, .int 12)] → W p l e m_s9_Cover_search s m ([.ref b0, .int b1, .int b2, .int 12] : List Value).toArray below meth c H locs 0 0 (MQ below (zQ G (fun v w => ∃ (e0 : Int32), ∃ (e1 : Int32), v = none ∧ w = [(b0, .inr (9, [.int b3, .int e0, .int e1, .ref b6, .int b7])), (b6, .inl (G.2 0, 240, .inl b8))]) A) ([.ref b0, .int b1, .int b2, .int 12] : List Value).toArray s m_s9_Cover_search.cells m_s9_Cover_search.slots A) (F0 m 81 ls []) by
            exact key 4294967296 (v_20) (b2) (b4) (b5) _ _ _  (Nat.lt_of_lt_of_le (v_20).toBitVec.isLt (by decide)) hP hD hS (lv_sub hl [0, 1, 2, 3, 4, 5, 6] rfl)
          intro k_38
          induction k_38 with
          | zero =>
            intro y_39 y_40 y_41 y_42 H locs ls hmk_38 hP hD hS hl
            exfalso; omega
          | succ k_38 ihk_38 =>
            intro y_39 y_40 y_41 y_42 H locs ls hmk_38 hP hD hS hl
            refine lv_iload hx hb d_Cover_search_81 (lv_at hl 0 rfl) ?_
            refine lv_if_eq (tgt := 126) hx hb d_Cover_search_83 (by decide) (fun hc_43 => ?_) (fun hc_43 => ?_)
            · have _nhc_43 := hc_43
              have ni_44 := (fa_eq _ _).mp hc_43
              rw [li_0] at ni_44
              have hv_45 : zI y_39 0 0 := zI.eq_l (zI_all y_39) zc_0 hc_43
              exact z_vret hx hb hr hlocks hP hD hS (Nat.le_of_ble_eq_true rfl) (Nat.le_of_ble_eq_true rfl) d_Cover_search_126 ⟨y_41, y_42, rfl, rfl⟩
            · have _nhc_43 := hc_43
              have ni_46 : ¬ (y_39 : Int32).toInt = (0 : Int32).toInt := fun z => hc_43 ((fa_eq _ _).mpr z)
              simp only [li_0] at ni_46
              refine lv_iload hx hb d_Cover_search_86 (lv_at hl 0 rfl) ?_
              refine lv_iload hx hb d_Cover_search_88 (lv_at hl 0 rfl) ?_
              refine lv_ineg hx hb d_Cover_search_90 ?_
              refine lv_topi (fun v_47 ev_47 => ?_)
              refine lv_iand hx hb d_Cover_search_91 ?_
              refine lv_topi (fun v_48 ev_48 => ?_)
              refine lv_istore (lv' := [(7, .int v_48), (6, .int y_39), (5, .int y_40), (4, .int x_9), (0, .ref b0), (1, .int b1), (2, .int b2), (3, .int 12)]) hx hb d_Cover_search_92 hl (by decide) rfl (fun ls hl => ?_)
              refine lv_aload_n hx hb d_Cover_search_94 rfl (lv_at hl 4 rfl) ?_
              refine lv_iload_n hx hb d_Cover_search_95 rfl (lv_at hl 5 rfl) ?_
              refine lv_iload hx hb d_Cover_search_96 (lv_at hl 0 rfl) ?_
              refine lv_ior hx hb d_Cover_search_98 ?_
              refine lv_topi (fun v_49 ev_49 => ?_)
              refine lv_iload hx hb d_Cover_search_99 (lv_at hl 2 rfl) ?_
              refine lv_iload_n hx hb d_Cover_search_101 rfl (lv_at hl 7 rfl) ?_
              refine lv_iconst (v := 1) hx hb d_Cover_search_102 (by decide) ?_
              refine lv_iadd hx hb d_Cover_search_103 ?_
              refine z_topi (y := 13) (by decide +kernel) ?_
              refine z_callV (index := 38) (As := [.int v_49, .int y_40, .int 13]) (rest := []) (wr := []) Z (s8_Cover_search l G (b0) (v_49) (y_40) (b3) (y_41) (y_42) (b6) (b7) (b8) hb3 hb7) hl.1 q781 q783 qs20 q10 q784 ⟨by decide, by decide, by show _ = some 3; decide +kernel⟩ ⟨Nat.le_of_ble_eq_true rfl, Nat.le_of_ble_eq_true rfl⟩ ⟨Nat.le_of_ble_eq_true rfl, Nat.le_of_ble_eq_true rfl⟩ rfl (Nat.le_of_ble_eq_true rfl) d_Cover_search_104 hP hD hS hA 0 9 rfl rfl rfl [0, 1] [] rfl rfl rfl rfl (by decide) (fun v w1 H locs hw_50 hP hD hS => ?_)
              obtain ⟨x_51, x_52, rfl, rfl⟩ := hw_50
              have hP : va_P G.1 classes [(b0, .inr (9, [.int b3, .int x_51, .int x_52, .ref b6, .int b7])), (b6, .inl (G.2 0, 240, .inl b8))] H := hP
              have hD := z_tie hP hD rfl
              refine W.widen (k := 0) (n := 0) (Nat.le_of_ble_eq_true rfl) (Nat.le_of_ble_eq_true rfl) ?_
              refine lv_iload hx hb d_Cover_search_107 (lv_at hl 2 rfl) ?_
              refine lv_iload hx hb d_Cover_search_109 (lv_at hl 0 rfl) ?_
              refine lv_ior hx hb d_Cover_search_111 ?_
              refine lv_topi (fun v_53 ev_53 => ?_)
              refine lv_istore (lv' := [(5, .int v_53), (7, .int v_48), (6, .int y_39), (4, .int x_9), (0, .ref b0), (1, .int b1), (2, .int b2), (3, .int 12)]) hx hb d_Cover_search_112 hl (by decide) rfl (fun ls hl => ?_)
              refine lv_iload hx hb d_Cover_search_114 (lv_at hl 2 rfl) ?_
              refine lv_iload hx hb d_Cover_search_116 (lv_at hl 2 rfl) ?_
              refine lv_iconst (v := 1) hx hb d_Cover_search_118 (by decide) ?_
              refine lv_isub hx hb d_Cover_search_119 ?_
              refine lv_topi (fun v_54 ev_54 => ?_)
              refine lv_iand hx hb d_Cover_search_120 ?_
              refine lv_topi (fun v_55 ev_55 => ?_)
              refine lv_istore (lv' := [(6, .int v_55), (5, .int v_53), (7, .int v_48), (4, .int x_9), (0, .ref b0), (1, .int b1), (2, .int b2), (3, .int 12)]) hx hb d_Cover_search_121 hl (by decide) rfl (fun ls hl => ?_)
              refine lv_goto (tgt := 81) hx hb d_Cover_search_123 (by decide) ?_
              exact ihk_38 (v_55) (v_53) (x_51) (x_52) _ _ _  (z_dec32 ev_54 ev_55 (by omega) hmk_38) hP hD hS (lv_sub hl [0, 1, 3, 4, 5, 6, 7] rfl)
      · have _nhc_10 := hc_10
        have ni_56 := (fa_eq _ _).mp hc_10
        rw [li_m1] at ni_56
        have hv_57 : zI x_9 (-1) (-1) := zI.eq_l hx_9 zc_m1 hc_10
        refine lv_aload_n hx hb d_Cover_search_39 rfl (lv_at hl 1 rfl) ?_
        refine lv_iload_n hx hb d_Cover_search_40 rfl (lv_at hl 2 rfl) ?_
        refine va_put (D := G.1) (ci := 9) (v := .int b1) (ty := .int) (C := R_Cover) (T := F_Cover) (N := 5) hx hb hts i_Cover t_Cover t_Cover_ok n_Cover hown hK hP hD hS 0 rfl rfl 1 (by decide) (hts _ q341) (fun _ h9 => h9) rfl (by decide +kernel) rfl rfl (Nat.le_of_ble_eq_true rfl) d_Cover_search_41 (fun H locs hP hD hS => ?_)
        have hP : va_P G.1 classes [(b0, .inr (9, [.int b3, .int b1, .int b5, .ref b6, .int b7])), (b6, .inl (G.2 0, 240, .inl b8))] H := hP
        have hD := z_tie hP hD rfl
        refine lv_aload_n hx hb d_Cover_search_44 rfl (lv_at hl 1 rfl) ?_
        refine lv_iload_n hx hb d_Cover_search_45 rfl (lv_at hl 4 rfl) ?_
        refine va_put (D := G.1) (ci := 9) (v := .int 12) (ty := .int) (C := R_Cover) (T := F_Cover) (N := 5) hx hb hts i_Cover t_Cover t_Cover_ok n_Cover hown hK hP hD hS 0 rfl rfl 2 (by decide) (hts _ q343) (fun _ h9 => h9) rfl (by decide +kernel) rfl rfl (Nat.le_of_ble_eq_true rfl) d_Cover_search_46 (fun H locs hP hD hS => ?_)
        have hP : va_P G.1 classes [(b0, .inr (9, [.int b3, .int b1, .int 12, .ref b6, .int b7])), (b6, .inl (G.2 0, 240, .inl b8))] H := hP
        have hD := z_tie hP hD rfl
        exact z_vret hx hb hr hlocks hP hD hS (Nat.le_of_ble_eq_true rfl) (Nat.le_of_ble_eq_true rfl) d_Cover_search_49 ⟨b1, 12, rfl, rfl⟩
    · have _nhc_6 := hc_6
      have ni_58 := (fa_eq _ _).mp hc_6
      rw [li_12] at ni_58
      have hv_59 : zI b5 12 12 := zI.eq_l hv_5 zc_12 hc_6.symm
      refine lv_iload_n hx hb d_Cover_search_16 rfl (lv_at hl 1 rfl) ?_
      refine lv_aload_n hx hb d_Cover_search_17 rfl (lv_at hl 0 rfl) ?_
      refine va_get (D := G.1) (ci := 9) (v := .int b4) (C := R_Cover) (T := F_Cover) (N := 5) hx hb hts i_Cover hown hK hP 0 rfl rfl 1 (by decide) (hts _ q341) (fun _ h9 => h9) rfl d_Cover_search_18 ?_
      refine lv_icmp_lt (tgt := 25) hx hb d_Cover_search_21 (by decide) (fun hc_60 => ?_) (fun hc_60 => ?_)
      · have _nhc_60 := hc_60
        have ni_61 := (fa_lt _ _).mp hc_60
        have hv_62 : zI b1 (-2147483648) 2147483646 := zI.lt_l (zI_all b1) (zI_all b4) hc_60 (by decide)
        have hv_63 : zI b4 (-2147483647) 2147483647 := zI.lt_r (zI_all b1) (zI_all b4) hc_60 (by decide)
        refine lv_aload_n hx hb d_Cover_search_25 rfl (lv_at hl 0 rfl) ?_
        refine lv_iload_n hx hb d_Cover_search_26 rfl (lv_at hl 1 rfl) ?_
        refine lv_iload_n hx hb d_Cover_search_27 rfl (lv_at hl 2 rfl) ?_
        refine z_callV (index := 70) (As := [.int b1, .int b2]) (rest := []) (wr := []) Z (s1_Cover_hardest l G (b0) (b1) (b2) (b3) (b4) (b5) (b6) (b7) (b8) hb3 hb7) hl.1 q785 q787 qs21 q10 q788 ⟨by decide, by decide, by show _ = some 2; decide +kernel⟩ ⟨Nat.le_of_ble_eq_true rfl, Nat.le_of_ble_eq_true rfl⟩ ⟨Nat.le_of_ble_eq_true rfl, Nat.le_of_ble_eq_true rfl⟩ rfl (Nat.le_of_ble_eq_true rfl) d_Cover_search_28 hP hD hS hA 0 9 rfl rfl rfl [0, 1] [] rfl rfl rfl rfl (by decide) (fun v w1 H locs hw_64 hP hD hS => ?_)
        obtain ⟨x_65, rfl, rfl, hx_65⟩ := hw_64
        have hP : va_P G.1 classes [(b0, .inr (9, [.int b3, .int b4, .int b5, .ref b6, .int b7])), (b6, .inl (G.2 0, 240, .inl b8))] H := hP
        have hD := z_tie hP hD rfl
        refine W.widen (k := 0) (n := 0) (Nat.le_of_ble_eq_true rfl) (Nat.le_of_ble_eq_true rfl) ?_
        refine lv_istore (lv' := [(4, .int x_65), (0, .ref b0), (1, .int b1), (2, .int b2), (3, .int 12)]) hx hb d_Cover_search_31 hl (by decide) rfl (fun ls hl => ?_)
        refine lv_iload hx hb d_Cover_search_33 (lv_at hl 0 rfl) ?_
        refine lv_iconst (v := (-1)) hx hb d_Cover_search_35 (by decide) ?_
        refine lv_icmp_ne (tgt := 50) hx hb d_Cover_search_36 (by decide) (fun hc_66 => ?_) (fun hc_66 => ?_)
        · have _nhc_66 := hc_66
          have ni_67 : ¬ (x_65 : Int32).toInt = ((-1) : Int32).toInt := fun z => hc_66 ((fa_eq _ _).mpr z)
          simp only [li_m1] at ni_67
          have hv_68 : zI x_65 0 239 := zI.ne_lo hx_65 zc_m1 hc_66 (by decide)
          refine lv_iload_n hx hb d_Cover_search_50 rfl (lv_at hl 4 rfl) ?_
          refine lv_aload_n hx hb d_Cover_search_51 rfl (lv_at hl 1 rfl) ?_
          refine va_get (D := G.1) (ci := 9) (v := .int b5) (C := R_Cover) (T := F_Cover) (N := 5) hx hb hts i_Cover hown hK hP 0 rfl rfl 2 (by decide) (hts _ q343) (fun _ h9 => h9) rfl d_Cover_search_52 ?_
          refine lv_icmp_ge (tgt := 64) hx hb d_Cover_search_55 (by decide) (fun _ => ?_) (fun hc => zI.no_lt zc_12 hv_59 (zi_nle hc) (by decide))
          exact z_vret hx hb hr hlocks hP hD hS (Nat.le_of_ble_eq_true rfl) (Nat.le_of_ble_eq_true rfl) d_Cover_search_64 ⟨b4, b5, rfl, rfl⟩
        · have _nhc_66 := hc_66
          have ni_69 := (fa_eq _ _).mp hc_66
          rw [li_m1] at ni_69
          have hv_70 : zI x_65 (-1) (-1) := zI.eq_l hx_65 zc_m1 hc_66
          refine lv_aload_n hx hb d_Cover_search_39 rfl (lv_at hl 1 rfl) ?_
          refine lv_iload_n hx hb d_Cover_search_40 rfl (lv_at hl 2 rfl) ?_
          refine va_put (D := G.1) (ci := 9) (v := .int b1) (ty := .int) (C := R_Cover) (T := F_Cover) (N := 5) hx hb hts i_Cover t_Cover t_Cover_ok n_Cover hown hK hP hD hS 0 rfl rfl 1 (by decide) (hts _ q341) (fun _ h9 => h9) rfl (by decide +kernel) rfl rfl (Nat.le_of_ble_eq_true rfl) d_Cover_search_41 (fun H locs hP hD hS => ?_)
          have hP : va_P G.1 classes [(b0, .inr (9, [.int b3, .int b1, .int b5, .ref b6, .int b7])), (b6, .inl (G.2 0, 240, .inl b8))] H := hP
          have hD := z_tie hP hD rfl
          refine lv_aload_n hx hb d_Cover_search_44 rfl (lv_at hl 1 rfl) ?_
          refine lv_iload_n hx hb d_Cover_search_45 rfl (lv_at hl 4 rfl) ?_
          refine va_put (D := G.1) (ci := 9) (v := .int 12) (ty := .int) (C := R_Cover) (T := F_Cover) (N := 5) hx hb hts i_Cover t_Cover t_Cover_ok n_Cover hown hK hP hD hS 0 rfl rfl 2 (by decide) (hts _ q343) (fun _ h9 => h9) rfl (by decide +kernel) rfl rfl (Nat.le_of_ble_eq_true rfl) d_Cover_search_46 (fun H locs hP hD hS => ?_)
          have hP : va_P G.1 classes [(b0, .inr (9, [.int b3, .int b1, .int 12, .ref b6, .int b7])), (b6, .inl (G.2 0, 240, .inl b8))] H := hP
          have hD := z_tie hP hD rfl
          exact z_vret hx hb hr hlocks hP hD hS (Nat.le_of_ble_eq_true rfl) (Nat.le_of_ble_eq_true rfl) d_Cover_search_49 ⟨b1, 12, rfl, rfl⟩
      · have _nhc_60 := hc_60
        have ni_71 := (fa_le _ _).mp (zi_nlt hc_60)
        exact z_vret hx hb hr hlocks hP hD hS (Nat.le_of_ble_eq_true rfl) (Nat.le_of_ble_eq_true rfl) d_Cover_search_24 ⟨b4, b5, rfl, rfl⟩
abbrev m_s10_Cover_search : Room := { frames := 11, cells := 0, slots := 0, locals := 289 }
set_option maxHeartbeats 4000000 in
set_option maxRecDepth 100000 in
theorem s10_Cover_search (l : Launch) (G : zG) (b0 : Nat) (b1 : Int32) (b2 : Int32) (b3 : Int32) (b4 : Int32) (b5 : Int32) (b6 : Nat) (b7 : Int32) (b8 : Nat → Int32) (hb3 : zI b3 0 1) (hb7 : zI b7 0 240) : zM l G y_Cover_search prog_2_method_6_code 8 (Option.none : Option Jvm.ClassFile.FieldType) m_s10_Cover_search [.ref b0, .int b1, .int b2, .int 11] [(b0, .inr (9, [.int b3, .int b4, .int b5, .ref b6, .int b7])), (b6, .inl (G.2 0, 240, .inl b8))] (fun v w => ∃ (e0 : Int32), ∃ (e1 : Int32), v = none ∧ w = [(b0, .inr (9, [.int b3, .int e0, .int e1, .ref b6, .int b7])), (b6, .inl (G.2 0, 240, .inl b8))]) := by
  refine z_start (by decide +kernel) (Nat.le_of_ble_eq_true rfl) ?_
  intro p e s m below meth c A Z hr hnm hA hP hD hS ls hl
  have Z : zC p s m _ meth c prog_2_method_6_code 8 "TraceMachines$Cover" G := Z
  obtain ⟨hx, hb, hml, hown, hts, hK, hN, hlocks⟩ := id Z
  have hl : lv_has ls 8 [(0, .ref b0), (1, .int b1), (2, .int b2), (3, .int 11)] := hl
  refine lv_iload_n hx hb d_Cover_search_0 rfl (lv_at hl 3 rfl) ?_
  refine lv_aload_n hx hb d_Cover_search_1 rfl (lv_at hl 0 rfl) ?_
  refine va_get (D := G.1) (ci := 9) (v := .int b5) (C := R_Cover) (T := F_Cover) (N := 5) hx hb hts i_Cover hown hK hP 0 rfl rfl 2 (by decide) (hts _ q343) (fun _ h9 => h9) rfl d_Cover_search_2 ?_
  refine lv_icmp_gt (tgt := 24) hx hb d_Cover_search_5 (by decide) (fun hc_1 => ?_) (fun hc_1 => ?_)
  · have _nhc_1 := hc_1
    have ni_2 := (fa_lt _ _).mp hc_1
    rw [li_11] at ni_2
    have hv_3 : zI b5 (-2147483648) 10 := zI.lt_l (zI_all b5) zc_11 hc_1 (by decide)
    exact z_vret hx hb hr hlocks hP hD hS (Nat.le_of_ble_eq_true rfl) (Nat.le_of_ble_eq_true rfl) d_Cover_search_24 ⟨b4, b5, rfl, rfl⟩
  · have _nhc_1 := hc_1
    have ni_4 := (fa_le _ _).mp (zi_nlt hc_1)
    rw [li_11] at ni_4
    have hv_5 : zI b5 11 2147483647 := zI.le_r zc_11 (zI_all b5) (zi_nlt hc_1) (by decide)
    refine lv_iload_n hx hb d_Cover_search_8 rfl (lv_at hl 3 rfl) ?_
    refine lv_aload_n hx hb d_Cover_search_9 rfl (lv_at hl 0 rfl) ?_
    refine va_get (D := G.1) (ci := 9) (v := .int b5) (C := R_Cover) (T := F_Cover) (N := 5) hx hb hts i_Cover hown hK hP 0 rfl rfl 2 (by decide) (hts _ q343) (fun _ h9 => h9) rfl d_Cover_search_10 ?_
    refine lv_icmp_ne (tgt := 25) hx hb d_Cover_search_13 (by decide) (fun hc_6 => ?_) (fun hc_6 => ?_)
    · have _nhc_6 := hc_6
      have ni_7 : ¬ (11 : Int32).toInt = (b5 : Int32).toInt := fun z => hc_6 ((fa_eq _ _).mpr z)
      simp only [li_11] at ni_7
      refine lv_aload_n hx hb d_Cover_search_25 rfl (lv_at hl 0 rfl) ?_
      refine lv_iload_n hx hb d_Cover_search_26 rfl (lv_at hl 1 rfl) ?_
      refine lv_iload_n hx hb d_Cover_search_27 rfl (lv_at hl 2 rfl) ?_
      refine z_callV (index := 70) (As := [.int b1, .int b2]) (rest := []) (wr := []) Z (s1_Cover_hardest l G (b0) (b1) (b2) (b3) (b4) (b5) (b6) (b7) (b8) hb3 hb7) hl.1 q785 q787 qs21 q10 q788 ⟨by decide, by decide, by show _ = some 2; decide +kernel⟩ ⟨Nat.le_of_ble_eq_true rfl, Nat.le_of_ble_eq_true rfl⟩ ⟨Nat.le_of_ble_eq_true rfl, Nat.le_of_ble_eq_true rfl⟩ rfl (Nat.le_of_ble_eq_true rfl) d_Cover_search_28 hP hD hS hA 0 9 rfl rfl rfl [0, 1] [] rfl rfl rfl rfl (by decide) (fun v w1 H locs hw_8 hP hD hS => ?_)
      obtain ⟨x_9, rfl, rfl, hx_9⟩ := hw_8
      have hP : va_P G.1 classes [(b0, .inr (9, [.int b3, .int b4, .int b5, .ref b6, .int b7])), (b6, .inl (G.2 0, 240, .inl b8))] H := hP
      have hD := z_tie hP hD rfl
      refine W.widen (k := 0) (n := 0) (Nat.le_of_ble_eq_true rfl) (Nat.le_of_ble_eq_true rfl) ?_
      refine lv_istore (lv' := [(4, .int x_9), (0, .ref b0), (1, .int b1), (2, .int b2), (3, .int 11)]) hx hb d_Cover_search_31 hl (by decide) rfl (fun ls hl => ?_)
      refine lv_iload hx hb d_Cover_search_33 (lv_at hl 0 rfl) ?_
      refine lv_iconst (v := (-1)) hx hb d_Cover_search_35 (by decide) ?_
      refine lv_icmp_ne (tgt := 50) hx hb d_Cover_search_36 (by decide) (fun hc_10 => ?_) (fun hc_10 => ?_)
      · have _nhc_10 := hc_10
        have ni_11 : ¬ (x_9 : Int32).toInt = ((-1) : Int32).toInt := fun z => hc_10 ((fa_eq _ _).mpr z)
        simp only [li_m1] at ni_11
        have hv_12 : zI x_9 0 239 := zI.ne_lo hx_9 zc_m1 hc_10 (by decide)
        refine lv_iload_n hx hb d_Cover_search_50 rfl (lv_at hl 4 rfl) ?_
        refine lv_aload_n hx hb d_Cover_search_51 rfl (lv_at hl 1 rfl) ?_
        refine va_get (D := G.1) (ci := 9) (v := .int b5) (C := R_Cover) (T := F_Cover) (N := 5) hx hb hts i_Cover hown hK hP 0 rfl rfl 2 (by decide) (hts _ q343) (fun _ h9 => h9) rfl d_Cover_search_52 ?_
        refine lv_icmp_ge (tgt := 64) hx hb d_Cover_search_55 (by decide) (fun hc_13 => ?_) (fun hc_13 => ?_)
        · have _nhc_13 := hc_13
          have ni_14 := (fa_le _ _).mp hc_13
          rw [li_11] at ni_14
          have hv_15 : zI b5 11 11 := zI.le_l hv_5 zc_11 hc_13 (by decide)
          exact z_vret hx hb hr hlocks hP hD hS (Nat.le_of_ble_eq_true rfl) (Nat.le_of_ble_eq_true rfl) d_Cover_search_64 ⟨b4, b5, rfl, rfl⟩
        · have _nhc_13 := hc_13
          have ni_16 := (fa_lt _ _).mp (zi_nle hc_13)
          rw [li_11] at ni_16
          have hv_17 : zI b5 12 2147483647 := zI.lt_r zc_11 hv_5 (zi_nle hc_13) (by decide)
          refine lv_iload_n hx hb d_Cover_search_58 rfl (lv_at hl 4 rfl) ?_
          refine lv_bipush (v := 20) hx hb d_Cover_search_59 (by decide) ?_
          refine lv_icmp_lt (tgt := 65) hx hb d_Cover_search_61 (by decide) (fun _ => ?_) (fun hc => absurd hc (by decide +kernel))
          refine lv_iload_n hx hb d_Cover_search_65 rfl (lv_at hl 3 rfl) ?_
          refine lv_istore (lv' := [(5, .int b2), (4, .int x_9), (0, .ref b0), (1, .int b1), (2, .int b2), (3, .int 11)]) hx hb d_Cover_search_66 hl (by decide) rfl (fun ls hl => ?_)
          refine lv_aload_n hx hb d_Cover_search_68 rfl (lv_at hl 2 rfl) ?_
          refine va_get (D := G.1) (ci := 9) (v := .ref b6) (C := R_Cover) (T := F_Cover) (N := 5) hx hb hts i_Cover hown hK hP 0 rfl rfl 3 (by decide) (hts _ q344) (fun _ h9 => h9) rfl d_Cover_search_69 ?_
          refine lv_iload hx hb d_Cover_search_72 (lv_at hl 1 rfl) ?_
          refine va_iald hx hb hK hP 1 0 rfl rfl (zI.inn hv_12 (by decide)) d_Cover_search_74 ?_
          refine lv_topi (fun v_18 ev_18 => ?_)
          refine lv_iload_n hx hb d_Cover_search_75 rfl (lv_at hl 4 rfl) ?_
          refine lv_iconst (v := (-1)) hx hb d_Cover_search_76 (by decide) ?_
          refine lv_ixor hx hb d_Cover_search_77 ?_
          refine lv_topi (fun v_19 ev_19 => ?_)
          refine lv_iand hx hb d_Cover_search_78 ?_
          refine lv_topi (fun v_20 ev_20 => ?_)
          refine lv_istore (lv' := [(6, .int v_20), (5, .int b2), (4, .int x_9), (0, .ref b0), (1, .int b1), (2, .int b2), (3, .int 11)]) hx hb d_Cover_search_79 hl (by decide) rfl (fun ls hl => ?_)
          suffices key : ∀ (k_38 : Nat) (y_39 : Int32) (y_40 : Int32) (y_41 : Int32) (y_42 : Int32) (H : Heap) (locs : List Loc) (ls : Array Slot), (y_39).toBitVec.toNat < k_38 → va_P G.1 classes [(b0, .inr (9, [.int b3, .int y_41, .int y_42, .ref b6, .int b7])), (b6, .inl (G.2 0, 240, .inl b8))] H → va_D A [(b0, .inr (9, [.int b3, .int y_41, .int y_42, .ref b6, .int b7])), (b6, .inl (G.2 0, 240, .inl b8))] → va_S A s.heap H locs → lv_has ls 8 [(6, .int y_39), (5, .int y_40), (4, .int x_9), (0, .ref b0), (1, .int b1), (2, .int b2), (3, .int 11)] → W p l e m_s10_Cover_search s m ([.ref b0, .int b1, .int b2, .int 11] : List Value).toArray below meth c H locs 0 0 (MQ below (zQ G (fun v w => ∃ (e0 : Int32), ∃ (e1 : Int32), v = none ∧ w = [(b0, .inr (9, [.int b3, .int e0, .int e1, .ref b6, .int b7])), (b6, .inl (G.2 0, 240, .inl b8))]) A) ([.ref b0, .int b1, .int b2, .int 11] : List Value).toArray s m_s10_Cover_search.cells m_s10_Cover_search.slots A) (F0 m 81 ls []) by
            exact key 4294967296 (v_20) (b2) (b4) (b5) _ _ _  (Nat.lt_of_lt_of_le (v_20).toBitVec.isLt (by decide)) hP hD hS (lv_sub hl [0, 1, 2, 3, 4, 5, 6] rfl)
          intro k_38
          induction k_38 with
          | zero =>
            intro y_39 y_40 y_41 y_42 H locs ls hmk_38 hP hD hS hl
            exfalso; omega
          | succ k_38 ihk_38 =>
            intro y_39 y_40 y_41 y_42 H locs ls hmk_38 hP hD hS hl
            refine lv_iload hx hb d_Cover_search_81 (lv_at hl 0 rfl) ?_
            refine lv_if_eq (tgt := 126) hx hb d_Cover_search_83 (by decide) (fun hc_43 => ?_) (fun hc_43 => ?_)
            · have _nhc_43 := hc_43
              have ni_44 := (fa_eq _ _).mp hc_43
              rw [li_0] at ni_44
              have hv_45 : zI y_39 0 0 := zI.eq_l (zI_all y_39) zc_0 hc_43
              exact z_vret hx hb hr hlocks hP hD hS (Nat.le_of_ble_eq_true rfl) (Nat.le_of_ble_eq_true rfl) d_Cover_search_126 ⟨y_41, y_42, rfl, rfl⟩
            · have _nhc_43 := hc_43
              have ni_46 : ¬ (y_39 : Int32).toInt = (0 : Int32).toInt := fun z => hc_43 ((fa_eq _ _).mpr z)
              simp only [li_0] at ni_46
              refine lv_iload hx hb d_Cover_search_86 (lv_at hl 0 rfl) ?_
              refine lv_iload hx hb d_Cover_search_88 (lv_at hl 0 rfl) ?_
              refine lv_ineg hx hb d_Cover_search_90 ?_
              refine lv_topi (fun v_47 ev_47 => ?_)
              refine lv_iand hx hb d_Cover_search_91 ?_
              refine lv_topi (fun v_48 ev_48 => ?_)
              refine lv_istore (lv' := [(7, .int v_48), (6, .int y_39), (5, .int y_40), (4, .int x_9), (0, .ref b0), (1, .int b1), (2, .int b2), (3, .int 11)]) hx hb d_Cover_search_92 hl (by decide) rfl (fun ls hl => ?_)
              refine lv_aload_n hx hb d_Cover_search_94 rfl (lv_at hl 4 rfl) ?_
              refine lv_iload_n hx hb d_Cover_search_95 rfl (lv_at hl 5 rfl) ?_
              refine lv_iload hx hb d_Cover_search_96 (lv_at hl 0 rfl) ?_
              refine lv_ior hx hb d_Cover_search_98 ?_
              refine lv_topi (fun v_49 ev_49 => ?_)
              refine lv_iload hx hb d_Cover_search_99 (lv_at hl 2 rfl) ?_
              refine lv_iload_n hx hb d_Cover_search_101 rfl (lv_at hl 7 rfl) ?_
              refine lv_iconst (v := 1) hx hb d_Cover_search_102 (by decide) ?_
              refine lv_iadd hx hb d_Cover_search_103 ?_
              refine z_topi (y := 12) (by decide +kernel) ?_
              refine z_callV (index := 38) (As := [.int v_49, .int y_40, .int 12]) (rest := []) (wr := []) Z (s9_Cover_search l G (b0) (v_49) (y_40) (b3) (y_41) (y_42) (b6) (b7) (b8) hb3 hb7) hl.1 q781 q783 qs20 q10 q784 ⟨by decide, by decide, by show _ = some 3; decide +kernel⟩ ⟨Nat.le_of_ble_eq_true rfl, Nat.le_of_ble_eq_true rfl⟩ ⟨Nat.le_of_ble_eq_true rfl, Nat.le_of_ble_eq_true rfl⟩ rfl (Nat.le_of_ble_eq_true rfl) d_Cover_search_104 hP hD hS hA 0 9 rfl rfl rfl [0, 1] [] rfl rfl rfl rfl (by decide) (fun v w1 H locs hw_50 hP hD hS => ?_)
              obtain ⟨x_51, x_52, rfl, rfl⟩ := hw_50
              have hP : va_P G.1 classes [(b0, .inr (9, [.int b3, .int x_51, .int x_52, .ref b6, .int b7])), (b6, .inl (G.2 0, 240, .inl b8))] H := hP
              have hD := z_tie hP hD rfl
              refine W.widen (k := 0) (n := 0) (Nat.le_of_ble_eq_true rfl) (Nat.le_of_ble_eq_true rfl) ?_
              refine lv_iload hx hb d_Cover_search_107 (lv_at hl 2 rfl) ?_
              refine lv_iload hx hb d_Cover_search_109 (lv_at hl 0 rfl) ?_
              refine lv_ior hx hb d_Cover_search_111 ?_
              refine lv_topi (fun v_53 ev_53 => ?_)
              refine lv_istore (lv' := [(5, .int v_53), (7, .int v_48), (6, .int y_39), (4, .int x_9), (0, .ref b0), (1, .int b1), (2, .int b2), (3, .int 11)]) hx hb d_Cover_search_112 hl (by decide) rfl (fun ls hl => ?_)
              refine lv_iload hx hb d_Cover_search_114 (lv_at hl 2 rfl) ?_
              refine lv_iload hx hb d_Cover_search_116 (lv_at hl 2 rfl) ?_
              refine lv_iconst (v := 1) hx hb d_Cover_search_118 (by decide) ?_
              refine lv_isub hx hb d_Cover_search_119 ?_
              refine lv_topi (fun v_54 ev_54 => ?_)
              refine lv_iand hx hb d_Cover_search_120 ?_
              refine lv_topi (fun v_55 ev_55 => ?_)
              refine lv_istore (lv' := [(6, .int v_55), (5, .int v_53), (7, .int v_48), (4, .int x_9), (0, .ref b0), (1, .int b1), (2, .int b2), (3, .int 11)]) hx hb d_Cover_search_121 hl (by decide) rfl (fun ls hl => ?_)
              refine lv_goto (tgt := 81) hx hb d_Cover_search_123 (by decide) ?_
              exact ihk_38 (v_55) (v_53) (x_51) (x_52) _ _ _  (z_dec32 ev_54 ev_55 (by omega) hmk_38) hP hD hS (lv_sub hl [0, 1, 3, 4, 5, 6, 7] rfl)
      · have _nhc_10 := hc_10
        have ni_56 := (fa_eq _ _).mp hc_10
        rw [li_m1] at ni_56
        have hv_57 : zI x_9 (-1) (-1) := zI.eq_l hx_9 zc_m1 hc_10
        refine lv_aload_n hx hb d_Cover_search_39 rfl (lv_at hl 1 rfl) ?_
        refine lv_iload_n hx hb d_Cover_search_40 rfl (lv_at hl 2 rfl) ?_
        refine va_put (D := G.1) (ci := 9) (v := .int b1) (ty := .int) (C := R_Cover) (T := F_Cover) (N := 5) hx hb hts i_Cover t_Cover t_Cover_ok n_Cover hown hK hP hD hS 0 rfl rfl 1 (by decide) (hts _ q341) (fun _ h9 => h9) rfl (by decide +kernel) rfl rfl (Nat.le_of_ble_eq_true rfl) d_Cover_search_41 (fun H locs hP hD hS => ?_)
        have hP : va_P G.1 classes [(b0, .inr (9, [.int b3, .int b1, .int b5, .ref b6, .int b7])), (b6, .inl (G.2 0, 240, .inl b8))] H := hP
        have hD := z_tie hP hD rfl
        refine lv_aload_n hx hb d_Cover_search_44 rfl (lv_at hl 1 rfl) ?_
        refine lv_iload_n hx hb d_Cover_search_45 rfl (lv_at hl 4 rfl) ?_
        refine va_put (D := G.1) (ci := 9) (v := .int 11) (ty := .int) (C := R_Cover) (T := F_Cover) (N := 5) hx hb hts i_Cover t_Cover t_Cover_ok n_Cover hown hK hP hD hS 0 rfl rfl 2 (by decide) (hts _ q343) (fun _ h9 => h9) rfl (by decide +kernel) rfl rfl (Nat.le_of_ble_eq_true rfl) d_Cover_search_46 (fun H locs hP hD hS => ?_)
        have hP : va_P G.1 classes [(b0, .inr (9, [.int b3, .int b1, .int 11, .ref b6, .int b7])), (b6, .inl (G.2 0, 240, .inl b8))] H := hP
        have hD := z_tie hP hD rfl
        exact z_vret hx hb hr hlocks hP hD hS (Nat.le_of_ble_eq_true rfl) (Nat.le_of_ble_eq_true rfl) d_Cover_search_49 ⟨b1, 11, rfl, rfl⟩
    · have _nhc_6 := hc_6
      have ni_58 := (fa_eq _ _).mp hc_6
      rw [li_11] at ni_58
      have hv_59 : zI b5 11 11 := zI.eq_l hv_5 zc_11 hc_6.symm
      refine lv_iload_n hx hb d_Cover_search_16 rfl (lv_at hl 1 rfl) ?_
      refine lv_aload_n hx hb d_Cover_search_17 rfl (lv_at hl 0 rfl) ?_
      refine va_get (D := G.1) (ci := 9) (v := .int b4) (C := R_Cover) (T := F_Cover) (N := 5) hx hb hts i_Cover hown hK hP 0 rfl rfl 1 (by decide) (hts _ q341) (fun _ h9 => h9) rfl d_Cover_search_18 ?_
      refine lv_icmp_lt (tgt := 25) hx hb d_Cover_search_21 (by decide) (fun hc_60 => ?_) (fun hc_60 => ?_)
      · have _nhc_60 := hc_60
        have ni_61 := (fa_lt _ _).mp hc_60
        have hv_62 : zI b1 (-2147483648) 2147483646 := zI.lt_l (zI_all b1) (zI_all b4) hc_60 (by decide)
        have hv_63 : zI b4 (-2147483647) 2147483647 := zI.lt_r (zI_all b1) (zI_all b4) hc_60 (by decide)
        refine lv_aload_n hx hb d_Cover_search_25 rfl (lv_at hl 0 rfl) ?_
        refine lv_iload_n hx hb d_Cover_search_26 rfl (lv_at hl 1 rfl) ?_
        refine lv_iload_n hx hb d_Cover_search_27 rfl (lv_at hl 2 rfl) ?_
        refine z_callV (index := 70) (As := [.int b1, .int b2]) (rest := []) (wr := []) Z (s1_Cover_hardest l G (b0) (b1) (b2) (b3) (b4) (b5) (b6) (b7) (b8) hb3 hb7) hl.1 q785 q787 qs21 q10 q788 ⟨by decide, by decide, by show _ = some 2; decide +kernel⟩ ⟨Nat.le_of_ble_eq_true rfl, Nat.le_of_ble_eq_true rfl⟩ ⟨Nat.le_of_ble_eq_true rfl, Nat.le_of_ble_eq_true rfl⟩ rfl (Nat.le_of_ble_eq_true rfl) d_Cover_search_28 hP hD hS hA 0 9 rfl rfl rfl [0, 1] [] rfl rfl rfl rfl (by decide) (fun v w1 H locs hw_64 hP hD hS => ?_)
        obtain ⟨x_65, rfl, rfl, hx_65⟩ := hw_64
        have hP : va_P G.1 classes [(b0, .inr (9, [.int b3, .int b4, .int b5, .ref b6, .int b7])), (b6, .inl (G.2 0, 240, .inl b8))] H := hP
        have hD := z_tie hP hD rfl
        refine W.widen (k := 0) (n := 0) (Nat.le_of_ble_eq_true rfl) (Nat.le_of_ble_eq_true rfl) ?_
        refine lv_istore (lv' := [(4, .int x_65), (0, .ref b0), (1, .int b1), (2, .int b2), (3, .int 11)]) hx hb d_Cover_search_31 hl (by decide) rfl (fun ls hl => ?_)
        refine lv_iload hx hb d_Cover_search_33 (lv_at hl 0 rfl) ?_
        refine lv_iconst (v := (-1)) hx hb d_Cover_search_35 (by decide) ?_
        refine lv_icmp_ne (tgt := 50) hx hb d_Cover_search_36 (by decide) (fun hc_66 => ?_) (fun hc_66 => ?_)
        · have _nhc_66 := hc_66
          have ni_67 : ¬ (x_65 : Int32).toInt = ((-1) : Int32).toInt := fun z => hc_66 ((fa_eq _ _).mpr z)
          simp only [li_m1] at ni_67
          have hv_68 : zI x_65 0 239 := zI.ne_lo hx_65 zc_m1 hc_66 (by decide)
          refine lv_iload_n hx hb d_Cover_search_50 rfl (lv_at hl 4 rfl) ?_
          refine lv_aload_n hx hb d_Cover_search_51 rfl (lv_at hl 1 rfl) ?_
          refine va_get (D := G.1) (ci := 9) (v := .int b5) (C := R_Cover) (T := F_Cover) (N := 5) hx hb hts i_Cover hown hK hP 0 rfl rfl 2 (by decide) (hts _ q343) (fun _ h9 => h9) rfl d_Cover_search_52 ?_
          refine lv_icmp_ge (tgt := 64) hx hb d_Cover_search_55 (by decide) (fun _ => ?_) (fun hc => zI.no_lt zc_11 hv_59 (zi_nle hc) (by decide))
          exact z_vret hx hb hr hlocks hP hD hS (Nat.le_of_ble_eq_true rfl) (Nat.le_of_ble_eq_true rfl) d_Cover_search_64 ⟨b4, b5, rfl, rfl⟩
        · have _nhc_66 := hc_66
          have ni_69 := (fa_eq _ _).mp hc_66
          rw [li_m1] at ni_69
          have hv_70 : zI x_65 (-1) (-1) := zI.eq_l hx_65 zc_m1 hc_66
          refine lv_aload_n hx hb d_Cover_search_39 rfl (lv_at hl 1 rfl) ?_
          refine lv_iload_n hx hb d_Cover_search_40 rfl (lv_at hl 2 rfl) ?_
          refine va_put (D := G.1) (ci := 9) (v := .int b1) (ty := .int) (C := R_Cover) (T := F_Cover) (N := 5) hx hb hts i_Cover t_Cover t_Cover_ok n_Cover hown hK hP hD hS 0 rfl rfl 1 (by decide) (hts _ q341) (fun _ h9 => h9) rfl (by decide +kernel) rfl rfl (Nat.le_of_ble_eq_true rfl) d_Cover_search_41 (fun H locs hP hD hS => ?_)
          have hP : va_P G.1 classes [(b0, .inr (9, [.int b3, .int b1, .int b5, .ref b6, .int b7])), (b6, .inl (G.2 0, 240, .inl b8))] H := hP
          have hD := z_tie hP hD rfl
          refine lv_aload_n hx hb d_Cover_search_44 rfl (lv_at hl 1 rfl) ?_
          refine lv_iload_n hx hb d_Cover_search_45 rfl (lv_at hl 4 rfl) ?_
          refine va_put (D := G.1) (ci := 9) (v := .int 11) (ty := .int) (C := R_Cover) (T := F_Cover) (N := 5) hx hb hts i_Cover t_Cover t_Cover_ok n_Cover hown hK hP hD hS 0 rfl rfl 2 (by decide) (hts _ q343) (fun _ h9 => h9) rfl (by decide +kernel) rfl rfl (Nat.le_of_ble_eq_true rfl) d_Cover_search_46 (fun H locs hP hD hS => ?_)
          have hP : va_P G.1 classes [(b0, .inr (9, [.int b3, .int b1, .int 11, .ref b6, .int b7])), (b6, .inl (G.2 0, 240, .inl b8))] H := hP
          have hD := z_tie hP hD rfl
          exact z_vret hx hb hr hlocks hP hD hS (Nat.le_of_ble_eq_true rfl) (Nat.le_of_ble_eq_true rfl) d_Cover_search_49 ⟨b1, 11, rfl, rfl⟩
      · have _nhc_60 := hc_60
        have ni_71 := (fa_le _ _).mp (zi_nlt hc_60)
        exact z_vret hx hb hr hlocks hP hD hS (Nat.le_of_ble_eq_true rfl) (Nat.le_of_ble_eq_true rfl) d_Cover_search_24 ⟨b4, b5, rfl, rfl⟩
abbrev m_s11_Cover_search : Room := { frames := 12, cells := 0, slots := 0, locals := 316 }
set_option maxHeartbeats 4000000 in
set_option maxRecDepth 100000 in
theorem s11_Cover_search (l : Launch) (G : zG) (b0 : Nat) (b1 : Int32) (b2 : Int32) (b3 : Int32) (b4 : Int32) (b5 : Int32) (b6 : Nat) (b7 : Int32) (b8 : Nat → Int32) (hb3 : zI b3 0 1) (hb7 : zI b7 0 240) : zM l G y_Cover_search prog_2_method_6_code 8 (Option.none : Option Jvm.ClassFile.FieldType) m_s11_Cover_search [.ref b0, .int b1, .int b2, .int 10] [(b0, .inr (9, [.int b3, .int b4, .int b5, .ref b6, .int b7])), (b6, .inl (G.2 0, 240, .inl b8))] (fun v w => ∃ (e0 : Int32), ∃ (e1 : Int32), v = none ∧ w = [(b0, .inr (9, [.int b3, .int e0, .int e1, .ref b6, .int b7])), (b6, .inl (G.2 0, 240, .inl b8))]) := by
  refine z_start (by decide +kernel) (Nat.le_of_ble_eq_true rfl) ?_
  intro p e s m below meth c A Z hr hnm hA hP hD hS ls hl
  have Z : zC p s m _ meth c prog_2_method_6_code 8 "TraceMachines$Cover" G := Z
  obtain ⟨hx, hb, hml, hown, hts, hK, hN, hlocks⟩ := id Z
  have hl : lv_has ls 8 [(0, .ref b0), (1, .int b1), (2, .int b2), (3, .int 10)] := hl
  refine lv_iload_n hx hb d_Cover_search_0 rfl (lv_at hl 3 rfl) ?_
  refine lv_aload_n hx hb d_Cover_search_1 rfl (lv_at hl 0 rfl) ?_
  refine va_get (D := G.1) (ci := 9) (v := .int b5) (C := R_Cover) (T := F_Cover) (N := 5) hx hb hts i_Cover hown hK hP 0 rfl rfl 2 (by decide) (hts _ q343) (fun _ h9 => h9) rfl d_Cover_search_2 ?_
  refine lv_icmp_gt (tgt := 24) hx hb d_Cover_search_5 (by decide) (fun hc_1 => ?_) (fun hc_1 => ?_)
  · have _nhc_1 := hc_1
    have ni_2 := (fa_lt _ _).mp hc_1
    rw [li_10] at ni_2
    have hv_3 : zI b5 (-2147483648) 9 := zI.lt_l (zI_all b5) zc_10 hc_1 (by decide)
    exact z_vret hx hb hr hlocks hP hD hS (Nat.le_of_ble_eq_true rfl) (Nat.le_of_ble_eq_true rfl) d_Cover_search_24 ⟨b4, b5, rfl, rfl⟩
  · have _nhc_1 := hc_1
    have ni_4 := (fa_le _ _).mp (zi_nlt hc_1)
    rw [li_10] at ni_4
    have hv_5 : zI b5 10 2147483647 := zI.le_r zc_10 (zI_all b5) (zi_nlt hc_1) (by decide)
    refine lv_iload_n hx hb d_Cover_search_8 rfl (lv_at hl 3 rfl) ?_
    refine lv_aload_n hx hb d_Cover_search_9 rfl (lv_at hl 0 rfl) ?_
    refine va_get (D := G.1) (ci := 9) (v := .int b5) (C := R_Cover) (T := F_Cover) (N := 5) hx hb hts i_Cover hown hK hP 0 rfl rfl 2 (by decide) (hts _ q343) (fun _ h9 => h9) rfl d_Cover_search_10 ?_
    refine lv_icmp_ne (tgt := 25) hx hb d_Cover_search_13 (by decide) (fun hc_6 => ?_) (fun hc_6 => ?_)
    · have _nhc_6 := hc_6
      have ni_7 : ¬ (10 : Int32).toInt = (b5 : Int32).toInt := fun z => hc_6 ((fa_eq _ _).mpr z)
      simp only [li_10] at ni_7
      refine lv_aload_n hx hb d_Cover_search_25 rfl (lv_at hl 0 rfl) ?_
      refine lv_iload_n hx hb d_Cover_search_26 rfl (lv_at hl 1 rfl) ?_
      refine lv_iload_n hx hb d_Cover_search_27 rfl (lv_at hl 2 rfl) ?_
      refine z_callV (index := 70) (As := [.int b1, .int b2]) (rest := []) (wr := []) Z (s1_Cover_hardest l G (b0) (b1) (b2) (b3) (b4) (b5) (b6) (b7) (b8) hb3 hb7) hl.1 q785 q787 qs21 q10 q788 ⟨by decide, by decide, by show _ = some 2; decide +kernel⟩ ⟨Nat.le_of_ble_eq_true rfl, Nat.le_of_ble_eq_true rfl⟩ ⟨Nat.le_of_ble_eq_true rfl, Nat.le_of_ble_eq_true rfl⟩ rfl (Nat.le_of_ble_eq_true rfl) d_Cover_search_28 hP hD hS hA 0 9 rfl rfl rfl [0, 1] [] rfl rfl rfl rfl (by decide) (fun v w1 H locs hw_8 hP hD hS => ?_)
      obtain ⟨x_9, rfl, rfl, hx_9⟩ := hw_8
      have hP : va_P G.1 classes [(b0, .inr (9, [.int b3, .int b4, .int b5, .ref b6, .int b7])), (b6, .inl (G.2 0, 240, .inl b8))] H := hP
      have hD := z_tie hP hD rfl
      refine W.widen (k := 0) (n := 0) (Nat.le_of_ble_eq_true rfl) (Nat.le_of_ble_eq_true rfl) ?_
      refine lv_istore (lv' := [(4, .int x_9), (0, .ref b0), (1, .int b1), (2, .int b2), (3, .int 10)]) hx hb d_Cover_search_31 hl (by decide) rfl (fun ls hl => ?_)
      refine lv_iload hx hb d_Cover_search_33 (lv_at hl 0 rfl) ?_
      refine lv_iconst (v := (-1)) hx hb d_Cover_search_35 (by decide) ?_
      refine lv_icmp_ne (tgt := 50) hx hb d_Cover_search_36 (by decide) (fun hc_10 => ?_) (fun hc_10 => ?_)
      · have _nhc_10 := hc_10
        have ni_11 : ¬ (x_9 : Int32).toInt = ((-1) : Int32).toInt := fun z => hc_10 ((fa_eq _ _).mpr z)
        simp only [li_m1] at ni_11
        have hv_12 : zI x_9 0 239 := zI.ne_lo hx_9 zc_m1 hc_10 (by decide)
        refine lv_iload_n hx hb d_Cover_search_50 rfl (lv_at hl 4 rfl) ?_
        refine lv_aload_n hx hb d_Cover_search_51 rfl (lv_at hl 1 rfl) ?_
        refine va_get (D := G.1) (ci := 9) (v := .int b5) (C := R_Cover) (T := F_Cover) (N := 5) hx hb hts i_Cover hown hK hP 0 rfl rfl 2 (by decide) (hts _ q343) (fun _ h9 => h9) rfl d_Cover_search_52 ?_
        refine lv_icmp_ge (tgt := 64) hx hb d_Cover_search_55 (by decide) (fun hc_13 => ?_) (fun hc_13 => ?_)
        · have _nhc_13 := hc_13
          have ni_14 := (fa_le _ _).mp hc_13
          rw [li_10] at ni_14
          have hv_15 : zI b5 10 10 := zI.le_l hv_5 zc_10 hc_13 (by decide)
          exact z_vret hx hb hr hlocks hP hD hS (Nat.le_of_ble_eq_true rfl) (Nat.le_of_ble_eq_true rfl) d_Cover_search_64 ⟨b4, b5, rfl, rfl⟩
        · have _nhc_13 := hc_13
          have ni_16 := (fa_lt _ _).mp (zi_nle hc_13)
          rw [li_10] at ni_16
          have hv_17 : zI b5 11 2147483647 := zI.lt_r zc_10 hv_5 (zi_nle hc_13) (by decide)
          refine lv_iload_n hx hb d_Cover_search_58 rfl (lv_at hl 4 rfl) ?_
          refine lv_bipush (v := 20) hx hb d_Cover_search_59 (by decide) ?_
          refine lv_icmp_lt (tgt := 65) hx hb d_Cover_search_61 (by decide) (fun _ => ?_) (fun hc => absurd hc (by decide +kernel))
          refine lv_iload_n hx hb d_Cover_search_65 rfl (lv_at hl 3 rfl) ?_
          refine lv_istore (lv' := [(5, .int b2), (4, .int x_9), (0, .ref b0), (1, .int b1), (2, .int b2), (3, .int 10)]) hx hb d_Cover_search_66 hl (by decide) rfl (fun ls hl => ?_)
          refine lv_aload_n hx hb d_Cover_search_68 rfl (lv_at hl 2 rfl) ?_
          refine va_get (D := G.1) (ci := 9) (v := .ref b6) (C := R_Cover) (T := F_Cover) (N := 5) hx hb hts i_Cover hown hK hP 0 rfl rfl 3 (by decide) (hts _ q344) (fun _ h9 => h9) rfl d_Cover_search_69 ?_
          refine lv_iload hx hb d_Cover_search_72 (lv_at hl 1 rfl) ?_
          refine va_iald hx hb hK hP 1 0 rfl rfl (zI.inn hv_12 (by decide)) d_Cover_search_74 ?_
          refine lv_topi (fun v_18 ev_18 => ?_)
          refine lv_iload_n hx hb d_Cover_search_75 rfl (lv_at hl 4 rfl) ?_
          refine lv_iconst (v := (-1)) hx hb d_Cover_search_76 (by decide) ?_
          refine lv_ixor hx hb d_Cover_search_77 ?_
          refine lv_topi (fun v_19 ev_19 => ?_)
          refine lv_iand hx hb d_Cover_search_78 ?_
          refine lv_topi (fun v_20 ev_20 => ?_)
          refine lv_istore (lv' := [(6, .int v_20), (5, .int b2), (4, .int x_9), (0, .ref b0), (1, .int b1), (2, .int b2), (3, .int 10)]) hx hb d_Cover_search_79 hl (by decide) rfl (fun ls hl => ?_)
          suffices key : ∀ (k_38 : Nat) (y_39 : Int32) (y_40 : Int32) (y_41 : Int32) (y_42 : Int32) (H : Heap) (locs : List Loc) (ls : Array Slot), (y_39).toBitVec.toNat < k_38 → va_P G.1 classes [(b0, .inr (9, [.int b3, .int y_41, .int y_42, .ref b6, .int b7])), (b6, .inl (G.2 0, 240, .inl b8))] H → va_D A [(b0, .inr (9, [.int b3, .int y_41, .int y_42, .ref b6, .int b7])), (b6, .inl (G.2 0, 240, .inl b8))] → va_S A s.heap H locs → lv_has ls 8 [(6, .int y_39), (5, .int y_40), (4, .int x_9), (0, .ref b0), (1, .int b1), (2, .int b2), (3, .int 10)] → W p l e m_s11_Cover_search s m ([.ref b0, .int b1, .int b2, .int 10] : List Value).toArray below meth c H locs 0 0 (MQ below (zQ G (fun v w => ∃ (e0 : Int32), ∃ (e1 : Int32), v = none ∧ w = [(b0, .inr (9, [.int b3, .int e0, .int e1, .ref b6, .int b7])), (b6, .inl (G.2 0, 240, .inl b8))]) A) ([.ref b0, .int b1, .int b2, .int 10] : List Value).toArray s m_s11_Cover_search.cells m_s11_Cover_search.slots A) (F0 m 81 ls []) by
            exact key 4294967296 (v_20) (b2) (b4) (b5) _ _ _  (Nat.lt_of_lt_of_le (v_20).toBitVec.isLt (by decide)) hP hD hS (lv_sub hl [0, 1, 2, 3, 4, 5, 6] rfl)
          intro k_38
          induction k_38 with
          | zero =>
            intro y_39 y_40 y_41 y_42 H locs ls hmk_38 hP hD hS hl
            exfalso; omega
          | succ k_38 ihk_38 =>
            intro y_39 y_40 y_41 y_42 H locs ls hmk_38 hP hD hS hl
            refine lv_iload hx hb d_Cover_search_81 (lv_at hl 0 rfl) ?_
            refine lv_if_eq (tgt := 126) hx hb d_Cover_search_83 (by decide) (fun hc_43 => ?_) (fun hc_43 => ?_)
            · have _nhc_43 := hc_43
              have ni_44 := (fa_eq _ _).mp hc_43
              rw [li_0] at ni_44
              have hv_45 : zI y_39 0 0 := zI.eq_l (zI_all y_39) zc_0 hc_43
              exact z_vret hx hb hr hlocks hP hD hS (Nat.le_of_ble_eq_true rfl) (Nat.le_of_ble_eq_true rfl) d_Cover_search_126 ⟨y_41, y_42, rfl, rfl⟩
            · have _nhc_43 := hc_43
              have ni_46 : ¬ (y_39 : Int32).toInt = (0 : Int32).toInt := fun z => hc_43 ((fa_eq _ _).mpr z)
              simp only [li_0] at ni_46
              refine lv_iload hx hb d_Cover_search_86 (lv_at hl 0 rfl) ?_
              refine lv_iload hx hb d_Cover_search_88 (lv_at hl 0 rfl) ?_
              refine lv_ineg hx hb d_Cover_search_90 ?_
              refine lv_topi (fun v_47 ev_47 => ?_)
              refine lv_iand hx hb d_Cover_search_91 ?_
              refine lv_topi (fun v_48 ev_48 => ?_)
              refine lv_istore (lv' := [(7, .int v_48), (6, .int y_39), (5, .int y_40), (4, .int x_9), (0, .ref b0), (1, .int b1), (2, .int b2), (3, .int 10)]) hx hb d_Cover_search_92 hl (by decide) rfl (fun ls hl => ?_)
              refine lv_aload_n hx hb d_Cover_search_94 rfl (lv_at hl 4 rfl) ?_
              refine lv_iload_n hx hb d_Cover_search_95 rfl (lv_at hl 5 rfl) ?_
              refine lv_iload hx hb d_Cover_search_96 (lv_at hl 0 rfl) ?_
              refine lv_ior hx hb d_Cover_search_98 ?_
              refine lv_topi (fun v_49 ev_49 => ?_)
              refine lv_iload hx hb d_Cover_search_99 (lv_at hl 2 rfl) ?_
              refine lv_iload_n hx hb d_Cover_search_101 rfl (lv_at hl 7 rfl) ?_
              refine lv_iconst (v := 1) hx hb d_Cover_search_102 (by decide) ?_
              refine lv_iadd hx hb d_Cover_search_103 ?_
              refine z_topi (y := 11) (by decide +kernel) ?_
              refine z_callV (index := 38) (As := [.int v_49, .int y_40, .int 11]) (rest := []) (wr := []) Z (s10_Cover_search l G (b0) (v_49) (y_40) (b3) (y_41) (y_42) (b6) (b7) (b8) hb3 hb7) hl.1 q781 q783 qs20 q10 q784 ⟨by decide, by decide, by show _ = some 3; decide +kernel⟩ ⟨Nat.le_of_ble_eq_true rfl, Nat.le_of_ble_eq_true rfl⟩ ⟨Nat.le_of_ble_eq_true rfl, Nat.le_of_ble_eq_true rfl⟩ rfl (Nat.le_of_ble_eq_true rfl) d_Cover_search_104 hP hD hS hA 0 9 rfl rfl rfl [0, 1] [] rfl rfl rfl rfl (by decide) (fun v w1 H locs hw_50 hP hD hS => ?_)
              obtain ⟨x_51, x_52, rfl, rfl⟩ := hw_50
              have hP : va_P G.1 classes [(b0, .inr (9, [.int b3, .int x_51, .int x_52, .ref b6, .int b7])), (b6, .inl (G.2 0, 240, .inl b8))] H := hP
              have hD := z_tie hP hD rfl
              refine W.widen (k := 0) (n := 0) (Nat.le_of_ble_eq_true rfl) (Nat.le_of_ble_eq_true rfl) ?_
              refine lv_iload hx hb d_Cover_search_107 (lv_at hl 2 rfl) ?_
              refine lv_iload hx hb d_Cover_search_109 (lv_at hl 0 rfl) ?_
              refine lv_ior hx hb d_Cover_search_111 ?_
              refine lv_topi (fun v_53 ev_53 => ?_)
              refine lv_istore (lv' := [(5, .int v_53), (7, .int v_48), (6, .int y_39), (4, .int x_9), (0, .ref b0), (1, .int b1), (2, .int b2), (3, .int 10)]) hx hb d_Cover_search_112 hl (by decide) rfl (fun ls hl => ?_)
              refine lv_iload hx hb d_Cover_search_114 (lv_at hl 2 rfl) ?_
              refine lv_iload hx hb d_Cover_search_116 (lv_at hl 2 rfl) ?_
              refine lv_iconst (v := 1) hx hb d_Cover_search_118 (by decide) ?_
              refine lv_isub hx hb d_Cover_search_119 ?_
              refine lv_topi (fun v_54 ev_54 => ?_)
              refine lv_iand hx hb d_Cover_search_120 ?_
              refine lv_topi (fun v_55 ev_55 => ?_)
              refine lv_istore (lv' := [(6, .int v_55), (5, .int v_53), (7, .int v_48), (4, .int x_9), (0, .ref b0), (1, .int b1), (2, .int b2), (3, .int 10)]) hx hb d_Cover_search_121 hl (by decide) rfl (fun ls hl => ?_)
              refine lv_goto (tgt := 81) hx hb d_Cover_search_123 (by decide) ?_
              exact ihk_38 (v_55) (v_53) (x_51) (x_52) _ _ _  (z_dec32 ev_54 ev_55 (by omega) hmk_38) hP hD hS (lv_sub hl [0, 1, 3, 4, 5, 6, 7] rfl)
      · have _nhc_10 := hc_10
        have ni_56 := (fa_eq _ _).mp hc_10
        rw [li_m1] at ni_56
        have hv_57 : zI x_9 (-1) (-1) := zI.eq_l hx_9 zc_m1 hc_10
        refine lv_aload_n hx hb d_Cover_search_39 rfl (lv_at hl 1 rfl) ?_
        refine lv_iload_n hx hb d_Cover_search_40 rfl (lv_at hl 2 rfl) ?_
        refine va_put (D := G.1) (ci := 9) (v := .int b1) (ty := .int) (C := R_Cover) (T := F_Cover) (N := 5) hx hb hts i_Cover t_Cover t_Cover_ok n_Cover hown hK hP hD hS 0 rfl rfl 1 (by decide) (hts _ q341) (fun _ h9 => h9) rfl (by decide +kernel) rfl rfl (Nat.le_of_ble_eq_true rfl) d_Cover_search_41 (fun H locs hP hD hS => ?_)
        have hP : va_P G.1 classes [(b0, .inr (9, [.int b3, .int b1, .int b5, .ref b6, .int b7])), (b6, .inl (G.2 0, 240, .inl b8))] H := hP
        have hD := z_tie hP hD rfl
        refine lv_aload_n hx hb d_Cover_search_44 rfl (lv_at hl 1 rfl) ?_
        refine lv_iload_n hx hb d_Cover_search_45 rfl (lv_at hl 4 rfl) ?_
        refine va_put (D := G.1) (ci := 9) (v := .int 10) (ty := .int) (C := R_Cover) (T := F_Cover) (N := 5) hx hb hts i_Cover t_Cover t_Cover_ok n_Cover hown hK hP hD hS 0 rfl rfl 2 (by decide) (hts _ q343) (fun _ h9 => h9) rfl (by decide +kernel) rfl rfl (Nat.le_of_ble_eq_true rfl) d_Cover_search_46 (fun H locs hP hD hS => ?_)
        have hP : va_P G.1 classes [(b0, .inr (9, [.int b3, .int b1, .int 10, .ref b6, .int b7])), (b6, .inl (G.2 0, 240, .inl b8))] H := hP
        have hD := z_tie hP hD rfl
        exact z_vret hx hb hr hlocks hP hD hS (Nat.le_of_ble_eq_true rfl) (Nat.le_of_ble_eq_true rfl) d_Cover_search_49 ⟨b1, 10, rfl, rfl⟩
    · have _nhc_6 := hc_6
      have ni_58 := (fa_eq _ _).mp hc_6
      rw [li_10] at ni_58
      have hv_59 : zI b5 10 10 := zI.eq_l hv_5 zc_10 hc_6.symm
      refine lv_iload_n hx hb d_Cover_search_16 rfl (lv_at hl 1 rfl) ?_
      refine lv_aload_n hx hb d_Cover_search_17 rfl (lv_at hl 0 rfl) ?_
      refine va_get (D := G.1) (ci := 9) (v := .int b4) (C := R_Cover) (T := F_Cover) (N := 5) hx hb hts i_Cover hown hK hP 0 rfl rfl 1 (by decide) (hts _ q341) (fun _ h9 => h9) rfl d_Cover_search_18 ?_
      refine lv_icmp_lt (tgt := 25) hx hb d_Cover_search_21 (by decide) (fun hc_60 => ?_) (fun hc_60 => ?_)
      · have _nhc_60 := hc_60
        have ni_61 := (fa_lt _ _).mp hc_60
        have hv_62 : zI b1 (-2147483648) 2147483646 := zI.lt_l (zI_all b1) (zI_all b4) hc_60 (by decide)
        have hv_63 : zI b4 (-2147483647) 2147483647 := zI.lt_r (zI_all b1) (zI_all b4) hc_60 (by decide)
        refine lv_aload_n hx hb d_Cover_search_25 rfl (lv_at hl 0 rfl) ?_
        refine lv_iload_n hx hb d_Cover_search_26 rfl (lv_at hl 1 rfl) ?_
        refine lv_iload_n hx hb d_Cover_search_27 rfl (lv_at hl 2 rfl) ?_
        refine z_callV (index := 70) (As := [.int b1, .int b2]) (rest := []) (wr := []) Z (s1_Cover_hardest l G (b0) (b1) (b2) (b3) (b4) (b5) (b6) (b7) (b8) hb3 hb7) hl.1 q785 q787 qs21 q10 q788 ⟨by decide, by decide, by show _ = some 2; decide +kernel⟩ ⟨Nat.le_of_ble_eq_true rfl, Nat.le_of_ble_eq_true rfl⟩ ⟨Nat.le_of_ble_eq_true rfl, Nat.le_of_ble_eq_true rfl⟩ rfl (Nat.le_of_ble_eq_true rfl) d_Cover_search_28 hP hD hS hA 0 9 rfl rfl rfl [0, 1] [] rfl rfl rfl rfl (by decide) (fun v w1 H locs hw_64 hP hD hS => ?_)
        obtain ⟨x_65, rfl, rfl, hx_65⟩ := hw_64
        have hP : va_P G.1 classes [(b0, .inr (9, [.int b3, .int b4, .int b5, .ref b6, .int b7])), (b6, .inl (G.2 0, 240, .inl b8))] H := hP
        have hD := z_tie hP hD rfl
        refine W.widen (k := 0) (n := 0) (Nat.le_of_ble_eq_true rfl) (Nat.le_of_ble_eq_true rfl) ?_
        refine lv_istore (lv' := [(4, .int x_65), (0, .ref b0), (1, .int b1), (2, .int b2), (3, .int 10)]) hx hb d_Cover_search_31 hl (by decide) rfl (fun ls hl => ?_)
        refine lv_iload hx hb d_Cover_search_33 (lv_at hl 0 rfl) ?_
        refine lv_iconst (v := (-1)) hx hb d_Cover_search_35 (by decide) ?_
        refine lv_icmp_ne (tgt := 50) hx hb d_Cover_search_36 (by decide) (fun hc_66 => ?_) (fun hc_66 => ?_)
        · have _nhc_66 := hc_66
          have ni_67 : ¬ (x_65 : Int32).toInt = ((-1) : Int32).toInt := fun z => hc_66 ((fa_eq _ _).mpr z)
          simp only [li_m1] at ni_67
          have hv_68 : zI x_65 0 239 := zI.ne_lo hx_65 zc_m1 hc_66 (by decide)
          refine lv_iload_n hx hb d_Cover_search_50 rfl (lv_at hl 4 rfl) ?_
          refine lv_aload_n hx hb d_Cover_search_51 rfl (lv_at hl 1 rfl) ?_
          refine va_get (D := G.1) (ci := 9) (v := .int b5) (C := R_Cover) (T := F_Cover) (N := 5) hx hb hts i_Cover hown hK hP 0 rfl rfl 2 (by decide) (hts _ q343) (fun _ h9 => h9) rfl d_Cover_search_52 ?_
          refine lv_icmp_ge (tgt := 64) hx hb d_Cover_search_55 (by decide) (fun _ => ?_) (fun hc => zI.no_lt zc_10 hv_59 (zi_nle hc) (by decide))
          exact z_vret hx hb hr hlocks hP hD hS (Nat.le_of_ble_eq_true rfl) (Nat.le_of_ble_eq_true rfl) d_Cover_search_64 ⟨b4, b5, rfl, rfl⟩
        · have _nhc_66 := hc_66
          have ni_69 := (fa_eq _ _).mp hc_66
          rw [li_m1] at ni_69
          have hv_70 : zI x_65 (-1) (-1) := zI.eq_l hx_65 zc_m1 hc_66
          refine lv_aload_n hx hb d_Cover_search_39 rfl (lv_at hl 1 rfl) ?_
          refine lv_iload_n hx hb d_Cover_search_40 rfl (lv_at hl 2 rfl) ?_
          refine va_put (D := G.1) (ci := 9) (v := .int b1) (ty := .int) (C := R_Cover) (T := F_Cover) (N := 5) hx hb hts i_Cover t_Cover t_Cover_ok n_Cover hown hK hP hD hS 0 rfl rfl 1 (by decide) (hts _ q341) (fun _ h9 => h9) rfl (by decide +kernel) rfl rfl (Nat.le_of_ble_eq_true rfl) d_Cover_search_41 (fun H locs hP hD hS => ?_)
          have hP : va_P G.1 classes [(b0, .inr (9, [.int b3, .int b1, .int b5, .ref b6, .int b7])), (b6, .inl (G.2 0, 240, .inl b8))] H := hP
          have hD := z_tie hP hD rfl
          refine lv_aload_n hx hb d_Cover_search_44 rfl (lv_at hl 1 rfl) ?_
          refine lv_iload_n hx hb d_Cover_search_45 rfl (lv_at hl 4 rfl) ?_
          refine va_put (D := G.1) (ci := 9) (v := .int 10) (ty := .int) (C := R_Cover) (T := F_Cover) (N := 5) hx hb hts i_Cover t_Cover t_Cover_ok n_Cover hown hK hP hD hS 0 rfl rfl 2 (by decide) (hts _ q343) (fun _ h9 => h9) rfl (by decide +kernel) rfl rfl (Nat.le_of_ble_eq_true rfl) d_Cover_search_46 (fun H locs hP hD hS => ?_)
          have hP : va_P G.1 classes [(b0, .inr (9, [.int b3, .int b1, .int 10, .ref b6, .int b7])), (b6, .inl (G.2 0, 240, .inl b8))] H := hP
          have hD := z_tie hP hD rfl
          exact z_vret hx hb hr hlocks hP hD hS (Nat.le_of_ble_eq_true rfl) (Nat.le_of_ble_eq_true rfl) d_Cover_search_49 ⟨b1, 10, rfl, rfl⟩
      · have _nhc_60 := hc_60
        have ni_71 := (fa_le _ _).mp (zi_nlt hc_60)
        exact z_vret hx hb hr hlocks hP hD hS (Nat.le_of_ble_eq_true rfl) (Nat.le_of_ble_eq_true rfl) d_Cover_search_24 ⟨b4, b5, rfl, rfl⟩
abbrev m_s12_Cover_search : Room := { frames := 13, cells := 0, slots := 0, locals := 343 }
set_option maxHeartbeats 4000000 in
set_option maxRecDepth 100000 in
theorem s12_Cover_search (l : Launch) (G : zG) (b0 : Nat) (b1 : Int32) (b2 : Int32) (b3 : Int32) (b4 : Int32) (b5 : Int32) (b6 : Nat) (b7 : Int32) (b8 : Nat → Int32) (hb3 : zI b3 0 1) (hb7 : zI b7 0 240) : zM l G y_Cover_search prog_2_method_6_code 8 (Option.none : Option Jvm.ClassFile.FieldType) m_s12_Cover_search [.ref b0, .int b1, .int b2, .int 9] [(b0, .inr (9, [.int b3, .int b4, .int b5, .ref b6, .int b7])), (b6, .inl (G.2 0, 240, .inl b8))] (fun v w => ∃ (e0 : Int32), ∃ (e1 : Int32), v = none ∧ w = [(b0, .inr (9, [.int b3, .int e0, .int e1, .ref b6, .int b7])), (b6, .inl (G.2 0, 240, .inl b8))]) := by
  refine z_start (by decide +kernel) (Nat.le_of_ble_eq_true rfl) ?_
  intro p e s m below meth c A Z hr hnm hA hP hD hS ls hl
  have Z : zC p s m _ meth c prog_2_method_6_code 8 "TraceMachines$Cover" G := Z
  obtain ⟨hx, hb, hml, hown, hts, hK, hN, hlocks⟩ := id Z
  have hl : lv_has ls 8 [(0, .ref b0), (1, .int b1), (2, .int b2), (3, .int 9)] := hl
  refine lv_iload_n hx hb d_Cover_search_0 rfl (lv_at hl 3 rfl) ?_
  refine lv_aload_n hx hb d_Cover_search_1 rfl (lv_at hl 0 rfl) ?_
  refine va_get (D := G.1) (ci := 9) (v := .int b5) (C := R_Cover) (T := F_Cover) (N := 5) hx hb hts i_Cover hown hK hP 0 rfl rfl 2 (by decide) (hts _ q343) (fun _ h9 => h9) rfl d_Cover_search_2 ?_
  refine lv_icmp_gt (tgt := 24) hx hb d_Cover_search_5 (by decide) (fun hc_1 => ?_) (fun hc_1 => ?_)
  · have _nhc_1 := hc_1
    have ni_2 := (fa_lt _ _).mp hc_1
    rw [li_9] at ni_2
    have hv_3 : zI b5 (-2147483648) 8 := zI.lt_l (zI_all b5) zc_9 hc_1 (by decide)
    exact z_vret hx hb hr hlocks hP hD hS (Nat.le_of_ble_eq_true rfl) (Nat.le_of_ble_eq_true rfl) d_Cover_search_24 ⟨b4, b5, rfl, rfl⟩
  · have _nhc_1 := hc_1
    have ni_4 := (fa_le _ _).mp (zi_nlt hc_1)
    rw [li_9] at ni_4
    have hv_5 : zI b5 9 2147483647 := zI.le_r zc_9 (zI_all b5) (zi_nlt hc_1) (by decide)
    refine lv_iload_n hx hb d_Cover_search_8 rfl (lv_at hl 3 rfl) ?_
    refine lv_aload_n hx hb d_Cover_search_9 rfl (lv_at hl 0 rfl) ?_
    refine va_get (D := G.1) (ci := 9) (v := .int b5) (C := R_Cover) (T := F_Cover) (N := 5) hx hb hts i_Cover hown hK hP 0 rfl rfl 2 (by decide) (hts _ q343) (fun _ h9 => h9) rfl d_Cover_search_10 ?_
    refine lv_icmp_ne (tgt := 25) hx hb d_Cover_search_13 (by decide) (fun hc_6 => ?_) (fun hc_6 => ?_)
    · have _nhc_6 := hc_6
      have ni_7 : ¬ (9 : Int32).toInt = (b5 : Int32).toInt := fun z => hc_6 ((fa_eq _ _).mpr z)
      simp only [li_9] at ni_7
      refine lv_aload_n hx hb d_Cover_search_25 rfl (lv_at hl 0 rfl) ?_
      refine lv_iload_n hx hb d_Cover_search_26 rfl (lv_at hl 1 rfl) ?_
      refine lv_iload_n hx hb d_Cover_search_27 rfl (lv_at hl 2 rfl) ?_
      refine z_callV (index := 70) (As := [.int b1, .int b2]) (rest := []) (wr := []) Z (s1_Cover_hardest l G (b0) (b1) (b2) (b3) (b4) (b5) (b6) (b7) (b8) hb3 hb7) hl.1 q785 q787 qs21 q10 q788 ⟨by decide, by decide, by show _ = some 2; decide +kernel⟩ ⟨Nat.le_of_ble_eq_true rfl, Nat.le_of_ble_eq_true rfl⟩ ⟨Nat.le_of_ble_eq_true rfl, Nat.le_of_ble_eq_true rfl⟩ rfl (Nat.le_of_ble_eq_true rfl) d_Cover_search_28 hP hD hS hA 0 9 rfl rfl rfl [0, 1] [] rfl rfl rfl rfl (by decide) (fun v w1 H locs hw_8 hP hD hS => ?_)
      obtain ⟨x_9, rfl, rfl, hx_9⟩ := hw_8
      have hP : va_P G.1 classes [(b0, .inr (9, [.int b3, .int b4, .int b5, .ref b6, .int b7])), (b6, .inl (G.2 0, 240, .inl b8))] H := hP
      have hD := z_tie hP hD rfl
      refine W.widen (k := 0) (n := 0) (Nat.le_of_ble_eq_true rfl) (Nat.le_of_ble_eq_true rfl) ?_
      refine lv_istore (lv' := [(4, .int x_9), (0, .ref b0), (1, .int b1), (2, .int b2), (3, .int 9)]) hx hb d_Cover_search_31 hl (by decide) rfl (fun ls hl => ?_)
      refine lv_iload hx hb d_Cover_search_33 (lv_at hl 0 rfl) ?_
      refine lv_iconst (v := (-1)) hx hb d_Cover_search_35 (by decide) ?_
      refine lv_icmp_ne (tgt := 50) hx hb d_Cover_search_36 (by decide) (fun hc_10 => ?_) (fun hc_10 => ?_)
      · have _nhc_10 := hc_10
        have ni_11 : ¬ (x_9 : Int32).toInt = ((-1) : Int32).toInt := fun z => hc_10 ((fa_eq _ _).mpr z)
        simp only [li_m1] at ni_11
        have hv_12 : zI x_9 0 239 := zI.ne_lo hx_9 zc_m1 hc_10 (by decide)
        refine lv_iload_n hx hb d_Cover_search_50 rfl (lv_at hl 4 rfl) ?_
        refine lv_aload_n hx hb d_Cover_search_51 rfl (lv_at hl 1 rfl) ?_
        refine va_get (D := G.1) (ci := 9) (v := .int b5) (C := R_Cover) (T := F_Cover) (N := 5) hx hb hts i_Cover hown hK hP 0 rfl rfl 2 (by decide) (hts _ q343) (fun _ h9 => h9) rfl d_Cover_search_52 ?_
        refine lv_icmp_ge (tgt := 64) hx hb d_Cover_search_55 (by decide) (fun hc_13 => ?_) (fun hc_13 => ?_)
        · have _nhc_13 := hc_13
          have ni_14 := (fa_le _ _).mp hc_13
          rw [li_9] at ni_14
          have hv_15 : zI b5 9 9 := zI.le_l hv_5 zc_9 hc_13 (by decide)
          exact z_vret hx hb hr hlocks hP hD hS (Nat.le_of_ble_eq_true rfl) (Nat.le_of_ble_eq_true rfl) d_Cover_search_64 ⟨b4, b5, rfl, rfl⟩
        · have _nhc_13 := hc_13
          have ni_16 := (fa_lt _ _).mp (zi_nle hc_13)
          rw [li_9] at ni_16
          have hv_17 : zI b5 10 2147483647 := zI.lt_r zc_9 hv_5 (zi_nle hc_13) (by decide)
          refine lv_iload_n hx hb d_Cover_search_58 rfl (lv_at hl 4 rfl) ?_
          refine lv_bipush (v := 20) hx hb d_Cover_search_59 (by decide) ?_
          refine lv_icmp_lt (tgt := 65) hx hb d_Cover_search_61 (by decide) (fun _ => ?_) (fun hc => absurd hc (by decide +kernel))
          refine lv_iload_n hx hb d_Cover_search_65 rfl (lv_at hl 3 rfl) ?_
          refine lv_istore (lv' := [(5, .int b2), (4, .int x_9), (0, .ref b0), (1, .int b1), (2, .int b2), (3, .int 9)]) hx hb d_Cover_search_66 hl (by decide) rfl (fun ls hl => ?_)
          refine lv_aload_n hx hb d_Cover_search_68 rfl (lv_at hl 2 rfl) ?_
          refine va_get (D := G.1) (ci := 9) (v := .ref b6) (C := R_Cover) (T := F_Cover) (N := 5) hx hb hts i_Cover hown hK hP 0 rfl rfl 3 (by decide) (hts _ q344) (fun _ h9 => h9) rfl d_Cover_search_69 ?_
          refine lv_iload hx hb d_Cover_search_72 (lv_at hl 1 rfl) ?_
          refine va_iald hx hb hK hP 1 0 rfl rfl (zI.inn hv_12 (by decide)) d_Cover_search_74 ?_
          refine lv_topi (fun v_18 ev_18 => ?_)
          refine lv_iload_n hx hb d_Cover_search_75 rfl (lv_at hl 4 rfl) ?_
          refine lv_iconst (v := (-1)) hx hb d_Cover_search_76 (by decide) ?_
          refine lv_ixor hx hb d_Cover_search_77 ?_
          refine lv_topi (fun v_19 ev_19 => ?_)
          refine lv_iand hx hb d_Cover_search_78 ?_
          refine lv_topi (fun v_20 ev_20 => ?_)
          refine lv_istore (lv' := [(6, .int v_20), (5, .int b2), (4, .int x_9), (0, .ref b0), (1, .int b1), (2, .int b2), (3, .int 9)]) hx hb d_Cover_search_79 hl (by decide) rfl (fun ls hl => ?_)
          suffices key : ∀ (k_38 : Nat) (y_39 : Int32) (y_40 : Int32) (y_41 : Int32) (y_42 : Int32) (H : Heap) (locs : List Loc) (ls : Array Slot), (y_39).toBitVec.toNat < k_38 → va_P G.1 classes [(b0, .inr (9, [.int b3, .int y_41, .int y_42, .ref b6, .int b7])), (b6, .inl (G.2 0, 240, .inl b8))] H → va_D A [(b0, .inr (9, [.int b3, .int y_41, .int y_42, .ref b6, .int b7])), (b6, .inl (G.2 0, 240, .inl b8))] → va_S A s.heap H locs → lv_has ls 8 [(6, .int y_39), (5, .int y_40), (4, .int x_9), (0, .ref b0), (1, .int b1), (2, .int b2), (3, .int 9)] → W p l e m_s12_Cover_search s m ([.ref b0, .int b1, .int b2, .int 9] : List Value).toArray below meth c H locs 0 0 (MQ below (zQ G (fun v w => ∃ (e0 : Int32), ∃ (e1 : Int32), v = none ∧ w = [(b0, .inr (9, [.int b3, .int e0, .int e1, .ref b6, .int b7])), (b6, .inl (G.2 0, 240, .inl b8))]) A) ([.ref b0, .int b1, .int b2, .int 9] : List Value).toArray s m_s12_Cover_search.cells m_s12_Cover_search.slots A) (F0 m 81 ls []) by
            exact key 4294967296 (v_20) (b2) (b4) (b5) _ _ _  (Nat.lt_of_lt_of_le (v_20).toBitVec.isLt (by decide)) hP hD hS (lv_sub hl [0, 1, 2, 3, 4, 5, 6] rfl)
          intro k_38
          induction k_38 with
          | zero =>
            intro y_39 y_40 y_41 y_42 H locs ls hmk_38 hP hD hS hl
            exfalso; omega
          | succ k_38 ihk_38 =>
            intro y_39 y_40 y_41 y_42 H locs ls hmk_38 hP hD hS hl
            refine lv_iload hx hb d_Cover_search_81 (lv_at hl 0 rfl) ?_
            refine lv_if_eq (tgt := 126) hx hb d_Cover_search_83 (by decide) (fun hc_43 => ?_) (fun hc_43 => ?_)
            · have _nhc_43 := hc_43
              have ni_44 := (fa_eq _ _).mp hc_43
              rw [li_0] at ni_44
              have hv_45 : zI y_39 0 0 := zI.eq_l (zI_all y_39) zc_0 hc_43
              exact z_vret hx hb hr hlocks hP hD hS (Nat.le_of_ble_eq_true rfl) (Nat.le_of_ble_eq_true rfl) d_Cover_search_126 ⟨y_41, y_42, rfl, rfl⟩
            · have _nhc_43 := hc_43
              have ni_46 : ¬ (y_39 : Int32).toInt = (0 : Int32).toInt := fun z => hc_43 ((fa_eq _ _).mpr z)
              simp only [li_0] at ni_46
              refine lv_iload hx hb d_Cover_search_86 (lv_at hl 0 rfl) ?_
              refine lv_iload hx hb d_Cover_search_88 (lv_at hl 0 rfl) ?_
              refine lv_ineg hx hb d_Cover_search_90 ?_
              refine lv_topi (fun v_47 ev_47 => ?_)
              refine lv_iand hx hb d_Cover_search_91 ?_
              refine lv_topi (fun v_48 ev_48 => ?_)
              refine lv_istore (lv' := [(7, .int v_48), (6, .int y_39), (5, .int y_40), (4, .int x_9), (0, .ref b0), (1, .int b1), (2, .int b2), (3, .int 9)]) hx hb d_Cover_search_92 hl (by decide) rfl (fun ls hl => ?_)
              refine lv_aload_n hx hb d_Cover_search_94 rfl (lv_at hl 4 rfl) ?_
              refine lv_iload_n hx hb d_Cover_search_95 rfl (lv_at hl 5 rfl) ?_
              refine lv_iload hx hb d_Cover_search_96 (lv_at hl 0 rfl) ?_
              refine lv_ior hx hb d_Cover_search_98 ?_
              refine lv_topi (fun v_49 ev_49 => ?_)
              refine lv_iload hx hb d_Cover_search_99 (lv_at hl 2 rfl) ?_
              refine lv_iload_n hx hb d_Cover_search_101 rfl (lv_at hl 7 rfl) ?_
              refine lv_iconst (v := 1) hx hb d_Cover_search_102 (by decide) ?_
              refine lv_iadd hx hb d_Cover_search_103 ?_
              refine z_topi (y := 10) (by decide +kernel) ?_
              refine z_callV (index := 38) (As := [.int v_49, .int y_40, .int 10]) (rest := []) (wr := []) Z (s11_Cover_search l G (b0) (v_49) (y_40) (b3) (y_41) (y_42) (b6) (b7) (b8) hb3 hb7) hl.1 q781 q783 qs20 q10 q784 ⟨by decide, by decide, by show _ = some 3; decide +kernel⟩ ⟨Nat.le_of_ble_eq_true rfl, Nat.le_of_ble_eq_true rfl⟩ ⟨Nat.le_of_ble_eq_true rfl, Nat.le_of_ble_eq_true rfl⟩ rfl (Nat.le_of_ble_eq_true rfl) d_Cover_search_104 hP hD hS hA 0 9 rfl rfl rfl [0, 1] [] rfl rfl rfl rfl (by decide) (fun v w1 H locs hw_50 hP hD hS => ?_)
              obtain ⟨x_51, x_52, rfl, rfl⟩ := hw_50
              have hP : va_P G.1 classes [(b0, .inr (9, [.int b3, .int x_51, .int x_52, .ref b6, .int b7])), (b6, .inl (G.2 0, 240, .inl b8))] H := hP
              have hD := z_tie hP hD rfl
              refine W.widen (k := 0) (n := 0) (Nat.le_of_ble_eq_true rfl) (Nat.le_of_ble_eq_true rfl) ?_
              refine lv_iload hx hb d_Cover_search_107 (lv_at hl 2 rfl) ?_
              refine lv_iload hx hb d_Cover_search_109 (lv_at hl 0 rfl) ?_
              refine lv_ior hx hb d_Cover_search_111 ?_
              refine lv_topi (fun v_53 ev_53 => ?_)
              refine lv_istore (lv' := [(5, .int v_53), (7, .int v_48), (6, .int y_39), (4, .int x_9), (0, .ref b0), (1, .int b1), (2, .int b2), (3, .int 9)]) hx hb d_Cover_search_112 hl (by decide) rfl (fun ls hl => ?_)
              refine lv_iload hx hb d_Cover_search_114 (lv_at hl 2 rfl) ?_
              refine lv_iload hx hb d_Cover_search_116 (lv_at hl 2 rfl) ?_
              refine lv_iconst (v := 1) hx hb d_Cover_search_118 (by decide) ?_
              refine lv_isub hx hb d_Cover_search_119 ?_
              refine lv_topi (fun v_54 ev_54 => ?_)
              refine lv_iand hx hb d_Cover_search_120 ?_
              refine lv_topi (fun v_55 ev_55 => ?_)
              refine lv_istore (lv' := [(6, .int v_55), (5, .int v_53), (7, .int v_48), (4, .int x_9), (0, .ref b0), (1, .int b1), (2, .int b2), (3, .int 9)]) hx hb d_Cover_search_121 hl (by decide) rfl (fun ls hl => ?_)
              refine lv_goto (tgt := 81) hx hb d_Cover_search_123 (by decide) ?_
              exact ihk_38 (v_55) (v_53) (x_51) (x_52) _ _ _  (z_dec32 ev_54 ev_55 (by omega) hmk_38) hP hD hS (lv_sub hl [0, 1, 3, 4, 5, 6, 7] rfl)
      · have _nhc_10 := hc_10
        have ni_56 := (fa_eq _ _).mp hc_10
        rw [li_m1] at ni_56
        have hv_57 : zI x_9 (-1) (-1) := zI.eq_l hx_9 zc_m1 hc_10
        refine lv_aload_n hx hb d_Cover_search_39 rfl (lv_at hl 1 rfl) ?_
        refine lv_iload_n hx hb d_Cover_search_40 rfl (lv_at hl 2 rfl) ?_
        refine va_put (D := G.1) (ci := 9) (v := .int b1) (ty := .int) (C := R_Cover) (T := F_Cover) (N := 5) hx hb hts i_Cover t_Cover t_Cover_ok n_Cover hown hK hP hD hS 0 rfl rfl 1 (by decide) (hts _ q341) (fun _ h9 => h9) rfl (by decide +kernel) rfl rfl (Nat.le_of_ble_eq_true rfl) d_Cover_search_41 (fun H locs hP hD hS => ?_)
        have hP : va_P G.1 classes [(b0, .inr (9, [.int b3, .int b1, .int b5, .ref b6, .int b7])), (b6, .inl (G.2 0, 240, .inl b8))] H := hP
        have hD := z_tie hP hD rfl
        refine lv_aload_n hx hb d_Cover_search_44 rfl (lv_at hl 1 rfl) ?_
        refine lv_iload_n hx hb d_Cover_search_45 rfl (lv_at hl 4 rfl) ?_
        refine va_put (D := G.1) (ci := 9) (v := .int 9) (ty := .int) (C := R_Cover) (T := F_Cover) (N := 5) hx hb hts i_Cover t_Cover t_Cover_ok n_Cover hown hK hP hD hS 0 rfl rfl 2 (by decide) (hts _ q343) (fun _ h9 => h9) rfl (by decide +kernel) rfl rfl (Nat.le_of_ble_eq_true rfl) d_Cover_search_46 (fun H locs hP hD hS => ?_)
        have hP : va_P G.1 classes [(b0, .inr (9, [.int b3, .int b1, .int 9, .ref b6, .int b7])), (b6, .inl (G.2 0, 240, .inl b8))] H := hP
        have hD := z_tie hP hD rfl
        exact z_vret hx hb hr hlocks hP hD hS (Nat.le_of_ble_eq_true rfl) (Nat.le_of_ble_eq_true rfl) d_Cover_search_49 ⟨b1, 9, rfl, rfl⟩
    · have _nhc_6 := hc_6
      have ni_58 := (fa_eq _ _).mp hc_6
      rw [li_9] at ni_58
      have hv_59 : zI b5 9 9 := zI.eq_l hv_5 zc_9 hc_6.symm
      refine lv_iload_n hx hb d_Cover_search_16 rfl (lv_at hl 1 rfl) ?_
      refine lv_aload_n hx hb d_Cover_search_17 rfl (lv_at hl 0 rfl) ?_
      refine va_get (D := G.1) (ci := 9) (v := .int b4) (C := R_Cover) (T := F_Cover) (N := 5) hx hb hts i_Cover hown hK hP 0 rfl rfl 1 (by decide) (hts _ q341) (fun _ h9 => h9) rfl d_Cover_search_18 ?_
      refine lv_icmp_lt (tgt := 25) hx hb d_Cover_search_21 (by decide) (fun hc_60 => ?_) (fun hc_60 => ?_)
      · have _nhc_60 := hc_60
        have ni_61 := (fa_lt _ _).mp hc_60
        have hv_62 : zI b1 (-2147483648) 2147483646 := zI.lt_l (zI_all b1) (zI_all b4) hc_60 (by decide)
        have hv_63 : zI b4 (-2147483647) 2147483647 := zI.lt_r (zI_all b1) (zI_all b4) hc_60 (by decide)
        refine lv_aload_n hx hb d_Cover_search_25 rfl (lv_at hl 0 rfl) ?_
        refine lv_iload_n hx hb d_Cover_search_26 rfl (lv_at hl 1 rfl) ?_
        refine lv_iload_n hx hb d_Cover_search_27 rfl (lv_at hl 2 rfl) ?_
        refine z_callV (index := 70) (As := [.int b1, .int b2]) (rest := []) (wr := []) Z (s1_Cover_hardest l G (b0) (b1) (b2) (b3) (b4) (b5) (b6) (b7) (b8) hb3 hb7) hl.1 q785 q787 qs21 q10 q788 ⟨by decide, by decide, by show _ = some 2; decide +kernel⟩ ⟨Nat.le_of_ble_eq_true rfl, Nat.le_of_ble_eq_true rfl⟩ ⟨Nat.le_of_ble_eq_true rfl, Nat.le_of_ble_eq_true rfl⟩ rfl (Nat.le_of_ble_eq_true rfl) d_Cover_search_28 hP hD hS hA 0 9 rfl rfl rfl [0, 1] [] rfl rfl rfl rfl (by decide) (fun v w1 H locs hw_64 hP hD hS => ?_)
        obtain ⟨x_65, rfl, rfl, hx_65⟩ := hw_64
        have hP : va_P G.1 classes [(b0, .inr (9, [.int b3, .int b4, .int b5, .ref b6, .int b7])), (b6, .inl (G.2 0, 240, .inl b8))] H := hP
        have hD := z_tie hP hD rfl
        refine W.widen (k := 0) (n := 0) (Nat.le_of_ble_eq_true rfl) (Nat.le_of_ble_eq_true rfl) ?_
        refine lv_istore (lv' := [(4, .int x_65), (0, .ref b0), (1, .int b1), (2, .int b2), (3, .int 9)]) hx hb d_Cover_search_31 hl (by decide) rfl (fun ls hl => ?_)
        refine lv_iload hx hb d_Cover_search_33 (lv_at hl 0 rfl) ?_
        refine lv_iconst (v := (-1)) hx hb d_Cover_search_35 (by decide) ?_
        refine lv_icmp_ne (tgt := 50) hx hb d_Cover_search_36 (by decide) (fun hc_66 => ?_) (fun hc_66 => ?_)
        · have _nhc_66 := hc_66
          have ni_67 : ¬ (x_65 : Int32).toInt = ((-1) : Int32).toInt := fun z => hc_66 ((fa_eq _ _).mpr z)
          simp only [li_m1] at ni_67
          have hv_68 : zI x_65 0 239 := zI.ne_lo hx_65 zc_m1 hc_66 (by decide)
          refine lv_iload_n hx hb d_Cover_search_50 rfl (lv_at hl 4 rfl) ?_
          refine lv_aload_n hx hb d_Cover_search_51 rfl (lv_at hl 1 rfl) ?_
          refine va_get (D := G.1) (ci := 9) (v := .int b5) (C := R_Cover) (T := F_Cover) (N := 5) hx hb hts i_Cover hown hK hP 0 rfl rfl 2 (by decide) (hts _ q343) (fun _ h9 => h9) rfl d_Cover_search_52 ?_
          refine lv_icmp_ge (tgt := 64) hx hb d_Cover_search_55 (by decide) (fun _ => ?_) (fun hc => zI.no_lt zc_9 hv_59 (zi_nle hc) (by decide))
          exact z_vret hx hb hr hlocks hP hD hS (Nat.le_of_ble_eq_true rfl) (Nat.le_of_ble_eq_true rfl) d_Cover_search_64 ⟨b4, b5, rfl, rfl⟩
        · have _nhc_66 := hc_66
          have ni_69 := (fa_eq _ _).mp hc_66
          rw [li_m1] at ni_69
          have hv_70 : zI x_65 (-1) (-1) := zI.eq_l hx_65 zc_m1 hc_66
          refine lv_aload_n hx hb d_Cover_search_39 rfl (lv_at hl 1 rfl) ?_
          refine lv_iload_n hx hb d_Cover_search_40 rfl (lv_at hl 2 rfl) ?_
          refine va_put (D := G.1) (ci := 9) (v := .int b1) (ty := .int) (C := R_Cover) (T := F_Cover) (N := 5) hx hb hts i_Cover t_Cover t_Cover_ok n_Cover hown hK hP hD hS 0 rfl rfl 1 (by decide) (hts _ q341) (fun _ h9 => h9) rfl (by decide +kernel) rfl rfl (Nat.le_of_ble_eq_true rfl) d_Cover_search_41 (fun H locs hP hD hS => ?_)
          have hP : va_P G.1 classes [(b0, .inr (9, [.int b3, .int b1, .int b5, .ref b6, .int b7])), (b6, .inl (G.2 0, 240, .inl b8))] H := hP
          have hD := z_tie hP hD rfl
          refine lv_aload_n hx hb d_Cover_search_44 rfl (lv_at hl 1 rfl) ?_
          refine lv_iload_n hx hb d_Cover_search_45 rfl (lv_at hl 4 rfl) ?_
          refine va_put (D := G.1) (ci := 9) (v := .int 9) (ty := .int) (C := R_Cover) (T := F_Cover) (N := 5) hx hb hts i_Cover t_Cover t_Cover_ok n_Cover hown hK hP hD hS 0 rfl rfl 2 (by decide) (hts _ q343) (fun _ h9 => h9) rfl (by decide +kernel) rfl rfl (Nat.le_of_ble_eq_true rfl) d_Cover_search_46 (fun H locs hP hD hS => ?_)
          have hP : va_P G.1 classes [(b0, .inr (9, [.int b3, .int b1, .int 9, .ref b6, .int b7])), (b6, .inl (G.2 0, 240, .inl b8))] H := hP
          have hD := z_tie hP hD rfl
          exact z_vret hx hb hr hlocks hP hD hS (Nat.le_of_ble_eq_true rfl) (Nat.le_of_ble_eq_true rfl) d_Cover_search_49 ⟨b1, 9, rfl, rfl⟩
      · have _nhc_60 := hc_60
        have ni_71 := (fa_le _ _).mp (zi_nlt hc_60)
        exact z_vret hx hb hr hlocks hP hD hS (Nat.le_of_ble_eq_true rfl) (Nat.le_of_ble_eq_true rfl) d_Cover_search_24 ⟨b4, b5, rfl, rfl⟩
abbrev m_s13_Cover_search : Room := { frames := 14, cells := 0, slots := 0, locals := 370 }
set_option maxHeartbeats 4000000 in
set_option maxRecDepth 100000 in
theorem s13_Cover_search (l : Launch) (G : zG) (b0 : Nat) (b1 : Int32) (b2 : Int32) (b3 : Int32) (b4 : Int32) (b5 : Int32) (b6 : Nat) (b7 : Int32) (b8 : Nat → Int32) (hb3 : zI b3 0 1) (hb7 : zI b7 0 240) : zM l G y_Cover_search prog_2_method_6_code 8 (Option.none : Option Jvm.ClassFile.FieldType) m_s13_Cover_search [.ref b0, .int b1, .int b2, .int 8] [(b0, .inr (9, [.int b3, .int b4, .int b5, .ref b6, .int b7])), (b6, .inl (G.2 0, 240, .inl b8))] (fun v w => ∃ (e0 : Int32), ∃ (e1 : Int32), v = none ∧ w = [(b0, .inr (9, [.int b3, .int e0, .int e1, .ref b6, .int b7])), (b6, .inl (G.2 0, 240, .inl b8))]) := by
  refine z_start (by decide +kernel) (Nat.le_of_ble_eq_true rfl) ?_
  intro p e s m below meth c A Z hr hnm hA hP hD hS ls hl
  have Z : zC p s m _ meth c prog_2_method_6_code 8 "TraceMachines$Cover" G := Z
  obtain ⟨hx, hb, hml, hown, hts, hK, hN, hlocks⟩ := id Z
  have hl : lv_has ls 8 [(0, .ref b0), (1, .int b1), (2, .int b2), (3, .int 8)] := hl
  refine lv_iload_n hx hb d_Cover_search_0 rfl (lv_at hl 3 rfl) ?_
  refine lv_aload_n hx hb d_Cover_search_1 rfl (lv_at hl 0 rfl) ?_
  refine va_get (D := G.1) (ci := 9) (v := .int b5) (C := R_Cover) (T := F_Cover) (N := 5) hx hb hts i_Cover hown hK hP 0 rfl rfl 2 (by decide) (hts _ q343) (fun _ h9 => h9) rfl d_Cover_search_2 ?_
  refine lv_icmp_gt (tgt := 24) hx hb d_Cover_search_5 (by decide) (fun hc_1 => ?_) (fun hc_1 => ?_)
  · have _nhc_1 := hc_1
    have ni_2 := (fa_lt _ _).mp hc_1
    rw [li_8] at ni_2
    have hv_3 : zI b5 (-2147483648) 7 := zI.lt_l (zI_all b5) zc_8 hc_1 (by decide)
    exact z_vret hx hb hr hlocks hP hD hS (Nat.le_of_ble_eq_true rfl) (Nat.le_of_ble_eq_true rfl) d_Cover_search_24 ⟨b4, b5, rfl, rfl⟩
  · have _nhc_1 := hc_1
    have ni_4 := (fa_le _ _).mp (zi_nlt hc_1)
    rw [li_8] at ni_4
    have hv_5 : zI b5 8 2147483647 := zI.le_r zc_8 (zI_all b5) (zi_nlt hc_1) (by decide)
    refine lv_iload_n hx hb d_Cover_search_8 rfl (lv_at hl 3 rfl) ?_
    refine lv_aload_n hx hb d_Cover_search_9 rfl (lv_at hl 0 rfl) ?_
    refine va_get (D := G.1) (ci := 9) (v := .int b5) (C := R_Cover) (T := F_Cover) (N := 5) hx hb hts i_Cover hown hK hP 0 rfl rfl 2 (by decide) (hts _ q343) (fun _ h9 => h9) rfl d_Cover_search_10 ?_
    refine lv_icmp_ne (tgt := 25) hx hb d_Cover_search_13 (by decide) (fun hc_6 => ?_) (fun hc_6 => ?_)
    · have _nhc_6 := hc_6
      have ni_7 : ¬ (8 : Int32).toInt = (b5 : Int32).toInt := fun z => hc_6 ((fa_eq _ _).mpr z)
      simp only [li_8] at ni_7
      refine lv_aload_n hx hb d_Cover_search_25 rfl (lv_at hl 0 rfl) ?_
      refine lv_iload_n hx hb d_Cover_search_26 rfl (lv_at hl 1 rfl) ?_
      refine lv_iload_n hx hb d_Cover_search_27 rfl (lv_at hl 2 rfl) ?_
      refine z_callV (index := 70) (As := [.int b1, .int b2]) (rest := []) (wr := []) Z (s1_Cover_hardest l G (b0) (b1) (b2) (b3) (b4) (b5) (b6) (b7) (b8) hb3 hb7) hl.1 q785 q787 qs21 q10 q788 ⟨by decide, by decide, by show _ = some 2; decide +kernel⟩ ⟨Nat.le_of_ble_eq_true rfl, Nat.le_of_ble_eq_true rfl⟩ ⟨Nat.le_of_ble_eq_true rfl, Nat.le_of_ble_eq_true rfl⟩ rfl (Nat.le_of_ble_eq_true rfl) d_Cover_search_28 hP hD hS hA 0 9 rfl rfl rfl [0, 1] [] rfl rfl rfl rfl (by decide) (fun v w1 H locs hw_8 hP hD hS => ?_)
      obtain ⟨x_9, rfl, rfl, hx_9⟩ := hw_8
      have hP : va_P G.1 classes [(b0, .inr (9, [.int b3, .int b4, .int b5, .ref b6, .int b7])), (b6, .inl (G.2 0, 240, .inl b8))] H := hP
      have hD := z_tie hP hD rfl
      refine W.widen (k := 0) (n := 0) (Nat.le_of_ble_eq_true rfl) (Nat.le_of_ble_eq_true rfl) ?_
      refine lv_istore (lv' := [(4, .int x_9), (0, .ref b0), (1, .int b1), (2, .int b2), (3, .int 8)]) hx hb d_Cover_search_31 hl (by decide) rfl (fun ls hl => ?_)
      refine lv_iload hx hb d_Cover_search_33 (lv_at hl 0 rfl) ?_
      refine lv_iconst (v := (-1)) hx hb d_Cover_search_35 (by decide) ?_
      refine lv_icmp_ne (tgt := 50) hx hb d_Cover_search_36 (by decide) (fun hc_10 => ?_) (fun hc_10 => ?_)
      · have _nhc_10 := hc_10
        have ni_11 : ¬ (x_9 : Int32).toInt = ((-1) : Int32).toInt := fun z => hc_10 ((fa_eq _ _).mpr z)
        simp only [li_m1] at ni_11
        have hv_12 : zI x_9 0 239 := zI.ne_lo hx_9 zc_m1 hc_10 (by decide)
        refine lv_iload_n hx hb d_Cover_search_50 rfl (lv_at hl 4 rfl) ?_
        refine lv_aload_n hx hb d_Cover_search_51 rfl (lv_at hl 1 rfl) ?_
        refine va_get (D := G.1) (ci := 9) (v := .int b5) (C := R_Cover) (T := F_Cover) (N := 5) hx hb hts i_Cover hown hK hP 0 rfl rfl 2 (by decide) (hts _ q343) (fun _ h9 => h9) rfl d_Cover_search_52 ?_
        refine lv_icmp_ge (tgt := 64) hx hb d_Cover_search_55 (by decide) (fun hc_13 => ?_) (fun hc_13 => ?_)
        · have _nhc_13 := hc_13
          have ni_14 := (fa_le _ _).mp hc_13
          rw [li_8] at ni_14
          have hv_15 : zI b5 8 8 := zI.le_l hv_5 zc_8 hc_13 (by decide)
          exact z_vret hx hb hr hlocks hP hD hS (Nat.le_of_ble_eq_true rfl) (Nat.le_of_ble_eq_true rfl) d_Cover_search_64 ⟨b4, b5, rfl, rfl⟩
        · have _nhc_13 := hc_13
          have ni_16 := (fa_lt _ _).mp (zi_nle hc_13)
          rw [li_8] at ni_16
          have hv_17 : zI b5 9 2147483647 := zI.lt_r zc_8 hv_5 (zi_nle hc_13) (by decide)
          refine lv_iload_n hx hb d_Cover_search_58 rfl (lv_at hl 4 rfl) ?_
          refine lv_bipush (v := 20) hx hb d_Cover_search_59 (by decide) ?_
          refine lv_icmp_lt (tgt := 65) hx hb d_Cover_search_61 (by decide) (fun _ => ?_) (fun hc => absurd hc (by decide +kernel))
          refine lv_iload_n hx hb d_Cover_search_65 rfl (lv_at hl 3 rfl) ?_
          refine lv_istore (lv' := [(5, .int b2), (4, .int x_9), (0, .ref b0), (1, .int b1), (2, .int b2), (3, .int 8)]) hx hb d_Cover_search_66 hl (by decide) rfl (fun ls hl => ?_)
          refine lv_aload_n hx hb d_Cover_search_68 rfl (lv_at hl 2 rfl) ?_
          refine va_get (D := G.1) (ci := 9) (v := .ref b6) (C := R_Cover) (T := F_Cover) (N := 5) hx hb hts i_Cover hown hK hP 0 rfl rfl 3 (by decide) (hts _ q344) (fun _ h9 => h9) rfl d_Cover_search_69 ?_
          refine lv_iload hx hb d_Cover_search_72 (lv_at hl 1 rfl) ?_
          refine va_iald hx hb hK hP 1 0 rfl rfl (zI.inn hv_12 (by decide)) d_Cover_search_74 ?_
          refine lv_topi (fun v_18 ev_18 => ?_)
          refine lv_iload_n hx hb d_Cover_search_75 rfl (lv_at hl 4 rfl) ?_
          refine lv_iconst (v := (-1)) hx hb d_Cover_search_76 (by decide) ?_
          refine lv_ixor hx hb d_Cover_search_77 ?_
          refine lv_topi (fun v_19 ev_19 => ?_)
          refine lv_iand hx hb d_Cover_search_78 ?_
          refine lv_topi (fun v_20 ev_20 => ?_)
          refine lv_istore (lv' := [(6, .int v_20), (5, .int b2), (4, .int x_9), (0, .ref b0), (1, .int b1), (2, .int b2), (3, .int 8)]) hx hb d_Cover_search_79 hl (by decide) rfl (fun ls hl => ?_)
          suffices key : ∀ (k_38 : Nat) (y_39 : Int32) (y_40 : Int32) (y_41 : Int32) (y_42 : Int32) (H : Heap) (locs : List Loc) (ls : Array Slot), (y_39).toBitVec.toNat < k_38 → va_P G.1 classes [(b0, .inr (9, [.int b3, .int y_41, .int y_42, .ref b6, .int b7])), (b6, .inl (G.2 0, 240, .inl b8))] H → va_D A [(b0, .inr (9, [.int b3, .int y_41, .int y_42, .ref b6, .int b7])), (b6, .inl (G.2 0, 240, .inl b8))] → va_S A s.heap H locs → lv_has ls 8 [(6, .int y_39), (5, .int y_40), (4, .int x_9), (0, .ref b0), (1, .int b1), (2, .int b2), (3, .int 8)] → W p l e m_s13_Cover_search s m ([.ref b0, .int b1, .int b2, .int 8] : List Value).toArray below meth c H locs 0 0 (MQ below (zQ G (fun v w => ∃ (e0 : Int32), ∃ (e1 : Int32), v = none ∧ w = [(b0, .inr (9, [.int b3, .int e0, .int e1, .ref b6, .int b7])), (b6, .inl (G.2 0, 240, .inl b8))]) A) ([.ref b0, .int b1, .int b2, .int 8] : List Value).toArray s m_s13_Cover_search.cells m_s13_Cover_search.slots A) (F0 m 81 ls []) by
            exact key 4294967296 (v_20) (b2) (b4) (b5) _ _ _  (Nat.lt_of_lt_of_le (v_20).toBitVec.isLt (by decide)) hP hD hS (lv_sub hl [0, 1, 2, 3, 4, 5, 6] rfl)
          intro k_38
          induction k_38 with
          | zero =>
            intro y_39 y_40 y_41 y_42 H locs ls hmk_38 hP hD hS hl
            exfalso; omega
          | succ k_38 ihk_38 =>
            intro y_39 y_40 y_41 y_42 H locs ls hmk_38 hP hD hS hl
            refine lv_iload hx hb d_Cover_search_81 (lv_at hl 0 rfl) ?_
            refine lv_if_eq (tgt := 126) hx hb d_Cover_search_83 (by decide) (fun hc_43 => ?_) (fun hc_43 => ?_)
            · have _nhc_43 := hc_43
              have ni_44 := (fa_eq _ _).mp hc_43
              rw [li_0] at ni_44
              have hv_45 : zI y_39 0 0 := zI.eq_l (zI_all y_39) zc_0 hc_43
              exact z_vret hx hb hr hlocks hP hD hS (Nat.le_of_ble_eq_true rfl) (Nat.le_of_ble_eq_true rfl) d_Cover_search_126 ⟨y_41, y_42, rfl, rfl⟩
            · have _nhc_43 := hc_43
              have ni_46 : ¬ (y_39 : Int32).toInt = (0 : Int32).toInt := fun z => hc_43 ((fa_eq _ _).mpr z)
              simp only [li_0] at ni_46
              refine lv_iload hx hb d_Cover_search_86 (lv_at hl 0 rfl) ?_
              refine lv_iload hx hb d_Cover_search_88 (lv_at hl 0 rfl) ?_
              refine lv_ineg hx hb d_Cover_search_90 ?_
              refine lv_topi (fun v_47 ev_47 => ?_)
              refine lv_iand hx hb d_Cover_search_91 ?_
              refine lv_topi (fun v_48 ev_48 => ?_)
              refine lv_istore (lv' := [(7, .int v_48), (6, .int y_39), (5, .int y_40), (4, .int x_9), (0, .ref b0), (1, .int b1), (2, .int b2), (3, .int 8)]) hx hb d_Cover_search_92 hl (by decide) rfl (fun ls hl => ?_)
              refine lv_aload_n hx hb d_Cover_search_94 rfl (lv_at hl 4 rfl) ?_
              refine lv_iload_n hx hb d_Cover_search_95 rfl (lv_at hl 5 rfl) ?_
              refine lv_iload hx hb d_Cover_search_96 (lv_at hl 0 rfl) ?_
              refine lv_ior hx hb d_Cover_search_98 ?_
              refine lv_topi (fun v_49 ev_49 => ?_)
              refine lv_iload hx hb d_Cover_search_99 (lv_at hl 2 rfl) ?_
              refine lv_iload_n hx hb d_Cover_search_101 rfl (lv_at hl 7 rfl) ?_
              refine lv_iconst (v := 1) hx hb d_Cover_search_102 (by decide) ?_
              refine lv_iadd hx hb d_Cover_search_103 ?_
              refine z_topi (y := 9) (by decide +kernel) ?_
              refine z_callV (index := 38) (As := [.int v_49, .int y_40, .int 9]) (rest := []) (wr := []) Z (s12_Cover_search l G (b0) (v_49) (y_40) (b3) (y_41) (y_42) (b6) (b7) (b8) hb3 hb7) hl.1 q781 q783 qs20 q10 q784 ⟨by decide, by decide, by show _ = some 3; decide +kernel⟩ ⟨Nat.le_of_ble_eq_true rfl, Nat.le_of_ble_eq_true rfl⟩ ⟨Nat.le_of_ble_eq_true rfl, Nat.le_of_ble_eq_true rfl⟩ rfl (Nat.le_of_ble_eq_true rfl) d_Cover_search_104 hP hD hS hA 0 9 rfl rfl rfl [0, 1] [] rfl rfl rfl rfl (by decide) (fun v w1 H locs hw_50 hP hD hS => ?_)
              obtain ⟨x_51, x_52, rfl, rfl⟩ := hw_50
              have hP : va_P G.1 classes [(b0, .inr (9, [.int b3, .int x_51, .int x_52, .ref b6, .int b7])), (b6, .inl (G.2 0, 240, .inl b8))] H := hP
              have hD := z_tie hP hD rfl
              refine W.widen (k := 0) (n := 0) (Nat.le_of_ble_eq_true rfl) (Nat.le_of_ble_eq_true rfl) ?_
              refine lv_iload hx hb d_Cover_search_107 (lv_at hl 2 rfl) ?_
              refine lv_iload hx hb d_Cover_search_109 (lv_at hl 0 rfl) ?_
              refine lv_ior hx hb d_Cover_search_111 ?_
              refine lv_topi (fun v_53 ev_53 => ?_)
              refine lv_istore (lv' := [(5, .int v_53), (7, .int v_48), (6, .int y_39), (4, .int x_9), (0, .ref b0), (1, .int b1), (2, .int b2), (3, .int 8)]) hx hb d_Cover_search_112 hl (by decide) rfl (fun ls hl => ?_)
              refine lv_iload hx hb d_Cover_search_114 (lv_at hl 2 rfl) ?_
              refine lv_iload hx hb d_Cover_search_116 (lv_at hl 2 rfl) ?_
              refine lv_iconst (v := 1) hx hb d_Cover_search_118 (by decide) ?_
              refine lv_isub hx hb d_Cover_search_119 ?_
              refine lv_topi (fun v_54 ev_54 => ?_)
              refine lv_iand hx hb d_Cover_search_120 ?_
              refine lv_topi (fun v_55 ev_55 => ?_)
              refine lv_istore (lv' := [(6, .int v_55), (5, .int v_53), (7, .int v_48), (4, .int x_9), (0, .ref b0), (1, .int b1), (2, .int b2), (3, .int 8)]) hx hb d_Cover_search_121 hl (by decide) rfl (fun ls hl => ?_)
              refine lv_goto (tgt := 81) hx hb d_Cover_search_123 (by decide) ?_
              exact ihk_38 (v_55) (v_53) (x_51) (x_52) _ _ _  (z_dec32 ev_54 ev_55 (by omega) hmk_38) hP hD hS (lv_sub hl [0, 1, 3, 4, 5, 6, 7] rfl)
      · have _nhc_10 := hc_10
        have ni_56 := (fa_eq _ _).mp hc_10
        rw [li_m1] at ni_56
        have hv_57 : zI x_9 (-1) (-1) := zI.eq_l hx_9 zc_m1 hc_10
        refine lv_aload_n hx hb d_Cover_search_39 rfl (lv_at hl 1 rfl) ?_
        refine lv_iload_n hx hb d_Cover_search_40 rfl (lv_at hl 2 rfl) ?_
        refine va_put (D := G.1) (ci := 9) (v := .int b1) (ty := .int) (C := R_Cover) (T := F_Cover) (N := 5) hx hb hts i_Cover t_Cover t_Cover_ok n_Cover hown hK hP hD hS 0 rfl rfl 1 (by decide) (hts _ q341) (fun _ h9 => h9) rfl (by decide +kernel) rfl rfl (Nat.le_of_ble_eq_true rfl) d_Cover_search_41 (fun H locs hP hD hS => ?_)
        have hP : va_P G.1 classes [(b0, .inr (9, [.int b3, .int b1, .int b5, .ref b6, .int b7])), (b6, .inl (G.2 0, 240, .inl b8))] H := hP
        have hD := z_tie hP hD rfl
        refine lv_aload_n hx hb d_Cover_search_44 rfl (lv_at hl 1 rfl) ?_
        refine lv_iload_n hx hb d_Cover_search_45 rfl (lv_at hl 4 rfl) ?_
        refine va_put (D := G.1) (ci := 9) (v := .int 8) (ty := .int) (C := R_Cover) (T := F_Cover) (N := 5) hx hb hts i_Cover t_Cover t_Cover_ok n_Cover hown hK hP hD hS 0 rfl rfl 2 (by decide) (hts _ q343) (fun _ h9 => h9) rfl (by decide +kernel) rfl rfl (Nat.le_of_ble_eq_true rfl) d_Cover_search_46 (fun H locs hP hD hS => ?_)
        have hP : va_P G.1 classes [(b0, .inr (9, [.int b3, .int b1, .int 8, .ref b6, .int b7])), (b6, .inl (G.2 0, 240, .inl b8))] H := hP
        have hD := z_tie hP hD rfl
        exact z_vret hx hb hr hlocks hP hD hS (Nat.le_of_ble_eq_true rfl) (Nat.le_of_ble_eq_true rfl) d_Cover_search_49 ⟨b1, 8, rfl, rfl⟩
    · have _nhc_6 := hc_6
      have ni_58 := (fa_eq _ _).mp hc_6
      rw [li_8] at ni_58
      have hv_59 : zI b5 8 8 := zI.eq_l hv_5 zc_8 hc_6.symm
      refine lv_iload_n hx hb d_Cover_search_16 rfl (lv_at hl 1 rfl) ?_
      refine lv_aload_n hx hb d_Cover_search_17 rfl (lv_at hl 0 rfl) ?_
      refine va_get (D := G.1) (ci := 9) (v := .int b4) (C := R_Cover) (T := F_Cover) (N := 5) hx hb hts i_Cover hown hK hP 0 rfl rfl 1 (by decide) (hts _ q341) (fun _ h9 => h9) rfl d_Cover_search_18 ?_
      refine lv_icmp_lt (tgt := 25) hx hb d_Cover_search_21 (by decide) (fun hc_60 => ?_) (fun hc_60 => ?_)
      · have _nhc_60 := hc_60
        have ni_61 := (fa_lt _ _).mp hc_60
        have hv_62 : zI b1 (-2147483648) 2147483646 := zI.lt_l (zI_all b1) (zI_all b4) hc_60 (by decide)
        have hv_63 : zI b4 (-2147483647) 2147483647 := zI.lt_r (zI_all b1) (zI_all b4) hc_60 (by decide)
        refine lv_aload_n hx hb d_Cover_search_25 rfl (lv_at hl 0 rfl) ?_
        refine lv_iload_n hx hb d_Cover_search_26 rfl (lv_at hl 1 rfl) ?_
        refine lv_iload_n hx hb d_Cover_search_27 rfl (lv_at hl 2 rfl) ?_
        refine z_callV (index := 70) (As := [.int b1, .int b2]) (rest := []) (wr := []) Z (s1_Cover_hardest l G (b0) (b1) (b2) (b3) (b4) (b5) (b6) (b7) (b8) hb3 hb7) hl.1 q785 q787 qs21 q10 q788 ⟨by decide, by decide, by show _ = some 2; decide +kernel⟩ ⟨Nat.le_of_ble_eq_true rfl, Nat.le_of_ble_eq_true rfl⟩ ⟨Nat.le_of_ble_eq_true rfl, Nat.le_of_ble_eq_true rfl⟩ rfl (Nat.le_of_ble_eq_true rfl) d_Cover_search_28 hP hD hS hA 0 9 rfl rfl rfl [0, 1] [] rfl rfl rfl rfl (by decide) (fun v w1 H locs hw_64 hP hD hS => ?_)
        obtain ⟨x_65, rfl, rfl, hx_65⟩ := hw_64
        have hP : va_P G.1 classes [(b0, .inr (9, [.int b3, .int b4, .int b5, .ref b6, .int b7])), (b6, .inl (G.2 0, 240, .inl b8))] H := hP
        have hD := z_tie hP hD rfl
        refine W.widen (k := 0) (n := 0) (Nat.le_of_ble_eq_true rfl) (Nat.le_of_ble_eq_true rfl) ?_
        refine lv_istore (lv' := [(4, .int x_65), (0, .ref b0), (1, .int b1), (2, .int b2), (3, .int 8)]) hx hb d_Cover_search_31 hl (by decide) rfl (fun ls hl => ?_)
        refine lv_iload hx hb d_Cover_search_33 (lv_at hl 0 rfl) ?_
        refine lv_iconst (v := (-1)) hx hb d_Cover_search_35 (by decide) ?_
        refine lv_icmp_ne (tgt := 50) hx hb d_Cover_search_36 (by decide) (fun hc_66 => ?_) (fun hc_66 => ?_)
        · have _nhc_66 := hc_66
          have ni_67 : ¬ (x_65 : Int32).toInt = ((-1) : Int32).toInt := fun z => hc_66 ((fa_eq _ _).mpr z)
          simp only [li_m1] at ni_67
          have hv_68 : zI x_65 0 239 := zI.ne_lo hx_65 zc_m1 hc_66 (by decide)
          refine lv_iload_n hx hb d_Cover_search_50 rfl (lv_at hl 4 rfl) ?_
          refine lv_aload_n hx hb d_Cover_search_51 rfl (lv_at hl 1 rfl) ?_
          refine va_get (D := G.1) (ci := 9) (v := .int b5) (C := R_Cover) (T := F_Cover) (N := 5) hx hb hts i_Cover hown hK hP 0 rfl rfl 2 (by decide) (hts _ q343) (fun _ h9 => h9) rfl d_Cover_search_52 ?_
          refine lv_icmp_ge (tgt := 64) hx hb d_Cover_search_55 (by decide) (fun _ => ?_) (fun hc => zI.no_lt zc_8 hv_59 (zi_nle hc) (by decide))
          exact z_vret hx hb hr hlocks hP hD hS (Nat.le_of_ble_eq_true rfl) (Nat.le_of_ble_eq_true rfl) d_Cover_search_64 ⟨b4, b5, rfl, rfl⟩
        · have _nhc_66 := hc_66
          have ni_69 := (fa_eq _ _).mp hc_66
          rw [li_m1] at ni_69
          have hv_70 : zI x_65 (-1) (-1) := zI.eq_l hx_65 zc_m1 hc_66
          refine lv_aload_n hx hb d_Cover_search_39 rfl (lv_at hl 1 rfl) ?_
          refine lv_iload_n hx hb d_Cover_search_40 rfl (lv_at hl 2 rfl) ?_
          refine va_put (D := G.1) (ci := 9) (v := .int b1) (ty := .int) (C := R_Cover) (T := F_Cover) (N := 5) hx hb hts i_Cover t_Cover t_Cover_ok n_Cover hown hK hP hD hS 0 rfl rfl 1 (by decide) (hts _ q341) (fun _ h9 => h9) rfl (by decide +kernel) rfl rfl (Nat.le_of_ble_eq_true rfl) d_Cover_search_41 (fun H locs hP hD hS => ?_)
          have hP : va_P G.1 classes [(b0, .inr (9, [.int b3, .int b1, .int b5, .ref b6, .int b7])), (b6, .inl (G.2 0, 240, .inl b8))] H := hP
          have hD := z_tie hP hD rfl
          refine lv_aload_n hx hb d_Cover_search_44 rfl (lv_at hl 1 rfl) ?_
          refine lv_iload_n hx hb d_Cover_search_45 rfl (lv_at hl 4 rfl) ?_
          refine va_put (D := G.1) (ci := 9) (v := .int 8) (ty := .int) (C := R_Cover) (T := F_Cover) (N := 5) hx hb hts i_Cover t_Cover t_Cover_ok n_Cover hown hK hP hD hS 0 rfl rfl 2 (by decide) (hts _ q343) (fun _ h9 => h9) rfl (by decide +kernel) rfl rfl (Nat.le_of_ble_eq_true rfl) d_Cover_search_46 (fun H locs hP hD hS => ?_)
          have hP : va_P G.1 classes [(b0, .inr (9, [.int b3, .int b1, .int 8, .ref b6, .int b7])), (b6, .inl (G.2 0, 240, .inl b8))] H := hP
          have hD := z_tie hP hD rfl
          exact z_vret hx hb hr hlocks hP hD hS (Nat.le_of_ble_eq_true rfl) (Nat.le_of_ble_eq_true rfl) d_Cover_search_49 ⟨b1, 8, rfl, rfl⟩
      · have _nhc_60 := hc_60
        have ni_71 := (fa_le _ _).mp (zi_nlt hc_60)
        exact z_vret hx hb hr hlocks hP hD hS (Nat.le_of_ble_eq_true rfl) (Nat.le_of_ble_eq_true rfl) d_Cover_search_24 ⟨b4, b5, rfl, rfl⟩
abbrev m_s14_Cover_search : Room := { frames := 15, cells := 0, slots := 0, locals := 397 }
set_option maxHeartbeats 4000000 in
set_option maxRecDepth 100000 in
theorem s14_Cover_search (l : Launch) (G : zG) (b0 : Nat) (b1 : Int32) (b2 : Int32) (b3 : Int32) (b4 : Int32) (b5 : Int32) (b6 : Nat) (b7 : Int32) (b8 : Nat → Int32) (hb3 : zI b3 0 1) (hb7 : zI b7 0 240) : zM l G y_Cover_search prog_2_method_6_code 8 (Option.none : Option Jvm.ClassFile.FieldType) m_s14_Cover_search [.ref b0, .int b1, .int b2, .int 7] [(b0, .inr (9, [.int b3, .int b4, .int b5, .ref b6, .int b7])), (b6, .inl (G.2 0, 240, .inl b8))] (fun v w => ∃ (e0 : Int32), ∃ (e1 : Int32), v = none ∧ w = [(b0, .inr (9, [.int b3, .int e0, .int e1, .ref b6, .int b7])), (b6, .inl (G.2 0, 240, .inl b8))]) := by
  refine z_start (by decide +kernel) (Nat.le_of_ble_eq_true rfl) ?_
  intro p e s m below meth c A Z hr hnm hA hP hD hS ls hl
  have Z : zC p s m _ meth c prog_2_method_6_code 8 "TraceMachines$Cover" G := Z
  obtain ⟨hx, hb, hml, hown, hts, hK, hN, hlocks⟩ := id Z
  have hl : lv_has ls 8 [(0, .ref b0), (1, .int b1), (2, .int b2), (3, .int 7)] := hl
  refine lv_iload_n hx hb d_Cover_search_0 rfl (lv_at hl 3 rfl) ?_
  refine lv_aload_n hx hb d_Cover_search_1 rfl (lv_at hl 0 rfl) ?_
  refine va_get (D := G.1) (ci := 9) (v := .int b5) (C := R_Cover) (T := F_Cover) (N := 5) hx hb hts i_Cover hown hK hP 0 rfl rfl 2 (by decide) (hts _ q343) (fun _ h9 => h9) rfl d_Cover_search_2 ?_
  refine lv_icmp_gt (tgt := 24) hx hb d_Cover_search_5 (by decide) (fun hc_1 => ?_) (fun hc_1 => ?_)
  · have _nhc_1 := hc_1
    have ni_2 := (fa_lt _ _).mp hc_1
    rw [li_7] at ni_2
    have hv_3 : zI b5 (-2147483648) 6 := zI.lt_l (zI_all b5) zc_7 hc_1 (by decide)
    exact z_vret hx hb hr hlocks hP hD hS (Nat.le_of_ble_eq_true rfl) (Nat.le_of_ble_eq_true rfl) d_Cover_search_24 ⟨b4, b5, rfl, rfl⟩
  · have _nhc_1 := hc_1
    have ni_4 := (fa_le _ _).mp (zi_nlt hc_1)
    rw [li_7] at ni_4
    have hv_5 : zI b5 7 2147483647 := zI.le_r zc_7 (zI_all b5) (zi_nlt hc_1) (by decide)
    refine lv_iload_n hx hb d_Cover_search_8 rfl (lv_at hl 3 rfl) ?_
    refine lv_aload_n hx hb d_Cover_search_9 rfl (lv_at hl 0 rfl) ?_
    refine va_get (D := G.1) (ci := 9) (v := .int b5) (C := R_Cover) (T := F_Cover) (N := 5) hx hb hts i_Cover hown hK hP 0 rfl rfl 2 (by decide) (hts _ q343) (fun _ h9 => h9) rfl d_Cover_search_10 ?_
    refine lv_icmp_ne (tgt := 25) hx hb d_Cover_search_13 (by decide) (fun hc_6 => ?_) (fun hc_6 => ?_)
    · have _nhc_6 := hc_6
      have ni_7 : ¬ (7 : Int32).toInt = (b5 : Int32).toInt := fun z => hc_6 ((fa_eq _ _).mpr z)
      simp only [li_7] at ni_7
      refine lv_aload_n hx hb d_Cover_search_25 rfl (lv_at hl 0 rfl) ?_
      refine lv_iload_n hx hb d_Cover_search_26 rfl (lv_at hl 1 rfl) ?_
      refine lv_iload_n hx hb d_Cover_search_27 rfl (lv_at hl 2 rfl) ?_
      refine z_callV (index := 70) (As := [.int b1, .int b2]) (rest := []) (wr := []) Z (s1_Cover_hardest l G (b0) (b1) (b2) (b3) (b4) (b5) (b6) (b7) (b8) hb3 hb7) hl.1 q785 q787 qs21 q10 q788 ⟨by decide, by decide, by show _ = some 2; decide +kernel⟩ ⟨Nat.le_of_ble_eq_true rfl, Nat.le_of_ble_eq_true rfl⟩ ⟨Nat.le_of_ble_eq_true rfl, Nat.le_of_ble_eq_true rfl⟩ rfl (Nat.le_of_ble_eq_true rfl) d_Cover_search_28 hP hD hS hA 0 9 rfl rfl rfl [0, 1] [] rfl rfl rfl rfl (by decide) (fun v w1 H locs hw_8 hP hD hS => ?_)
      obtain ⟨x_9, rfl, rfl, hx_9⟩ := hw_8
      have hP : va_P G.1 classes [(b0, .inr (9, [.int b3, .int b4, .int b5, .ref b6, .int b7])), (b6, .inl (G.2 0, 240, .inl b8))] H := hP
      have hD := z_tie hP hD rfl
      refine W.widen (k := 0) (n := 0) (Nat.le_of_ble_eq_true rfl) (Nat.le_of_ble_eq_true rfl) ?_
      refine lv_istore (lv' := [(4, .int x_9), (0, .ref b0), (1, .int b1), (2, .int b2), (3, .int 7)]) hx hb d_Cover_search_31 hl (by decide) rfl (fun ls hl => ?_)
      refine lv_iload hx hb d_Cover_search_33 (lv_at hl 0 rfl) ?_
      refine lv_iconst (v := (-1)) hx hb d_Cover_search_35 (by decide) ?_
      refine lv_icmp_ne (tgt := 50) hx hb d_Cover_search_36 (by decide) (fun hc_10 => ?_) (fun hc_10 => ?_)
      · have _nhc_10 := hc_10
        have ni_11 : ¬ (x_9 : Int32).toInt = ((-1) : Int32).toInt := fun z => hc_10 ((fa_eq _ _).mpr z)
        simp only [li_m1] at ni_11
        have hv_12 : zI x_9 0 239 := zI.ne_lo hx_9 zc_m1 hc_10 (by decide)
        refine lv_iload_n hx hb d_Cover_search_50 rfl (lv_at hl 4 rfl) ?_
        refine lv_aload_n hx hb d_Cover_search_51 rfl (lv_at hl 1 rfl) ?_
        refine va_get (D := G.1) (ci := 9) (v := .int b5) (C := R_Cover) (T := F_Cover) (N := 5) hx hb hts i_Cover hown hK hP 0 rfl rfl 2 (by decide) (hts _ q343) (fun _ h9 => h9) rfl d_Cover_search_52 ?_
        refine lv_icmp_ge (tgt := 64) hx hb d_Cover_search_55 (by decide) (fun hc_13 => ?_) (fun hc_13 => ?_)
        · have _nhc_13 := hc_13
          have ni_14 := (fa_le _ _).mp hc_13
          rw [li_7] at ni_14
          have hv_15 : zI b5 7 7 := zI.le_l hv_5 zc_7 hc_13 (by decide)
          exact z_vret hx hb hr hlocks hP hD hS (Nat.le_of_ble_eq_true rfl) (Nat.le_of_ble_eq_true rfl) d_Cover_search_64 ⟨b4, b5, rfl, rfl⟩
        · have _nhc_13 := hc_13
          have ni_16 := (fa_lt _ _).mp (zi_nle hc_13)
          rw [li_7] at ni_16
          have hv_17 : zI b5 8 2147483647 := zI.lt_r zc_7 hv_5 (zi_nle hc_13) (by decide)
          refine lv_iload_n hx hb d_Cover_search_58 rfl (lv_at hl 4 rfl) ?_
          refine lv_bipush (v := 20) hx hb d_Cover_search_59 (by decide) ?_
          refine lv_icmp_lt (tgt := 65) hx hb d_Cover_search_61 (by decide) (fun _ => ?_) (fun hc => absurd hc (by decide +kernel))
          refine lv_iload_n hx hb d_Cover_search_65 rfl (lv_at hl 3 rfl) ?_
          refine lv_istore (lv' := [(5, .int b2), (4, .int x_9), (0, .ref b0), (1, .int b1), (2, .int b2), (3, .int 7)]) hx hb d_Cover_search_66 hl (by decide) rfl (fun ls hl => ?_)
          refine lv_aload_n hx hb d_Cover_search_68 rfl (lv_at hl 2 rfl) ?_
          refine va_get (D := G.1) (ci := 9) (v := .ref b6) (C := R_Cover) (T := F_Cover) (N := 5) hx hb hts i_Cover hown hK hP 0 rfl rfl 3 (by decide) (hts _ q344) (fun _ h9 => h9) rfl d_Cover_search_69 ?_
          refine lv_iload hx hb d_Cover_search_72 (lv_at hl 1 rfl) ?_
          refine va_iald hx hb hK hP 1 0 rfl rfl (zI.inn hv_12 (by decide)) d_Cover_search_74 ?_
          refine lv_topi (fun v_18 ev_18 => ?_)
          refine lv_iload_n hx hb d_Cover_search_75 rfl (lv_at hl 4 rfl) ?_
          refine lv_iconst (v := (-1)) hx hb d_Cover_search_76 (by decide) ?_
          refine lv_ixor hx hb d_Cover_search_77 ?_
          refine lv_topi (fun v_19 ev_19 => ?_)
          refine lv_iand hx hb d_Cover_search_78 ?_
          refine lv_topi (fun v_20 ev_20 => ?_)
          refine lv_istore (lv' := [(6, .int v_20), (5, .int b2), (4, .int x_9), (0, .ref b0), (1, .int b1), (2, .int b2), (3, .int 7)]) hx hb d_Cover_search_79 hl (by decide) rfl (fun ls hl => ?_)
          suffices key : ∀ (k_38 : Nat) (y_39 : Int32) (y_40 : Int32) (y_41 : Int32) (y_42 : Int32) (H : Heap) (locs : List Loc) (ls : Array Slot), (y_39).toBitVec.toNat < k_38 → va_P G.1 classes [(b0, .inr (9, [.int b3, .int y_41, .int y_42, .ref b6, .int b7])), (b6, .inl (G.2 0, 240, .inl b8))] H → va_D A [(b0, .inr (9, [.int b3, .int y_41, .int y_42, .ref b6, .int b7])), (b6, .inl (G.2 0, 240, .inl b8))] → va_S A s.heap H locs → lv_has ls 8 [(6, .int y_39), (5, .int y_40), (4, .int x_9), (0, .ref b0), (1, .int b1), (2, .int b2), (3, .int 7)] → W p l e m_s14_Cover_search s m ([.ref b0, .int b1, .int b2, .int 7] : List Value).toArray below meth c H locs 0 0 (MQ below (zQ G (fun v w => ∃ (e0 : Int32), ∃ (e1 : Int32), v = none ∧ w = [(b0, .inr (9, [.int b3, .int e0, .int e1, .ref b6, .int b7])), (b6, .inl (G.2 0, 240, .inl b8))]) A) ([.ref b0, .int b1, .int b2, .int 7] : List Value).toArray s m_s14_Cover_search.cells m_s14_Cover_search.slots A) (F0 m 81 ls []) by
            exact key 4294967296 (v_20) (b2) (b4) (b5) _ _ _  (Nat.lt_of_lt_of_le (v_20).toBitVec.isLt (by decide)) hP hD hS (lv_sub hl [0, 1, 2, 3, 4, 5, 6] rfl)
          intro k_38
          induction k_38 with
          | zero =>
            intro y_39 y_40 y_41 y_42 H locs ls hmk_38 hP hD hS hl
            exfalso; omega
          | succ k_38 ihk_38 =>
            intro y_39 y_40 y_41 y_42 H locs ls hmk_38 hP hD hS hl
            refine lv_iload hx hb d_Cover_search_81 (lv_at hl 0 rfl) ?_
            refine lv_if_eq (tgt := 126) hx hb d_Cover_search_83 (by decide) (fun hc_43 => ?_) (fun hc_43 => ?_)
            · have _nhc_43 := hc_43
              have ni_44 := (fa_eq _ _).mp hc_43
              rw [li_0] at ni_44
              have hv_45 : zI y_39 0 0 := zI.eq_l (zI_all y_39) zc_0 hc_43
              exact z_vret hx hb hr hlocks hP hD hS (Nat.le_of_ble_eq_true rfl) (Nat.le_of_ble_eq_true rfl) d_Cover_search_126 ⟨y_41, y_42, rfl, rfl⟩
            · have _nhc_43 := hc_43
              have ni_46 : ¬ (y_39 : Int32).toInt = (0 : Int32).toInt := fun z => hc_43 ((fa_eq _ _).mpr z)
              simp only [li_0] at ni_46
              refine lv_iload hx hb d_Cover_search_86 (lv_at hl 0 rfl) ?_
              refine lv_iload hx hb d_Cover_search_88 (lv_at hl 0 rfl) ?_
              refine lv_ineg hx hb d_Cover_search_90 ?_
              refine lv_topi (fun v_47 ev_47 => ?_)
              refine lv_iand hx hb d_Cover_search_91 ?_
              refine lv_topi (fun v_48 ev_48 => ?_)
              refine lv_istore (lv' := [(7, .int v_48), (6, .int y_39), (5, .int y_40), (4, .int x_9), (0, .ref b0), (1, .int b1), (2, .int b2), (3, .int 7)]) hx hb d_Cover_search_92 hl (by decide) rfl (fun ls hl => ?_)
              refine lv_aload_n hx hb d_Cover_search_94 rfl (lv_at hl 4 rfl) ?_
              refine lv_iload_n hx hb d_Cover_search_95 rfl (lv_at hl 5 rfl) ?_
              refine lv_iload hx hb d_Cover_search_96 (lv_at hl 0 rfl) ?_
              refine lv_ior hx hb d_Cover_search_98 ?_
              refine lv_topi (fun v_49 ev_49 => ?_)
              refine lv_iload hx hb d_Cover_search_99 (lv_at hl 2 rfl) ?_
              refine lv_iload_n hx hb d_Cover_search_101 rfl (lv_at hl 7 rfl) ?_
              refine lv_iconst (v := 1) hx hb d_Cover_search_102 (by decide) ?_
              refine lv_iadd hx hb d_Cover_search_103 ?_
              refine z_topi (y := 8) (by decide +kernel) ?_
              refine z_callV (index := 38) (As := [.int v_49, .int y_40, .int 8]) (rest := []) (wr := []) Z (s13_Cover_search l G (b0) (v_49) (y_40) (b3) (y_41) (y_42) (b6) (b7) (b8) hb3 hb7) hl.1 q781 q783 qs20 q10 q784 ⟨by decide, by decide, by show _ = some 3; decide +kernel⟩ ⟨Nat.le_of_ble_eq_true rfl, Nat.le_of_ble_eq_true rfl⟩ ⟨Nat.le_of_ble_eq_true rfl, Nat.le_of_ble_eq_true rfl⟩ rfl (Nat.le_of_ble_eq_true rfl) d_Cover_search_104 hP hD hS hA 0 9 rfl rfl rfl [0, 1] [] rfl rfl rfl rfl (by decide) (fun v w1 H locs hw_50 hP hD hS => ?_)
              obtain ⟨x_51, x_52, rfl, rfl⟩ := hw_50
              have hP : va_P G.1 classes [(b0, .inr (9, [.int b3, .int x_51, .int x_52, .ref b6, .int b7])), (b6, .inl (G.2 0, 240, .inl b8))] H := hP
              have hD := z_tie hP hD rfl
              refine W.widen (k := 0) (n := 0) (Nat.le_of_ble_eq_true rfl) (Nat.le_of_ble_eq_true rfl) ?_
              refine lv_iload hx hb d_Cover_search_107 (lv_at hl 2 rfl) ?_
              refine lv_iload hx hb d_Cover_search_109 (lv_at hl 0 rfl) ?_
              refine lv_ior hx hb d_Cover_search_111 ?_
              refine lv_topi (fun v_53 ev_53 => ?_)
              refine lv_istore (lv' := [(5, .int v_53), (7, .int v_48), (6, .int y_39), (4, .int x_9), (0, .ref b0), (1, .int b1), (2, .int b2), (3, .int 7)]) hx hb d_Cover_search_112 hl (by decide) rfl (fun ls hl => ?_)
              refine lv_iload hx hb d_Cover_search_114 (lv_at hl 2 rfl) ?_
              refine lv_iload hx hb d_Cover_search_116 (lv_at hl 2 rfl) ?_
              refine lv_iconst (v := 1) hx hb d_Cover_search_118 (by decide) ?_
              refine lv_isub hx hb d_Cover_search_119 ?_
              refine lv_topi (fun v_54 ev_54 => ?_)
              refine lv_iand hx hb d_Cover_search_120 ?_
              refine lv_topi (fun v_55 ev_55 => ?_)
              refine lv_istore (lv' := [(6, .int v_55), (5, .int v_53), (7, .int v_48), (4, .int x_9), (0, .ref b0), (1, .int b1), (2, .int b2), (3, .int 7)]) hx hb d_Cover_search_121 hl (by decide) rfl (fun ls hl => ?_)
              refine lv_goto (tgt := 81) hx hb d_Cover_search_123 (by decide) ?_
              exact ihk_38 (v_55) (v_53) (x_51) (x_52) _ _ _  (z_dec32 ev_54 ev_55 (by omega) hmk_38) hP hD hS (lv_sub hl [0, 1, 3, 4, 5, 6, 7] rfl)
      · have _nhc_10 := hc_10
        have ni_56 := (fa_eq _ _).mp hc_10
        rw [li_m1] at ni_56
        have hv_57 : zI x_9 (-1) (-1) := zI.eq_l hx_9 zc_m1 hc_10
        refine lv_aload_n hx hb d_Cover_search_39 rfl (lv_at hl 1 rfl) ?_
        refine lv_iload_n hx hb d_Cover_search_40 rfl (lv_at hl 2 rfl) ?_
        refine va_put (D := G.1) (ci := 9) (v := .int b1) (ty := .int) (C := R_Cover) (T := F_Cover) (N := 5) hx hb hts i_Cover t_Cover t_Cover_ok n_Cover hown hK hP hD hS 0 rfl rfl 1 (by decide) (hts _ q341) (fun _ h9 => h9) rfl (by decide +kernel) rfl rfl (Nat.le_of_ble_eq_true rfl) d_Cover_search_41 (fun H locs hP hD hS => ?_)
        have hP : va_P G.1 classes [(b0, .inr (9, [.int b3, .int b1, .int b5, .ref b6, .int b7])), (b6, .inl (G.2 0, 240, .inl b8))] H := hP
        have hD := z_tie hP hD rfl
        refine lv_aload_n hx hb d_Cover_search_44 rfl (lv_at hl 1 rfl) ?_
        refine lv_iload_n hx hb d_Cover_search_45 rfl (lv_at hl 4 rfl) ?_
        refine va_put (D := G.1) (ci := 9) (v := .int 7) (ty := .int) (C := R_Cover) (T := F_Cover) (N := 5) hx hb hts i_Cover t_Cover t_Cover_ok n_Cover hown hK hP hD hS 0 rfl rfl 2 (by decide) (hts _ q343) (fun _ h9 => h9) rfl (by decide +kernel) rfl rfl (Nat.le_of_ble_eq_true rfl) d_Cover_search_46 (fun H locs hP hD hS => ?_)
        have hP : va_P G.1 classes [(b0, .inr (9, [.int b3, .int b1, .int 7, .ref b6, .int b7])), (b6, .inl (G.2 0, 240, .inl b8))] H := hP
        have hD := z_tie hP hD rfl
        exact z_vret hx hb hr hlocks hP hD hS (Nat.le_of_ble_eq_true rfl) (Nat.le_of_ble_eq_true rfl) d_Cover_search_49 ⟨b1, 7, rfl, rfl⟩
    · have _nhc_6 := hc_6
      have ni_58 := (fa_eq _ _).mp hc_6
      rw [li_7] at ni_58
      have hv_59 : zI b5 7 7 := zI.eq_l hv_5 zc_7 hc_6.symm
      refine lv_iload_n hx hb d_Cover_search_16 rfl (lv_at hl 1 rfl) ?_
      refine lv_aload_n hx hb d_Cover_search_17 rfl (lv_at hl 0 rfl) ?_
      refine va_get (D := G.1) (ci := 9) (v := .int b4) (C := R_Cover) (T := F_Cover) (N := 5) hx hb hts i_Cover hown hK hP 0 rfl rfl 1 (by decide) (hts _ q341) (fun _ h9 => h9) rfl d_Cover_search_18 ?_
      refine lv_icmp_lt (tgt := 25) hx hb d_Cover_search_21 (by decide) (fun hc_60 => ?_) (fun hc_60 => ?_)
      · have _nhc_60 := hc_60
        have ni_61 := (fa_lt _ _).mp hc_60
        have hv_62 : zI b1 (-2147483648) 2147483646 := zI.lt_l (zI_all b1) (zI_all b4) hc_60 (by decide)
        have hv_63 : zI b4 (-2147483647) 2147483647 := zI.lt_r (zI_all b1) (zI_all b4) hc_60 (by decide)
        refine lv_aload_n hx hb d_Cover_search_25 rfl (lv_at hl 0 rfl) ?_
        refine lv_iload_n hx hb d_Cover_search_26 rfl (lv_at hl 1 rfl) ?_
        refine lv_iload_n hx hb d_Cover_search_27 rfl (lv_at hl 2 rfl) ?_
        refine z_callV (index := 70) (As := [.int b1, .int b2]) (rest := []) (wr := []) Z (s1_Cover_hardest l G (b0) (b1) (b2) (b3) (b4) (b5) (b6) (b7) (b8) hb3 hb7) hl.1 q785 q787 qs21 q10 q788 ⟨by decide, by decide, by show _ = some 2; decide +kernel⟩ ⟨Nat.le_of_ble_eq_true rfl, Nat.le_of_ble_eq_true rfl⟩ ⟨Nat.le_of_ble_eq_true rfl, Nat.le_of_ble_eq_true rfl⟩ rfl (Nat.le_of_ble_eq_true rfl) d_Cover_search_28 hP hD hS hA 0 9 rfl rfl rfl [0, 1] [] rfl rfl rfl rfl (by decide) (fun v w1 H locs hw_64 hP hD hS => ?_)
        obtain ⟨x_65, rfl, rfl, hx_65⟩ := hw_64
        have hP : va_P G.1 classes [(b0, .inr (9, [.int b3, .int b4, .int b5, .ref b6, .int b7])), (b6, .inl (G.2 0, 240, .inl b8))] H := hP
        have hD := z_tie hP hD rfl
        refine W.widen (k := 0) (n := 0) (Nat.le_of_ble_eq_true rfl) (Nat.le_of_ble_eq_true rfl) ?_
        refine lv_istore (lv' := [(4, .int x_65), (0, .ref b0), (1, .int b1), (2, .int b2), (3, .int 7)]) hx hb d_Cover_search_31 hl (by decide) rfl (fun ls hl => ?_)
        refine lv_iload hx hb d_Cover_search_33 (lv_at hl 0 rfl) ?_
        refine lv_iconst (v := (-1)) hx hb d_Cover_search_35 (by decide) ?_
        refine lv_icmp_ne (tgt := 50) hx hb d_Cover_search_36 (by decide) (fun hc_66 => ?_) (fun hc_66 => ?_)
        · have _nhc_66 := hc_66
          have ni_67 : ¬ (x_65 : Int32).toInt = ((-1) : Int32).toInt := fun z => hc_66 ((fa_eq _ _).mpr z)
          simp only [li_m1] at ni_67
          have hv_68 : zI x_65 0 239 := zI.ne_lo hx_65 zc_m1 hc_66 (by decide)
          refine lv_iload_n hx hb d_Cover_search_50 rfl (lv_at hl 4 rfl) ?_
          refine lv_aload_n hx hb d_Cover_search_51 rfl (lv_at hl 1 rfl) ?_
          refine va_get (D := G.1) (ci := 9) (v := .int b5) (C := R_Cover) (T := F_Cover) (N := 5) hx hb hts i_Cover hown hK hP 0 rfl rfl 2 (by decide) (hts _ q343) (fun _ h9 => h9) rfl d_Cover_search_52 ?_
          refine lv_icmp_ge (tgt := 64) hx hb d_Cover_search_55 (by decide) (fun _ => ?_) (fun hc => zI.no_lt zc_7 hv_59 (zi_nle hc) (by decide))
          exact z_vret hx hb hr hlocks hP hD hS (Nat.le_of_ble_eq_true rfl) (Nat.le_of_ble_eq_true rfl) d_Cover_search_64 ⟨b4, b5, rfl, rfl⟩
        · have _nhc_66 := hc_66
          have ni_69 := (fa_eq _ _).mp hc_66
          rw [li_m1] at ni_69
          have hv_70 : zI x_65 (-1) (-1) := zI.eq_l hx_65 zc_m1 hc_66
          refine lv_aload_n hx hb d_Cover_search_39 rfl (lv_at hl 1 rfl) ?_
          refine lv_iload_n hx hb d_Cover_search_40 rfl (lv_at hl 2 rfl) ?_
          refine va_put (D := G.1) (ci := 9) (v := .int b1) (ty := .int) (C := R_Cover) (T := F_Cover) (N := 5) hx hb hts i_Cover t_Cover t_Cover_ok n_Cover hown hK hP hD hS 0 rfl rfl 1 (by decide) (hts _ q341) (fun _ h9 => h9) rfl (by decide +kernel) rfl rfl (Nat.le_of_ble_eq_true rfl) d_Cover_search_41 (fun H locs hP hD hS => ?_)
          have hP : va_P G.1 classes [(b0, .inr (9, [.int b3, .int b1, .int b5, .ref b6, .int b7])), (b6, .inl (G.2 0, 240, .inl b8))] H := hP
          have hD := z_tie hP hD rfl
          refine lv_aload_n hx hb d_Cover_search_44 rfl (lv_at hl 1 rfl) ?_
          refine lv_iload_n hx hb d_Cover_search_45 rfl (lv_at hl 4 rfl) ?_
          refine va_put (D := G.1) (ci := 9) (v := .int 7) (ty := .int) (C := R_Cover) (T := F_Cover) (N := 5) hx hb hts i_Cover t_Cover t_Cover_ok n_Cover hown hK hP hD hS 0 rfl rfl 2 (by decide) (hts _ q343) (fun _ h9 => h9) rfl (by decide +kernel) rfl rfl (Nat.le_of_ble_eq_true rfl) d_Cover_search_46 (fun H locs hP hD hS => ?_)
          have hP : va_P G.1 classes [(b0, .inr (9, [.int b3, .int b1, .int 7, .ref b6, .int b7])), (b6, .inl (G.2 0, 240, .inl b8))] H := hP
          have hD := z_tie hP hD rfl
          exact z_vret hx hb hr hlocks hP hD hS (Nat.le_of_ble_eq_true rfl) (Nat.le_of_ble_eq_true rfl) d_Cover_search_49 ⟨b1, 7, rfl, rfl⟩
      · have _nhc_60 := hc_60
        have ni_71 := (fa_le _ _).mp (zi_nlt hc_60)
        exact z_vret hx hb hr hlocks hP hD hS (Nat.le_of_ble_eq_true rfl) (Nat.le_of_ble_eq_true rfl) d_Cover_search_24 ⟨b4, b5, rfl, rfl⟩
abbrev m_s15_Cover_search : Room := { frames := 16, cells := 0, slots := 0, locals := 424 }
set_option maxHeartbeats 4000000 in
set_option maxRecDepth 100000 in
theorem s15_Cover_search (l : Launch) (G : zG) (b0 : Nat) (b1 : Int32) (b2 : Int32) (b3 : Int32) (b4 : Int32) (b5 : Int32) (b6 : Nat) (b7 : Int32) (b8 : Nat → Int32) (hb3 : zI b3 0 1) (hb7 : zI b7 0 240) : zM l G y_Cover_search prog_2_method_6_code 8 (Option.none : Option Jvm.ClassFile.FieldType) m_s15_Cover_search [.ref b0, .int b1, .int b2, .int 6] [(b0, .inr (9, [.int b3, .int b4, .int b5, .ref b6, .int b7])), (b6, .inl (G.2 0, 240, .inl b8))] (fun v w => ∃ (e0 : Int32), ∃ (e1 : Int32), v = none ∧ w = [(b0, .inr (9, [.int b3, .int e0, .int e1, .ref b6, .int b7])), (b6, .inl (G.2 0, 240, .inl b8))]) := by
  refine z_start (by decide +kernel) (Nat.le_of_ble_eq_true rfl) ?_
  intro p e s m below meth c A Z hr hnm hA hP hD hS ls hl
  have Z : zC p s m _ meth c prog_2_method_6_code 8 "TraceMachines$Cover" G := Z
  obtain ⟨hx, hb, hml, hown, hts, hK, hN, hlocks⟩ := id Z
  have hl : lv_has ls 8 [(0, .ref b0), (1, .int b1), (2, .int b2), (3, .int 6)] := hl
  refine lv_iload_n hx hb d_Cover_search_0 rfl (lv_at hl 3 rfl) ?_
  refine lv_aload_n hx hb d_Cover_search_1 rfl (lv_at hl 0 rfl) ?_
  refine va_get (D := G.1) (ci := 9) (v := .int b5) (C := R_Cover) (T := F_Cover) (N := 5) hx hb hts i_Cover hown hK hP 0 rfl rfl 2 (by decide) (hts _ q343) (fun _ h9 => h9) rfl d_Cover_search_2 ?_
  refine lv_icmp_gt (tgt := 24) hx hb d_Cover_search_5 (by decide) (fun hc_1 => ?_) (fun hc_1 => ?_)
  · have _nhc_1 := hc_1
    have ni_2 := (fa_lt _ _).mp hc_1
    rw [li_6] at ni_2
    have hv_3 : zI b5 (-2147483648) 5 := zI.lt_l (zI_all b5) zc_6 hc_1 (by decide)
    exact z_vret hx hb hr hlocks hP hD hS (Nat.le_of_ble_eq_true rfl) (Nat.le_of_ble_eq_true rfl) d_Cover_search_24 ⟨b4, b5, rfl, rfl⟩
  · have _nhc_1 := hc_1
    have ni_4 := (fa_le _ _).mp (zi_nlt hc_1)
    rw [li_6] at ni_4
    have hv_5 : zI b5 6 2147483647 := zI.le_r zc_6 (zI_all b5) (zi_nlt hc_1) (by decide)
    refine lv_iload_n hx hb d_Cover_search_8 rfl (lv_at hl 3 rfl) ?_
    refine lv_aload_n hx hb d_Cover_search_9 rfl (lv_at hl 0 rfl) ?_
    refine va_get (D := G.1) (ci := 9) (v := .int b5) (C := R_Cover) (T := F_Cover) (N := 5) hx hb hts i_Cover hown hK hP 0 rfl rfl 2 (by decide) (hts _ q343) (fun _ h9 => h9) rfl d_Cover_search_10 ?_
    refine lv_icmp_ne (tgt := 25) hx hb d_Cover_search_13 (by decide) (fun hc_6 => ?_) (fun hc_6 => ?_)
    · have _nhc_6 := hc_6
      have ni_7 : ¬ (6 : Int32).toInt = (b5 : Int32).toInt := fun z => hc_6 ((fa_eq _ _).mpr z)
      simp only [li_6] at ni_7
      refine lv_aload_n hx hb d_Cover_search_25 rfl (lv_at hl 0 rfl) ?_
      refine lv_iload_n hx hb d_Cover_search_26 rfl (lv_at hl 1 rfl) ?_
      refine lv_iload_n hx hb d_Cover_search_27 rfl (lv_at hl 2 rfl) ?_
      refine z_callV (index := 70) (As := [.int b1, .int b2]) (rest := []) (wr := []) Z (s1_Cover_hardest l G (b0) (b1) (b2) (b3) (b4) (b5) (b6) (b7) (b8) hb3 hb7) hl.1 q785 q787 qs21 q10 q788 ⟨by decide, by decide, by show _ = some 2; decide +kernel⟩ ⟨Nat.le_of_ble_eq_true rfl, Nat.le_of_ble_eq_true rfl⟩ ⟨Nat.le_of_ble_eq_true rfl, Nat.le_of_ble_eq_true rfl⟩ rfl (Nat.le_of_ble_eq_true rfl) d_Cover_search_28 hP hD hS hA 0 9 rfl rfl rfl [0, 1] [] rfl rfl rfl rfl (by decide) (fun v w1 H locs hw_8 hP hD hS => ?_)
      obtain ⟨x_9, rfl, rfl, hx_9⟩ := hw_8
      have hP : va_P G.1 classes [(b0, .inr (9, [.int b3, .int b4, .int b5, .ref b6, .int b7])), (b6, .inl (G.2 0, 240, .inl b8))] H := hP
      have hD := z_tie hP hD rfl
      refine W.widen (k := 0) (n := 0) (Nat.le_of_ble_eq_true rfl) (Nat.le_of_ble_eq_true rfl) ?_
      refine lv_istore (lv' := [(4, .int x_9), (0, .ref b0), (1, .int b1), (2, .int b2), (3, .int 6)]) hx hb d_Cover_search_31 hl (by decide) rfl (fun ls hl => ?_)
      refine lv_iload hx hb d_Cover_search_33 (lv_at hl 0 rfl) ?_
      refine lv_iconst (v := (-1)) hx hb d_Cover_search_35 (by decide) ?_
      refine lv_icmp_ne (tgt := 50) hx hb d_Cover_search_36 (by decide) (fun hc_10 => ?_) (fun hc_10 => ?_)
      · have _nhc_10 := hc_10
        have ni_11 : ¬ (x_9 : Int32).toInt = ((-1) : Int32).toInt := fun z => hc_10 ((fa_eq _ _).mpr z)
        simp only [li_m1] at ni_11
        have hv_12 : zI x_9 0 239 := zI.ne_lo hx_9 zc_m1 hc_10 (by decide)
        refine lv_iload_n hx hb d_Cover_search_50 rfl (lv_at hl 4 rfl) ?_
        refine lv_aload_n hx hb d_Cover_search_51 rfl (lv_at hl 1 rfl) ?_
        refine va_get (D := G.1) (ci := 9) (v := .int b5) (C := R_Cover) (T := F_Cover) (N := 5) hx hb hts i_Cover hown hK hP 0 rfl rfl 2 (by decide) (hts _ q343) (fun _ h9 => h9) rfl d_Cover_search_52 ?_
        refine lv_icmp_ge (tgt := 64) hx hb d_Cover_search_55 (by decide) (fun hc_13 => ?_) (fun hc_13 => ?_)
        · have _nhc_13 := hc_13
          have ni_14 := (fa_le _ _).mp hc_13
          rw [li_6] at ni_14
          have hv_15 : zI b5 6 6 := zI.le_l hv_5 zc_6 hc_13 (by decide)
          exact z_vret hx hb hr hlocks hP hD hS (Nat.le_of_ble_eq_true rfl) (Nat.le_of_ble_eq_true rfl) d_Cover_search_64 ⟨b4, b5, rfl, rfl⟩
        · have _nhc_13 := hc_13
          have ni_16 := (fa_lt _ _).mp (zi_nle hc_13)
          rw [li_6] at ni_16
          have hv_17 : zI b5 7 2147483647 := zI.lt_r zc_6 hv_5 (zi_nle hc_13) (by decide)
          refine lv_iload_n hx hb d_Cover_search_58 rfl (lv_at hl 4 rfl) ?_
          refine lv_bipush (v := 20) hx hb d_Cover_search_59 (by decide) ?_
          refine lv_icmp_lt (tgt := 65) hx hb d_Cover_search_61 (by decide) (fun _ => ?_) (fun hc => absurd hc (by decide +kernel))
          refine lv_iload_n hx hb d_Cover_search_65 rfl (lv_at hl 3 rfl) ?_
          refine lv_istore (lv' := [(5, .int b2), (4, .int x_9), (0, .ref b0), (1, .int b1), (2, .int b2), (3, .int 6)]) hx hb d_Cover_search_66 hl (by decide) rfl (fun ls hl => ?_)
          refine lv_aload_n hx hb d_Cover_search_68 rfl (lv_at hl 2 rfl) ?_
          refine va_get (D := G.1) (ci := 9) (v := .ref b6) (C := R_Cover) (T := F_Cover) (N := 5) hx hb hts i_Cover hown hK hP 0 rfl rfl 3 (by decide) (hts _ q344) (fun _ h9 => h9) rfl d_Cover_search_69 ?_
          refine lv_iload hx hb d_Cover_search_72 (lv_at hl 1 rfl) ?_
          refine va_iald hx hb hK hP 1 0 rfl rfl (zI.inn hv_12 (by decide)) d_Cover_search_74 ?_
          refine lv_topi (fun v_18 ev_18 => ?_)
          refine lv_iload_n hx hb d_Cover_search_75 rfl (lv_at hl 4 rfl) ?_
          refine lv_iconst (v := (-1)) hx hb d_Cover_search_76 (by decide) ?_
          refine lv_ixor hx hb d_Cover_search_77 ?_
          refine lv_topi (fun v_19 ev_19 => ?_)
          refine lv_iand hx hb d_Cover_search_78 ?_
          refine lv_topi (fun v_20 ev_20 => ?_)
          refine lv_istore (lv' := [(6, .int v_20), (5, .int b2), (4, .int x_9), (0, .ref b0), (1, .int b1), (2, .int b2), (3, .int 6)]) hx hb d_Cover_search_79 hl (by decide) rfl (fun ls hl => ?_)
          suffices key : ∀ (k_38 : Nat) (y_39 : Int32) (y_40 : Int32) (y_41 : Int32) (y_42 : Int32) (H : Heap) (locs : List Loc) (ls : Array Slot), (y_39).toBitVec.toNat < k_38 → va_P G.1 classes [(b0, .inr (9, [.int b3, .int y_41, .int y_42, .ref b6, .int b7])), (b6, .inl (G.2 0, 240, .inl b8))] H → va_D A [(b0, .inr (9, [.int b3, .int y_41, .int y_42, .ref b6, .int b7])), (b6, .inl (G.2 0, 240, .inl b8))] → va_S A s.heap H locs → lv_has ls 8 [(6, .int y_39), (5, .int y_40), (4, .int x_9), (0, .ref b0), (1, .int b1), (2, .int b2), (3, .int 6)] → W p l e m_s15_Cover_search s m ([.ref b0, .int b1, .int b2, .int 6] : List Value).toArray below meth c H locs 0 0 (MQ below (zQ G (fun v w => ∃ (e0 : Int32), ∃ (e1 : Int32), v = none ∧ w = [(b0, .inr (9, [.int b3, .int e0, .int e1, .ref b6, .int b7])), (b6, .inl (G.2 0, 240, .inl b8))]) A) ([.ref b0, .int b1, .int b2, .int 6] : List Value).toArray s m_s15_Cover_search.cells m_s15_Cover_search.slots A) (F0 m 81 ls []) by
            exact key 4294967296 (v_20) (b2) (b4) (b5) _ _ _  (Nat.lt_of_lt_of_le (v_20).toBitVec.isLt (by decide)) hP hD hS (lv_sub hl [0, 1, 2, 3, 4, 5, 6] rfl)
          intro k_38
          induction k_38 with
          | zero =>
            intro y_39 y_40 y_41 y_42 H locs ls hmk_38 hP hD hS hl
            exfalso; omega
          | succ k_38 ihk_38 =>
            intro y_39 y_40 y_41 y_42 H locs ls hmk_38 hP hD hS hl
            refine lv_iload hx hb d_Cover_search_81 (lv_at hl 0 rfl) ?_
            refine lv_if_eq (tgt := 126) hx hb d_Cover_search_83 (by decide) (fun hc_43 => ?_) (fun hc_43 => ?_)
            · have _nhc_43 := hc_43
              have ni_44 := (fa_eq _ _).mp hc_43
              rw [li_0] at ni_44
              have hv_45 : zI y_39 0 0 := zI.eq_l (zI_all y_39) zc_0 hc_43
              exact z_vret hx hb hr hlocks hP hD hS (Nat.le_of_ble_eq_true rfl) (Nat.le_of_ble_eq_true rfl) d_Cover_search_126 ⟨y_41, y_42, rfl, rfl⟩
            · have _nhc_43 := hc_43
              have ni_46 : ¬ (y_39 : Int32).toInt = (0 : Int32).toInt := fun z => hc_43 ((fa_eq _ _).mpr z)
              simp only [li_0] at ni_46
              refine lv_iload hx hb d_Cover_search_86 (lv_at hl 0 rfl) ?_
              refine lv_iload hx hb d_Cover_search_88 (lv_at hl 0 rfl) ?_
              refine lv_ineg hx hb d_Cover_search_90 ?_
              refine lv_topi (fun v_47 ev_47 => ?_)
              refine lv_iand hx hb d_Cover_search_91 ?_
              refine lv_topi (fun v_48 ev_48 => ?_)
              refine lv_istore (lv' := [(7, .int v_48), (6, .int y_39), (5, .int y_40), (4, .int x_9), (0, .ref b0), (1, .int b1), (2, .int b2), (3, .int 6)]) hx hb d_Cover_search_92 hl (by decide) rfl (fun ls hl => ?_)
              refine lv_aload_n hx hb d_Cover_search_94 rfl (lv_at hl 4 rfl) ?_
              refine lv_iload_n hx hb d_Cover_search_95 rfl (lv_at hl 5 rfl) ?_
              refine lv_iload hx hb d_Cover_search_96 (lv_at hl 0 rfl) ?_
              refine lv_ior hx hb d_Cover_search_98 ?_
              refine lv_topi (fun v_49 ev_49 => ?_)
              refine lv_iload hx hb d_Cover_search_99 (lv_at hl 2 rfl) ?_
              refine lv_iload_n hx hb d_Cover_search_101 rfl (lv_at hl 7 rfl) ?_
              refine lv_iconst (v := 1) hx hb d_Cover_search_102 (by decide) ?_
              refine lv_iadd hx hb d_Cover_search_103 ?_
              refine z_topi (y := 7) (by decide +kernel) ?_
              refine z_callV (index := 38) (As := [.int v_49, .int y_40, .int 7]) (rest := []) (wr := []) Z (s14_Cover_search l G (b0) (v_49) (y_40) (b3) (y_41) (y_42) (b6) (b7) (b8) hb3 hb7) hl.1 q781 q783 qs20 q10 q784 ⟨by decide, by decide, by show _ = some 3; decide +kernel⟩ ⟨Nat.le_of_ble_eq_true rfl, Nat.le_of_ble_eq_true rfl⟩ ⟨Nat.le_of_ble_eq_true rfl, Nat.le_of_ble_eq_true rfl⟩ rfl (Nat.le_of_ble_eq_true rfl) d_Cover_search_104 hP hD hS hA 0 9 rfl rfl rfl [0, 1] [] rfl rfl rfl rfl (by decide) (fun v w1 H locs hw_50 hP hD hS => ?_)
              obtain ⟨x_51, x_52, rfl, rfl⟩ := hw_50
              have hP : va_P G.1 classes [(b0, .inr (9, [.int b3, .int x_51, .int x_52, .ref b6, .int b7])), (b6, .inl (G.2 0, 240, .inl b8))] H := hP
              have hD := z_tie hP hD rfl
              refine W.widen (k := 0) (n := 0) (Nat.le_of_ble_eq_true rfl) (Nat.le_of_ble_eq_true rfl) ?_
              refine lv_iload hx hb d_Cover_search_107 (lv_at hl 2 rfl) ?_
              refine lv_iload hx hb d_Cover_search_109 (lv_at hl 0 rfl) ?_
              refine lv_ior hx hb d_Cover_search_111 ?_
              refine lv_topi (fun v_53 ev_53 => ?_)
              refine lv_istore (lv' := [(5, .int v_53), (7, .int v_48), (6, .int y_39), (4, .int x_9), (0, .ref b0), (1, .int b1), (2, .int b2), (3, .int 6)]) hx hb d_Cover_search_112 hl (by decide) rfl (fun ls hl => ?_)
              refine lv_iload hx hb d_Cover_search_114 (lv_at hl 2 rfl) ?_
              refine lv_iload hx hb d_Cover_search_116 (lv_at hl 2 rfl) ?_
              refine lv_iconst (v := 1) hx hb d_Cover_search_118 (by decide) ?_
              refine lv_isub hx hb d_Cover_search_119 ?_
              refine lv_topi (fun v_54 ev_54 => ?_)
              refine lv_iand hx hb d_Cover_search_120 ?_
              refine lv_topi (fun v_55 ev_55 => ?_)
              refine lv_istore (lv' := [(6, .int v_55), (5, .int v_53), (7, .int v_48), (4, .int x_9), (0, .ref b0), (1, .int b1), (2, .int b2), (3, .int 6)]) hx hb d_Cover_search_121 hl (by decide) rfl (fun ls hl => ?_)
              refine lv_goto (tgt := 81) hx hb d_Cover_search_123 (by decide) ?_
              exact ihk_38 (v_55) (v_53) (x_51) (x_52) _ _ _  (z_dec32 ev_54 ev_55 (by omega) hmk_38) hP hD hS (lv_sub hl [0, 1, 3, 4, 5, 6, 7] rfl)
      · have _nhc_10 := hc_10
        have ni_56 := (fa_eq _ _).mp hc_10
        rw [li_m1] at ni_56
        have hv_57 : zI x_9 (-1) (-1) := zI.eq_l hx_9 zc_m1 hc_10
        refine lv_aload_n hx hb d_Cover_search_39 rfl (lv_at hl 1 rfl) ?_
        refine lv_iload_n hx hb d_Cover_search_40 rfl (lv_at hl 2 rfl) ?_
        refine va_put (D := G.1) (ci := 9) (v := .int b1) (ty := .int) (C := R_Cover) (T := F_Cover) (N := 5) hx hb hts i_Cover t_Cover t_Cover_ok n_Cover hown hK hP hD hS 0 rfl rfl 1 (by decide) (hts _ q341) (fun _ h9 => h9) rfl (by decide +kernel) rfl rfl (Nat.le_of_ble_eq_true rfl) d_Cover_search_41 (fun H locs hP hD hS => ?_)
        have hP : va_P G.1 classes [(b0, .inr (9, [.int b3, .int b1, .int b5, .ref b6, .int b7])), (b6, .inl (G.2 0, 240, .inl b8))] H := hP
        have hD := z_tie hP hD rfl
        refine lv_aload_n hx hb d_Cover_search_44 rfl (lv_at hl 1 rfl) ?_
        refine lv_iload_n hx hb d_Cover_search_45 rfl (lv_at hl 4 rfl) ?_
        refine va_put (D := G.1) (ci := 9) (v := .int 6) (ty := .int) (C := R_Cover) (T := F_Cover) (N := 5) hx hb hts i_Cover t_Cover t_Cover_ok n_Cover hown hK hP hD hS 0 rfl rfl 2 (by decide) (hts _ q343) (fun _ h9 => h9) rfl (by decide +kernel) rfl rfl (Nat.le_of_ble_eq_true rfl) d_Cover_search_46 (fun H locs hP hD hS => ?_)
        have hP : va_P G.1 classes [(b0, .inr (9, [.int b3, .int b1, .int 6, .ref b6, .int b7])), (b6, .inl (G.2 0, 240, .inl b8))] H := hP
        have hD := z_tie hP hD rfl
        exact z_vret hx hb hr hlocks hP hD hS (Nat.le_of_ble_eq_true rfl) (Nat.le_of_ble_eq_true rfl) d_Cover_search_49 ⟨b1, 6, rfl, rfl⟩
    · have _nhc_6 := hc_6
      have ni_58 := (fa_eq _ _).mp hc_6
      rw [li_6] at ni_58
      have hv_59 : zI b5 6 6 := zI.eq_l hv_5 zc_6 hc_6.symm
      refine lv_iload_n hx hb d_Cover_search_16 rfl (lv_at hl 1 rfl) ?_
      refine lv_aload_n hx hb d_Cover_search_17 rfl (lv_at hl 0 rfl) ?_
      refine va_get (D := G.1) (ci := 9) (v := .int b4) (C := R_Cover) (T := F_Cover) (N := 5) hx hb hts i_Cover hown hK hP 0 rfl rfl 1 (by decide) (hts _ q341) (fun _ h9 => h9) rfl d_Cover_search_18 ?_
      refine lv_icmp_lt (tgt := 25) hx hb d_Cover_search_21 (by decide) (fun hc_60 => ?_) (fun hc_60 => ?_)
      · have _nhc_60 := hc_60
        have ni_61 := (fa_lt _ _).mp hc_60
        have hv_62 : zI b1 (-2147483648) 2147483646 := zI.lt_l (zI_all b1) (zI_all b4) hc_60 (by decide)
        have hv_63 : zI b4 (-2147483647) 2147483647 := zI.lt_r (zI_all b1) (zI_all b4) hc_60 (by decide)
        refine lv_aload_n hx hb d_Cover_search_25 rfl (lv_at hl 0 rfl) ?_
        refine lv_iload_n hx hb d_Cover_search_26 rfl (lv_at hl 1 rfl) ?_
        refine lv_iload_n hx hb d_Cover_search_27 rfl (lv_at hl 2 rfl) ?_
        refine z_callV (index := 70) (As := [.int b1, .int b2]) (rest := []) (wr := []) Z (s1_Cover_hardest l G (b0) (b1) (b2) (b3) (b4) (b5) (b6) (b7) (b8) hb3 hb7) hl.1 q785 q787 qs21 q10 q788 ⟨by decide, by decide, by show _ = some 2; decide +kernel⟩ ⟨Nat.le_of_ble_eq_true rfl, Nat.le_of_ble_eq_true rfl⟩ ⟨Nat.le_of_ble_eq_true rfl, Nat.le_of_ble_eq_true rfl⟩ rfl (Nat.le_of_ble_eq_true rfl) d_Cover_search_28 hP hD hS hA 0 9 rfl rfl rfl [0, 1] [] rfl rfl rfl rfl (by decide) (fun v w1 H locs hw_64 hP hD hS => ?_)
        obtain ⟨x_65, rfl, rfl, hx_65⟩ := hw_64
        have hP : va_P G.1 classes [(b0, .inr (9, [.int b3, .int b4, .int b5, .ref b6, .int b7])), (b6, .inl (G.2 0, 240, .inl b8))] H := hP
        have hD := z_tie hP hD rfl
        refine W.widen (k := 0) (n := 0) (Nat.le_of_ble_eq_true rfl) (Nat.le_of_ble_eq_true rfl) ?_
        refine lv_istore (lv' := [(4, .int x_65), (0, .ref b0), (1, .int b1), (2, .int b2), (3, .int 6)]) hx hb d_Cover_search_31 hl (by decide) rfl (fun ls hl => ?_)
        refine lv_iload hx hb d_Cover_search_33 (lv_at hl 0 rfl) ?_
        refine lv_iconst (v := (-1)) hx hb d_Cover_search_35 (by decide) ?_
        refine lv_icmp_ne (tgt := 50) hx hb d_Cover_search_36 (by decide) (fun hc_66 => ?_) (fun hc_66 => ?_)
        · have _nhc_66 := hc_66
          have ni_67 : ¬ (x_65 : Int32).toInt = ((-1) : Int32).toInt := fun z => hc_66 ((fa_eq _ _).mpr z)
          simp only [li_m1] at ni_67
          have hv_68 : zI x_65 0 239 := zI.ne_lo hx_65 zc_m1 hc_66 (by decide)
          refine lv_iload_n hx hb d_Cover_search_50 rfl (lv_at hl 4 rfl) ?_
          refine lv_aload_n hx hb d_Cover_search_51 rfl (lv_at hl 1 rfl) ?_
          refine va_get (D := G.1) (ci := 9) (v := .int b5) (C := R_Cover) (T := F_Cover) (N := 5) hx hb hts i_Cover hown hK hP 0 rfl rfl 2 (by decide) (hts _ q343) (fun _ h9 => h9) rfl d_Cover_search_52 ?_
          refine lv_icmp_ge (tgt := 64) hx hb d_Cover_search_55 (by decide) (fun _ => ?_) (fun hc => zI.no_lt zc_6 hv_59 (zi_nle hc) (by decide))
          exact z_vret hx hb hr hlocks hP hD hS (Nat.le_of_ble_eq_true rfl) (Nat.le_of_ble_eq_true rfl) d_Cover_search_64 ⟨b4, b5, rfl, rfl⟩
        · have _nhc_66 := hc_66
          have ni_69 := (fa_eq _ _).mp hc_66
          rw [li_m1] at ni_69
          have hv_70 : zI x_65 (-1) (-1) := zI.eq_l hx_65 zc_m1 hc_66
          refine lv_aload_n hx hb d_Cover_search_39 rfl (lv_at hl 1 rfl) ?_
          refine lv_iload_n hx hb d_Cover_search_40 rfl (lv_at hl 2 rfl) ?_
          refine va_put (D := G.1) (ci := 9) (v := .int b1) (ty := .int) (C := R_Cover) (T := F_Cover) (N := 5) hx hb hts i_Cover t_Cover t_Cover_ok n_Cover hown hK hP hD hS 0 rfl rfl 1 (by decide) (hts _ q341) (fun _ h9 => h9) rfl (by decide +kernel) rfl rfl (Nat.le_of_ble_eq_true rfl) d_Cover_search_41 (fun H locs hP hD hS => ?_)
          have hP : va_P G.1 classes [(b0, .inr (9, [.int b3, .int b1, .int b5, .ref b6, .int b7])), (b6, .inl (G.2 0, 240, .inl b8))] H := hP
          have hD := z_tie hP hD rfl
          refine lv_aload_n hx hb d_Cover_search_44 rfl (lv_at hl 1 rfl) ?_
          refine lv_iload_n hx hb d_Cover_search_45 rfl (lv_at hl 4 rfl) ?_
          refine va_put (D := G.1) (ci := 9) (v := .int 6) (ty := .int) (C := R_Cover) (T := F_Cover) (N := 5) hx hb hts i_Cover t_Cover t_Cover_ok n_Cover hown hK hP hD hS 0 rfl rfl 2 (by decide) (hts _ q343) (fun _ h9 => h9) rfl (by decide +kernel) rfl rfl (Nat.le_of_ble_eq_true rfl) d_Cover_search_46 (fun H locs hP hD hS => ?_)
          have hP : va_P G.1 classes [(b0, .inr (9, [.int b3, .int b1, .int 6, .ref b6, .int b7])), (b6, .inl (G.2 0, 240, .inl b8))] H := hP
          have hD := z_tie hP hD rfl
          exact z_vret hx hb hr hlocks hP hD hS (Nat.le_of_ble_eq_true rfl) (Nat.le_of_ble_eq_true rfl) d_Cover_search_49 ⟨b1, 6, rfl, rfl⟩
      · have _nhc_60 := hc_60
        have ni_71 := (fa_le _ _).mp (zi_nlt hc_60)
        exact z_vret hx hb hr hlocks hP hD hS (Nat.le_of_ble_eq_true rfl) (Nat.le_of_ble_eq_true rfl) d_Cover_search_24 ⟨b4, b5, rfl, rfl⟩
abbrev m_s16_Cover_search : Room := { frames := 17, cells := 0, slots := 0, locals := 451 }
set_option maxHeartbeats 4000000 in
set_option maxRecDepth 100000 in
theorem s16_Cover_search (l : Launch) (G : zG) (b0 : Nat) (b1 : Int32) (b2 : Int32) (b3 : Int32) (b4 : Int32) (b5 : Int32) (b6 : Nat) (b7 : Int32) (b8 : Nat → Int32) (hb3 : zI b3 0 1) (hb7 : zI b7 0 240) : zM l G y_Cover_search prog_2_method_6_code 8 (Option.none : Option Jvm.ClassFile.FieldType) m_s16_Cover_search [.ref b0, .int b1, .int b2, .int 5] [(b0, .inr (9, [.int b3, .int b4, .int b5, .ref b6, .int b7])), (b6, .inl (G.2 0, 240, .inl b8))] (fun v w => ∃ (e0 : Int32), ∃ (e1 : Int32), v = none ∧ w = [(b0, .inr (9, [.int b3, .int e0, .int e1, .ref b6, .int b7])), (b6, .inl (G.2 0, 240, .inl b8))]) := by
  refine z_start (by decide +kernel) (Nat.le_of_ble_eq_true rfl) ?_
  intro p e s m below meth c A Z hr hnm hA hP hD hS ls hl
  have Z : zC p s m _ meth c prog_2_method_6_code 8 "TraceMachines$Cover" G := Z
  obtain ⟨hx, hb, hml, hown, hts, hK, hN, hlocks⟩ := id Z
  have hl : lv_has ls 8 [(0, .ref b0), (1, .int b1), (2, .int b2), (3, .int 5)] := hl
  refine lv_iload_n hx hb d_Cover_search_0 rfl (lv_at hl 3 rfl) ?_
  refine lv_aload_n hx hb d_Cover_search_1 rfl (lv_at hl 0 rfl) ?_
  refine va_get (D := G.1) (ci := 9) (v := .int b5) (C := R_Cover) (T := F_Cover) (N := 5) hx hb hts i_Cover hown hK hP 0 rfl rfl 2 (by decide) (hts _ q343) (fun _ h9 => h9) rfl d_Cover_search_2 ?_
  refine lv_icmp_gt (tgt := 24) hx hb d_Cover_search_5 (by decide) (fun hc_1 => ?_) (fun hc_1 => ?_)
  · have _nhc_1 := hc_1
    have ni_2 := (fa_lt _ _).mp hc_1
    rw [li_5] at ni_2
    have hv_3 : zI b5 (-2147483648) 4 := zI.lt_l (zI_all b5) zc_5 hc_1 (by decide)
    exact z_vret hx hb hr hlocks hP hD hS (Nat.le_of_ble_eq_true rfl) (Nat.le_of_ble_eq_true rfl) d_Cover_search_24 ⟨b4, b5, rfl, rfl⟩
  · have _nhc_1 := hc_1
    have ni_4 := (fa_le _ _).mp (zi_nlt hc_1)
    rw [li_5] at ni_4
    have hv_5 : zI b5 5 2147483647 := zI.le_r zc_5 (zI_all b5) (zi_nlt hc_1) (by decide)
    refine lv_iload_n hx hb d_Cover_search_8 rfl (lv_at hl 3 rfl) ?_
    refine lv_aload_n hx hb d_Cover_search_9 rfl (lv_at hl 0 rfl) ?_
    refine va_get (D := G.1) (ci := 9) (v := .int b5) (C := R_Cover) (T := F_Cover) (N := 5) hx hb hts i_Cover hown hK hP 0 rfl rfl 2 (by decide) (hts _ q343) (fun _ h9 => h9) rfl d_Cover_search_10 ?_
    refine lv_icmp_ne (tgt := 25) hx hb d_Cover_search_13 (by decide) (fun hc_6 => ?_) (fun hc_6 => ?_)
    · have _nhc_6 := hc_6
      have ni_7 : ¬ (5 : Int32).toInt = (b5 : Int32).toInt := fun z => hc_6 ((fa_eq _ _).mpr z)
      simp only [li_5] at ni_7
      refine lv_aload_n hx hb d_Cover_search_25 rfl (lv_at hl 0 rfl) ?_
      refine lv_iload_n hx hb d_Cover_search_26 rfl (lv_at hl 1 rfl) ?_
      refine lv_iload_n hx hb d_Cover_search_27 rfl (lv_at hl 2 rfl) ?_
      refine z_callV (index := 70) (As := [.int b1, .int b2]) (rest := []) (wr := []) Z (s1_Cover_hardest l G (b0) (b1) (b2) (b3) (b4) (b5) (b6) (b7) (b8) hb3 hb7) hl.1 q785 q787 qs21 q10 q788 ⟨by decide, by decide, by show _ = some 2; decide +kernel⟩ ⟨Nat.le_of_ble_eq_true rfl, Nat.le_of_ble_eq_true rfl⟩ ⟨Nat.le_of_ble_eq_true rfl, Nat.le_of_ble_eq_true rfl⟩ rfl (Nat.le_of_ble_eq_true rfl) d_Cover_search_28 hP hD hS hA 0 9 rfl rfl rfl [0, 1] [] rfl rfl rfl rfl (by decide) (fun v w1 H locs hw_8 hP hD hS => ?_)
      obtain ⟨x_9, rfl, rfl, hx_9⟩ := hw_8
      have hP : va_P G.1 classes [(b0, .inr (9, [.int b3, .int b4, .int b5, .ref b6, .int b7])), (b6, .inl (G.2 0, 240, .inl b8))] H := hP
      have hD := z_tie hP hD rfl
      refine W.widen (k := 0) (n := 0) (Nat.le_of_ble_eq_true rfl) (Nat.le_of_ble_eq_true rfl) ?_
      refine lv_istore (lv' := [(4, .int x_9), (0, .ref b0), (1, .int b1), (2, .int b2), (3, .int 5)]) hx hb d_Cover_search_31 hl (by decide) rfl (fun ls hl => ?_)
      refine lv_iload hx hb d_Cover_search_33 (lv_at hl 0 rfl) ?_
      refine lv_iconst (v := (-1)) hx hb d_Cover_search_35 (by decide) ?_
      refine lv_icmp_ne (tgt := 50) hx hb d_Cover_search_36 (by decide) (fun hc_10 => ?_) (fun hc_10 => ?_)
      · have _nhc_10 := hc_10
        have ni_11 : ¬ (x_9 : Int32).toInt = ((-1) : Int32).toInt := fun z => hc_10 ((fa_eq _ _).mpr z)
        simp only [li_m1] at ni_11
        have hv_12 : zI x_9 0 239 := zI.ne_lo hx_9 zc_m1 hc_10 (by decide)
        refine lv_iload_n hx hb d_Cover_search_50 rfl (lv_at hl 4 rfl) ?_
        refine lv_aload_n hx hb d_Cover_search_51 rfl (lv_at hl 1 rfl) ?_
        refine va_get (D := G.1) (ci := 9) (v := .int b5) (C := R_Cover) (T := F_Cover) (N := 5) hx hb hts i_Cover hown hK hP 0 rfl rfl 2 (by decide) (hts _ q343) (fun _ h9 => h9) rfl d_Cover_search_52 ?_
        refine lv_icmp_ge (tgt := 64) hx hb d_Cover_search_55 (by decide) (fun hc_13 => ?_) (fun hc_13 => ?_)
        · have _nhc_13 := hc_13
          have ni_14 := (fa_le _ _).mp hc_13
          rw [li_5] at ni_14
          have hv_15 : zI b5 5 5 := zI.le_l hv_5 zc_5 hc_13 (by decide)
          exact z_vret hx hb hr hlocks hP hD hS (Nat.le_of_ble_eq_true rfl) (Nat.le_of_ble_eq_true rfl) d_Cover_search_64 ⟨b4, b5, rfl, rfl⟩
        · have _nhc_13 := hc_13
          have ni_16 := (fa_lt _ _).mp (zi_nle hc_13)
          rw [li_5] at ni_16
          have hv_17 : zI b5 6 2147483647 := zI.lt_r zc_5 hv_5 (zi_nle hc_13) (by decide)
          refine lv_iload_n hx hb d_Cover_search_58 rfl (lv_at hl 4 rfl) ?_
          refine lv_bipush (v := 20) hx hb d_Cover_search_59 (by decide) ?_
          refine lv_icmp_lt (tgt := 65) hx hb d_Cover_search_61 (by decide) (fun _ => ?_) (fun hc => absurd hc (by decide +kernel))
          refine lv_iload_n hx hb d_Cover_search_65 rfl (lv_at hl 3 rfl) ?_
          refine lv_istore (lv' := [(5, .int b2), (4, .int x_9), (0, .ref b0), (1, .int b1), (2, .int b2), (3, .int 5)]) hx hb d_Cover_search_66 hl (by decide) rfl (fun ls hl => ?_)
          refine lv_aload_n hx hb d_Cover_search_68 rfl (lv_at hl 2 rfl) ?_
          refine va_get (D := G.1) (ci := 9) (v := .ref b6) (C := R_Cover) (T := F_Cover) (N := 5) hx hb hts i_Cover hown hK hP 0 rfl rfl 3 (by decide) (hts _ q344) (fun _ h9 => h9) rfl d_Cover_search_69 ?_
          refine lv_iload hx hb d_Cover_search_72 (lv_at hl 1 rfl) ?_
          refine va_iald hx hb hK hP 1 0 rfl rfl (zI.inn hv_12 (by decide)) d_Cover_search_74 ?_
          refine lv_topi (fun v_18 ev_18 => ?_)
          refine lv_iload_n hx hb d_Cover_search_75 rfl (lv_at hl 4 rfl) ?_
          refine lv_iconst (v := (-1)) hx hb d_Cover_search_76 (by decide) ?_
          refine lv_ixor hx hb d_Cover_search_77 ?_
          refine lv_topi (fun v_19 ev_19 => ?_)
          refine lv_iand hx hb d_Cover_search_78 ?_
          refine lv_topi (fun v_20 ev_20 => ?_)
          refine lv_istore (lv' := [(6, .int v_20), (5, .int b2), (4, .int x_9), (0, .ref b0), (1, .int b1), (2, .int b2), (3, .int 5)]) hx hb d_Cover_search_79 hl (by decide) rfl (fun ls hl => ?_)
          suffices key : ∀ (k_38 : Nat) (y_39 : Int32) (y_40 : Int32) (y_41 : Int32) (y_42 : Int32) (H : Heap) (locs : List Loc) (ls : Array Slot), (y_39).toBitVec.toNat < k_38 → va_P G.1 classes [(b0, .inr (9, [.int b3, .int y_41, .int y_42, .ref b6, .int b7])), (b6, .inl (G.2 0, 240, .inl b8))] H → va_D A [(b0, .inr (9, [.int b3, .int y_41, .int y_42, .ref b6, .int b7])), (b6, .inl (G.2 0, 240, .inl b8))] → va_S A s.heap H locs → lv_has ls 8 [(6, .int y_39), (5, .int y_40), (4, .int x_9), (0, .ref b0), (1, .int b1), (2, .int b2), (3, .int 5)] → W p l e m_s16_Cover_search s m ([.ref b0, .int b1, .int b2, .int 5] : List Value).toArray below meth c H locs 0 0 (MQ below (zQ G (fun v w => ∃ (e0 : Int32), ∃ (e1 : Int32), v = none ∧ w = [(b0, .inr (9, [.int b3, .int e0, .int e1, .ref b6, .int b7])), (b6, .inl (G.2 0, 240, .inl b8))]) A) ([.ref b0, .int b1, .int b2, .int 5] : List Value).toArray s m_s16_Cover_search.cells m_s16_Cover_search.slots A) (F0 m 81 ls []) by
            exact key 4294967296 (v_20) (b2) (b4) (b5) _ _ _  (Nat.lt_of_lt_of_le (v_20).toBitVec.isLt (by decide)) hP hD hS (lv_sub hl [0, 1, 2, 3, 4, 5, 6] rfl)
          intro k_38
          induction k_38 with
          | zero =>
            intro y_39 y_40 y_41 y_42 H locs ls hmk_38 hP hD hS hl
            exfalso; omega
          | succ k_38 ihk_38 =>
            intro y_39 y_40 y_41 y_42 H locs ls hmk_38 hP hD hS hl
            refine lv_iload hx hb d_Cover_search_81 (lv_at hl 0 rfl) ?_
            refine lv_if_eq (tgt := 126) hx hb d_Cover_search_83 (by decide) (fun hc_43 => ?_) (fun hc_43 => ?_)
            · have _nhc_43 := hc_43
              have ni_44 := (fa_eq _ _).mp hc_43
              rw [li_0] at ni_44
              have hv_45 : zI y_39 0 0 := zI.eq_l (zI_all y_39) zc_0 hc_43
              exact z_vret hx hb hr hlocks hP hD hS (Nat.le_of_ble_eq_true rfl) (Nat.le_of_ble_eq_true rfl) d_Cover_search_126 ⟨y_41, y_42, rfl, rfl⟩
            · have _nhc_43 := hc_43
              have ni_46 : ¬ (y_39 : Int32).toInt = (0 : Int32).toInt := fun z => hc_43 ((fa_eq _ _).mpr z)
              simp only [li_0] at ni_46
              refine lv_iload hx hb d_Cover_search_86 (lv_at hl 0 rfl) ?_
              refine lv_iload hx hb d_Cover_search_88 (lv_at hl 0 rfl) ?_
              refine lv_ineg hx hb d_Cover_search_90 ?_
              refine lv_topi (fun v_47 ev_47 => ?_)
              refine lv_iand hx hb d_Cover_search_91 ?_
              refine lv_topi (fun v_48 ev_48 => ?_)
              refine lv_istore (lv' := [(7, .int v_48), (6, .int y_39), (5, .int y_40), (4, .int x_9), (0, .ref b0), (1, .int b1), (2, .int b2), (3, .int 5)]) hx hb d_Cover_search_92 hl (by decide) rfl (fun ls hl => ?_)
              refine lv_aload_n hx hb d_Cover_search_94 rfl (lv_at hl 4 rfl) ?_
              refine lv_iload_n hx hb d_Cover_search_95 rfl (lv_at hl 5 rfl) ?_
              refine lv_iload hx hb d_Cover_search_96 (lv_at hl 0 rfl) ?_
              refine lv_ior hx hb d_Cover_search_98 ?_
              refine lv_topi (fun v_49 ev_49 => ?_)
              refine lv_iload hx hb d_Cover_search_99 (lv_at hl 2 rfl) ?_
              refine lv_iload_n hx hb d_Cover_search_101 rfl (lv_at hl 7 rfl) ?_
              refine lv_iconst (v := 1) hx hb d_Cover_search_102 (by decide) ?_
              refine lv_iadd hx hb d_Cover_search_103 ?_
              refine z_topi (y := 6) (by decide +kernel) ?_
              refine z_callV (index := 38) (As := [.int v_49, .int y_40, .int 6]) (rest := []) (wr := []) Z (s15_Cover_search l G (b0) (v_49) (y_40) (b3) (y_41) (y_42) (b6) (b7) (b8) hb3 hb7) hl.1 q781 q783 qs20 q10 q784 ⟨by decide, by decide, by show _ = some 3; decide +kernel⟩ ⟨Nat.le_of_ble_eq_true rfl, Nat.le_of_ble_eq_true rfl⟩ ⟨Nat.le_of_ble_eq_true rfl, Nat.le_of_ble_eq_true rfl⟩ rfl (Nat.le_of_ble_eq_true rfl) d_Cover_search_104 hP hD hS hA 0 9 rfl rfl rfl [0, 1] [] rfl rfl rfl rfl (by decide) (fun v w1 H locs hw_50 hP hD hS => ?_)
              obtain ⟨x_51, x_52, rfl, rfl⟩ := hw_50
              have hP : va_P G.1 classes [(b0, .inr (9, [.int b3, .int x_51, .int x_52, .ref b6, .int b7])), (b6, .inl (G.2 0, 240, .inl b8))] H := hP
              have hD := z_tie hP hD rfl
              refine W.widen (k := 0) (n := 0) (Nat.le_of_ble_eq_true rfl) (Nat.le_of_ble_eq_true rfl) ?_
              refine lv_iload hx hb d_Cover_search_107 (lv_at hl 2 rfl) ?_
              refine lv_iload hx hb d_Cover_search_109 (lv_at hl 0 rfl) ?_
              refine lv_ior hx hb d_Cover_search_111 ?_
              refine lv_topi (fun v_53 ev_53 => ?_)
              refine lv_istore (lv' := [(5, .int v_53), (7, .int v_48), (6, .int y_39), (4, .int x_9), (0, .ref b0), (1, .int b1), (2, .int b2), (3, .int 5)]) hx hb d_Cover_search_112 hl (by decide) rfl (fun ls hl => ?_)
              refine lv_iload hx hb d_Cover_search_114 (lv_at hl 2 rfl) ?_
              refine lv_iload hx hb d_Cover_search_116 (lv_at hl 2 rfl) ?_
              refine lv_iconst (v := 1) hx hb d_Cover_search_118 (by decide) ?_
              refine lv_isub hx hb d_Cover_search_119 ?_
              refine lv_topi (fun v_54 ev_54 => ?_)
              refine lv_iand hx hb d_Cover_search_120 ?_
              refine lv_topi (fun v_55 ev_55 => ?_)
              refine lv_istore (lv' := [(6, .int v_55), (5, .int v_53), (7, .int v_48), (4, .int x_9), (0, .ref b0), (1, .int b1), (2, .int b2), (3, .int 5)]) hx hb d_Cover_search_121 hl (by decide) rfl (fun ls hl => ?_)
              refine lv_goto (tgt := 81) hx hb d_Cover_search_123 (by decide) ?_
              exact ihk_38 (v_55) (v_53) (x_51) (x_52) _ _ _  (z_dec32 ev_54 ev_55 (by omega) hmk_38) hP hD hS (lv_sub hl [0, 1, 3, 4, 5, 6, 7] rfl)
      · have _nhc_10 := hc_10
        have ni_56 := (fa_eq _ _).mp hc_10
        rw [li_m1] at ni_56
        have hv_57 : zI x_9 (-1) (-1) := zI.eq_l hx_9 zc_m1 hc_10
        refine lv_aload_n hx hb d_Cover_search_39 rfl (lv_at hl 1 rfl) ?_
        refine lv_iload_n hx hb d_Cover_search_40 rfl (lv_at hl 2 rfl) ?_
        refine va_put (D := G.1) (ci := 9) (v := .int b1) (ty := .int) (C := R_Cover) (T := F_Cover) (N := 5) hx hb hts i_Cover t_Cover t_Cover_ok n_Cover hown hK hP hD hS 0 rfl rfl 1 (by decide) (hts _ q341) (fun _ h9 => h9) rfl (by decide +kernel) rfl rfl (Nat.le_of_ble_eq_true rfl) d_Cover_search_41 (fun H locs hP hD hS => ?_)
        have hP : va_P G.1 classes [(b0, .inr (9, [.int b3, .int b1, .int b5, .ref b6, .int b7])), (b6, .inl (G.2 0, 240, .inl b8))] H := hP
        have hD := z_tie hP hD rfl
        refine lv_aload_n hx hb d_Cover_search_44 rfl (lv_at hl 1 rfl) ?_
        refine lv_iload_n hx hb d_Cover_search_45 rfl (lv_at hl 4 rfl) ?_
        refine va_put (D := G.1) (ci := 9) (v := .int 5) (ty := .int) (C := R_Cover) (T := F_Cover) (N := 5) hx hb hts i_Cover t_Cover t_Cover_ok n_Cover hown hK hP hD hS 0 rfl rfl 2 (by decide) (hts _ q343) (fun _ h9 => h9) rfl (by decide +kernel) rfl rfl (Nat.le_of_ble_eq_true rfl) d_Cover_search_46 (fun H locs hP hD hS => ?_)
        have hP : va_P G.1 classes [(b0, .inr (9, [.int b3, .int b1, .int 5, .ref b6, .int b7])), (b6, .inl (G.2 0, 240, .inl b8))] H := hP
        have hD := z_tie hP hD rfl
        exact z_vret hx hb hr hlocks hP hD hS (Nat.le_of_ble_eq_true rfl) (Nat.le_of_ble_eq_true rfl) d_Cover_search_49 ⟨b1, 5, rfl, rfl⟩
    · have _nhc_6 := hc_6
      have ni_58 := (fa_eq _ _).mp hc_6
      rw [li_5] at ni_58
      have hv_59 : zI b5 5 5 := zI.eq_l hv_5 zc_5 hc_6.symm
      refine lv_iload_n hx hb d_Cover_search_16 rfl (lv_at hl 1 rfl) ?_
      refine lv_aload_n hx hb d_Cover_search_17 rfl (lv_at hl 0 rfl) ?_
      refine va_get (D := G.1) (ci := 9) (v := .int b4) (C := R_Cover) (T := F_Cover) (N := 5) hx hb hts i_Cover hown hK hP 0 rfl rfl 1 (by decide) (hts _ q341) (fun _ h9 => h9) rfl d_Cover_search_18 ?_
      refine lv_icmp_lt (tgt := 25) hx hb d_Cover_search_21 (by decide) (fun hc_60 => ?_) (fun hc_60 => ?_)
      · have _nhc_60 := hc_60
        have ni_61 := (fa_lt _ _).mp hc_60
        have hv_62 : zI b1 (-2147483648) 2147483646 := zI.lt_l (zI_all b1) (zI_all b4) hc_60 (by decide)
        have hv_63 : zI b4 (-2147483647) 2147483647 := zI.lt_r (zI_all b1) (zI_all b4) hc_60 (by decide)
        refine lv_aload_n hx hb d_Cover_search_25 rfl (lv_at hl 0 rfl) ?_
        refine lv_iload_n hx hb d_Cover_search_26 rfl (lv_at hl 1 rfl) ?_
        refine lv_iload_n hx hb d_Cover_search_27 rfl (lv_at hl 2 rfl) ?_
        refine z_callV (index := 70) (As := [.int b1, .int b2]) (rest := []) (wr := []) Z (s1_Cover_hardest l G (b0) (b1) (b2) (b3) (b4) (b5) (b6) (b7) (b8) hb3 hb7) hl.1 q785 q787 qs21 q10 q788 ⟨by decide, by decide, by show _ = some 2; decide +kernel⟩ ⟨Nat.le_of_ble_eq_true rfl, Nat.le_of_ble_eq_true rfl⟩ ⟨Nat.le_of_ble_eq_true rfl, Nat.le_of_ble_eq_true rfl⟩ rfl (Nat.le_of_ble_eq_true rfl) d_Cover_search_28 hP hD hS hA 0 9 rfl rfl rfl [0, 1] [] rfl rfl rfl rfl (by decide) (fun v w1 H locs hw_64 hP hD hS => ?_)
        obtain ⟨x_65, rfl, rfl, hx_65⟩ := hw_64
        have hP : va_P G.1 classes [(b0, .inr (9, [.int b3, .int b4, .int b5, .ref b6, .int b7])), (b6, .inl (G.2 0, 240, .inl b8))] H := hP
        have hD := z_tie hP hD rfl
        refine W.widen (k := 0) (n := 0) (Nat.le_of_ble_eq_true rfl) (Nat.le_of_ble_eq_true rfl) ?_
        refine lv_istore (lv' := [(4, .int x_65), (0, .ref b0), (1, .int b1), (2, .int b2), (3, .int 5)]) hx hb d_Cover_search_31 hl (by decide) rfl (fun ls hl => ?_)
        refine lv_iload hx hb d_Cover_search_33 (lv_at hl 0 rfl) ?_
        refine lv_iconst (v := (-1)) hx hb d_Cover_search_35 (by decide) ?_
        refine lv_icmp_ne (tgt := 50) hx hb d_Cover_search_36 (by decide) (fun hc_66 => ?_) (fun hc_66 => ?_)
        · have _nhc_66 := hc_66
          have ni_67 : ¬ (x_65 : Int32).toInt = ((-1) : Int32).toInt := fun z => hc_66 ((fa_eq _ _).mpr z)
          simp only [li_m1] at ni_67
          have hv_68 : zI x_65 0 239 := zI.ne_lo hx_65 zc_m1 hc_66 (by decide)
          refine lv_iload_n hx hb d_Cover_search_50 rfl (lv_at hl 4 rfl) ?_
          refine lv_aload_n hx hb d_Cover_search_51 rfl (lv_at hl 1 rfl) ?_
          refine va_get (D := G.1) (ci := 9) (v := .int b5) (C := R_Cover) (T := F_Cover) (N := 5) hx hb hts i_Cover hown hK hP 0 rfl rfl 2 (by decide) (hts _ q343) (fun _ h9 => h9) rfl d_Cover_search_52 ?_
          refine lv_icmp_ge (tgt := 64) hx hb d_Cover_search_55 (by decide) (fun _ => ?_) (fun hc => zI.no_lt zc_5 hv_59 (zi_nle hc) (by decide))
          exact z_vret hx hb hr hlocks hP hD hS (Nat.le_of_ble_eq_true rfl) (Nat.le_of_ble_eq_true rfl) d_Cover_search_64 ⟨b4, b5, rfl, rfl⟩
        · have _nhc_66 := hc_66
          have ni_69 := (fa_eq _ _).mp hc_66
          rw [li_m1] at ni_69
          have hv_70 : zI x_65 (-1) (-1) := zI.eq_l hx_65 zc_m1 hc_66
          refine lv_aload_n hx hb d_Cover_search_39 rfl (lv_at hl 1 rfl) ?_
          refine lv_iload_n hx hb d_Cover_search_40 rfl (lv_at hl 2 rfl) ?_
          refine va_put (D := G.1) (ci := 9) (v := .int b1) (ty := .int) (C := R_Cover) (T := F_Cover) (N := 5) hx hb hts i_Cover t_Cover t_Cover_ok n_Cover hown hK hP hD hS 0 rfl rfl 1 (by decide) (hts _ q341) (fun _ h9 => h9) rfl (by decide +kernel) rfl rfl (Nat.le_of_ble_eq_true rfl) d_Cover_search_41 (fun H locs hP hD hS => ?_)
          have hP : va_P G.1 classes [(b0, .inr (9, [.int b3, .int b1, .int b5, .ref b6, .int b7])), (b6, .inl (G.2 0, 240, .inl b8))] H := hP
          have hD := z_tie hP hD rfl
          refine lv_aload_n hx hb d_Cover_search_44 rfl (lv_at hl 1 rfl) ?_
          refine lv_iload_n hx hb d_Cover_search_45 rfl (lv_at hl 4 rfl) ?_
          refine va_put (D := G.1) (ci := 9) (v := .int 5) (ty := .int) (C := R_Cover) (T := F_Cover) (N := 5) hx hb hts i_Cover t_Cover t_Cover_ok n_Cover hown hK hP hD hS 0 rfl rfl 2 (by decide) (hts _ q343) (fun _ h9 => h9) rfl (by decide +kernel) rfl rfl (Nat.le_of_ble_eq_true rfl) d_Cover_search_46 (fun H locs hP hD hS => ?_)
          have hP : va_P G.1 classes [(b0, .inr (9, [.int b3, .int b1, .int 5, .ref b6, .int b7])), (b6, .inl (G.2 0, 240, .inl b8))] H := hP
          have hD := z_tie hP hD rfl
          exact z_vret hx hb hr hlocks hP hD hS (Nat.le_of_ble_eq_true rfl) (Nat.le_of_ble_eq_true rfl) d_Cover_search_49 ⟨b1, 5, rfl, rfl⟩
      · have _nhc_60 := hc_60
        have ni_71 := (fa_le _ _).mp (zi_nlt hc_60)
        exact z_vret hx hb hr hlocks hP hD hS (Nat.le_of_ble_eq_true rfl) (Nat.le_of_ble_eq_true rfl) d_Cover_search_24 ⟨b4, b5, rfl, rfl⟩
abbrev m_s17_Cover_search : Room := { frames := 18, cells := 0, slots := 0, locals := 478 }
set_option maxHeartbeats 4000000 in
set_option maxRecDepth 100000 in
theorem s17_Cover_search (l : Launch) (G : zG) (b0 : Nat) (b1 : Int32) (b2 : Int32) (b3 : Int32) (b4 : Int32) (b5 : Int32) (b6 : Nat) (b7 : Int32) (b8 : Nat → Int32) (hb3 : zI b3 0 1) (hb7 : zI b7 0 240) : zM l G y_Cover_search prog_2_method_6_code 8 (Option.none : Option Jvm.ClassFile.FieldType) m_s17_Cover_search [.ref b0, .int b1, .int b2, .int 4] [(b0, .inr (9, [.int b3, .int b4, .int b5, .ref b6, .int b7])), (b6, .inl (G.2 0, 240, .inl b8))] (fun v w => ∃ (e0 : Int32), ∃ (e1 : Int32), v = none ∧ w = [(b0, .inr (9, [.int b3, .int e0, .int e1, .ref b6, .int b7])), (b6, .inl (G.2 0, 240, .inl b8))]) := by
  refine z_start (by decide +kernel) (Nat.le_of_ble_eq_true rfl) ?_
  intro p e s m below meth c A Z hr hnm hA hP hD hS ls hl
  have Z : zC p s m _ meth c prog_2_method_6_code 8 "TraceMachines$Cover" G := Z
  obtain ⟨hx, hb, hml, hown, hts, hK, hN, hlocks⟩ := id Z
  have hl : lv_has ls 8 [(0, .ref b0), (1, .int b1), (2, .int b2), (3, .int 4)] := hl
  refine lv_iload_n hx hb d_Cover_search_0 rfl (lv_at hl 3 rfl) ?_
  refine lv_aload_n hx hb d_Cover_search_1 rfl (lv_at hl 0 rfl) ?_
  refine va_get (D := G.1) (ci := 9) (v := .int b5) (C := R_Cover) (T := F_Cover) (N := 5) hx hb hts i_Cover hown hK hP 0 rfl rfl 2 (by decide) (hts _ q343) (fun _ h9 => h9) rfl d_Cover_search_2 ?_
  refine lv_icmp_gt (tgt := 24) hx hb d_Cover_search_5 (by decide) (fun hc_1 => ?_) (fun hc_1 => ?_)
  · have _nhc_1 := hc_1
    have ni_2 := (fa_lt _ _).mp hc_1
    rw [li_4] at ni_2
    have hv_3 : zI b5 (-2147483648) 3 := zI.lt_l (zI_all b5) zc_4 hc_1 (by decide)
    exact z_vret hx hb hr hlocks hP hD hS (Nat.le_of_ble_eq_true rfl) (Nat.le_of_ble_eq_true rfl) d_Cover_search_24 ⟨b4, b5, rfl, rfl⟩
  · have _nhc_1 := hc_1
    have ni_4 := (fa_le _ _).mp (zi_nlt hc_1)
    rw [li_4] at ni_4
    have hv_5 : zI b5 4 2147483647 := zI.le_r zc_4 (zI_all b5) (zi_nlt hc_1) (by decide)
    refine lv_iload_n hx hb d_Cover_search_8 rfl (lv_at hl 3 rfl) ?_
    refine lv_aload_n hx hb d_Cover_search_9 rfl (lv_at hl 0 rfl) ?_
    refine va_get (D := G.1) (ci := 9) (v := .int b5) (C := R_Cover) (T := F_Cover) (N := 5) hx hb hts i_Cover hown hK hP 0 rfl rfl 2 (by decide) (hts _ q343) (fun _ h9 => h9) rfl d_Cover_search_10 ?_
    refine lv_icmp_ne (tgt := 25) hx hb d_Cover_search_13 (by decide) (fun hc_6 => ?_) (fun hc_6 => ?_)
    · have _nhc_6 := hc_6
      have ni_7 : ¬ (4 : Int32).toInt = (b5 : Int32).toInt := fun z => hc_6 ((fa_eq _ _).mpr z)
      simp only [li_4] at ni_7
      refine lv_aload_n hx hb d_Cover_search_25 rfl (lv_at hl 0 rfl) ?_
      refine lv_iload_n hx hb d_Cover_search_26 rfl (lv_at hl 1 rfl) ?_
      refine lv_iload_n hx hb d_Cover_search_27 rfl (lv_at hl 2 rfl) ?_
      refine z_callV (index := 70) (As := [.int b1, .int b2]) (rest := []) (wr := []) Z (s1_Cover_hardest l G (b0) (b1) (b2) (b3) (b4) (b5) (b6) (b7) (b8) hb3 hb7) hl.1 q785 q787 qs21 q10 q788 ⟨by decide, by decide, by show _ = some 2; decide +kernel⟩ ⟨Nat.le_of_ble_eq_true rfl, Nat.le_of_ble_eq_true rfl⟩ ⟨Nat.le_of_ble_eq_true rfl, Nat.le_of_ble_eq_true rfl⟩ rfl (Nat.le_of_ble_eq_true rfl) d_Cover_search_28 hP hD hS hA 0 9 rfl rfl rfl [0, 1] [] rfl rfl rfl rfl (by decide) (fun v w1 H locs hw_8 hP hD hS => ?_)
      obtain ⟨x_9, rfl, rfl, hx_9⟩ := hw_8
      have hP : va_P G.1 classes [(b0, .inr (9, [.int b3, .int b4, .int b5, .ref b6, .int b7])), (b6, .inl (G.2 0, 240, .inl b8))] H := hP
      have hD := z_tie hP hD rfl
      refine W.widen (k := 0) (n := 0) (Nat.le_of_ble_eq_true rfl) (Nat.le_of_ble_eq_true rfl) ?_
      refine lv_istore (lv' := [(4, .int x_9), (0, .ref b0), (1, .int b1), (2, .int b2), (3, .int 4)]) hx hb d_Cover_search_31 hl (by decide) rfl (fun ls hl => ?_)
      refine lv_iload hx hb d_Cover_search_33 (lv_at hl 0 rfl) ?_
      refine lv_iconst (v := (-1)) hx hb d_Cover_search_35 (by decide) ?_
      refine lv_icmp_ne (tgt := 50) hx hb d_Cover_search_36 (by decide) (fun hc_10 => ?_) (fun hc_10 => ?_)
      · have _nhc_10 := hc_10
        have ni_11 : ¬ (x_9 : Int32).toInt = ((-1) : Int32).toInt := fun z => hc_10 ((fa_eq _ _).mpr z)
        simp only [li_m1] at ni_11
        have hv_12 : zI x_9 0 239 := zI.ne_lo hx_9 zc_m1 hc_10 (by decide)
        refine lv_iload_n hx hb d_Cover_search_50 rfl (lv_at hl 4 rfl) ?_
        refine lv_aload_n hx hb d_Cover_search_51 rfl (lv_at hl 1 rfl) ?_
        refine va_get (D := G.1) (ci := 9) (v := .int b5) (C := R_Cover) (T := F_Cover) (N := 5) hx hb hts i_Cover hown hK hP 0 rfl rfl 2 (by decide) (hts _ q343) (fun _ h9 => h9) rfl d_Cover_search_52 ?_
        refine lv_icmp_ge (tgt := 64) hx hb d_Cover_search_55 (by decide) (fun hc_13 => ?_) (fun hc_13 => ?_)
        · have _nhc_13 := hc_13
          have ni_14 := (fa_le _ _).mp hc_13
          rw [li_4] at ni_14
          have hv_15 : zI b5 4 4 := zI.le_l hv_5 zc_4 hc_13 (by decide)
          exact z_vret hx hb hr hlocks hP hD hS (Nat.le_of_ble_eq_true rfl) (Nat.le_of_ble_eq_true rfl) d_Cover_search_64 ⟨b4, b5, rfl, rfl⟩
        · have _nhc_13 := hc_13
          have ni_16 := (fa_lt _ _).mp (zi_nle hc_13)
          rw [li_4] at ni_16
          have hv_17 : zI b5 5 2147483647 := zI.lt_r zc_4 hv_5 (zi_nle hc_13) (by decide)
          refine lv_iload_n hx hb d_Cover_search_58 rfl (lv_at hl 4 rfl) ?_
          refine lv_bipush (v := 20) hx hb d_Cover_search_59 (by decide) ?_
          refine lv_icmp_lt (tgt := 65) hx hb d_Cover_search_61 (by decide) (fun _ => ?_) (fun hc => absurd hc (by decide +kernel))
          refine lv_iload_n hx hb d_Cover_search_65 rfl (lv_at hl 3 rfl) ?_
          refine lv_istore (lv' := [(5, .int b2), (4, .int x_9), (0, .ref b0), (1, .int b1), (2, .int b2), (3, .int 4)]) hx hb d_Cover_search_66 hl (by decide) rfl (fun ls hl => ?_)
          refine lv_aload_n hx hb d_Cover_search_68 rfl (lv_at hl 2 rfl) ?_
          refine va_get (D := G.1) (ci := 9) (v := .ref b6) (C := R_Cover) (T := F_Cover) (N := 5) hx hb hts i_Cover hown hK hP 0 rfl rfl 3 (by decide) (hts _ q344) (fun _ h9 => h9) rfl d_Cover_search_69 ?_
          refine lv_iload hx hb d_Cover_search_72 (lv_at hl 1 rfl) ?_
          refine va_iald hx hb hK hP 1 0 rfl rfl (zI.inn hv_12 (by decide)) d_Cover_search_74 ?_
          refine lv_topi (fun v_18 ev_18 => ?_)
          refine lv_iload_n hx hb d_Cover_search_75 rfl (lv_at hl 4 rfl) ?_
          refine lv_iconst (v := (-1)) hx hb d_Cover_search_76 (by decide) ?_
          refine lv_ixor hx hb d_Cover_search_77 ?_
          refine lv_topi (fun v_19 ev_19 => ?_)
          refine lv_iand hx hb d_Cover_search_78 ?_
          refine lv_topi (fun v_20 ev_20 => ?_)
          refine lv_istore (lv' := [(6, .int v_20), (5, .int b2), (4, .int x_9), (0, .ref b0), (1, .int b1), (2, .int b2), (3, .int 4)]) hx hb d_Cover_search_79 hl (by decide) rfl (fun ls hl => ?_)
          suffices key : ∀ (k_38 : Nat) (y_39 : Int32) (y_40 : Int32) (y_41 : Int32) (y_42 : Int32) (H : Heap) (locs : List Loc) (ls : Array Slot), (y_39).toBitVec.toNat < k_38 → va_P G.1 classes [(b0, .inr (9, [.int b3, .int y_41, .int y_42, .ref b6, .int b7])), (b6, .inl (G.2 0, 240, .inl b8))] H → va_D A [(b0, .inr (9, [.int b3, .int y_41, .int y_42, .ref b6, .int b7])), (b6, .inl (G.2 0, 240, .inl b8))] → va_S A s.heap H locs → lv_has ls 8 [(6, .int y_39), (5, .int y_40), (4, .int x_9), (0, .ref b0), (1, .int b1), (2, .int b2), (3, .int 4)] → W p l e m_s17_Cover_search s m ([.ref b0, .int b1, .int b2, .int 4] : List Value).toArray below meth c H locs 0 0 (MQ below (zQ G (fun v w => ∃ (e0 : Int32), ∃ (e1 : Int32), v = none ∧ w = [(b0, .inr (9, [.int b3, .int e0, .int e1, .ref b6, .int b7])), (b6, .inl (G.2 0, 240, .inl b8))]) A) ([.ref b0, .int b1, .int b2, .int 4] : List Value).toArray s m_s17_Cover_search.cells m_s17_Cover_search.slots A) (F0 m 81 ls []) by
            exact key 4294967296 (v_20) (b2) (b4) (b5) _ _ _  (Nat.lt_of_lt_of_le (v_20).toBitVec.isLt (by decide)) hP hD hS (lv_sub hl [0, 1, 2, 3, 4, 5, 6] rfl)
          intro k_38
          induction k_38 with
          | zero =>
            intro y_39 y_40 y_41 y_42 H locs ls hmk_38 hP hD hS hl
            exfalso; omega
          | succ k_38 ihk_38 =>
            intro y_39 y_40 y_41 y_42 H locs ls hmk_38 hP hD hS hl
            refine lv_iload hx hb d_Cover_search_81 (lv_at hl 0 rfl) ?_
            refine lv_if_eq (tgt := 126) hx hb d_Cover_search_83 (by decide) (fun hc_43 => ?_) (fun hc_43 => ?_)
            · have _nhc_43 := hc_43
              have ni_44 := (fa_eq _ _).mp hc_43
              rw [li_0] at ni_44
              have hv_45 : zI y_39 0 0 := zI.eq_l (zI_all y_39) zc_0 hc_43
              exact z_vret hx hb hr hlocks hP hD hS (Nat.le_of_ble_eq_true rfl) (Nat.le_of_ble_eq_true rfl) d_Cover_search_126 ⟨y_41, y_42, rfl, rfl⟩
            · have _nhc_43 := hc_43
              have ni_46 : ¬ (y_39 : Int32).toInt = (0 : Int32).toInt := fun z => hc_43 ((fa_eq _ _).mpr z)
              simp only [li_0] at ni_46
              refine lv_iload hx hb d_Cover_search_86 (lv_at hl 0 rfl) ?_
              refine lv_iload hx hb d_Cover_search_88 (lv_at hl 0 rfl) ?_
              refine lv_ineg hx hb d_Cover_search_90 ?_
              refine lv_topi (fun v_47 ev_47 => ?_)
              refine lv_iand hx hb d_Cover_search_91 ?_
              refine lv_topi (fun v_48 ev_48 => ?_)
              refine lv_istore (lv' := [(7, .int v_48), (6, .int y_39), (5, .int y_40), (4, .int x_9), (0, .ref b0), (1, .int b1), (2, .int b2), (3, .int 4)]) hx hb d_Cover_search_92 hl (by decide) rfl (fun ls hl => ?_)
              refine lv_aload_n hx hb d_Cover_search_94 rfl (lv_at hl 4 rfl) ?_
              refine lv_iload_n hx hb d_Cover_search_95 rfl (lv_at hl 5 rfl) ?_
              refine lv_iload hx hb d_Cover_search_96 (lv_at hl 0 rfl) ?_
              refine lv_ior hx hb d_Cover_search_98 ?_
              refine lv_topi (fun v_49 ev_49 => ?_)
              refine lv_iload hx hb d_Cover_search_99 (lv_at hl 2 rfl) ?_
              refine lv_iload_n hx hb d_Cover_search_101 rfl (lv_at hl 7 rfl) ?_
              refine lv_iconst (v := 1) hx hb d_Cover_search_102 (by decide) ?_
              refine lv_iadd hx hb d_Cover_search_103 ?_
              refine z_topi (y := 5) (by decide +kernel) ?_
              refine z_callV (index := 38) (As := [.int v_49, .int y_40, .int 5]) (rest := []) (wr := []) Z (s16_Cover_search l G (b0) (v_49) (y_40) (b3) (y_41) (y_42) (b6) (b7) (b8) hb3 hb7) hl.1 q781 q783 qs20 q10 q784 ⟨by decide, by decide, by show _ = some 3; decide +kernel⟩ ⟨Nat.le_of_ble_eq_true rfl, Nat.le_of_ble_eq_true rfl⟩ ⟨Nat.le_of_ble_eq_true rfl, Nat.le_of_ble_eq_true rfl⟩ rfl (Nat.le_of_ble_eq_true rfl) d_Cover_search_104 hP hD hS hA 0 9 rfl rfl rfl [0, 1] [] rfl rfl rfl rfl (by decide) (fun v w1 H locs hw_50 hP hD hS => ?_)
              obtain ⟨x_51, x_52, rfl, rfl⟩ := hw_50
              have hP : va_P G.1 classes [(b0, .inr (9, [.int b3, .int x_51, .int x_52, .ref b6, .int b7])), (b6, .inl (G.2 0, 240, .inl b8))] H := hP
              have hD := z_tie hP hD rfl
              refine W.widen (k := 0) (n := 0) (Nat.le_of_ble_eq_true rfl) (Nat.le_of_ble_eq_true rfl) ?_
              refine lv_iload hx hb d_Cover_search_107 (lv_at hl 2 rfl) ?_
              refine lv_iload hx hb d_Cover_search_109 (lv_at hl 0 rfl) ?_
              refine lv_ior hx hb d_Cover_search_111 ?_
              refine lv_topi (fun v_53 ev_53 => ?_)
              refine lv_istore (lv' := [(5, .int v_53), (7, .int v_48), (6, .int y_39), (4, .int x_9), (0, .ref b0), (1, .int b1), (2, .int b2), (3, .int 4)]) hx hb d_Cover_search_112 hl (by decide) rfl (fun ls hl => ?_)
              refine lv_iload hx hb d_Cover_search_114 (lv_at hl 2 rfl) ?_
              refine lv_iload hx hb d_Cover_search_116 (lv_at hl 2 rfl) ?_
              refine lv_iconst (v := 1) hx hb d_Cover_search_118 (by decide) ?_
              refine lv_isub hx hb d_Cover_search_119 ?_
              refine lv_topi (fun v_54 ev_54 => ?_)
              refine lv_iand hx hb d_Cover_search_120 ?_
              refine lv_topi (fun v_55 ev_55 => ?_)
              refine lv_istore (lv' := [(6, .int v_55), (5, .int v_53), (7, .int v_48), (4, .int x_9), (0, .ref b0), (1, .int b1), (2, .int b2), (3, .int 4)]) hx hb d_Cover_search_121 hl (by decide) rfl (fun ls hl => ?_)
              refine lv_goto (tgt := 81) hx hb d_Cover_search_123 (by decide) ?_
              exact ihk_38 (v_55) (v_53) (x_51) (x_52) _ _ _  (z_dec32 ev_54 ev_55 (by omega) hmk_38) hP hD hS (lv_sub hl [0, 1, 3, 4, 5, 6, 7] rfl)
      · have _nhc_10 := hc_10
        have ni_56 := (fa_eq _ _).mp hc_10
        rw [li_m1] at ni_56
        have hv_57 : zI x_9 (-1) (-1) := zI.eq_l hx_9 zc_m1 hc_10
        refine lv_aload_n hx hb d_Cover_search_39 rfl (lv_at hl 1 rfl) ?_
        refine lv_iload_n hx hb d_Cover_search_40 rfl (lv_at hl 2 rfl) ?_
        refine va_put (D := G.1) (ci := 9) (v := .int b1) (ty := .int) (C := R_Cover) (T := F_Cover) (N := 5) hx hb hts i_Cover t_Cover t_Cover_ok n_Cover hown hK hP hD hS 0 rfl rfl 1 (by decide) (hts _ q341) (fun _ h9 => h9) rfl (by decide +kernel) rfl rfl (Nat.le_of_ble_eq_true rfl) d_Cover_search_41 (fun H locs hP hD hS => ?_)
        have hP : va_P G.1 classes [(b0, .inr (9, [.int b3, .int b1, .int b5, .ref b6, .int b7])), (b6, .inl (G.2 0, 240, .inl b8))] H := hP
        have hD := z_tie hP hD rfl
        refine lv_aload_n hx hb d_Cover_search_44 rfl (lv_at hl 1 rfl) ?_
        refine lv_iload_n hx hb d_Cover_search_45 rfl (lv_at hl 4 rfl) ?_
        refine va_put (D := G.1) (ci := 9) (v := .int 4) (ty := .int) (C := R_Cover) (T := F_Cover) (N := 5) hx hb hts i_Cover t_Cover t_Cover_ok n_Cover hown hK hP hD hS 0 rfl rfl 2 (by decide) (hts _ q343) (fun _ h9 => h9) rfl (by decide +kernel) rfl rfl (Nat.le_of_ble_eq_true rfl) d_Cover_search_46 (fun H locs hP hD hS => ?_)
        have hP : va_P G.1 classes [(b0, .inr (9, [.int b3, .int b1, .int 4, .ref b6, .int b7])), (b6, .inl (G.2 0, 240, .inl b8))] H := hP
        have hD := z_tie hP hD rfl
        exact z_vret hx hb hr hlocks hP hD hS (Nat.le_of_ble_eq_true rfl) (Nat.le_of_ble_eq_true rfl) d_Cover_search_49 ⟨b1, 4, rfl, rfl⟩
    · have _nhc_6 := hc_6
      have ni_58 := (fa_eq _ _).mp hc_6
      rw [li_4] at ni_58
      have hv_59 : zI b5 4 4 := zI.eq_l hv_5 zc_4 hc_6.symm
      refine lv_iload_n hx hb d_Cover_search_16 rfl (lv_at hl 1 rfl) ?_
      refine lv_aload_n hx hb d_Cover_search_17 rfl (lv_at hl 0 rfl) ?_
      refine va_get (D := G.1) (ci := 9) (v := .int b4) (C := R_Cover) (T := F_Cover) (N := 5) hx hb hts i_Cover hown hK hP 0 rfl rfl 1 (by decide) (hts _ q341) (fun _ h9 => h9) rfl d_Cover_search_18 ?_
      refine lv_icmp_lt (tgt := 25) hx hb d_Cover_search_21 (by decide) (fun hc_60 => ?_) (fun hc_60 => ?_)
      · have _nhc_60 := hc_60
        have ni_61 := (fa_lt _ _).mp hc_60
        have hv_62 : zI b1 (-2147483648) 2147483646 := zI.lt_l (zI_all b1) (zI_all b4) hc_60 (by decide)
        have hv_63 : zI b4 (-2147483647) 2147483647 := zI.lt_r (zI_all b1) (zI_all b4) hc_60 (by decide)
        refine lv_aload_n hx hb d_Cover_search_25 rfl (lv_at hl 0 rfl) ?_
        refine lv_iload_n hx hb d_Cover_search_26 rfl (lv_at hl 1 rfl) ?_
        refine lv_iload_n hx hb d_Cover_search_27 rfl (lv_at hl 2 rfl) ?_
        refine z_callV (index := 70) (As := [.int b1, .int b2]) (rest := []) (wr := []) Z (s1_Cover_hardest l G (b0) (b1) (b2) (b3) (b4) (b5) (b6) (b7) (b8) hb3 hb7) hl.1 q785 q787 qs21 q10 q788 ⟨by decide, by decide, by show _ = some 2; decide +kernel⟩ ⟨Nat.le_of_ble_eq_true rfl, Nat.le_of_ble_eq_true rfl⟩ ⟨Nat.le_of_ble_eq_true rfl, Nat.le_of_ble_eq_true rfl⟩ rfl (Nat.le_of_ble_eq_true rfl) d_Cover_search_28 hP hD hS hA 0 9 rfl rfl rfl [0, 1] [] rfl rfl rfl rfl (by decide) (fun v w1 H locs hw_64 hP hD hS => ?_)
        obtain ⟨x_65, rfl, rfl, hx_65⟩ := hw_64
        have hP : va_P G.1 classes [(b0, .inr (9, [.int b3, .int b4, .int b5, .ref b6, .int b7])), (b6, .inl (G.2 0, 240, .inl b8))] H := hP
        have hD := z_tie hP hD rfl
        refine W.widen (k := 0) (n := 0) (Nat.le_of_ble_eq_true rfl) (Nat.le_of_ble_eq_true rfl) ?_
        refine lv_istore (lv' := [(4, .int x_65), (0, .ref b0), (1, .int b1), (2, .int b2), (3, .int 4)]) hx hb d_Cover_search_31 hl (by decide) rfl (fun ls hl => ?_)
        refine lv_iload hx hb d_Cover_search_33 (lv_at hl 0 rfl) ?_
        refine lv_iconst (v := (-1)) hx hb d_Cover_search_35 (by decide) ?_
        refine lv_icmp_ne (tgt := 50) hx hb d_Cover_search_36 (by decide) (fun hc_66 => ?_) (fun hc_66 => ?_)
        · have _nhc_66 := hc_66
          have ni_67 : ¬ (x_65 : Int32).toInt = ((-1) : Int32).toInt := fun z => hc_66 ((fa_eq _ _).mpr z)
          simp only [li_m1] at ni_67
          have hv_68 : zI x_65 0 239 := zI.ne_lo hx_65 zc_m1 hc_66 (by decide)
          refine lv_iload_n hx hb d_Cover_search_50 rfl (lv_at hl 4 rfl) ?_
          refine lv_aload_n hx hb d_Cover_search_51 rfl (lv_at hl 1 rfl) ?_
          refine va_get (D := G.1) (ci := 9) (v := .int b5) (C := R_Cover) (T := F_Cover) (N := 5) hx hb hts i_Cover hown hK hP 0 rfl rfl 2 (by decide) (hts _ q343) (fun _ h9 => h9) rfl d_Cover_search_52 ?_
          refine lv_icmp_ge (tgt := 64) hx hb d_Cover_search_55 (by decide) (fun _ => ?_) (fun hc => zI.no_lt zc_4 hv_59 (zi_nle hc) (by decide))
          exact z_vret hx hb hr hlocks hP hD hS (Nat.le_of_ble_eq_true rfl) (Nat.le_of_ble_eq_true rfl) d_Cover_search_64 ⟨b4, b5, rfl, rfl⟩
        · have _nhc_66 := hc_66
          have ni_69 := (fa_eq _ _).mp hc_66
          rw [li_m1] at ni_69
          have hv_70 : zI x_65 (-1) (-1) := zI.eq_l hx_65 zc_m1 hc_66
          refine lv_aload_n hx hb d_Cover_search_39 rfl (lv_at hl 1 rfl) ?_
          refine lv_iload_n hx hb d_Cover_search_40 rfl (lv_at hl 2 rfl) ?_
          refine va_put (D := G.1) (ci := 9) (v := .int b1) (ty := .int) (C := R_Cover) (T := F_Cover) (N := 5) hx hb hts i_Cover t_Cover t_Cover_ok n_Cover hown hK hP hD hS 0 rfl rfl 1 (by decide) (hts _ q341) (fun _ h9 => h9) rfl (by decide +kernel) rfl rfl (Nat.le_of_ble_eq_true rfl) d_Cover_search_41 (fun H locs hP hD hS => ?_)
          have hP : va_P G.1 classes [(b0, .inr (9, [.int b3, .int b1, .int b5, .ref b6, .int b7])), (b6, .inl (G.2 0, 240, .inl b8))] H := hP
          have hD := z_tie hP hD rfl
          refine lv_aload_n hx hb d_Cover_search_44 rfl (lv_at hl 1 rfl) ?_
          refine lv_iload_n hx hb d_Cover_search_45 rfl (lv_at hl 4 rfl) ?_
          refine va_put (D := G.1) (ci := 9) (v := .int 4) (ty := .int) (C := R_Cover) (T := F_Cover) (N := 5) hx hb hts i_Cover t_Cover t_Cover_ok n_Cover hown hK hP hD hS 0 rfl rfl 2 (by decide) (hts _ q343) (fun _ h9 => h9) rfl (by decide +kernel) rfl rfl (Nat.le_of_ble_eq_true rfl) d_Cover_search_46 (fun H locs hP hD hS => ?_)
          have hP : va_P G.1 classes [(b0, .inr (9, [.int b3, .int b1, .int 4, .ref b6, .int b7])), (b6, .inl (G.2 0, 240, .inl b8))] H := hP
          have hD := z_tie hP hD rfl
          exact z_vret hx hb hr hlocks hP hD hS (Nat.le_of_ble_eq_true rfl) (Nat.le_of_ble_eq_true rfl) d_Cover_search_49 ⟨b1, 4, rfl, rfl⟩
      · have _nhc_60 := hc_60
        have ni_71 := (fa_le _ _).mp (zi_nlt hc_60)
        exact z_vret hx hb hr hlocks hP hD hS (Nat.le_of_ble_eq_true rfl) (Nat.le_of_ble_eq_true rfl) d_Cover_search_24 ⟨b4, b5, rfl, rfl⟩
abbrev m_s18_Cover_search : Room := { frames := 19, cells := 0, slots := 0, locals := 505 }
set_option maxHeartbeats 4000000 in
set_option maxRecDepth 100000 in
theorem s18_Cover_search (l : Launch) (G : zG) (b0 : Nat) (b1 : Int32) (b2 : Int32) (b3 : Int32) (b4 : Int32) (b5 : Int32) (b6 : Nat) (b7 : Int32) (b8 : Nat → Int32) (hb3 : zI b3 0 1) (hb7 : zI b7 0 240) : zM l G y_Cover_search prog_2_method_6_code 8 (Option.none : Option Jvm.ClassFile.FieldType) m_s18_Cover_search [.ref b0, .int b1, .int b2, .int 3] [(b0, .inr (9, [.int b3, .int b4, .int b5, .ref b6, .int b7])), (b6, .inl (G.2 0, 240, .inl b8))] (fun v w => ∃ (e0 : Int32), ∃ (e1 : Int32), v = none ∧ w = [(b0, .inr (9, [.int b3, .int e0, .int e1, .ref b6, .int b7])), (b6, .inl (G.2 0, 240, .inl b8))]) := by
  refine z_start (by decide +kernel) (Nat.le_of_ble_eq_true rfl) ?_
  intro p e s m below meth c A Z hr hnm hA hP hD hS ls hl
  have Z : zC p s m _ meth c prog_2_method_6_code 8 "TraceMachines$Cover" G := Z
  obtain ⟨hx, hb, hml, hown, hts, hK, hN, hlocks⟩ := id Z
  have hl : lv_has ls 8 [(0, .ref b0), (1, .int b1), (2, .int b2), (3, .int 3)] := hl
  refine lv_iload_n hx hb d_Cover_search_0 rfl (lv_at hl 3 rfl) ?_
  refine lv_aload_n hx hb d_Cover_search_1 rfl (lv_at hl 0 rfl) ?_
  refine va_get (D := G.1) (ci := 9) (v := .int b5) (C := R_Cover) (T := F_Cover) (N := 5) hx hb hts i_Cover hown hK hP 0 rfl rfl 2 (by decide) (hts _ q343) (fun _ h9 => h9) rfl d_Cover_search_2 ?_
  refine lv_icmp_gt (tgt := 24) hx hb d_Cover_search_5 (by decide) (fun hc_1 => ?_) (fun hc_1 => ?_)
  · have _nhc_1 := hc_1
    have ni_2 := (fa_lt _ _).mp hc_1
    rw [li_3] at ni_2
    have hv_3 : zI b5 (-2147483648) 2 := zI.lt_l (zI_all b5) zc_3 hc_1 (by decide)
    exact z_vret hx hb hr hlocks hP hD hS (Nat.le_of_ble_eq_true rfl) (Nat.le_of_ble_eq_true rfl) d_Cover_search_24 ⟨b4, b5, rfl, rfl⟩
  · have _nhc_1 := hc_1
    have ni_4 := (fa_le _ _).mp (zi_nlt hc_1)
    rw [li_3] at ni_4
    have hv_5 : zI b5 3 2147483647 := zI.le_r zc_3 (zI_all b5) (zi_nlt hc_1) (by decide)
    refine lv_iload_n hx hb d_Cover_search_8 rfl (lv_at hl 3 rfl) ?_
    refine lv_aload_n hx hb d_Cover_search_9 rfl (lv_at hl 0 rfl) ?_
    refine va_get (D := G.1) (ci := 9) (v := .int b5) (C := R_Cover) (T := F_Cover) (N := 5) hx hb hts i_Cover hown hK hP 0 rfl rfl 2 (by decide) (hts _ q343) (fun _ h9 => h9) rfl d_Cover_search_10 ?_
    refine lv_icmp_ne (tgt := 25) hx hb d_Cover_search_13 (by decide) (fun hc_6 => ?_) (fun hc_6 => ?_)
    · have _nhc_6 := hc_6
      have ni_7 : ¬ (3 : Int32).toInt = (b5 : Int32).toInt := fun z => hc_6 ((fa_eq _ _).mpr z)
      simp only [li_3] at ni_7
      refine lv_aload_n hx hb d_Cover_search_25 rfl (lv_at hl 0 rfl) ?_
      refine lv_iload_n hx hb d_Cover_search_26 rfl (lv_at hl 1 rfl) ?_
      refine lv_iload_n hx hb d_Cover_search_27 rfl (lv_at hl 2 rfl) ?_
      refine z_callV (index := 70) (As := [.int b1, .int b2]) (rest := []) (wr := []) Z (s1_Cover_hardest l G (b0) (b1) (b2) (b3) (b4) (b5) (b6) (b7) (b8) hb3 hb7) hl.1 q785 q787 qs21 q10 q788 ⟨by decide, by decide, by show _ = some 2; decide +kernel⟩ ⟨Nat.le_of_ble_eq_true rfl, Nat.le_of_ble_eq_true rfl⟩ ⟨Nat.le_of_ble_eq_true rfl, Nat.le_of_ble_eq_true rfl⟩ rfl (Nat.le_of_ble_eq_true rfl) d_Cover_search_28 hP hD hS hA 0 9 rfl rfl rfl [0, 1] [] rfl rfl rfl rfl (by decide) (fun v w1 H locs hw_8 hP hD hS => ?_)
      obtain ⟨x_9, rfl, rfl, hx_9⟩ := hw_8
      have hP : va_P G.1 classes [(b0, .inr (9, [.int b3, .int b4, .int b5, .ref b6, .int b7])), (b6, .inl (G.2 0, 240, .inl b8))] H := hP
      have hD := z_tie hP hD rfl
      refine W.widen (k := 0) (n := 0) (Nat.le_of_ble_eq_true rfl) (Nat.le_of_ble_eq_true rfl) ?_
      refine lv_istore (lv' := [(4, .int x_9), (0, .ref b0), (1, .int b1), (2, .int b2), (3, .int 3)]) hx hb d_Cover_search_31 hl (by decide) rfl (fun ls hl => ?_)
      refine lv_iload hx hb d_Cover_search_33 (lv_at hl 0 rfl) ?_
      refine lv_iconst (v := (-1)) hx hb d_Cover_search_35 (by decide) ?_
      refine lv_icmp_ne (tgt := 50) hx hb d_Cover_search_36 (by decide) (fun hc_10 => ?_) (fun hc_10 => ?_)
      · have _nhc_10 := hc_10
        have ni_11 : ¬ (x_9 : Int32).toInt = ((-1) : Int32).toInt := fun z => hc_10 ((fa_eq _ _).mpr z)
        simp only [li_m1] at ni_11
        have hv_12 : zI x_9 0 239 := zI.ne_lo hx_9 zc_m1 hc_10 (by decide)
        refine lv_iload_n hx hb d_Cover_search_50 rfl (lv_at hl 4 rfl) ?_
        refine lv_aload_n hx hb d_Cover_search_51 rfl (lv_at hl 1 rfl) ?_
        refine va_get (D := G.1) (ci := 9) (v := .int b5) (C := R_Cover) (T := F_Cover) (N := 5) hx hb hts i_Cover hown hK hP 0 rfl rfl 2 (by decide) (hts _ q343) (fun _ h9 => h9) rfl d_Cover_search_52 ?_
        refine lv_icmp_ge (tgt := 64) hx hb d_Cover_search_55 (by decide) (fun hc_13 => ?_) (fun hc_13 => ?_)
        · have _nhc_13 := hc_13
          have ni_14 := (fa_le _ _).mp hc_13
          rw [li_3] at ni_14
          have hv_15 : zI b5 3 3 := zI.le_l hv_5 zc_3 hc_13 (by decide)
          exact z_vret hx hb hr hlocks hP hD hS (Nat.le_of_ble_eq_true rfl) (Nat.le_of_ble_eq_true rfl) d_Cover_search_64 ⟨b4, b5, rfl, rfl⟩
        · have _nhc_13 := hc_13
          have ni_16 := (fa_lt _ _).mp (zi_nle hc_13)
          rw [li_3] at ni_16
          have hv_17 : zI b5 4 2147483647 := zI.lt_r zc_3 hv_5 (zi_nle hc_13) (by decide)
          refine lv_iload_n hx hb d_Cover_search_58 rfl (lv_at hl 4 rfl) ?_
          refine lv_bipush (v := 20) hx hb d_Cover_search_59 (by decide) ?_
          refine lv_icmp_lt (tgt := 65) hx hb d_Cover_search_61 (by decide) (fun _ => ?_) (fun hc => absurd hc (by decide +kernel))
          refine lv_iload_n hx hb d_Cover_search_65 rfl (lv_at hl 3 rfl) ?_
          refine lv_istore (lv' := [(5, .int b2), (4, .int x_9), (0, .ref b0), (1, .int b1), (2, .int b2), (3, .int 3)]) hx hb d_Cover_search_66 hl (by decide) rfl (fun ls hl => ?_)
          refine lv_aload_n hx hb d_Cover_search_68 rfl (lv_at hl 2 rfl) ?_
          refine va_get (D := G.1) (ci := 9) (v := .ref b6) (C := R_Cover) (T := F_Cover) (N := 5) hx hb hts i_Cover hown hK hP 0 rfl rfl 3 (by decide) (hts _ q344) (fun _ h9 => h9) rfl d_Cover_search_69 ?_
          refine lv_iload hx hb d_Cover_search_72 (lv_at hl 1 rfl) ?_
          refine va_iald hx hb hK hP 1 0 rfl rfl (zI.inn hv_12 (by decide)) d_Cover_search_74 ?_
          refine lv_topi (fun v_18 ev_18 => ?_)
          refine lv_iload_n hx hb d_Cover_search_75 rfl (lv_at hl 4 rfl) ?_
          refine lv_iconst (v := (-1)) hx hb d_Cover_search_76 (by decide) ?_
          refine lv_ixor hx hb d_Cover_search_77 ?_
          refine lv_topi (fun v_19 ev_19 => ?_)
          refine lv_iand hx hb d_Cover_search_78 ?_
          refine lv_topi (fun v_20 ev_20 => ?_)
          refine lv_istore (lv' := [(6, .int v_20), (5, .int b2), (4, .int x_9), (0, .ref b0), (1, .int b1), (2, .int b2), (3, .int 3)]) hx hb d_Cover_search_79 hl (by decide) rfl (fun ls hl => ?_)
          suffices key : ∀ (k_38 : Nat) (y_39 : Int32) (y_40 : Int32) (y_41 : Int32) (y_42 : Int32) (H : Heap) (locs : List Loc) (ls : Array Slot), (y_39).toBitVec.toNat < k_38 → va_P G.1 classes [(b0, .inr (9, [.int b3, .int y_41, .int y_42, .ref b6, .int b7])), (b6, .inl (G.2 0, 240, .inl b8))] H → va_D A [(b0, .inr (9, [.int b3, .int y_41, .int y_42, .ref b6, .int b7])), (b6, .inl (G.2 0, 240, .inl b8))] → va_S A s.heap H locs → lv_has ls 8 [(6, .int y_39), (5, .int y_40), (4, .int x_9), (0, .ref b0), (1, .int b1), (2, .int b2), (3, .int 3)] → W p l e m_s18_Cover_search s m ([.ref b0, .int b1, .int b2, .int 3] : List Value).toArray below meth c H locs 0 0 (MQ below (zQ G (fun v w => ∃ (e0 : Int32), ∃ (e1 : Int32), v = none ∧ w = [(b0, .inr (9, [.int b3, .int e0, .int e1, .ref b6, .int b7])), (b6, .inl (G.2 0, 240, .inl b8))]) A) ([.ref b0, .int b1, .int b2, .int 3] : List Value).toArray s m_s18_Cover_search.cells m_s18_Cover_search.slots A) (F0 m 81 ls []) by
            exact key 4294967296 (v_20) (b2) (b4) (b5) _ _ _  (Nat.lt_of_lt_of_le (v_20).toBitVec.isLt (by decide)) hP hD hS (lv_sub hl [0, 1, 2, 3, 4, 5, 6] rfl)
          intro k_38
          induction k_38 with
          | zero =>
            intro y_39 y_40 y_41 y_42 H locs ls hmk_38 hP hD hS hl
            exfalso; omega
          | succ k_38 ihk_38 =>
            intro y_39 y_40 y_41 y_42 H locs ls hmk_38 hP hD hS hl
            refine lv_iload hx hb d_Cover_search_81 (lv_at hl 0 rfl) ?_
            refine lv_if_eq (tgt := 126) hx hb d_Cover_search_83 (by decide) (fun hc_43 => ?_) (fun hc_43 => ?_)
            · have _nhc_43 := hc_43
              have ni_44 := (fa_eq _ _).mp hc_43
              rw [li_0] at ni_44
              have hv_45 : zI y_39 0 0 := zI.eq_l (zI_all y_39) zc_0 hc_43
              exact z_vret hx hb hr hlocks hP hD hS (Nat.le_of_ble_eq_true rfl) (Nat.le_of_ble_eq_true rfl) d_Cover_search_126 ⟨y_41, y_42, rfl, rfl⟩
            · have _nhc_43 := hc_43
              have ni_46 : ¬ (y_39 : Int32).toInt = (0 : Int32).toInt := fun z => hc_43 ((fa_eq _ _).mpr z)
              simp only [li_0] at ni_46
              refine lv_iload hx hb d_Cover_search_86 (lv_at hl 0 rfl) ?_
              refine lv_iload hx hb d_Cover_search_88 (lv_at hl 0 rfl) ?_
              refine lv_ineg hx hb d_Cover_search_90 ?_
              refine lv_topi (fun v_47 ev_47 => ?_)
              refine lv_iand hx hb d_Cover_search_91 ?_
              refine lv_topi (fun v_48 ev_48 => ?_)
              refine lv_istore (lv' := [(7, .int v_48), (6, .int y_39), (5, .int y_40), (4, .int x_9), (0, .ref b0), (1, .int b1), (2, .int b2), (3, .int 3)]) hx hb d_Cover_search_92 hl (by decide) rfl (fun ls hl => ?_)
              refine lv_aload_n hx hb d_Cover_search_94 rfl (lv_at hl 4 rfl) ?_
              refine lv_iload_n hx hb d_Cover_search_95 rfl (lv_at hl 5 rfl) ?_
              refine lv_iload hx hb d_Cover_search_96 (lv_at hl 0 rfl) ?_
              refine lv_ior hx hb d_Cover_search_98 ?_
              refine lv_topi (fun v_49 ev_49 => ?_)
              refine lv_iload hx hb d_Cover_search_99 (lv_at hl 2 rfl) ?_
              refine lv_iload_n hx hb d_Cover_search_101 rfl (lv_at hl 7 rfl) ?_
              refine lv_iconst (v := 1) hx hb d_Cover_search_102 (by decide) ?_
              refine lv_iadd hx hb d_Cover_search_103 ?_
              refine z_topi (y := 4) (by decide +kernel) ?_
              refine z_callV (index := 38) (As := [.int v_49, .int y_40, .int 4]) (rest := []) (wr := []) Z (s17_Cover_search l G (b0) (v_49) (y_40) (b3) (y_41) (y_42) (b6) (b7) (b8) hb3 hb7) hl.1 q781 q783 qs20 q10 q784 ⟨by decide, by decide, by show _ = some 3; decide +kernel⟩ ⟨Nat.le_of_ble_eq_true rfl, Nat.le_of_ble_eq_true rfl⟩ ⟨Nat.le_of_ble_eq_true rfl, Nat.le_of_ble_eq_true rfl⟩ rfl (Nat.le_of_ble_eq_true rfl) d_Cover_search_104 hP hD hS hA 0 9 rfl rfl rfl [0, 1] [] rfl rfl rfl rfl (by decide) (fun v w1 H locs hw_50 hP hD hS => ?_)
              obtain ⟨x_51, x_52, rfl, rfl⟩ := hw_50
              have hP : va_P G.1 classes [(b0, .inr (9, [.int b3, .int x_51, .int x_52, .ref b6, .int b7])), (b6, .inl (G.2 0, 240, .inl b8))] H := hP
              have hD := z_tie hP hD rfl
              refine W.widen (k := 0) (n := 0) (Nat.le_of_ble_eq_true rfl) (Nat.le_of_ble_eq_true rfl) ?_
              refine lv_iload hx hb d_Cover_search_107 (lv_at hl 2 rfl) ?_
              refine lv_iload hx hb d_Cover_search_109 (lv_at hl 0 rfl) ?_
              refine lv_ior hx hb d_Cover_search_111 ?_
              refine lv_topi (fun v_53 ev_53 => ?_)
              refine lv_istore (lv' := [(5, .int v_53), (7, .int v_48), (6, .int y_39), (4, .int x_9), (0, .ref b0), (1, .int b1), (2, .int b2), (3, .int 3)]) hx hb d_Cover_search_112 hl (by decide) rfl (fun ls hl => ?_)
              refine lv_iload hx hb d_Cover_search_114 (lv_at hl 2 rfl) ?_
              refine lv_iload hx hb d_Cover_search_116 (lv_at hl 2 rfl) ?_
              refine lv_iconst (v := 1) hx hb d_Cover_search_118 (by decide) ?_
              refine lv_isub hx hb d_Cover_search_119 ?_
              refine lv_topi (fun v_54 ev_54 => ?_)
              refine lv_iand hx hb d_Cover_search_120 ?_
              refine lv_topi (fun v_55 ev_55 => ?_)
              refine lv_istore (lv' := [(6, .int v_55), (5, .int v_53), (7, .int v_48), (4, .int x_9), (0, .ref b0), (1, .int b1), (2, .int b2), (3, .int 3)]) hx hb d_Cover_search_121 hl (by decide) rfl (fun ls hl => ?_)
              refine lv_goto (tgt := 81) hx hb d_Cover_search_123 (by decide) ?_
              exact ihk_38 (v_55) (v_53) (x_51) (x_52) _ _ _  (z_dec32 ev_54 ev_55 (by omega) hmk_38) hP hD hS (lv_sub hl [0, 1, 3, 4, 5, 6, 7] rfl)
      · have _nhc_10 := hc_10
        have ni_56 := (fa_eq _ _).mp hc_10
        rw [li_m1] at ni_56
        have hv_57 : zI x_9 (-1) (-1) := zI.eq_l hx_9 zc_m1 hc_10
        refine lv_aload_n hx hb d_Cover_search_39 rfl (lv_at hl 1 rfl) ?_
        refine lv_iload_n hx hb d_Cover_search_40 rfl (lv_at hl 2 rfl) ?_
        refine va_put (D := G.1) (ci := 9) (v := .int b1) (ty := .int) (C := R_Cover) (T := F_Cover) (N := 5) hx hb hts i_Cover t_Cover t_Cover_ok n_Cover hown hK hP hD hS 0 rfl rfl 1 (by decide) (hts _ q341) (fun _ h9 => h9) rfl (by decide +kernel) rfl rfl (Nat.le_of_ble_eq_true rfl) d_Cover_search_41 (fun H locs hP hD hS => ?_)
        have hP : va_P G.1 classes [(b0, .inr (9, [.int b3, .int b1, .int b5, .ref b6, .int b7])), (b6, .inl (G.2 0, 240, .inl b8))] H := hP
        have hD := z_tie hP hD rfl
        refine lv_aload_n hx hb d_Cover_search_44 rfl (lv_at hl 1 rfl) ?_
        refine lv_iload_n hx hb d_Cover_search_45 rfl (lv_at hl 4 rfl) ?_
        refine va_put (D := G.1) (ci := 9) (v := .int 3) (ty := .int) (C := R_Cover) (T := F_Cover) (N := 5) hx hb hts i_Cover t_Cover t_Cover_ok n_Cover hown hK hP hD hS 0 rfl rfl 2 (by decide) (hts _ q343) (fun _ h9 => h9) rfl (by decide +kernel) rfl rfl (Nat.le_of_ble_eq_true rfl) d_Cover_search_46 (fun H locs hP hD hS => ?_)
        have hP : va_P G.1 classes [(b0, .inr (9, [.int b3, .int b1, .int 3, .ref b6, .int b7])), (b6, .inl (G.2 0, 240, .inl b8))] H := hP
        have hD := z_tie hP hD rfl
        exact z_vret hx hb hr hlocks hP hD hS (Nat.le_of_ble_eq_true rfl) (Nat.le_of_ble_eq_true rfl) d_Cover_search_49 ⟨b1, 3, rfl, rfl⟩
    · have _nhc_6 := hc_6
      have ni_58 := (fa_eq _ _).mp hc_6
      rw [li_3] at ni_58
      have hv_59 : zI b5 3 3 := zI.eq_l hv_5 zc_3 hc_6.symm
      refine lv_iload_n hx hb d_Cover_search_16 rfl (lv_at hl 1 rfl) ?_
      refine lv_aload_n hx hb d_Cover_search_17 rfl (lv_at hl 0 rfl) ?_
      refine va_get (D := G.1) (ci := 9) (v := .int b4) (C := R_Cover) (T := F_Cover) (N := 5) hx hb hts i_Cover hown hK hP 0 rfl rfl 1 (by decide) (hts _ q341) (fun _ h9 => h9) rfl d_Cover_search_18 ?_
      refine lv_icmp_lt (tgt := 25) hx hb d_Cover_search_21 (by decide) (fun hc_60 => ?_) (fun hc_60 => ?_)
      · have _nhc_60 := hc_60
        have ni_61 := (fa_lt _ _).mp hc_60
        have hv_62 : zI b1 (-2147483648) 2147483646 := zI.lt_l (zI_all b1) (zI_all b4) hc_60 (by decide)
        have hv_63 : zI b4 (-2147483647) 2147483647 := zI.lt_r (zI_all b1) (zI_all b4) hc_60 (by decide)
        refine lv_aload_n hx hb d_Cover_search_25 rfl (lv_at hl 0 rfl) ?_
        refine lv_iload_n hx hb d_Cover_search_26 rfl (lv_at hl 1 rfl) ?_
        refine lv_iload_n hx hb d_Cover_search_27 rfl (lv_at hl 2 rfl) ?_
        refine z_callV (index := 70) (As := [.int b1, .int b2]) (rest := []) (wr := []) Z (s1_Cover_hardest l G (b0) (b1) (b2) (b3) (b4) (b5) (b6) (b7) (b8) hb3 hb7) hl.1 q785 q787 qs21 q10 q788 ⟨by decide, by decide, by show _ = some 2; decide +kernel⟩ ⟨Nat.le_of_ble_eq_true rfl, Nat.le_of_ble_eq_true rfl⟩ ⟨Nat.le_of_ble_eq_true rfl, Nat.le_of_ble_eq_true rfl⟩ rfl (Nat.le_of_ble_eq_true rfl) d_Cover_search_28 hP hD hS hA 0 9 rfl rfl rfl [0, 1] [] rfl rfl rfl rfl (by decide) (fun v w1 H locs hw_64 hP hD hS => ?_)
        obtain ⟨x_65, rfl, rfl, hx_65⟩ := hw_64
        have hP : va_P G.1 classes [(b0, .inr (9, [.int b3, .int b4, .int b5, .ref b6, .int b7])), (b6, .inl (G.2 0, 240, .inl b8))] H := hP
        have hD := z_tie hP hD rfl
        refine W.widen (k := 0) (n := 0) (Nat.le_of_ble_eq_true rfl) (Nat.le_of_ble_eq_true rfl) ?_
        refine lv_istore (lv' := [(4, .int x_65), (0, .ref b0), (1, .int b1), (2, .int b2), (3, .int 3)]) hx hb d_Cover_search_31 hl (by decide) rfl (fun ls hl => ?_)
        refine lv_iload hx hb d_Cover_search_33 (lv_at hl 0 rfl) ?_
        refine lv_iconst (v := (-1)) hx hb d_Cover_search_35 (by decide) ?_
        refine lv_icmp_ne (tgt := 50) hx hb d_Cover_search_36 (by decide) (fun hc_66 => ?_) (fun hc_66 => ?_)
        · have _nhc_66 := hc_66
          have ni_67 : ¬ (x_65 : Int32).toInt = ((-1) : Int32).toInt := fun z => hc_66 ((fa_eq _ _).mpr z)
          simp only [li_m1] at ni_67
          have hv_68 : zI x_65 0 239 := zI.ne_lo hx_65 zc_m1 hc_66 (by decide)
          refine lv_iload_n hx hb d_Cover_search_50 rfl (lv_at hl 4 rfl) ?_
          refine lv_aload_n hx hb d_Cover_search_51 rfl (lv_at hl 1 rfl) ?_
          refine va_get (D := G.1) (ci := 9) (v := .int b5) (C := R_Cover) (T := F_Cover) (N := 5) hx hb hts i_Cover hown hK hP 0 rfl rfl 2 (by decide) (hts _ q343) (fun _ h9 => h9) rfl d_Cover_search_52 ?_
          refine lv_icmp_ge (tgt := 64) hx hb d_Cover_search_55 (by decide) (fun _ => ?_) (fun hc => zI.no_lt zc_3 hv_59 (zi_nle hc) (by decide))
          exact z_vret hx hb hr hlocks hP hD hS (Nat.le_of_ble_eq_true rfl) (Nat.le_of_ble_eq_true rfl) d_Cover_search_64 ⟨b4, b5, rfl, rfl⟩
        · have _nhc_66 := hc_66
          have ni_69 := (fa_eq _ _).mp hc_66
          rw [li_m1] at ni_69
          have hv_70 : zI x_65 (-1) (-1) := zI.eq_l hx_65 zc_m1 hc_66
          refine lv_aload_n hx hb d_Cover_search_39 rfl (lv_at hl 1 rfl) ?_
          refine lv_iload_n hx hb d_Cover_search_40 rfl (lv_at hl 2 rfl) ?_
          refine va_put (D := G.1) (ci := 9) (v := .int b1) (ty := .int) (C := R_Cover) (T := F_Cover) (N := 5) hx hb hts i_Cover t_Cover t_Cover_ok n_Cover hown hK hP hD hS 0 rfl rfl 1 (by decide) (hts _ q341) (fun _ h9 => h9) rfl (by decide +kernel) rfl rfl (Nat.le_of_ble_eq_true rfl) d_Cover_search_41 (fun H locs hP hD hS => ?_)
          have hP : va_P G.1 classes [(b0, .inr (9, [.int b3, .int b1, .int b5, .ref b6, .int b7])), (b6, .inl (G.2 0, 240, .inl b8))] H := hP
          have hD := z_tie hP hD rfl
          refine lv_aload_n hx hb d_Cover_search_44 rfl (lv_at hl 1 rfl) ?_
          refine lv_iload_n hx hb d_Cover_search_45 rfl (lv_at hl 4 rfl) ?_
          refine va_put (D := G.1) (ci := 9) (v := .int 3) (ty := .int) (C := R_Cover) (T := F_Cover) (N := 5) hx hb hts i_Cover t_Cover t_Cover_ok n_Cover hown hK hP hD hS 0 rfl rfl 2 (by decide) (hts _ q343) (fun _ h9 => h9) rfl (by decide +kernel) rfl rfl (Nat.le_of_ble_eq_true rfl) d_Cover_search_46 (fun H locs hP hD hS => ?_)
          have hP : va_P G.1 classes [(b0, .inr (9, [.int b3, .int b1, .int 3, .ref b6, .int b7])), (b6, .inl (G.2 0, 240, .inl b8))] H := hP
          have hD := z_tie hP hD rfl
          exact z_vret hx hb hr hlocks hP hD hS (Nat.le_of_ble_eq_true rfl) (Nat.le_of_ble_eq_true rfl) d_Cover_search_49 ⟨b1, 3, rfl, rfl⟩
      · have _nhc_60 := hc_60
        have ni_71 := (fa_le _ _).mp (zi_nlt hc_60)
        exact z_vret hx hb hr hlocks hP hD hS (Nat.le_of_ble_eq_true rfl) (Nat.le_of_ble_eq_true rfl) d_Cover_search_24 ⟨b4, b5, rfl, rfl⟩
abbrev m_s19_Cover_search : Room := { frames := 20, cells := 0, slots := 0, locals := 532 }
set_option maxHeartbeats 4000000 in
set_option maxRecDepth 100000 in
theorem s19_Cover_search (l : Launch) (G : zG) (b0 : Nat) (b1 : Int32) (b2 : Int32) (b3 : Int32) (b4 : Int32) (b5 : Int32) (b6 : Nat) (b7 : Int32) (b8 : Nat → Int32) (hb3 : zI b3 0 1) (hb7 : zI b7 0 240) : zM l G y_Cover_search prog_2_method_6_code 8 (Option.none : Option Jvm.ClassFile.FieldType) m_s19_Cover_search [.ref b0, .int b1, .int b2, .int 2] [(b0, .inr (9, [.int b3, .int b4, .int b5, .ref b6, .int b7])), (b6, .inl (G.2 0, 240, .inl b8))] (fun v w => ∃ (e0 : Int32), ∃ (e1 : Int32), v = none ∧ w = [(b0, .inr (9, [.int b3, .int e0, .int e1, .ref b6, .int b7])), (b6, .inl (G.2 0, 240, .inl b8))]) := by
  refine z_start (by decide +kernel) (Nat.le_of_ble_eq_true rfl) ?_
  intro p e s m below meth c A Z hr hnm hA hP hD hS ls hl
  have Z : zC p s m _ meth c prog_2_method_6_code 8 "TraceMachines$Cover" G := Z
  obtain ⟨hx, hb, hml, hown, hts, hK, hN, hlocks⟩ := id Z
  have hl : lv_has ls 8 [(0, .ref b0), (1, .int b1), (2, .int b2), (3, .int 2)] := hl
  refine lv_iload_n hx hb d_Cover_search_0 rfl (lv_at hl 3 rfl) ?_
  refine lv_aload_n hx hb d_Cover_search_1 rfl (lv_at hl 0 rfl) ?_
  refine va_get (D := G.1) (ci := 9) (v := .int b5) (C := R_Cover) (T := F_Cover) (N := 5) hx hb hts i_Cover hown hK hP 0 rfl rfl 2 (by decide) (hts _ q343) (fun _ h9 => h9) rfl d_Cover_search_2 ?_
  refine lv_icmp_gt (tgt := 24) hx hb d_Cover_search_5 (by decide) (fun hc_1 => ?_) (fun hc_1 => ?_)
  · have _nhc_1 := hc_1
    have ni_2 := (fa_lt _ _).mp hc_1
    rw [li_2] at ni_2
    have hv_3 : zI b5 (-2147483648) 1 := zI.lt_l (zI_all b5) zc_2 hc_1 (by decide)
    exact z_vret hx hb hr hlocks hP hD hS (Nat.le_of_ble_eq_true rfl) (Nat.le_of_ble_eq_true rfl) d_Cover_search_24 ⟨b4, b5, rfl, rfl⟩
  · have _nhc_1 := hc_1
    have ni_4 := (fa_le _ _).mp (zi_nlt hc_1)
    rw [li_2] at ni_4
    have hv_5 : zI b5 2 2147483647 := zI.le_r zc_2 (zI_all b5) (zi_nlt hc_1) (by decide)
    refine lv_iload_n hx hb d_Cover_search_8 rfl (lv_at hl 3 rfl) ?_
    refine lv_aload_n hx hb d_Cover_search_9 rfl (lv_at hl 0 rfl) ?_
    refine va_get (D := G.1) (ci := 9) (v := .int b5) (C := R_Cover) (T := F_Cover) (N := 5) hx hb hts i_Cover hown hK hP 0 rfl rfl 2 (by decide) (hts _ q343) (fun _ h9 => h9) rfl d_Cover_search_10 ?_
    refine lv_icmp_ne (tgt := 25) hx hb d_Cover_search_13 (by decide) (fun hc_6 => ?_) (fun hc_6 => ?_)
    · have _nhc_6 := hc_6
      have ni_7 : ¬ (2 : Int32).toInt = (b5 : Int32).toInt := fun z => hc_6 ((fa_eq _ _).mpr z)
      simp only [li_2] at ni_7
      refine lv_aload_n hx hb d_Cover_search_25 rfl (lv_at hl 0 rfl) ?_
      refine lv_iload_n hx hb d_Cover_search_26 rfl (lv_at hl 1 rfl) ?_
      refine lv_iload_n hx hb d_Cover_search_27 rfl (lv_at hl 2 rfl) ?_
      refine z_callV (index := 70) (As := [.int b1, .int b2]) (rest := []) (wr := []) Z (s1_Cover_hardest l G (b0) (b1) (b2) (b3) (b4) (b5) (b6) (b7) (b8) hb3 hb7) hl.1 q785 q787 qs21 q10 q788 ⟨by decide, by decide, by show _ = some 2; decide +kernel⟩ ⟨Nat.le_of_ble_eq_true rfl, Nat.le_of_ble_eq_true rfl⟩ ⟨Nat.le_of_ble_eq_true rfl, Nat.le_of_ble_eq_true rfl⟩ rfl (Nat.le_of_ble_eq_true rfl) d_Cover_search_28 hP hD hS hA 0 9 rfl rfl rfl [0, 1] [] rfl rfl rfl rfl (by decide) (fun v w1 H locs hw_8 hP hD hS => ?_)
      obtain ⟨x_9, rfl, rfl, hx_9⟩ := hw_8
      have hP : va_P G.1 classes [(b0, .inr (9, [.int b3, .int b4, .int b5, .ref b6, .int b7])), (b6, .inl (G.2 0, 240, .inl b8))] H := hP
      have hD := z_tie hP hD rfl
      refine W.widen (k := 0) (n := 0) (Nat.le_of_ble_eq_true rfl) (Nat.le_of_ble_eq_true rfl) ?_
      refine lv_istore (lv' := [(4, .int x_9), (0, .ref b0), (1, .int b1), (2, .int b2), (3, .int 2)]) hx hb d_Cover_search_31 hl (by decide) rfl (fun ls hl => ?_)
      refine lv_iload hx hb d_Cover_search_33 (lv_at hl 0 rfl) ?_
      refine lv_iconst (v := (-1)) hx hb d_Cover_search_35 (by decide) ?_
      refine lv_icmp_ne (tgt := 50) hx hb d_Cover_search_36 (by decide) (fun hc_10 => ?_) (fun hc_10 => ?_)
      · have _nhc_10 := hc_10
        have ni_11 : ¬ (x_9 : Int32).toInt = ((-1) : Int32).toInt := fun z => hc_10 ((fa_eq _ _).mpr z)
        simp only [li_m1] at ni_11
        have hv_12 : zI x_9 0 239 := zI.ne_lo hx_9 zc_m1 hc_10 (by decide)
        refine lv_iload_n hx hb d_Cover_search_50 rfl (lv_at hl 4 rfl) ?_
        refine lv_aload_n hx hb d_Cover_search_51 rfl (lv_at hl 1 rfl) ?_
        refine va_get (D := G.1) (ci := 9) (v := .int b5) (C := R_Cover) (T := F_Cover) (N := 5) hx hb hts i_Cover hown hK hP 0 rfl rfl 2 (by decide) (hts _ q343) (fun _ h9 => h9) rfl d_Cover_search_52 ?_
        refine lv_icmp_ge (tgt := 64) hx hb d_Cover_search_55 (by decide) (fun hc_13 => ?_) (fun hc_13 => ?_)
        · have _nhc_13 := hc_13
          have ni_14 := (fa_le _ _).mp hc_13
          rw [li_2] at ni_14
          have hv_15 : zI b5 2 2 := zI.le_l hv_5 zc_2 hc_13 (by decide)
          exact z_vret hx hb hr hlocks hP hD hS (Nat.le_of_ble_eq_true rfl) (Nat.le_of_ble_eq_true rfl) d_Cover_search_64 ⟨b4, b5, rfl, rfl⟩
        · have _nhc_13 := hc_13
          have ni_16 := (fa_lt _ _).mp (zi_nle hc_13)
          rw [li_2] at ni_16
          have hv_17 : zI b5 3 2147483647 := zI.lt_r zc_2 hv_5 (zi_nle hc_13) (by decide)
          refine lv_iload_n hx hb d_Cover_search_58 rfl (lv_at hl 4 rfl) ?_
          refine lv_bipush (v := 20) hx hb d_Cover_search_59 (by decide) ?_
          refine lv_icmp_lt (tgt := 65) hx hb d_Cover_search_61 (by decide) (fun _ => ?_) (fun hc => absurd hc (by decide +kernel))
          refine lv_iload_n hx hb d_Cover_search_65 rfl (lv_at hl 3 rfl) ?_
          refine lv_istore (lv' := [(5, .int b2), (4, .int x_9), (0, .ref b0), (1, .int b1), (2, .int b2), (3, .int 2)]) hx hb d_Cover_search_66 hl (by decide) rfl (fun ls hl => ?_)
          refine lv_aload_n hx hb d_Cover_search_68 rfl (lv_at hl 2 rfl) ?_
          refine va_get (D := G.1) (ci := 9) (v := .ref b6) (C := R_Cover) (T := F_Cover) (N := 5) hx hb hts i_Cover hown hK hP 0 rfl rfl 3 (by decide) (hts _ q344) (fun _ h9 => h9) rfl d_Cover_search_69 ?_
          refine lv_iload hx hb d_Cover_search_72 (lv_at hl 1 rfl) ?_
          refine va_iald hx hb hK hP 1 0 rfl rfl (zI.inn hv_12 (by decide)) d_Cover_search_74 ?_
          refine lv_topi (fun v_18 ev_18 => ?_)
          refine lv_iload_n hx hb d_Cover_search_75 rfl (lv_at hl 4 rfl) ?_
          refine lv_iconst (v := (-1)) hx hb d_Cover_search_76 (by decide) ?_
          refine lv_ixor hx hb d_Cover_search_77 ?_
          refine lv_topi (fun v_19 ev_19 => ?_)
          refine lv_iand hx hb d_Cover_search_78 ?_
          refine lv_topi (fun v_20 ev_20 => ?_)
          refine lv_istore (lv' := [(6, .int v_20), (5, .int b2), (4, .int x_9), (0, .ref b0), (1, .int b1), (2, .int b2), (3, .int 2)]) hx hb d_Cover_search_79 hl (by decide) rfl (fun ls hl => ?_)
          suffices key : ∀ (k_38 : Nat) (y_39 : Int32) (y_40 : Int32) (y_41 : Int32) (y_42 : Int32) (H : Heap) (locs : List Loc) (ls : Array Slot), (y_39).toBitVec.toNat < k_38 → va_P G.1 classes [(b0, .inr (9, [.int b3, .int y_41, .int y_42, .ref b6, .int b7])), (b6, .inl (G.2 0, 240, .inl b8))] H → va_D A [(b0, .inr (9, [.int b3, .int y_41, .int y_42, .ref b6, .int b7])), (b6, .inl (G.2 0, 240, .inl b8))] → va_S A s.heap H locs → lv_has ls 8 [(6, .int y_39), (5, .int y_40), (4, .int x_9), (0, .ref b0), (1, .int b1), (2, .int b2), (3, .int 2)] → W p l e m_s19_Cover_search s m ([.ref b0, .int b1, .int b2, .int 2] : List Value).toArray below meth c H locs 0 0 (MQ below (zQ G (fun v w => ∃ (e0 : Int32), ∃ (e1 : Int32), v = none ∧ w = [(b0, .inr (9, [.int b3, .int e0, .int e1, .ref b6, .int b7])), (b6, .inl (G.2 0, 240, .inl b8))]) A) ([.ref b0, .int b1, .int b2, .int 2] : List Value).toArray s m_s19_Cover_search.cells m_s19_Cover_search.slots A) (F0 m 81 ls []) by
            exact key 4294967296 (v_20) (b2) (b4) (b5) _ _ _  (Nat.lt_of_lt_of_le (v_20).toBitVec.isLt (by decide)) hP hD hS (lv_sub hl [0, 1, 2, 3, 4, 5, 6] rfl)
          intro k_38
          induction k_38 with
          | zero =>
            intro y_39 y_40 y_41 y_42 H locs ls hmk_38 hP hD hS hl
            exfalso; omega
          | succ k_38 ihk_38 =>
            intro y_39 y_40 y_41 y_42 H locs ls hmk_38 hP hD hS hl
            refine lv_iload hx hb d_Cover_search_81 (lv_at hl 0 rfl) ?_
            refine lv_if_eq (tgt := 126) hx hb d_Cover_search_83 (by decide) (fun hc_43 => ?_) (fun hc_43 => ?_)
            · have _nhc_43 := hc_43
              have ni_44 := (fa_eq _ _).mp hc_43
              rw [li_0] at ni_44
              have hv_45 : zI y_39 0 0 := zI.eq_l (zI_all y_39) zc_0 hc_43
              exact z_vret hx hb hr hlocks hP hD hS (Nat.le_of_ble_eq_true rfl) (Nat.le_of_ble_eq_true rfl) d_Cover_search_126 ⟨y_41, y_42, rfl, rfl⟩
            · have _nhc_43 := hc_43
              have ni_46 : ¬ (y_39 : Int32).toInt = (0 : Int32).toInt := fun z => hc_43 ((fa_eq _ _).mpr z)
              simp only [li_0] at ni_46
              refine lv_iload hx hb d_Cover_search_86 (lv_at hl 0 rfl) ?_
              refine lv_iload hx hb d_Cover_search_88 (lv_at hl 0 rfl) ?_
              refine lv_ineg hx hb d_Cover_search_90 ?_
              refine lv_topi (fun v_47 ev_47 => ?_)
              refine lv_iand hx hb d_Cover_search_91 ?_
              refine lv_topi (fun v_48 ev_48 => ?_)
              refine lv_istore (lv' := [(7, .int v_48), (6, .int y_39), (5, .int y_40), (4, .int x_9), (0, .ref b0), (1, .int b1), (2, .int b2), (3, .int 2)]) hx hb d_Cover_search_92 hl (by decide) rfl (fun ls hl => ?_)
              refine lv_aload_n hx hb d_Cover_search_94 rfl (lv_at hl 4 rfl) ?_
              refine lv_iload_n hx hb d_Cover_search_95 rfl (lv_at hl 5 rfl) ?_
              refine lv_iload hx hb d_Cover_search_96 (lv_at hl 0 rfl) ?_
              refine lv_ior hx hb d_Cover_search_98 ?_
              refine lv_topi (fun v_49 ev_49 => ?_)
              refine lv_iload hx hb d_Cover_search_99 (lv_at hl 2 rfl) ?_
              refine lv_iload_n hx hb d_Cover_search_101 rfl (lv_at hl 7 rfl) ?_
              refine lv_iconst (v := 1) hx hb d_Cover_search_102 (by decide) ?_
              refine lv_iadd hx hb d_Cover_search_103 ?_
              refine z_topi (y := 3) (by decide +kernel) ?_
              refine z_callV (index := 38) (As := [.int v_49, .int y_40, .int 3]) (rest := []) (wr := []) Z (s18_Cover_search l G (b0) (v_49) (y_40) (b3) (y_41) (y_42) (b6) (b7) (b8) hb3 hb7) hl.1 q781 q783 qs20 q10 q784 ⟨by decide, by decide, by show _ = some 3; decide +kernel⟩ ⟨Nat.le_of_ble_eq_true rfl, Nat.le_of_ble_eq_true rfl⟩ ⟨Nat.le_of_ble_eq_true rfl, Nat.le_of_ble_eq_true rfl⟩ rfl (Nat.le_of_ble_eq_true rfl) d_Cover_search_104 hP hD hS hA 0 9 rfl rfl rfl [0, 1] [] rfl rfl rfl rfl (by decide) (fun v w1 H locs hw_50 hP hD hS => ?_)
              obtain ⟨x_51, x_52, rfl, rfl⟩ := hw_50
              have hP : va_P G.1 classes [(b0, .inr (9, [.int b3, .int x_51, .int x_52, .ref b6, .int b7])), (b6, .inl (G.2 0, 240, .inl b8))] H := hP
              have hD := z_tie hP hD rfl
              refine W.widen (k := 0) (n := 0) (Nat.le_of_ble_eq_true rfl) (Nat.le_of_ble_eq_true rfl) ?_
              refine lv_iload hx hb d_Cover_search_107 (lv_at hl 2 rfl) ?_
              refine lv_iload hx hb d_Cover_search_109 (lv_at hl 0 rfl) ?_
              refine lv_ior hx hb d_Cover_search_111 ?_
              refine lv_topi (fun v_53 ev_53 => ?_)
              refine lv_istore (lv' := [(5, .int v_53), (7, .int v_48), (6, .int y_39), (4, .int x_9), (0, .ref b0), (1, .int b1), (2, .int b2), (3, .int 2)]) hx hb d_Cover_search_112 hl (by decide) rfl (fun ls hl => ?_)
              refine lv_iload hx hb d_Cover_search_114 (lv_at hl 2 rfl) ?_
              refine lv_iload hx hb d_Cover_search_116 (lv_at hl 2 rfl) ?_
              refine lv_iconst (v := 1) hx hb d_Cover_search_118 (by decide) ?_
              refine lv_isub hx hb d_Cover_search_119 ?_
              refine lv_topi (fun v_54 ev_54 => ?_)
              refine lv_iand hx hb d_Cover_search_120 ?_
              refine lv_topi (fun v_55 ev_55 => ?_)
              refine lv_istore (lv' := [(6, .int v_55), (5, .int v_53), (7, .int v_48), (4, .int x_9), (0, .ref b0), (1, .int b1), (2, .int b2), (3, .int 2)]) hx hb d_Cover_search_121 hl (by decide) rfl (fun ls hl => ?_)
              refine lv_goto (tgt := 81) hx hb d_Cover_search_123 (by decide) ?_
              exact ihk_38 (v_55) (v_53) (x_51) (x_52) _ _ _  (z_dec32 ev_54 ev_55 (by omega) hmk_38) hP hD hS (lv_sub hl [0, 1, 3, 4, 5, 6, 7] rfl)
      · have _nhc_10 := hc_10
        have ni_56 := (fa_eq _ _).mp hc_10
        rw [li_m1] at ni_56
        have hv_57 : zI x_9 (-1) (-1) := zI.eq_l hx_9 zc_m1 hc_10
        refine lv_aload_n hx hb d_Cover_search_39 rfl (lv_at hl 1 rfl) ?_
        refine lv_iload_n hx hb d_Cover_search_40 rfl (lv_at hl 2 rfl) ?_
        refine va_put (D := G.1) (ci := 9) (v := .int b1) (ty := .int) (C := R_Cover) (T := F_Cover) (N := 5) hx hb hts i_Cover t_Cover t_Cover_ok n_Cover hown hK hP hD hS 0 rfl rfl 1 (by decide) (hts _ q341) (fun _ h9 => h9) rfl (by decide +kernel) rfl rfl (Nat.le_of_ble_eq_true rfl) d_Cover_search_41 (fun H locs hP hD hS => ?_)
        have hP : va_P G.1 classes [(b0, .inr (9, [.int b3, .int b1, .int b5, .ref b6, .int b7])), (b6, .inl (G.2 0, 240, .inl b8))] H := hP
        have hD := z_tie hP hD rfl
        refine lv_aload_n hx hb d_Cover_search_44 rfl (lv_at hl 1 rfl) ?_
        refine lv_iload_n hx hb d_Cover_search_45 rfl (lv_at hl 4 rfl) ?_
        refine va_put (D := G.1) (ci := 9) (v := .int 2) (ty := .int) (C := R_Cover) (T := F_Cover) (N := 5) hx hb hts i_Cover t_Cover t_Cover_ok n_Cover hown hK hP hD hS 0 rfl rfl 2 (by decide) (hts _ q343) (fun _ h9 => h9) rfl (by decide +kernel) rfl rfl (Nat.le_of_ble_eq_true rfl) d_Cover_search_46 (fun H locs hP hD hS => ?_)
        have hP : va_P G.1 classes [(b0, .inr (9, [.int b3, .int b1, .int 2, .ref b6, .int b7])), (b6, .inl (G.2 0, 240, .inl b8))] H := hP
        have hD := z_tie hP hD rfl
        exact z_vret hx hb hr hlocks hP hD hS (Nat.le_of_ble_eq_true rfl) (Nat.le_of_ble_eq_true rfl) d_Cover_search_49 ⟨b1, 2, rfl, rfl⟩
    · have _nhc_6 := hc_6
      have ni_58 := (fa_eq _ _).mp hc_6
      rw [li_2] at ni_58
      have hv_59 : zI b5 2 2 := zI.eq_l hv_5 zc_2 hc_6.symm
      refine lv_iload_n hx hb d_Cover_search_16 rfl (lv_at hl 1 rfl) ?_
      refine lv_aload_n hx hb d_Cover_search_17 rfl (lv_at hl 0 rfl) ?_
      refine va_get (D := G.1) (ci := 9) (v := .int b4) (C := R_Cover) (T := F_Cover) (N := 5) hx hb hts i_Cover hown hK hP 0 rfl rfl 1 (by decide) (hts _ q341) (fun _ h9 => h9) rfl d_Cover_search_18 ?_
      refine lv_icmp_lt (tgt := 25) hx hb d_Cover_search_21 (by decide) (fun hc_60 => ?_) (fun hc_60 => ?_)
      · have _nhc_60 := hc_60
        have ni_61 := (fa_lt _ _).mp hc_60
        have hv_62 : zI b1 (-2147483648) 2147483646 := zI.lt_l (zI_all b1) (zI_all b4) hc_60 (by decide)
        have hv_63 : zI b4 (-2147483647) 2147483647 := zI.lt_r (zI_all b1) (zI_all b4) hc_60 (by decide)
        refine lv_aload_n hx hb d_Cover_search_25 rfl (lv_at hl 0 rfl) ?_
        refine lv_iload_n hx hb d_Cover_search_26 rfl (lv_at hl 1 rfl) ?_
        refine lv_iload_n hx hb d_Cover_search_27 rfl (lv_at hl 2 rfl) ?_
        refine z_callV (index := 70) (As := [.int b1, .int b2]) (rest := []) (wr := []) Z (s1_Cover_hardest l G (b0) (b1) (b2) (b3) (b4) (b5) (b6) (b7) (b8) hb3 hb7) hl.1 q785 q787 qs21 q10 q788 ⟨by decide, by decide, by show _ = some 2; decide +kernel⟩ ⟨Nat.le_of_ble_eq_true rfl, Nat.le_of_ble_eq_true rfl⟩ ⟨Nat.le_of_ble_eq_true rfl, Nat.le_of_ble_eq_true rfl⟩ rfl (Nat.le_of_ble_eq_true rfl) d_Cover_search_28 hP hD hS hA 0 9 rfl rfl rfl [0, 1] [] rfl rfl rfl rfl (by decide) (fun v w1 H locs hw_64 hP hD hS => ?_)
        obtain ⟨x_65, rfl, rfl, hx_65⟩ := hw_64
        have hP : va_P G.1 classes [(b0, .inr (9, [.int b3, .int b4, .int b5, .ref b6, .int b7])), (b6, .inl (G.2 0, 240, .inl b8))] H := hP
        have hD := z_tie hP hD rfl
        refine W.widen (k := 0) (n := 0) (Nat.le_of_ble_eq_true rfl) (Nat.le_of_ble_eq_true rfl) ?_
        refine lv_istore (lv' := [(4, .int x_65), (0, .ref b0), (1, .int b1), (2, .int b2), (3, .int 2)]) hx hb d_Cover_search_31 hl (by decide) rfl (fun ls hl => ?_)
        refine lv_iload hx hb d_Cover_search_33 (lv_at hl 0 rfl) ?_
        refine lv_iconst (v := (-1)) hx hb d_Cover_search_35 (by decide) ?_
        refine lv_icmp_ne (tgt := 50) hx hb d_Cover_search_36 (by decide) (fun hc_66 => ?_) (fun hc_66 => ?_)
        · have _nhc_66 := hc_66
          have ni_67 : ¬ (x_65 : Int32).toInt = ((-1) : Int32).toInt := fun z => hc_66 ((fa_eq _ _).mpr z)
          simp only [li_m1] at ni_67
          have hv_68 : zI x_65 0 239 := zI.ne_lo hx_65 zc_m1 hc_66 (by decide)
          refine lv_iload_n hx hb d_Cover_search_50 rfl (lv_at hl 4 rfl) ?_
          refine lv_aload_n hx hb d_Cover_search_51 rfl (lv_at hl 1 rfl) ?_
          refine va_get (D := G.1) (ci := 9) (v := .int b5) (C := R_Cover) (T := F_Cover) (N := 5) hx hb hts i_Cover hown hK hP 0 rfl rfl 2 (by decide) (hts _ q343) (fun _ h9 => h9) rfl d_Cover_search_52 ?_
          refine lv_icmp_ge (tgt := 64) hx hb d_Cover_search_55 (by decide) (fun _ => ?_) (fun hc => zI.no_lt zc_2 hv_59 (zi_nle hc) (by decide))
          exact z_vret hx hb hr hlocks hP hD hS (Nat.le_of_ble_eq_true rfl) (Nat.le_of_ble_eq_true rfl) d_Cover_search_64 ⟨b4, b5, rfl, rfl⟩
        · have _nhc_66 := hc_66
          have ni_69 := (fa_eq _ _).mp hc_66
          rw [li_m1] at ni_69
          have hv_70 : zI x_65 (-1) (-1) := zI.eq_l hx_65 zc_m1 hc_66
          refine lv_aload_n hx hb d_Cover_search_39 rfl (lv_at hl 1 rfl) ?_
          refine lv_iload_n hx hb d_Cover_search_40 rfl (lv_at hl 2 rfl) ?_
          refine va_put (D := G.1) (ci := 9) (v := .int b1) (ty := .int) (C := R_Cover) (T := F_Cover) (N := 5) hx hb hts i_Cover t_Cover t_Cover_ok n_Cover hown hK hP hD hS 0 rfl rfl 1 (by decide) (hts _ q341) (fun _ h9 => h9) rfl (by decide +kernel) rfl rfl (Nat.le_of_ble_eq_true rfl) d_Cover_search_41 (fun H locs hP hD hS => ?_)
          have hP : va_P G.1 classes [(b0, .inr (9, [.int b3, .int b1, .int b5, .ref b6, .int b7])), (b6, .inl (G.2 0, 240, .inl b8))] H := hP
          have hD := z_tie hP hD rfl
          refine lv_aload_n hx hb d_Cover_search_44 rfl (lv_at hl 1 rfl) ?_
          refine lv_iload_n hx hb d_Cover_search_45 rfl (lv_at hl 4 rfl) ?_
          refine va_put (D := G.1) (ci := 9) (v := .int 2) (ty := .int) (C := R_Cover) (T := F_Cover) (N := 5) hx hb hts i_Cover t_Cover t_Cover_ok n_Cover hown hK hP hD hS 0 rfl rfl 2 (by decide) (hts _ q343) (fun _ h9 => h9) rfl (by decide +kernel) rfl rfl (Nat.le_of_ble_eq_true rfl) d_Cover_search_46 (fun H locs hP hD hS => ?_)
          have hP : va_P G.1 classes [(b0, .inr (9, [.int b3, .int b1, .int 2, .ref b6, .int b7])), (b6, .inl (G.2 0, 240, .inl b8))] H := hP
          have hD := z_tie hP hD rfl
          exact z_vret hx hb hr hlocks hP hD hS (Nat.le_of_ble_eq_true rfl) (Nat.le_of_ble_eq_true rfl) d_Cover_search_49 ⟨b1, 2, rfl, rfl⟩
      · have _nhc_60 := hc_60
        have ni_71 := (fa_le _ _).mp (zi_nlt hc_60)
        exact z_vret hx hb hr hlocks hP hD hS (Nat.le_of_ble_eq_true rfl) (Nat.le_of_ble_eq_true rfl) d_Cover_search_24 ⟨b4, b5, rfl, rfl⟩
abbrev m_s20_Cover_search : Room := { frames := 21, cells := 0, slots := 0, locals := 559 }
set_option maxHeartbeats 4000000 in
set_option maxRecDepth 100000 in
theorem s20_Cover_search (l : Launch) (G : zG) (b0 : Nat) (b1 : Int32) (b2 : Int32) (b3 : Int32) (b4 : Int32) (b5 : Int32) (b6 : Nat) (b7 : Int32) (b8 : Nat → Int32) (hb3 : zI b3 0 1) (hb7 : zI b7 0 240) : zM l G y_Cover_search prog_2_method_6_code 8 (Option.none : Option Jvm.ClassFile.FieldType) m_s20_Cover_search [.ref b0, .int b1, .int b2, .int 1] [(b0, .inr (9, [.int b3, .int b4, .int b5, .ref b6, .int b7])), (b6, .inl (G.2 0, 240, .inl b8))] (fun v w => ∃ (e0 : Int32), ∃ (e1 : Int32), v = none ∧ w = [(b0, .inr (9, [.int b3, .int e0, .int e1, .ref b6, .int b7])), (b6, .inl (G.2 0, 240, .inl b8))]) := by
  refine z_start (by decide +kernel) (Nat.le_of_ble_eq_true rfl) ?_
  intro p e s m below meth c A Z hr hnm hA hP hD hS ls hl
  have Z : zC p s m _ meth c prog_2_method_6_code 8 "TraceMachines$Cover" G := Z
  obtain ⟨hx, hb, hml, hown, hts, hK, hN, hlocks⟩ := id Z
  have hl : lv_has ls 8 [(0, .ref b0), (1, .int b1), (2, .int b2), (3, .int 1)] := hl
  refine lv_iload_n hx hb d_Cover_search_0 rfl (lv_at hl 3 rfl) ?_
  refine lv_aload_n hx hb d_Cover_search_1 rfl (lv_at hl 0 rfl) ?_
  refine va_get (D := G.1) (ci := 9) (v := .int b5) (C := R_Cover) (T := F_Cover) (N := 5) hx hb hts i_Cover hown hK hP 0 rfl rfl 2 (by decide) (hts _ q343) (fun _ h9 => h9) rfl d_Cover_search_2 ?_
  refine lv_icmp_gt (tgt := 24) hx hb d_Cover_search_5 (by decide) (fun hc_1 => ?_) (fun hc_1 => ?_)
  · have _nhc_1 := hc_1
    have ni_2 := (fa_lt _ _).mp hc_1
    rw [li_1] at ni_2
    have hv_3 : zI b5 (-2147483648) 0 := zI.lt_l (zI_all b5) zc_1 hc_1 (by decide)
    exact z_vret hx hb hr hlocks hP hD hS (Nat.le_of_ble_eq_true rfl) (Nat.le_of_ble_eq_true rfl) d_Cover_search_24 ⟨b4, b5, rfl, rfl⟩
  · have _nhc_1 := hc_1
    have ni_4 := (fa_le _ _).mp (zi_nlt hc_1)
    rw [li_1] at ni_4
    have hv_5 : zI b5 1 2147483647 := zI.le_r zc_1 (zI_all b5) (zi_nlt hc_1) (by decide)
    refine lv_iload_n hx hb d_Cover_search_8 rfl (lv_at hl 3 rfl) ?_
    refine lv_aload_n hx hb d_Cover_search_9 rfl (lv_at hl 0 rfl) ?_
    refine va_get (D := G.1) (ci := 9) (v := .int b5) (C := R_Cover) (T := F_Cover) (N := 5) hx hb hts i_Cover hown hK hP 0 rfl rfl 2 (by decide) (hts _ q343) (fun _ h9 => h9) rfl d_Cover_search_10 ?_
    refine lv_icmp_ne (tgt := 25) hx hb d_Cover_search_13 (by decide) (fun hc_6 => ?_) (fun hc_6 => ?_)
    · have _nhc_6 := hc_6
      have ni_7 : ¬ (1 : Int32).toInt = (b5 : Int32).toInt := fun z => hc_6 ((fa_eq _ _).mpr z)
      simp only [li_1] at ni_7
      refine lv_aload_n hx hb d_Cover_search_25 rfl (lv_at hl 0 rfl) ?_
      refine lv_iload_n hx hb d_Cover_search_26 rfl (lv_at hl 1 rfl) ?_
      refine lv_iload_n hx hb d_Cover_search_27 rfl (lv_at hl 2 rfl) ?_
      refine z_callV (index := 70) (As := [.int b1, .int b2]) (rest := []) (wr := []) Z (s1_Cover_hardest l G (b0) (b1) (b2) (b3) (b4) (b5) (b6) (b7) (b8) hb3 hb7) hl.1 q785 q787 qs21 q10 q788 ⟨by decide, by decide, by show _ = some 2; decide +kernel⟩ ⟨Nat.le_of_ble_eq_true rfl, Nat.le_of_ble_eq_true rfl⟩ ⟨Nat.le_of_ble_eq_true rfl, Nat.le_of_ble_eq_true rfl⟩ rfl (Nat.le_of_ble_eq_true rfl) d_Cover_search_28 hP hD hS hA 0 9 rfl rfl rfl [0, 1] [] rfl rfl rfl rfl (by decide) (fun v w1 H locs hw_8 hP hD hS => ?_)
      obtain ⟨x_9, rfl, rfl, hx_9⟩ := hw_8
      have hP : va_P G.1 classes [(b0, .inr (9, [.int b3, .int b4, .int b5, .ref b6, .int b7])), (b6, .inl (G.2 0, 240, .inl b8))] H := hP
      have hD := z_tie hP hD rfl
      refine W.widen (k := 0) (n := 0) (Nat.le_of_ble_eq_true rfl) (Nat.le_of_ble_eq_true rfl) ?_
      refine lv_istore (lv' := [(4, .int x_9), (0, .ref b0), (1, .int b1), (2, .int b2), (3, .int 1)]) hx hb d_Cover_search_31 hl (by decide) rfl (fun ls hl => ?_)
      refine lv_iload hx hb d_Cover_search_33 (lv_at hl 0 rfl) ?_
      refine lv_iconst (v := (-1)) hx hb d_Cover_search_35 (by decide) ?_
      refine lv_icmp_ne (tgt := 50) hx hb d_Cover_search_36 (by decide) (fun hc_10 => ?_) (fun hc_10 => ?_)
      · have _nhc_10 := hc_10
        have ni_11 : ¬ (x_9 : Int32).toInt = ((-1) : Int32).toInt := fun z => hc_10 ((fa_eq _ _).mpr z)
        simp only [li_m1] at ni_11
        have hv_12 : zI x_9 0 239 := zI.ne_lo hx_9 zc_m1 hc_10 (by decide)
        refine lv_iload_n hx hb d_Cover_search_50 rfl (lv_at hl 4 rfl) ?_
        refine lv_aload_n hx hb d_Cover_search_51 rfl (lv_at hl 1 rfl) ?_
        refine va_get (D := G.1) (ci := 9) (v := .int b5) (C := R_Cover) (T := F_Cover) (N := 5) hx hb hts i_Cover hown hK hP 0 rfl rfl 2 (by decide) (hts _ q343) (fun _ h9 => h9) rfl d_Cover_search_52 ?_
        refine lv_icmp_ge (tgt := 64) hx hb d_Cover_search_55 (by decide) (fun hc_13 => ?_) (fun hc_13 => ?_)
        · have _nhc_13 := hc_13
          have ni_14 := (fa_le _ _).mp hc_13
          rw [li_1] at ni_14
          have hv_15 : zI b5 1 1 := zI.le_l hv_5 zc_1 hc_13 (by decide)
          exact z_vret hx hb hr hlocks hP hD hS (Nat.le_of_ble_eq_true rfl) (Nat.le_of_ble_eq_true rfl) d_Cover_search_64 ⟨b4, b5, rfl, rfl⟩
        · have _nhc_13 := hc_13
          have ni_16 := (fa_lt _ _).mp (zi_nle hc_13)
          rw [li_1] at ni_16
          have hv_17 : zI b5 2 2147483647 := zI.lt_r zc_1 hv_5 (zi_nle hc_13) (by decide)
          refine lv_iload_n hx hb d_Cover_search_58 rfl (lv_at hl 4 rfl) ?_
          refine lv_bipush (v := 20) hx hb d_Cover_search_59 (by decide) ?_
          refine lv_icmp_lt (tgt := 65) hx hb d_Cover_search_61 (by decide) (fun _ => ?_) (fun hc => absurd hc (by decide +kernel))
          refine lv_iload_n hx hb d_Cover_search_65 rfl (lv_at hl 3 rfl) ?_
          refine lv_istore (lv' := [(5, .int b2), (4, .int x_9), (0, .ref b0), (1, .int b1), (2, .int b2), (3, .int 1)]) hx hb d_Cover_search_66 hl (by decide) rfl (fun ls hl => ?_)
          refine lv_aload_n hx hb d_Cover_search_68 rfl (lv_at hl 2 rfl) ?_
          refine va_get (D := G.1) (ci := 9) (v := .ref b6) (C := R_Cover) (T := F_Cover) (N := 5) hx hb hts i_Cover hown hK hP 0 rfl rfl 3 (by decide) (hts _ q344) (fun _ h9 => h9) rfl d_Cover_search_69 ?_
          refine lv_iload hx hb d_Cover_search_72 (lv_at hl 1 rfl) ?_
          refine va_iald hx hb hK hP 1 0 rfl rfl (zI.inn hv_12 (by decide)) d_Cover_search_74 ?_
          refine lv_topi (fun v_18 ev_18 => ?_)
          refine lv_iload_n hx hb d_Cover_search_75 rfl (lv_at hl 4 rfl) ?_
          refine lv_iconst (v := (-1)) hx hb d_Cover_search_76 (by decide) ?_
          refine lv_ixor hx hb d_Cover_search_77 ?_
          refine lv_topi (fun v_19 ev_19 => ?_)
          refine lv_iand hx hb d_Cover_search_78 ?_
          refine lv_topi (fun v_20 ev_20 => ?_)
          refine lv_istore (lv' := [(6, .int v_20), (5, .int b2), (4, .int x_9), (0, .ref b0), (1, .int b1), (2, .int b2), (3, .int 1)]) hx hb d_Cover_search_79 hl (by decide) rfl (fun ls hl => ?_)
          suffices key : ∀ (k_38 : Nat) (y_39 : Int32) (y_40 : Int32) (y_41 : Int32) (y_42 : Int32) (H : Heap) (locs : List Loc) (ls : Array Slot), (y_39).toBitVec.toNat < k_38 → va_P G.1 classes [(b0, .inr (9, [.int b3, .int y_41, .int y_42, .ref b6, .int b7])), (b6, .inl (G.2 0, 240, .inl b8))] H → va_D A [(b0, .inr (9, [.int b3, .int y_41, .int y_42, .ref b6, .int b7])), (b6, .inl (G.2 0, 240, .inl b8))] → va_S A s.heap H locs → lv_has ls 8 [(6, .int y_39), (5, .int y_40), (4, .int x_9), (0, .ref b0), (1, .int b1), (2, .int b2), (3, .int 1)] → W p l e m_s20_Cover_search s m ([.ref b0, .int b1, .int b2, .int 1] : List Value).toArray below meth c H locs 0 0 (MQ below (zQ G (fun v w => ∃ (e0 : Int32), ∃ (e1 : Int32), v = none ∧ w = [(b0, .inr (9, [.int b3, .int e0, .int e1, .ref b6, .int b7])), (b6, .inl (G.2 0, 240, .inl b8))]) A) ([.ref b0, .int b1, .int b2, .int 1] : List Value).toArray s m_s20_Cover_search.cells m_s20_Cover_search.slots A) (F0 m 81 ls []) by
            exact key 4294967296 (v_20) (b2) (b4) (b5) _ _ _  (Nat.lt_of_lt_of_le (v_20).toBitVec.isLt (by decide)) hP hD hS (lv_sub hl [0, 1, 2, 3, 4, 5, 6] rfl)
          intro k_38
          induction k_38 with
          | zero =>
            intro y_39 y_40 y_41 y_42 H locs ls hmk_38 hP hD hS hl
            exfalso; omega
          | succ k_38 ihk_38 =>
            intro y_39 y_40 y_41 y_42 H locs ls hmk_38 hP hD hS hl
            refine lv_iload hx hb d_Cover_search_81 (lv_at hl 0 rfl) ?_
            refine lv_if_eq (tgt := 126) hx hb d_Cover_search_83 (by decide) (fun hc_43 => ?_) (fun hc_43 => ?_)
            · have _nhc_43 := hc_43
              have ni_44 := (fa_eq _ _).mp hc_43
              rw [li_0] at ni_44
              have hv_45 : zI y_39 0 0 := zI.eq_l (zI_all y_39) zc_0 hc_43
              exact z_vret hx hb hr hlocks hP hD hS (Nat.le_of_ble_eq_true rfl) (Nat.le_of_ble_eq_true rfl) d_Cover_search_126 ⟨y_41, y_42, rfl, rfl⟩
            · have _nhc_43 := hc_43
              have ni_46 : ¬ (y_39 : Int32).toInt = (0 : Int32).toInt := fun z => hc_43 ((fa_eq _ _).mpr z)
              simp only [li_0] at ni_46
              refine lv_iload hx hb d_Cover_search_86 (lv_at hl 0 rfl) ?_
              refine lv_iload hx hb d_Cover_search_88 (lv_at hl 0 rfl) ?_
              refine lv_ineg hx hb d_Cover_search_90 ?_
              refine lv_topi (fun v_47 ev_47 => ?_)
              refine lv_iand hx hb d_Cover_search_91 ?_
              refine lv_topi (fun v_48 ev_48 => ?_)
              refine lv_istore (lv' := [(7, .int v_48), (6, .int y_39), (5, .int y_40), (4, .int x_9), (0, .ref b0), (1, .int b1), (2, .int b2), (3, .int 1)]) hx hb d_Cover_search_92 hl (by decide) rfl (fun ls hl => ?_)
              refine lv_aload_n hx hb d_Cover_search_94 rfl (lv_at hl 4 rfl) ?_
              refine lv_iload_n hx hb d_Cover_search_95 rfl (lv_at hl 5 rfl) ?_
              refine lv_iload hx hb d_Cover_search_96 (lv_at hl 0 rfl) ?_
              refine lv_ior hx hb d_Cover_search_98 ?_
              refine lv_topi (fun v_49 ev_49 => ?_)
              refine lv_iload hx hb d_Cover_search_99 (lv_at hl 2 rfl) ?_
              refine lv_iload_n hx hb d_Cover_search_101 rfl (lv_at hl 7 rfl) ?_
              refine lv_iconst (v := 1) hx hb d_Cover_search_102 (by decide) ?_
              refine lv_iadd hx hb d_Cover_search_103 ?_
              refine z_topi (y := 2) (by decide +kernel) ?_
              refine z_callV (index := 38) (As := [.int v_49, .int y_40, .int 2]) (rest := []) (wr := []) Z (s19_Cover_search l G (b0) (v_49) (y_40) (b3) (y_41) (y_42) (b6) (b7) (b8) hb3 hb7) hl.1 q781 q783 qs20 q10 q784 ⟨by decide, by decide, by show _ = some 3; decide +kernel⟩ ⟨Nat.le_of_ble_eq_true rfl, Nat.le_of_ble_eq_true rfl⟩ ⟨Nat.le_of_ble_eq_true rfl, Nat.le_of_ble_eq_true rfl⟩ rfl (Nat.le_of_ble_eq_true rfl) d_Cover_search_104 hP hD hS hA 0 9 rfl rfl rfl [0, 1] [] rfl rfl rfl rfl (by decide) (fun v w1 H locs hw_50 hP hD hS => ?_)
              obtain ⟨x_51, x_52, rfl, rfl⟩ := hw_50
              have hP : va_P G.1 classes [(b0, .inr (9, [.int b3, .int x_51, .int x_52, .ref b6, .int b7])), (b6, .inl (G.2 0, 240, .inl b8))] H := hP
              have hD := z_tie hP hD rfl
              refine W.widen (k := 0) (n := 0) (Nat.le_of_ble_eq_true rfl) (Nat.le_of_ble_eq_true rfl) ?_
              refine lv_iload hx hb d_Cover_search_107 (lv_at hl 2 rfl) ?_
              refine lv_iload hx hb d_Cover_search_109 (lv_at hl 0 rfl) ?_
              refine lv_ior hx hb d_Cover_search_111 ?_
              refine lv_topi (fun v_53 ev_53 => ?_)
              refine lv_istore (lv' := [(5, .int v_53), (7, .int v_48), (6, .int y_39), (4, .int x_9), (0, .ref b0), (1, .int b1), (2, .int b2), (3, .int 1)]) hx hb d_Cover_search_112 hl (by decide) rfl (fun ls hl => ?_)
              refine lv_iload hx hb d_Cover_search_114 (lv_at hl 2 rfl) ?_
              refine lv_iload hx hb d_Cover_search_116 (lv_at hl 2 rfl) ?_
              refine lv_iconst (v := 1) hx hb d_Cover_search_118 (by decide) ?_
              refine lv_isub hx hb d_Cover_search_119 ?_
              refine lv_topi (fun v_54 ev_54 => ?_)
              refine lv_iand hx hb d_Cover_search_120 ?_
              refine lv_topi (fun v_55 ev_55 => ?_)
              refine lv_istore (lv' := [(6, .int v_55), (5, .int v_53), (7, .int v_48), (4, .int x_9), (0, .ref b0), (1, .int b1), (2, .int b2), (3, .int 1)]) hx hb d_Cover_search_121 hl (by decide) rfl (fun ls hl => ?_)
              refine lv_goto (tgt := 81) hx hb d_Cover_search_123 (by decide) ?_
              exact ihk_38 (v_55) (v_53) (x_51) (x_52) _ _ _  (z_dec32 ev_54 ev_55 (by omega) hmk_38) hP hD hS (lv_sub hl [0, 1, 3, 4, 5, 6, 7] rfl)
      · have _nhc_10 := hc_10
        have ni_56 := (fa_eq _ _).mp hc_10
        rw [li_m1] at ni_56
        have hv_57 : zI x_9 (-1) (-1) := zI.eq_l hx_9 zc_m1 hc_10
        refine lv_aload_n hx hb d_Cover_search_39 rfl (lv_at hl 1 rfl) ?_
        refine lv_iload_n hx hb d_Cover_search_40 rfl (lv_at hl 2 rfl) ?_
        refine va_put (D := G.1) (ci := 9) (v := .int b1) (ty := .int) (C := R_Cover) (T := F_Cover) (N := 5) hx hb hts i_Cover t_Cover t_Cover_ok n_Cover hown hK hP hD hS 0 rfl rfl 1 (by decide) (hts _ q341) (fun _ h9 => h9) rfl (by decide +kernel) rfl rfl (Nat.le_of_ble_eq_true rfl) d_Cover_search_41 (fun H locs hP hD hS => ?_)
        have hP : va_P G.1 classes [(b0, .inr (9, [.int b3, .int b1, .int b5, .ref b6, .int b7])), (b6, .inl (G.2 0, 240, .inl b8))] H := hP
        have hD := z_tie hP hD rfl
        refine lv_aload_n hx hb d_Cover_search_44 rfl (lv_at hl 1 rfl) ?_
        refine lv_iload_n hx hb d_Cover_search_45 rfl (lv_at hl 4 rfl) ?_
        refine va_put (D := G.1) (ci := 9) (v := .int 1) (ty := .int) (C := R_Cover) (T := F_Cover) (N := 5) hx hb hts i_Cover t_Cover t_Cover_ok n_Cover hown hK hP hD hS 0 rfl rfl 2 (by decide) (hts _ q343) (fun _ h9 => h9) rfl (by decide +kernel) rfl rfl (Nat.le_of_ble_eq_true rfl) d_Cover_search_46 (fun H locs hP hD hS => ?_)
        have hP : va_P G.1 classes [(b0, .inr (9, [.int b3, .int b1, .int 1, .ref b6, .int b7])), (b6, .inl (G.2 0, 240, .inl b8))] H := hP
        have hD := z_tie hP hD rfl
        exact z_vret hx hb hr hlocks hP hD hS (Nat.le_of_ble_eq_true rfl) (Nat.le_of_ble_eq_true rfl) d_Cover_search_49 ⟨b1, 1, rfl, rfl⟩
    · have _nhc_6 := hc_6
      have ni_58 := (fa_eq _ _).mp hc_6
      rw [li_1] at ni_58
      have hv_59 : zI b5 1 1 := zI.eq_l hv_5 zc_1 hc_6.symm
      refine lv_iload_n hx hb d_Cover_search_16 rfl (lv_at hl 1 rfl) ?_
      refine lv_aload_n hx hb d_Cover_search_17 rfl (lv_at hl 0 rfl) ?_
      refine va_get (D := G.1) (ci := 9) (v := .int b4) (C := R_Cover) (T := F_Cover) (N := 5) hx hb hts i_Cover hown hK hP 0 rfl rfl 1 (by decide) (hts _ q341) (fun _ h9 => h9) rfl d_Cover_search_18 ?_
      refine lv_icmp_lt (tgt := 25) hx hb d_Cover_search_21 (by decide) (fun hc_60 => ?_) (fun hc_60 => ?_)
      · have _nhc_60 := hc_60
        have ni_61 := (fa_lt _ _).mp hc_60
        have hv_62 : zI b1 (-2147483648) 2147483646 := zI.lt_l (zI_all b1) (zI_all b4) hc_60 (by decide)
        have hv_63 : zI b4 (-2147483647) 2147483647 := zI.lt_r (zI_all b1) (zI_all b4) hc_60 (by decide)
        refine lv_aload_n hx hb d_Cover_search_25 rfl (lv_at hl 0 rfl) ?_
        refine lv_iload_n hx hb d_Cover_search_26 rfl (lv_at hl 1 rfl) ?_
        refine lv_iload_n hx hb d_Cover_search_27 rfl (lv_at hl 2 rfl) ?_
        refine z_callV (index := 70) (As := [.int b1, .int b2]) (rest := []) (wr := []) Z (s1_Cover_hardest l G (b0) (b1) (b2) (b3) (b4) (b5) (b6) (b7) (b8) hb3 hb7) hl.1 q785 q787 qs21 q10 q788 ⟨by decide, by decide, by show _ = some 2; decide +kernel⟩ ⟨Nat.le_of_ble_eq_true rfl, Nat.le_of_ble_eq_true rfl⟩ ⟨Nat.le_of_ble_eq_true rfl, Nat.le_of_ble_eq_true rfl⟩ rfl (Nat.le_of_ble_eq_true rfl) d_Cover_search_28 hP hD hS hA 0 9 rfl rfl rfl [0, 1] [] rfl rfl rfl rfl (by decide) (fun v w1 H locs hw_64 hP hD hS => ?_)
        obtain ⟨x_65, rfl, rfl, hx_65⟩ := hw_64
        have hP : va_P G.1 classes [(b0, .inr (9, [.int b3, .int b4, .int b5, .ref b6, .int b7])), (b6, .inl (G.2 0, 240, .inl b8))] H := hP
        have hD := z_tie hP hD rfl
        refine W.widen (k := 0) (n := 0) (Nat.le_of_ble_eq_true rfl) (Nat.le_of_ble_eq_true rfl) ?_
        refine lv_istore (lv' := [(4, .int x_65), (0, .ref b0), (1, .int b1), (2, .int b2), (3, .int 1)]) hx hb d_Cover_search_31 hl (by decide) rfl (fun ls hl => ?_)
        refine lv_iload hx hb d_Cover_search_33 (lv_at hl 0 rfl) ?_
        refine lv_iconst (v := (-1)) hx hb d_Cover_search_35 (by decide) ?_
        refine lv_icmp_ne (tgt := 50) hx hb d_Cover_search_36 (by decide) (fun hc_66 => ?_) (fun hc_66 => ?_)
        · have _nhc_66 := hc_66
          have ni_67 : ¬ (x_65 : Int32).toInt = ((-1) : Int32).toInt := fun z => hc_66 ((fa_eq _ _).mpr z)
          simp only [li_m1] at ni_67
          have hv_68 : zI x_65 0 239 := zI.ne_lo hx_65 zc_m1 hc_66 (by decide)
          refine lv_iload_n hx hb d_Cover_search_50 rfl (lv_at hl 4 rfl) ?_
          refine lv_aload_n hx hb d_Cover_search_51 rfl (lv_at hl 1 rfl) ?_
          refine va_get (D := G.1) (ci := 9) (v := .int b5) (C := R_Cover) (T := F_Cover) (N := 5) hx hb hts i_Cover hown hK hP 0 rfl rfl 2 (by decide) (hts _ q343) (fun _ h9 => h9) rfl d_Cover_search_52 ?_
          refine lv_icmp_ge (tgt := 64) hx hb d_Cover_search_55 (by decide) (fun _ => ?_) (fun hc => zI.no_lt zc_1 hv_59 (zi_nle hc) (by decide))
          exact z_vret hx hb hr hlocks hP hD hS (Nat.le_of_ble_eq_true rfl) (Nat.le_of_ble_eq_true rfl) d_Cover_search_64 ⟨b4, b5, rfl, rfl⟩
        · have _nhc_66 := hc_66
          have ni_69 := (fa_eq _ _).mp hc_66
          rw [li_m1] at ni_69
          have hv_70 : zI x_65 (-1) (-1) := zI.eq_l hx_65 zc_m1 hc_66
          refine lv_aload_n hx hb d_Cover_search_39 rfl (lv_at hl 1 rfl) ?_
          refine lv_iload_n hx hb d_Cover_search_40 rfl (lv_at hl 2 rfl) ?_
          refine va_put (D := G.1) (ci := 9) (v := .int b1) (ty := .int) (C := R_Cover) (T := F_Cover) (N := 5) hx hb hts i_Cover t_Cover t_Cover_ok n_Cover hown hK hP hD hS 0 rfl rfl 1 (by decide) (hts _ q341) (fun _ h9 => h9) rfl (by decide +kernel) rfl rfl (Nat.le_of_ble_eq_true rfl) d_Cover_search_41 (fun H locs hP hD hS => ?_)
          have hP : va_P G.1 classes [(b0, .inr (9, [.int b3, .int b1, .int b5, .ref b6, .int b7])), (b6, .inl (G.2 0, 240, .inl b8))] H := hP
          have hD := z_tie hP hD rfl
          refine lv_aload_n hx hb d_Cover_search_44 rfl (lv_at hl 1 rfl) ?_
          refine lv_iload_n hx hb d_Cover_search_45 rfl (lv_at hl 4 rfl) ?_
          refine va_put (D := G.1) (ci := 9) (v := .int 1) (ty := .int) (C := R_Cover) (T := F_Cover) (N := 5) hx hb hts i_Cover t_Cover t_Cover_ok n_Cover hown hK hP hD hS 0 rfl rfl 2 (by decide) (hts _ q343) (fun _ h9 => h9) rfl (by decide +kernel) rfl rfl (Nat.le_of_ble_eq_true rfl) d_Cover_search_46 (fun H locs hP hD hS => ?_)
          have hP : va_P G.1 classes [(b0, .inr (9, [.int b3, .int b1, .int 1, .ref b6, .int b7])), (b6, .inl (G.2 0, 240, .inl b8))] H := hP
          have hD := z_tie hP hD rfl
          exact z_vret hx hb hr hlocks hP hD hS (Nat.le_of_ble_eq_true rfl) (Nat.le_of_ble_eq_true rfl) d_Cover_search_49 ⟨b1, 1, rfl, rfl⟩
      · have _nhc_60 := hc_60
        have ni_71 := (fa_le _ _).mp (zi_nlt hc_60)
        exact z_vret hx hb hr hlocks hP hD hS (Nat.le_of_ble_eq_true rfl) (Nat.le_of_ble_eq_true rfl) d_Cover_search_24 ⟨b4, b5, rfl, rfl⟩
abbrev m_s21_Cover_search : Room := { frames := 22, cells := 0, slots := 0, locals := 586 }
set_option maxHeartbeats 4000000 in
set_option maxRecDepth 100000 in
theorem s21_Cover_search (l : Launch) (G : zG) (b0 : Nat) (b1 : Int32) (b2 : Int32) (b3 : Int32) (b4 : Int32) (b5 : Int32) (b6 : Nat) (b7 : Int32) (b8 : Nat → Int32) (hb3 : zI b3 0 1) (hb7 : zI b7 0 240) : zM l G y_Cover_search prog_2_method_6_code 8 (Option.none : Option Jvm.ClassFile.FieldType) m_s21_Cover_search [.ref b0, .int b1, .int b2, .int 0] [(b0, .inr (9, [.int b3, .int b4, .int b5, .ref b6, .int b7])), (b6, .inl (G.2 0, 240, .inl b8))] (fun v w => ∃ (e0 : Int32), ∃ (e1 : Int32), v = none ∧ w = [(b0, .inr (9, [.int b3, .int e0, .int e1, .ref b6, .int b7])), (b6, .inl (G.2 0, 240, .inl b8))]) := by
  refine z_start (by decide +kernel) (Nat.le_of_ble_eq_true rfl) ?_
  intro p e s m below meth c A Z hr hnm hA hP hD hS ls hl
  have Z : zC p s m _ meth c prog_2_method_6_code 8 "TraceMachines$Cover" G := Z
  obtain ⟨hx, hb, hml, hown, hts, hK, hN, hlocks⟩ := id Z
  have hl : lv_has ls 8 [(0, .ref b0), (1, .int b1), (2, .int b2), (3, .int 0)] := hl
  refine lv_iload_n hx hb d_Cover_search_0 rfl (lv_at hl 3 rfl) ?_
  refine lv_aload_n hx hb d_Cover_search_1 rfl (lv_at hl 0 rfl) ?_
  refine va_get (D := G.1) (ci := 9) (v := .int b5) (C := R_Cover) (T := F_Cover) (N := 5) hx hb hts i_Cover hown hK hP 0 rfl rfl 2 (by decide) (hts _ q343) (fun _ h9 => h9) rfl d_Cover_search_2 ?_
  refine lv_icmp_gt (tgt := 24) hx hb d_Cover_search_5 (by decide) (fun hc_1 => ?_) (fun hc_1 => ?_)
  · have _nhc_1 := hc_1
    have ni_2 := (fa_lt _ _).mp hc_1
    rw [li_0] at ni_2
    have hv_3 : zI b5 (-2147483648) (-1) := zI.lt_l (zI_all b5) zc_0 hc_1 (by decide)
    exact z_vret hx hb hr hlocks hP hD hS (Nat.le_of_ble_eq_true rfl) (Nat.le_of_ble_eq_true rfl) d_Cover_search_24 ⟨b4, b5, rfl, rfl⟩
  · have _nhc_1 := hc_1
    have ni_4 := (fa_le _ _).mp (zi_nlt hc_1)
    rw [li_0] at ni_4
    have hv_5 : zI b5 0 2147483647 := zI.le_r zc_0 (zI_all b5) (zi_nlt hc_1) (by decide)
    refine lv_iload_n hx hb d_Cover_search_8 rfl (lv_at hl 3 rfl) ?_
    refine lv_aload_n hx hb d_Cover_search_9 rfl (lv_at hl 0 rfl) ?_
    refine va_get (D := G.1) (ci := 9) (v := .int b5) (C := R_Cover) (T := F_Cover) (N := 5) hx hb hts i_Cover hown hK hP 0 rfl rfl 2 (by decide) (hts _ q343) (fun _ h9 => h9) rfl d_Cover_search_10 ?_
    refine lv_icmp_ne (tgt := 25) hx hb d_Cover_search_13 (by decide) (fun hc_6 => ?_) (fun hc_6 => ?_)
    · have _nhc_6 := hc_6
      have ni_7 : ¬ (0 : Int32).toInt = (b5 : Int32).toInt := fun z => hc_6 ((fa_eq _ _).mpr z)
      simp only [li_0] at ni_7
      refine lv_aload_n hx hb d_Cover_search_25 rfl (lv_at hl 0 rfl) ?_
      refine lv_iload_n hx hb d_Cover_search_26 rfl (lv_at hl 1 rfl) ?_
      refine lv_iload_n hx hb d_Cover_search_27 rfl (lv_at hl 2 rfl) ?_
      refine z_callV (index := 70) (As := [.int b1, .int b2]) (rest := []) (wr := []) Z (s1_Cover_hardest l G (b0) (b1) (b2) (b3) (b4) (b5) (b6) (b7) (b8) hb3 hb7) hl.1 q785 q787 qs21 q10 q788 ⟨by decide, by decide, by show _ = some 2; decide +kernel⟩ ⟨Nat.le_of_ble_eq_true rfl, Nat.le_of_ble_eq_true rfl⟩ ⟨Nat.le_of_ble_eq_true rfl, Nat.le_of_ble_eq_true rfl⟩ rfl (Nat.le_of_ble_eq_true rfl) d_Cover_search_28 hP hD hS hA 0 9 rfl rfl rfl [0, 1] [] rfl rfl rfl rfl (by decide) (fun v w1 H locs hw_8 hP hD hS => ?_)
      obtain ⟨x_9, rfl, rfl, hx_9⟩ := hw_8
      have hP : va_P G.1 classes [(b0, .inr (9, [.int b3, .int b4, .int b5, .ref b6, .int b7])), (b6, .inl (G.2 0, 240, .inl b8))] H := hP
      have hD := z_tie hP hD rfl
      refine W.widen (k := 0) (n := 0) (Nat.le_of_ble_eq_true rfl) (Nat.le_of_ble_eq_true rfl) ?_
      refine lv_istore (lv' := [(4, .int x_9), (0, .ref b0), (1, .int b1), (2, .int b2), (3, .int 0)]) hx hb d_Cover_search_31 hl (by decide) rfl (fun ls hl => ?_)
      refine lv_iload hx hb d_Cover_search_33 (lv_at hl 0 rfl) ?_
      refine lv_iconst (v := (-1)) hx hb d_Cover_search_35 (by decide) ?_
      refine lv_icmp_ne (tgt := 50) hx hb d_Cover_search_36 (by decide) (fun hc_10 => ?_) (fun hc_10 => ?_)
      · have _nhc_10 := hc_10
        have ni_11 : ¬ (x_9 : Int32).toInt = ((-1) : Int32).toInt := fun z => hc_10 ((fa_eq _ _).mpr z)
        simp only [li_m1] at ni_11
        have hv_12 : zI x_9 0 239 := zI.ne_lo hx_9 zc_m1 hc_10 (by decide)
        refine lv_iload_n hx hb d_Cover_search_50 rfl (lv_at hl 4 rfl) ?_
        refine lv_aload_n hx hb d_Cover_search_51 rfl (lv_at hl 1 rfl) ?_
        refine va_get (D := G.1) (ci := 9) (v := .int b5) (C := R_Cover) (T := F_Cover) (N := 5) hx hb hts i_Cover hown hK hP 0 rfl rfl 2 (by decide) (hts _ q343) (fun _ h9 => h9) rfl d_Cover_search_52 ?_
        refine lv_icmp_ge (tgt := 64) hx hb d_Cover_search_55 (by decide) (fun hc_13 => ?_) (fun hc_13 => ?_)
        · have _nhc_13 := hc_13
          have ni_14 := (fa_le _ _).mp hc_13
          rw [li_0] at ni_14
          have hv_15 : zI b5 0 0 := zI.le_l hv_5 zc_0 hc_13 (by decide)
          exact z_vret hx hb hr hlocks hP hD hS (Nat.le_of_ble_eq_true rfl) (Nat.le_of_ble_eq_true rfl) d_Cover_search_64 ⟨b4, b5, rfl, rfl⟩
        · have _nhc_13 := hc_13
          have ni_16 := (fa_lt _ _).mp (zi_nle hc_13)
          rw [li_0] at ni_16
          have hv_17 : zI b5 1 2147483647 := zI.lt_r zc_0 hv_5 (zi_nle hc_13) (by decide)
          refine lv_iload_n hx hb d_Cover_search_58 rfl (lv_at hl 4 rfl) ?_
          refine lv_bipush (v := 20) hx hb d_Cover_search_59 (by decide) ?_
          refine lv_icmp_lt (tgt := 65) hx hb d_Cover_search_61 (by decide) (fun _ => ?_) (fun hc => absurd hc (by decide +kernel))
          refine lv_iload_n hx hb d_Cover_search_65 rfl (lv_at hl 3 rfl) ?_
          refine lv_istore (lv' := [(5, .int b2), (4, .int x_9), (0, .ref b0), (1, .int b1), (2, .int b2), (3, .int 0)]) hx hb d_Cover_search_66 hl (by decide) rfl (fun ls hl => ?_)
          refine lv_aload_n hx hb d_Cover_search_68 rfl (lv_at hl 2 rfl) ?_
          refine va_get (D := G.1) (ci := 9) (v := .ref b6) (C := R_Cover) (T := F_Cover) (N := 5) hx hb hts i_Cover hown hK hP 0 rfl rfl 3 (by decide) (hts _ q344) (fun _ h9 => h9) rfl d_Cover_search_69 ?_
          refine lv_iload hx hb d_Cover_search_72 (lv_at hl 1 rfl) ?_
          refine va_iald hx hb hK hP 1 0 rfl rfl (zI.inn hv_12 (by decide)) d_Cover_search_74 ?_
          refine lv_topi (fun v_18 ev_18 => ?_)
          refine lv_iload_n hx hb d_Cover_search_75 rfl (lv_at hl 4 rfl) ?_
          refine lv_iconst (v := (-1)) hx hb d_Cover_search_76 (by decide) ?_
          refine lv_ixor hx hb d_Cover_search_77 ?_
          refine lv_topi (fun v_19 ev_19 => ?_)
          refine lv_iand hx hb d_Cover_search_78 ?_
          refine lv_topi (fun v_20 ev_20 => ?_)
          refine lv_istore (lv' := [(6, .int v_20), (5, .int b2), (4, .int x_9), (0, .ref b0), (1, .int b1), (2, .int b2), (3, .int 0)]) hx hb d_Cover_search_79 hl (by decide) rfl (fun ls hl => ?_)
          suffices key : ∀ (k_38 : Nat) (y_39 : Int32) (y_40 : Int32) (y_41 : Int32) (y_42 : Int32) (H : Heap) (locs : List Loc) (ls : Array Slot), (y_39).toBitVec.toNat < k_38 → va_P G.1 classes [(b0, .inr (9, [.int b3, .int y_41, .int y_42, .ref b6, .int b7])), (b6, .inl (G.2 0, 240, .inl b8))] H → va_D A [(b0, .inr (9, [.int b3, .int y_41, .int y_42, .ref b6, .int b7])), (b6, .inl (G.2 0, 240, .inl b8))] → va_S A s.heap H locs → lv_has ls 8 [(6, .int y_39), (5, .int y_40), (4, .int x_9), (0, .ref b0), (1, .int b1), (2, .int b2), (3, .int 0)] → W p l e m_s21_Cover_search s m ([.ref b0, .int b1, .int b2, .int 0] : List Value).toArray below meth c H locs 0 0 (MQ below (zQ G (fun v w => ∃ (e0 : Int32), ∃ (e1 : Int32), v = none ∧ w = [(b0, .inr (9, [.int b3, .int e0, .int e1, .ref b6, .int b7])), (b6, .inl (G.2 0, 240, .inl b8))]) A) ([.ref b0, .int b1, .int b2, .int 0] : List Value).toArray s m_s21_Cover_search.cells m_s21_Cover_search.slots A) (F0 m 81 ls []) by
            exact key 4294967296 (v_20) (b2) (b4) (b5) _ _ _  (Nat.lt_of_lt_of_le (v_20).toBitVec.isLt (by decide)) hP hD hS (lv_sub hl [0, 1, 2, 3, 4, 5, 6] rfl)
          intro k_38
          induction k_38 with
          | zero =>
            intro y_39 y_40 y_41 y_42 H locs ls hmk_38 hP hD hS hl
            exfalso; omega
          | succ k_38 ihk_38 =>
            intro y_39 y_40 y_41 y_42 H locs ls hmk_38 hP hD hS hl
            refine lv_iload hx hb d_Cover_search_81 (lv_at hl 0 rfl) ?_
            refine lv_if_eq (tgt := 126) hx hb d_Cover_search_83 (by decide) (fun hc_43 => ?_) (fun hc_43 => ?_)
            · have _nhc_43 := hc_43
              have ni_44 := (fa_eq _ _).mp hc_43
              rw [li_0] at ni_44
              have hv_45 : zI y_39 0 0 := zI.eq_l (zI_all y_39) zc_0 hc_43
              exact z_vret hx hb hr hlocks hP hD hS (Nat.le_of_ble_eq_true rfl) (Nat.le_of_ble_eq_true rfl) d_Cover_search_126 ⟨y_41, y_42, rfl, rfl⟩
            · have _nhc_43 := hc_43
              have ni_46 : ¬ (y_39 : Int32).toInt = (0 : Int32).toInt := fun z => hc_43 ((fa_eq _ _).mpr z)
              simp only [li_0] at ni_46
              refine lv_iload hx hb d_Cover_search_86 (lv_at hl 0 rfl) ?_
              refine lv_iload hx hb d_Cover_search_88 (lv_at hl 0 rfl) ?_
              refine lv_ineg hx hb d_Cover_search_90 ?_
              refine lv_topi (fun v_47 ev_47 => ?_)
              refine lv_iand hx hb d_Cover_search_91 ?_
              refine lv_topi (fun v_48 ev_48 => ?_)
              refine lv_istore (lv' := [(7, .int v_48), (6, .int y_39), (5, .int y_40), (4, .int x_9), (0, .ref b0), (1, .int b1), (2, .int b2), (3, .int 0)]) hx hb d_Cover_search_92 hl (by decide) rfl (fun ls hl => ?_)
              refine lv_aload_n hx hb d_Cover_search_94 rfl (lv_at hl 4 rfl) ?_
              refine lv_iload_n hx hb d_Cover_search_95 rfl (lv_at hl 5 rfl) ?_
              refine lv_iload hx hb d_Cover_search_96 (lv_at hl 0 rfl) ?_
              refine lv_ior hx hb d_Cover_search_98 ?_
              refine lv_topi (fun v_49 ev_49 => ?_)
              refine lv_iload hx hb d_Cover_search_99 (lv_at hl 2 rfl) ?_
              refine lv_iload_n hx hb d_Cover_search_101 rfl (lv_at hl 7 rfl) ?_
              refine lv_iconst (v := 1) hx hb d_Cover_search_102 (by decide) ?_
              refine lv_iadd hx hb d_Cover_search_103 ?_
              refine z_topi (y := 1) (by decide +kernel) ?_
              refine z_callV (index := 38) (As := [.int v_49, .int y_40, .int 1]) (rest := []) (wr := []) Z (s20_Cover_search l G (b0) (v_49) (y_40) (b3) (y_41) (y_42) (b6) (b7) (b8) hb3 hb7) hl.1 q781 q783 qs20 q10 q784 ⟨by decide, by decide, by show _ = some 3; decide +kernel⟩ ⟨Nat.le_of_ble_eq_true rfl, Nat.le_of_ble_eq_true rfl⟩ ⟨Nat.le_of_ble_eq_true rfl, Nat.le_of_ble_eq_true rfl⟩ rfl (Nat.le_of_ble_eq_true rfl) d_Cover_search_104 hP hD hS hA 0 9 rfl rfl rfl [0, 1] [] rfl rfl rfl rfl (by decide) (fun v w1 H locs hw_50 hP hD hS => ?_)
              obtain ⟨x_51, x_52, rfl, rfl⟩ := hw_50
              have hP : va_P G.1 classes [(b0, .inr (9, [.int b3, .int x_51, .int x_52, .ref b6, .int b7])), (b6, .inl (G.2 0, 240, .inl b8))] H := hP
              have hD := z_tie hP hD rfl
              refine W.widen (k := 0) (n := 0) (Nat.le_of_ble_eq_true rfl) (Nat.le_of_ble_eq_true rfl) ?_
              refine lv_iload hx hb d_Cover_search_107 (lv_at hl 2 rfl) ?_
              refine lv_iload hx hb d_Cover_search_109 (lv_at hl 0 rfl) ?_
              refine lv_ior hx hb d_Cover_search_111 ?_
              refine lv_topi (fun v_53 ev_53 => ?_)
              refine lv_istore (lv' := [(5, .int v_53), (7, .int v_48), (6, .int y_39), (4, .int x_9), (0, .ref b0), (1, .int b1), (2, .int b2), (3, .int 0)]) hx hb d_Cover_search_112 hl (by decide) rfl (fun ls hl => ?_)
              refine lv_iload hx hb d_Cover_search_114 (lv_at hl 2 rfl) ?_
              refine lv_iload hx hb d_Cover_search_116 (lv_at hl 2 rfl) ?_
              refine lv_iconst (v := 1) hx hb d_Cover_search_118 (by decide) ?_
              refine lv_isub hx hb d_Cover_search_119 ?_
              refine lv_topi (fun v_54 ev_54 => ?_)
              refine lv_iand hx hb d_Cover_search_120 ?_
              refine lv_topi (fun v_55 ev_55 => ?_)
              refine lv_istore (lv' := [(6, .int v_55), (5, .int v_53), (7, .int v_48), (4, .int x_9), (0, .ref b0), (1, .int b1), (2, .int b2), (3, .int 0)]) hx hb d_Cover_search_121 hl (by decide) rfl (fun ls hl => ?_)
              refine lv_goto (tgt := 81) hx hb d_Cover_search_123 (by decide) ?_
              exact ihk_38 (v_55) (v_53) (x_51) (x_52) _ _ _  (z_dec32 ev_54 ev_55 (by omega) hmk_38) hP hD hS (lv_sub hl [0, 1, 3, 4, 5, 6, 7] rfl)
      · have _nhc_10 := hc_10
        have ni_56 := (fa_eq _ _).mp hc_10
        rw [li_m1] at ni_56
        have hv_57 : zI x_9 (-1) (-1) := zI.eq_l hx_9 zc_m1 hc_10
        refine lv_aload_n hx hb d_Cover_search_39 rfl (lv_at hl 1 rfl) ?_
        refine lv_iload_n hx hb d_Cover_search_40 rfl (lv_at hl 2 rfl) ?_
        refine va_put (D := G.1) (ci := 9) (v := .int b1) (ty := .int) (C := R_Cover) (T := F_Cover) (N := 5) hx hb hts i_Cover t_Cover t_Cover_ok n_Cover hown hK hP hD hS 0 rfl rfl 1 (by decide) (hts _ q341) (fun _ h9 => h9) rfl (by decide +kernel) rfl rfl (Nat.le_of_ble_eq_true rfl) d_Cover_search_41 (fun H locs hP hD hS => ?_)
        have hP : va_P G.1 classes [(b0, .inr (9, [.int b3, .int b1, .int b5, .ref b6, .int b7])), (b6, .inl (G.2 0, 240, .inl b8))] H := hP
        have hD := z_tie hP hD rfl
        refine lv_aload_n hx hb d_Cover_search_44 rfl (lv_at hl 1 rfl) ?_
        refine lv_iload_n hx hb d_Cover_search_45 rfl (lv_at hl 4 rfl) ?_
        refine va_put (D := G.1) (ci := 9) (v := .int 0) (ty := .int) (C := R_Cover) (T := F_Cover) (N := 5) hx hb hts i_Cover t_Cover t_Cover_ok n_Cover hown hK hP hD hS 0 rfl rfl 2 (by decide) (hts _ q343) (fun _ h9 => h9) rfl (by decide +kernel) rfl rfl (Nat.le_of_ble_eq_true rfl) d_Cover_search_46 (fun H locs hP hD hS => ?_)
        have hP : va_P G.1 classes [(b0, .inr (9, [.int b3, .int b1, .int 0, .ref b6, .int b7])), (b6, .inl (G.2 0, 240, .inl b8))] H := hP
        have hD := z_tie hP hD rfl
        exact z_vret hx hb hr hlocks hP hD hS (Nat.le_of_ble_eq_true rfl) (Nat.le_of_ble_eq_true rfl) d_Cover_search_49 ⟨b1, 0, rfl, rfl⟩
    · have _nhc_6 := hc_6
      have ni_58 := (fa_eq _ _).mp hc_6
      rw [li_0] at ni_58
      have hv_59 : zI b5 0 0 := zI.eq_l hv_5 zc_0 hc_6.symm
      refine lv_iload_n hx hb d_Cover_search_16 rfl (lv_at hl 1 rfl) ?_
      refine lv_aload_n hx hb d_Cover_search_17 rfl (lv_at hl 0 rfl) ?_
      refine va_get (D := G.1) (ci := 9) (v := .int b4) (C := R_Cover) (T := F_Cover) (N := 5) hx hb hts i_Cover hown hK hP 0 rfl rfl 1 (by decide) (hts _ q341) (fun _ h9 => h9) rfl d_Cover_search_18 ?_
      refine lv_icmp_lt (tgt := 25) hx hb d_Cover_search_21 (by decide) (fun hc_60 => ?_) (fun hc_60 => ?_)
      · have _nhc_60 := hc_60
        have ni_61 := (fa_lt _ _).mp hc_60
        have hv_62 : zI b1 (-2147483648) 2147483646 := zI.lt_l (zI_all b1) (zI_all b4) hc_60 (by decide)
        have hv_63 : zI b4 (-2147483647) 2147483647 := zI.lt_r (zI_all b1) (zI_all b4) hc_60 (by decide)
        refine lv_aload_n hx hb d_Cover_search_25 rfl (lv_at hl 0 rfl) ?_
        refine lv_iload_n hx hb d_Cover_search_26 rfl (lv_at hl 1 rfl) ?_
        refine lv_iload_n hx hb d_Cover_search_27 rfl (lv_at hl 2 rfl) ?_
        refine z_callV (index := 70) (As := [.int b1, .int b2]) (rest := []) (wr := []) Z (s1_Cover_hardest l G (b0) (b1) (b2) (b3) (b4) (b5) (b6) (b7) (b8) hb3 hb7) hl.1 q785 q787 qs21 q10 q788 ⟨by decide, by decide, by show _ = some 2; decide +kernel⟩ ⟨Nat.le_of_ble_eq_true rfl, Nat.le_of_ble_eq_true rfl⟩ ⟨Nat.le_of_ble_eq_true rfl, Nat.le_of_ble_eq_true rfl⟩ rfl (Nat.le_of_ble_eq_true rfl) d_Cover_search_28 hP hD hS hA 0 9 rfl rfl rfl [0, 1] [] rfl rfl rfl rfl (by decide) (fun v w1 H locs hw_64 hP hD hS => ?_)
        obtain ⟨x_65, rfl, rfl, hx_65⟩ := hw_64
        have hP : va_P G.1 classes [(b0, .inr (9, [.int b3, .int b4, .int b5, .ref b6, .int b7])), (b6, .inl (G.2 0, 240, .inl b8))] H := hP
        have hD := z_tie hP hD rfl
        refine W.widen (k := 0) (n := 0) (Nat.le_of_ble_eq_true rfl) (Nat.le_of_ble_eq_true rfl) ?_
        refine lv_istore (lv' := [(4, .int x_65), (0, .ref b0), (1, .int b1), (2, .int b2), (3, .int 0)]) hx hb d_Cover_search_31 hl (by decide) rfl (fun ls hl => ?_)
        refine lv_iload hx hb d_Cover_search_33 (lv_at hl 0 rfl) ?_
        refine lv_iconst (v := (-1)) hx hb d_Cover_search_35 (by decide) ?_
        refine lv_icmp_ne (tgt := 50) hx hb d_Cover_search_36 (by decide) (fun hc_66 => ?_) (fun hc_66 => ?_)
        · have _nhc_66 := hc_66
          have ni_67 : ¬ (x_65 : Int32).toInt = ((-1) : Int32).toInt := fun z => hc_66 ((fa_eq _ _).mpr z)
          simp only [li_m1] at ni_67
          have hv_68 : zI x_65 0 239 := zI.ne_lo hx_65 zc_m1 hc_66 (by decide)
          refine lv_iload_n hx hb d_Cover_search_50 rfl (lv_at hl 4 rfl) ?_
          refine lv_aload_n hx hb d_Cover_search_51 rfl (lv_at hl 1 rfl) ?_
          refine va_get (D := G.1) (ci := 9) (v := .int b5) (C := R_Cover) (T := F_Cover) (N := 5) hx hb hts i_Cover hown hK hP 0 rfl rfl 2 (by decide) (hts _ q343) (fun _ h9 => h9) rfl d_Cover_search_52 ?_
          refine lv_icmp_ge (tgt := 64) hx hb d_Cover_search_55 (by decide) (fun _ => ?_) (fun hc => zI.no_lt zc_0 hv_59 (zi_nle hc) (by decide))
          exact z_vret hx hb hr hlocks hP hD hS (Nat.le_of_ble_eq_true rfl) (Nat.le_of_ble_eq_true rfl) d_Cover_search_64 ⟨b4, b5, rfl, rfl⟩
        · have _nhc_66 := hc_66
          have ni_69 := (fa_eq _ _).mp hc_66
          rw [li_m1] at ni_69
          have hv_70 : zI x_65 (-1) (-1) := zI.eq_l hx_65 zc_m1 hc_66
          refine lv_aload_n hx hb d_Cover_search_39 rfl (lv_at hl 1 rfl) ?_
          refine lv_iload_n hx hb d_Cover_search_40 rfl (lv_at hl 2 rfl) ?_
          refine va_put (D := G.1) (ci := 9) (v := .int b1) (ty := .int) (C := R_Cover) (T := F_Cover) (N := 5) hx hb hts i_Cover t_Cover t_Cover_ok n_Cover hown hK hP hD hS 0 rfl rfl 1 (by decide) (hts _ q341) (fun _ h9 => h9) rfl (by decide +kernel) rfl rfl (Nat.le_of_ble_eq_true rfl) d_Cover_search_41 (fun H locs hP hD hS => ?_)
          have hP : va_P G.1 classes [(b0, .inr (9, [.int b3, .int b1, .int b5, .ref b6, .int b7])), (b6, .inl (G.2 0, 240, .inl b8))] H := hP
          have hD := z_tie hP hD rfl
          refine lv_aload_n hx hb d_Cover_search_44 rfl (lv_at hl 1 rfl) ?_
          refine lv_iload_n hx hb d_Cover_search_45 rfl (lv_at hl 4 rfl) ?_
          refine va_put (D := G.1) (ci := 9) (v := .int 0) (ty := .int) (C := R_Cover) (T := F_Cover) (N := 5) hx hb hts i_Cover t_Cover t_Cover_ok n_Cover hown hK hP hD hS 0 rfl rfl 2 (by decide) (hts _ q343) (fun _ h9 => h9) rfl (by decide +kernel) rfl rfl (Nat.le_of_ble_eq_true rfl) d_Cover_search_46 (fun H locs hP hD hS => ?_)
          have hP : va_P G.1 classes [(b0, .inr (9, [.int b3, .int b1, .int 0, .ref b6, .int b7])), (b6, .inl (G.2 0, 240, .inl b8))] H := hP
          have hD := z_tie hP hD rfl
          exact z_vret hx hb hr hlocks hP hD hS (Nat.le_of_ble_eq_true rfl) (Nat.le_of_ble_eq_true rfl) d_Cover_search_49 ⟨b1, 0, rfl, rfl⟩
      · have _nhc_60 := hc_60
        have ni_71 := (fa_le _ _).mp (zi_nlt hc_60)
        exact z_vret hx hb hr hlocks hP hD hS (Nat.le_of_ble_eq_true rfl) (Nat.le_of_ble_eq_true rfl) d_Cover_search_24 ⟨b4, b5, rfl, rfl⟩
theorem d_Cover_find_0 : decode prog_2_method_2_code 0 = .ok (.aload_n 0, 1) := by decide +kernel
theorem d_Cover_find_1 : decode prog_2_method_2_code 1 = .ok (.iconst 1, 1) := by decide +kernel
theorem d_Cover_find_2 : decode prog_2_method_2_code 2 = .ok (.putfield 15, 3) := by decide +kernel
theorem d_Cover_find_5 : decode prog_2_method_2_code 5 = .ok (.aload_n 0, 1) := by decide +kernel
theorem d_Cover_find_6 : decode prog_2_method_2_code 6 = .ok (.aload_n 1, 1) := by decide +kernel
theorem d_Cover_find_7 : decode prog_2_method_2_code 7 = .ok (.aload_n 2, 1) := by decide +kernel
theorem d_Cover_find_8 : decode prog_2_method_2_code 8 = .ok (.aload_n 3, 1) := by decide +kernel
theorem d_Cover_find_9 : decode prog_2_method_2_code 9 = .ok (.invokevirtual 19, 3) := by decide +kernel
theorem d_Cover_find_12 : decode prog_2_method_2_code 12 = .ok (.aload_n 0, 1) := by decide +kernel
theorem d_Cover_find_13 : decode prog_2_method_2_code 13 = .ok (.invokevirtual 23, 3) := by decide +kernel
theorem d_Cover_find_16 : decode prog_2_method_2_code 16 = .ok (.aload_n 0, 1) := by decide +kernel
theorem d_Cover_find_17 : decode prog_2_method_2_code 17 = .ok (.iconst 1, 1) := by decide +kernel
theorem d_Cover_find_18 : decode prog_2_method_2_code 18 = .ok (.aload_n 1, 1) := by decide +kernel
theorem d_Cover_find_19 : decode prog_2_method_2_code 19 = .ok (.getfield 26, 3) := by decide +kernel
theorem d_Cover_find_22 : decode prog_2_method_2_code 22 = .ok (.ishl, 1) := by decide +kernel
theorem d_Cover_find_23 : decode prog_2_method_2_code 23 = .ok (.iconst 1, 1) := by decide +kernel
theorem d_Cover_find_24 : decode prog_2_method_2_code 24 = .ok (.isub, 1) := by decide +kernel
theorem d_Cover_find_25 : decode prog_2_method_2_code 25 = .ok (.putfield 32, 3) := by decide +kernel
theorem d_Cover_find_28 : decode prog_2_method_2_code 28 = .ok (.aload_n 0, 1) := by decide +kernel
theorem d_Cover_find_29 : decode prog_2_method_2_code 29 = .ok (.aload_n 1, 1) := by decide +kernel
theorem d_Cover_find_30 : decode prog_2_method_2_code 30 = .ok (.getfield 26, 3) := by decide +kernel
theorem d_Cover_find_33 : decode prog_2_method_2_code 33 = .ok (.putfield 35, 3) := by decide +kernel
theorem d_Cover_find_36 : decode prog_2_method_2_code 36 = .ok (.aload_n 0, 1) := by decide +kernel
theorem d_Cover_find_37 : decode prog_2_method_2_code 37 = .ok (.iconst 0, 1) := by decide +kernel
theorem d_Cover_find_38 : decode prog_2_method_2_code 38 = .ok (.iconst 0, 1) := by decide +kernel
theorem d_Cover_find_39 : decode prog_2_method_2_code 39 = .ok (.iconst 0, 1) := by decide +kernel
theorem d_Cover_find_40 : decode prog_2_method_2_code 40 = .ok (.invokevirtual 38, 3) := by decide +kernel
theorem d_Cover_find_43 : decode prog_2_method_2_code 43 = .ok (.return_, 1) := by decide +kernel
abbrev m_s1_Cover_find : Room := { frames := 23, cells := 0, slots := 0, locals := 613 }
set_option maxHeartbeats 4000000 in
set_option maxRecDepth 100000 in
theorem s1_Cover_find (l : Launch) (G : zG) (b0 : Nat) (b1 : Nat) (b2 : Nat) (b3 : Nat) (b4 : Int32) (b5 : Int32) (b6 : Int32) (b7 : Nat) (b8 : Int32) (b9 : Nat → Int32) (b10 : Int32) (b11 : Int32) (b12 : Int32) (b13 : Nat) (b14 : Nat) (b15 : Nat) (b16 : Nat → Int32) (b17 : Int32) (b18 : Int32) (b19 : Int32) (b20 : Nat) (b21 : Nat) (b22 : Nat) (b23 : Nat) (b24 : Nat) (b25 : Nat) (b26 : Nat) (b27 : Nat) (b28 : Nat → Int32) (b29 : Int32) (b30 : Int32) (b31 : Nat) (b32 : Nat) (b33 : Nat) (b34 : Nat) (b35 : Nat) (b36 : Nat) (b37 : Int32) (b38 : Nat) (b39 : Nat) (b40 : Nat) (b41 : Nat) (b42 : Nat) (b43 : Nat) (b44 : Nat → Int32) (hb4 : zI b4 0 1) (hb8 : zI b8 0 240) (hb10 : zI b10 0 20) (hb11 : zI b11 0 3) (hb12 : zI b12 0 20) (hb17 : zI b17 0 1) (hb19 : zI b19 0 241) (hb29 : zI b29 0 1) (hb30 : zI b30 0 241) (hb37 : zI b37 0 240) (hb16 : zR b16 0 12) (hb28 : zqa qP b28) (hb44 : zR b44 0 239) : zM l G y_Cover_find prog_2_method_2_code 4 (Option.none : Option Jvm.ClassFile.FieldType) m_s1_Cover_find [.ref b0, .ref b1, .ref b2, .ref b3] [(b0, .inr (9, [.int b4, .int b5, .int b6, .ref b7, .int b8])), (b7, .inl (G.2 0, 240, .inl b9)), (b1, .inr (2, [.int b10, .int b11, .int b12, .ref b13, .ref b14, .ref b15])), (b13, .inl (G.2 0, 20, .inl b16)), (b2, .inr (3, [.int b17, .int b18, .int b19, .ref b20, .ref b21, .ref b22, .ref b23, .ref b24, .ref b25, .ref b26, .ref b27])), (b27, .inl (G.2 0, 260, .inl b28)), (b3, .inr (5, [.int b29, .int b30, .ref b31, .ref b32, .ref b33, .ref b34, .ref b35, .ref b36, .int b37, .ref b38, .ref b39, .ref b40, .ref b41, .ref b42, .ref b43])), (b43, .inl (G.2 0, 241, .inl b44))] (fun v w => ∃ (e0 : Int32), ∃ (e1 : Int32), ∃ (e2 : Int32), ∃ (e3 : Nat → Int32), v = none ∧ w = [(b0, .inr (9, [.int 1, .int e0, .int e1, .ref b7, .int e2])), (b7, .inl (G.2 0, 240, .inl e3)), (b1, .inr (2, [.int b10, .int b11, .int b12, .ref b13, .ref b14, .ref b15])), (b13, .inl (G.2 0, 20, .inl b16)), (b2, .inr (3, [.int b17, .int b18, .int b19, .ref b20, .ref b21, .ref b22, .ref b23, .ref b24, .ref b25, .ref b26, .ref b27])), (b27, .inl (G.2 0, 260, .inl b28)), (b3, .inr (5, [.int b29, .int b30, .ref b31, .ref b32, .ref b33, .ref b34, .ref b35, .ref b36, .int b37, .ref b38, .ref b39, .ref b40, .ref b41, .ref b42, .ref b43])), (b43, .inl (G.2 0, 241, .inl b44))] ∧ (zI e2 0 240)) := by
  refine z_start (by decide +kernel) (Nat.le_of_ble_eq_true rfl) ?_
  intro p e s m below meth c A Z hr hnm hA hP hD hS ls hl
  have Z : zC p s m _ meth c prog_2_method_2_code 4 "TraceMachines$Cover" G := Z
  obtain ⟨hx, hb, hml, hown, hts, hK, hN, hlocks⟩ := id Z
  have hl : lv_has ls 4 [(0, .ref b0), (1, .ref b1), (2, .ref b2), (3, .ref b3)] := hl
  refine lv_aload_n hx hb d_Cover_find_0 rfl (lv_at hl 0 rfl) ?_
  refine lv_iconst (v := 1) hx hb d_Cover_find_1 (by decide) ?_
  refine va_put (D := G.1) (ci := 9) (v := .int 1) (ty := .boolean) (C := R_Cover) (T := F_Cover) (N := 5) hx hb hts i_Cover t_Cover t_Cover_ok n_Cover hown hK hP hD hS 0 rfl rfl 0 (by decide) (hts _ q339) (fun _ h9 => h9) rfl (by decide +kernel) rfl rfl (Nat.le_of_ble_eq_true rfl) d_Cover_find_2 (fun H locs hP hD hS => ?_)
  have hP : va_P G.1 classes [(b0, .inr (9, [.int 1, .int b5, .int b6, .ref b7, .int b8])), (b7, .inl (G.2 0, 240, .inl b9)), (b1, .inr (2, [.int b10, .int b11, .int b12, .ref b13, .ref b14, .ref b15])), (b13, .inl (G.2 0, 20, .inl b16)), (b2, .inr (3, [.int b17, .int b18, .int b19, .ref b20, .ref b21, .ref b22, .ref b23, .ref b24, .ref b25, .ref b26, .ref b27])), (b27, .inl (G.2 0, 260, .inl b28)), (b3, .inr (5, [.int b29, .int b30, .ref b31, .ref b32, .ref b33, .ref b34, .ref b35, .ref b36, .int b37, .ref b38, .ref b39, .ref b40, .ref b41, .ref b42, .ref b43])), (b43, .inl (G.2 0, 241, .inl b44))] H := hP
  have hD := z_tie hP hD rfl
  refine lv_aload_n hx hb d_Cover_find_5 rfl (lv_at hl 0 rfl) ?_
  refine lv_aload_n hx hb d_Cover_find_6 rfl (lv_at hl 1 rfl) ?_
  refine lv_aload_n hx hb d_Cover_find_7 rfl (lv_at hl 2 rfl) ?_
  refine lv_aload_n hx hb d_Cover_find_8 rfl (lv_at hl 3 rfl) ?_
  refine z_callV (index := 19) (As := [.ref b1, .ref b2, .ref b3]) (rest := []) (wr := []) Z (s1_Cover_gather l G (b0) (b1) (b2) (b3) (1) (b5) (b6) (b7) (b8) (b9) (b10) (b11) (b12) (b13) (b14) (b15) (b16) (b17) (b18) (b19) (b20) (b21) (b22) (b23) (b24) (b25) (b26) (b27) (b28) (b29) (b30) (b31) (b32) (b33) (b34) (b35) (b36) (b37) (b38) (b39) (b40) (b41) (b42) (b43) (b44) (zI.wk (l' := 0) (h' := 1) zc_1 (by decide)) hb8 hb10 hb11 hb12 hb17 hb19 hb29 hb30 hb37 hb16 hb28 hb44) hl.1 q767 q769 qs17 q10 q770 ⟨by decide, by decide, by show _ = some 3; decide +kernel⟩ ⟨Nat.le_of_ble_eq_true rfl, Nat.le_of_ble_eq_true rfl⟩ ⟨Nat.le_of_ble_eq_true rfl, Nat.le_of_ble_eq_true rfl⟩ rfl (Nat.le_of_ble_eq_true rfl) d_Cover_find_9 hP hD hS hA 0 9 rfl rfl rfl [0, 1, 2, 3, 4, 5, 6, 7] [] rfl rfl rfl rfl (by decide) (fun v w1 H locs hw_1 hP hD hS => ?_)
  obtain ⟨f_2, rfl, rfl⟩ := hw_1
  have hP : va_P G.1 classes [(b0, .inr (9, [.int 1, .int b5, .int b6, .ref b7, .int b37])), (b7, .inl (G.2 0, 240, .inl f_2)), (b1, .inr (2, [.int b10, .int b11, .int b12, .ref b13, .ref b14, .ref b15])), (b13, .inl (G.2 0, 20, .inl b16)), (b2, .inr (3, [.int b17, .int b18, .int b19, .ref b20, .ref b21, .ref b22, .ref b23, .ref b24, .ref b25, .ref b26, .ref b27])), (b27, .inl (G.2 0, 260, .inl b28)), (b3, .inr (5, [.int b29, .int b30, .ref b31, .ref b32, .ref b33, .ref b34, .ref b35, .ref b36, .int b37, .ref b38, .ref b39, .ref b40, .ref b41, .ref b42, .ref b43])), (b43, .inl (G.2 0, 241, .inl b44))] H := hP
  have hD := z_tie hP hD rfl
  refine W.widen (k := 0) (n := 0) (Nat.le_of_ble_eq_true rfl) (Nat.le_of_ble_eq_true rfl) ?_
  refine lv_aload_n hx hb d_Cover_find_12 rfl (lv_at hl 0 rfl) ?_
  refine z_callV (index := 23) (As := []) (rest := []) (wr := [(b1, .inr (2, [.int b10, .int b11, .int b12, .ref b13, .ref b14, .ref b15])), (b13, .inl (G.2 0, 20, .inl b16)), (b2, .inr (3, [.int b17, .int b18, .int b19, .ref b20, .ref b21, .ref b22, .ref b23, .ref b24, .ref b25, .ref b26, .ref b27])), (b27, .inl (G.2 0, 260, .inl b28)), (b3, .inr (5, [.int b29, .int b30, .ref b31, .ref b32, .ref b33, .ref b34, .ref b35, .ref b36, .int b37, .ref b38, .ref b39, .ref b40, .ref b41, .ref b42, .ref b43])), (b43, .inl (G.2 0, 241, .inl b44))]) Z (s1_Cover_leaveOutImplied l G (b0) (1) (b5) (b6) (b7) (b37) (f_2) (zI.wk (l' := 0) (h' := 1) zc_1 (by decide)) hb37) hl.1 q773 q775 qs18 q10 q776 ⟨by decide, by decide, by show _ = some 0; decide +kernel⟩ ⟨Nat.le_of_ble_eq_true rfl, Nat.le_of_ble_eq_true rfl⟩ ⟨Nat.le_of_ble_eq_true rfl, Nat.le_of_ble_eq_true rfl⟩ rfl (Nat.le_of_ble_eq_true rfl) d_Cover_find_13 hP hD hS hA 0 9 rfl rfl rfl [0, 1] [2, 3, 4, 5, 6, 7] rfl rfl rfl rfl (by decide) (fun v w1 H locs hw_3 hP hD hS => ?_)
  obtain ⟨x_4, f_5, rfl, rfl, hx_4⟩ := hw_3
  have hP : va_P G.1 classes [(b1, .inr (2, [.int b10, .int b11, .int b12, .ref b13, .ref b14, .ref b15])), (b13, .inl (G.2 0, 20, .inl b16)), (b2, .inr (3, [.int b17, .int b18, .int b19, .ref b20, .ref b21, .ref b22, .ref b23, .ref b24, .ref b25, .ref b26, .ref b27])), (b27, .inl (G.2 0, 260, .inl b28)), (b3, .inr (5, [.int b29, .int b30, .ref b31, .ref b32, .ref b33, .ref b34, .ref b35, .ref b36, .int b37, .ref b38, .ref b39, .ref b40, .ref b41, .ref b42, .ref b43])), (b43, .inl (G.2 0, 241, .inl b44)), (b0, .inr (9, [.int 1, .int b5, .int b6, .ref b7, .int x_4])), (b7, .inl (G.2 0, 240, .inl f_5))] H := hP
  have hD := z_tie hP hD rfl
  refine W.widen (k := 0) (n := 0) (Nat.le_of_ble_eq_true rfl) (Nat.le_of_ble_eq_true rfl) ?_
  refine lv_aload_n hx hb d_Cover_find_16 rfl (lv_at hl 0 rfl) ?_
  refine lv_iconst (v := 1) hx hb d_Cover_find_17 (by decide) ?_
  refine lv_aload_n hx hb d_Cover_find_18 rfl (lv_at hl 1 rfl) ?_
  refine va_get (D := G.1) (ci := 2) (v := .int b10) (C := R_Traces) (T := F_Traces) (N := 6) hx hb hts i_Traces hown hK hP 0 rfl rfl 0 (by decide) (hts _ q54) (fun _ h9 => h9) rfl d_Cover_find_19 ?_
  refine lv_ishl hx hb d_Cover_find_22 ?_
  refine lv_topi (fun v_6 ev_6 => ?_)
  refine lv_iconst (v := 1) hx hb d_Cover_find_23 (by decide) ?_
  refine lv_isub hx hb d_Cover_find_24 ?_
  refine lv_topi (fun v_7 ev_7 => ?_)
  refine va_put (D := G.1) (ci := 9) (v := .int v_7) (ty := .int) (C := R_Cover) (T := F_Cover) (N := 5) hx hb hts i_Cover t_Cover t_Cover_ok n_Cover hown hK hP hD hS 6 rfl rfl 1 (by decide) (hts _ q341) (fun _ h9 => h9) rfl (by decide +kernel) rfl rfl (Nat.le_of_ble_eq_true rfl) d_Cover_find_25 (fun H locs hP hD hS => ?_)
  have hP : va_P G.1 classes [(b1, .inr (2, [.int b10, .int b11, .int b12, .ref b13, .ref b14, .ref b15])), (b13, .inl (G.2 0, 20, .inl b16)), (b2, .inr (3, [.int b17, .int b18, .int b19, .ref b20, .ref b21, .ref b22, .ref b23, .ref b24, .ref b25, .ref b26, .ref b27])), (b27, .inl (G.2 0, 260, .inl b28)), (b3, .inr (5, [.int b29, .int b30, .ref b31, .ref b32, .ref b33, .ref b34, .ref b35, .ref b36, .int b37, .ref b38, .ref b39, .ref b40, .ref b41, .ref b42, .ref b43])), (b43, .inl (G.2 0, 241, .inl b44)), (b0, .inr (9, [.int 1, .int v_7, .int b6, .ref b7, .int x_4])), (b7, .inl (G.2 0, 240, .inl f_5))] H := hP
  have hD := z_tie hP hD rfl
  refine lv_aload_n hx hb d_Cover_find_28 rfl (lv_at hl 0 rfl) ?_
  refine lv_aload_n hx hb d_Cover_find_29 rfl (lv_at hl 1 rfl) ?_
  refine va_get (D := G.1) (ci := 2) (v := .int b10) (C := R_Traces) (T := F_Traces) (N := 6) hx hb hts i_Traces hown hK hP 0 rfl rfl 0 (by decide) (hts _ q54) (fun _ h9 => h9) rfl d_Cover_find_30 ?_
  refine va_put (D := G.1) (ci := 9) (v := .int b10) (ty := .int) (C := R_Cover) (T := F_Cover) (N := 5) hx hb hts i_Cover t_Cover t_Cover_ok n_Cover hown hK hP hD hS 6 rfl rfl 2 (by decide) (hts _ q343) (fun _ h9 => h9) rfl (by decide +kernel) rfl rfl (Nat.le_of_ble_eq_true rfl) d_Cover_find_33 (fun H locs hP hD hS => ?_)
  have hP : va_P G.1 classes [(b1, .inr (2, [.int b10, .int b11, .int b12, .ref b13, .ref b14, .ref b15])), (b13, .inl (G.2 0, 20, .inl b16)), (b2, .inr (3, [.int b17, .int b18, .int b19, .ref b20, .ref b21, .ref b22, .ref b23, .ref b24, .ref b25, .ref b26, .ref b27])), (b27, .inl (G.2 0, 260, .inl b28)), (b3, .inr (5, [.int b29, .int b30, .ref b31, .ref b32, .ref b33, .ref b34, .ref b35, .ref b36, .int b37, .ref b38, .ref b39, .ref b40, .ref b41, .ref b42, .ref b43])), (b43, .inl (G.2 0, 241, .inl b44)), (b0, .inr (9, [.int 1, .int v_7, .int b10, .ref b7, .int x_4])), (b7, .inl (G.2 0, 240, .inl f_5))] H := hP
  have hD := z_tie hP hD rfl
  refine lv_aload_n hx hb d_Cover_find_36 rfl (lv_at hl 0 rfl) ?_
  refine lv_iconst (v := 0) hx hb d_Cover_find_37 (by decide) ?_
  refine lv_iconst (v := 0) hx hb d_Cover_find_38 (by decide) ?_
  refine lv_iconst (v := 0) hx hb d_Cover_find_39 (by decide) ?_
  refine z_callV (index := 38) (As := [.int 0, .int 0, .int 0]) (rest := []) (wr := [(b1, .inr (2, [.int b10, .int b11, .int b12, .ref b13, .ref b14, .ref b15])), (b13, .inl (G.2 0, 20, .inl b16)), (b2, .inr (3, [.int b17, .int b18, .int b19, .ref b20, .ref b21, .ref b22, .ref b23, .ref b24, .ref b25, .ref b26, .ref b27])), (b27, .inl (G.2 0, 260, .inl b28)), (b3, .inr (5, [.int b29, .int b30, .ref b31, .ref b32, .ref b33, .ref b34, .ref b35, .ref b36, .int b37, .ref b38, .ref b39, .ref b40, .ref b41, .ref b42, .ref b43])), (b43, .inl (G.2 0, 241, .inl b44))]) Z (s21_Cover_search l G (b0) (0) (0) (1) (v_7) (b10) (b7) (x_4) (f_5) (zI.wk (l' := 0) (h' := 1) zc_1 (by decide)) hx_4) hl.1 q781 q783 qs20 q10 q784 ⟨by decide, by decide, by show _ = some 3; decide +kernel⟩ ⟨Nat.le_of_ble_eq_true rfl, Nat.le_of_ble_eq_true rfl⟩ ⟨Nat.le_of_ble_eq_true rfl, Nat.le_of_ble_eq_true rfl⟩ rfl (Nat.le_of_ble_eq_true rfl) d_Cover_find_40 hP hD hS hA 6 9 rfl rfl rfl [6, 7] [0, 1, 2, 3, 4, 5] rfl rfl rfl rfl (by decide) (fun v w1 H locs hw_8 hP hD hS => ?_)
  obtain ⟨x_9, x_10, rfl, rfl⟩ := hw_8
  have hP : va_P G.1 classes [(b1, .inr (2, [.int b10, .int b11, .int b12, .ref b13, .ref b14, .ref b15])), (b13, .inl (G.2 0, 20, .inl b16)), (b2, .inr (3, [.int b17, .int b18, .int b19, .ref b20, .ref b21, .ref b22, .ref b23, .ref b24, .ref b25, .ref b26, .ref b27])), (b27, .inl (G.2 0, 260, .inl b28)), (b3, .inr (5, [.int b29, .int b30, .ref b31, .ref b32, .ref b33, .ref b34, .ref b35, .ref b36, .int b37, .ref b38, .ref b39, .ref b40, .ref b41, .ref b42, .ref b43])), (b43, .inl (G.2 0, 241, .inl b44)), (b0, .inr (9, [.int 1, .int x_9, .int x_10, .ref b7, .int x_4])), (b7, .inl (G.2 0, 240, .inl f_5))] H := hP
  have hD := z_tie hP hD rfl
  refine W.widen (k := 0) (n := 0) (Nat.le_of_ble_eq_true rfl) (Nat.le_of_ble_eq_true rfl) ?_
  exact z_vret hx hb hr hlocks (hP.sub [6, 7, 0, 1, 2, 3, 4, 5] rfl) (hD.sub [6, 7, 0, 1, 2, 3, 4, 5] (by decide) rfl) hS (Nat.le_of_ble_eq_true rfl) (Nat.le_of_ble_eq_true rfl) d_Cover_find_43 ⟨x_9, x_10, x_4, f_5, rfl, rfl, hx_4⟩
