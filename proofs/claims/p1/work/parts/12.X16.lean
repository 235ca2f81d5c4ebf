theorem d_X_ran_0 : decode prog_1_method_14_code 0 = .ok (.iload_n 1, 1) := by decide +kernel
theorem d_X_ran_1 : decode prog_1_method_14_code 1 = .ok (.ifCond .lt 21, 3) := by decide +kernel
theorem d_X_ran_4 : decode prog_1_method_14_code 4 = .ok (.iload_n 1, 1) := by decide +kernel
theorem d_X_ran_5 : decode prog_1_method_14_code 5 = .ok (.aload_n 0, 1) := by decide +kernel
theorem d_X_ran_6 : decode prog_1_method_14_code 6 = .ok (.getfield 70, 3) := by decide +kernel
theorem d_X_ran_9 : decode prog_1_method_14_code 9 = .ok (.arraylength, 1) := by decide +kernel
theorem d_X_ran_10 : decode prog_1_method_14_code 10 = .ok (.if_icmp .ge 12, 3) := by decide +kernel
theorem d_X_ran_13 : decode prog_1_method_14_code 13 = .ok (.aload_n 0, 1) := by decide +kernel
theorem d_X_ran_14 : decode prog_1_method_14_code 14 = .ok (.getfield 70, 3) := by decide +kernel
theorem d_X_ran_17 : decode prog_1_method_14_code 17 = .ok (.iload_n 1, 1) := by decide +kernel
theorem d_X_ran_18 : decode prog_1_method_14_code 18 = .ok (.iaload, 1) := by decide +kernel
theorem d_X_ran_19 : decode prog_1_method_14_code 19 = .ok (.goto 4, 3) := by decide +kernel
theorem d_X_ran_22 : decode prog_1_method_14_code 22 = .ok (.iconst (-1), 1) := by decide +kernel
theorem d_X_ran_23 : decode prog_1_method_14_code 23 = .ok (.ireturn, 1) := by decide +kernel
theorem li_3 : (3 : Int32).toInt = 3 := by decide +kernel
theorem li_2 : (2 : Int32).toInt = 2 := by decide +kernel
abbrev m_t_X_ran : Room := { frames := 0, cells := 0, slots := 0, locals := 0 }
set_option maxHeartbeats 4000000 in
set_option maxRecDepth 100000 in
theorem t_X_ran (l : Launch) (G : zG) (b0 : Nat) (p0 : Int32) (b2 : Nat) (b3 : Nat) (b4 : Nat) (b5 : Nat) (b6 : Nat) (b7 : Nat) (b8 : Nat) (b9 : Nat) (b10 : Nat) (b11 : Nat) (b12 : Nat) (b13 : Nat) (b14 : Nat) (b15 : Nat) (b16 : Nat) (b17 : Nat) (b18 : Nat) (b19 : Nat)  : zM l G y_X_ran prog_1_method_14_code 2 (Option.some Jvm.ClassFile.FieldType.int) m_t_X_ran [.ref b0, .int p0] [(b0, .inr (0, [.ref b2, .ref b3, .ref b4, .ref b5, .int 0, .int 0, .ref b6, .ref b7, .ref b8, .ref b9, .ref b10, .ref b11, .ref b12, .ref b13, .ref b14, .ref b15, .ref b16, .ref b17, .ref b18, .ref b19])), (b13, .inl (G.2 0, 3, .inl (fun _ => (-1))))] (fun v _ => v = some (.int (a_ran p0))) := by
  refine z_start (by decide +kernel) (Nat.le_of_ble_eq_true rfl) ?_
  intro p e s m below meth c A Z hr hnm hA hP hD hS ls hl
  have Z : zC p s m _ meth c prog_1_method_14_code 2 "TraceMachines" G := Z
  obtain ⟨hx, hb, hml, hown, hts, hK, hN, hlocks⟩ := id Z
  have hl : lv_has ls 2 [(0, .ref b0), (1, .int p0)] := hl
  refine lv_iload_n hx hb d_X_ran_0 rfl (lv_at hl 1 rfl) ?_
  refine lv_if_lt (tgt := 22) hx hb d_X_ran_1 (by decide) (fun hc_1 => ?_) (fun hc_1 => ?_)
  · simp only [fa_lt, fa_le, fa_eq, Int32.toInt_toInt64, li_0] at hc_1
    refine lv_iconst (v := (-1)) hx hb d_X_ran_22 (by decide) ?_
    exact z_iret hx hb hr hlocks hP hD hS (Nat.le_of_ble_eq_true rfl) (Nat.le_of_ble_eq_true rfl) d_X_ran_23 (congrArg (fun z => some (Value.int z)) (by unfold a_ran; (first | rfl | (repeat (first | rw [if_pos (by omega)] | rw [if_neg (by omega)])))))
  · simp only [fa_lt, fa_le, fa_eq, Int32.toInt_toInt64, li_0] at hc_1
    refine lv_iload_n hx hb d_X_ran_4 rfl (lv_at hl 1 rfl) ?_
    refine lv_aload_n hx hb d_X_ran_5 rfl (lv_at hl 0 rfl) ?_
    refine va_get (D := G.1) (ci := 0) (v := .ref b13) (C := R_X) (T := F_X) (N := 20) hx hb hts i_X hown hK hP 0 rfl rfl 13 (by decide) (hts _ q430) (fun _ h9 => h9) rfl d_X_ran_6 ?_
    refine va_alen hx hb hK hP 1 0 rfl rfl (v := 3) (by decide +kernel) d_X_ran_9 ?_
    refine lv_icmp_ge (tgt := 22) hx hb d_X_ran_10 (by decide) (fun hc_2 => ?_) (fun hc_2 => ?_)
    · simp only [fa_lt, fa_le, fa_eq, Int32.toInt_toInt64, li_3] at hc_2
      refine lv_iconst (v := (-1)) hx hb d_X_ran_22 (by decide) ?_
      exact z_iret hx hb hr hlocks hP hD hS (Nat.le_of_ble_eq_true rfl) (Nat.le_of_ble_eq_true rfl) d_X_ran_23 (congrArg (fun z => some (Value.int z)) (by unfold a_ran; (first | rfl | (repeat (first | rw [if_pos (by omega)] | rw [if_neg (by omega)])))))
    · simp only [fa_lt, fa_le, fa_eq, Int32.toInt_toInt64, li_3] at hc_2
      refine lv_aload_n hx hb d_X_ran_13 rfl (lv_at hl 0 rfl) ?_
      refine va_get (D := G.1) (ci := 0) (v := .ref b13) (C := R_X) (T := F_X) (N := 20) hx hb hts i_X hown hK hP 0 rfl rfl 13 (by decide) (hts _ q430) (fun _ h9 => h9) rfl d_X_ran_14 ?_
      refine lv_iload_n hx hb d_X_ran_17 rfl (lv_at hl 1 rfl) ?_
      by_cases hs_3 : p0 = 0
      · subst hs_3
        refine va_iald hx hb hK hP 1 0 rfl rfl (i := 0) (z_in rfl) d_X_ran_18 ?_
        refine z_topi (y := (-1)) rfl ?_
        refine lv_goto (tgt := 23) hx hb d_X_ran_19 (by decide) ?_
        exact z_iret hx hb hr hlocks hP hD hS (Nat.le_of_ble_eq_true rfl) (Nat.le_of_ble_eq_true rfl) d_X_ran_23 (congrArg (fun z => some (Value.int z)) (by first | decide +kernel | (simp only [a_ran, li_0]; (first | rfl | (repeat (first | rw [if_pos (by omega)] | rw [if_neg (by omega)]))))))
      simp only [fa_lt, fa_le, fa_eq, Int32.toInt_toInt64, li_0] at hs_3
      by_cases hs_4 : p0 = 1
      · subst hs_4
        refine va_iald hx hb hK hP 1 0 rfl rfl (i := 1) (z_in rfl) d_X_ran_18 ?_
        refine z_topi (y := (-1)) rfl ?_
        refine lv_goto (tgt := 23) hx hb d_X_ran_19 (by decide) ?_
        exact z_iret hx hb hr hlocks hP hD hS (Nat.le_of_ble_eq_true rfl) (Nat.le_of_ble_eq_true rfl) d_X_ran_23 (congrArg (fun z => some (Value.int z)) (by first | decide +kernel | (simp only [a_ran, li_1]; (first | rfl | (repeat (first | rw [if_pos (by omega)] | rw [if_neg (by omega)]))))))
      simp only [fa_lt, fa_le, fa_eq, Int32.toInt_toInt64, li_1] at hs_4
      obtain rfl : p0 = 2 := by simp only [fa_lt, fa_le, fa_eq, Int32.toInt_toInt64, li_2]; omega
      refine va_iald hx hb hK hP 1 0 rfl rfl (i := 2) (z_in rfl) d_X_ran_18 ?_
      refine z_topi (y := (-1)) rfl ?_
      refine lv_goto (tgt := 23) hx hb d_X_ran_19 (by decide) ?_
      exact z_iret hx hb hr hlocks hP hD hS (Nat.le_of_ble_eq_true rfl) (Nat.le_of_ble_eq_true rfl) d_X_ran_23 (congrArg (fun z => some (Value.int z)) (by first | decide +kernel | (simp only [a_ran, li_2]; (first | rfl | (repeat (first | rw [if_pos (by omega)] | rw [if_neg (by omega)]))))))
theorem d_X_cover_0 : decode prog_1_method_15_code 0 = .ok (.iload_n 1, 1) := by decide +kernel
theorem d_X_cover_1 : decode prog_1_method_15_code 1 = .ok (.ifCond .eq 10, 3) := by decide +kernel
theorem d_X_cover_11 : decode prog_1_method_15_code 11 = .ok (.aload_n 0, 1) := by decide +kernel
theorem d_X_cover_12 : decode prog_1_method_15_code 12 = .ok (.aload_n 0, 1) := by decide +kernel
theorem d_X_cover_13 : decode prog_1_method_15_code 13 = .ok (.getfield 19, 3) := by decide +kernel
theorem d_X_cover_16 : decode prog_1_method_15_code 16 = .ok (.getfield 156, 3) := by decide +kernel
theorem d_X_cover_19 : decode prog_1_method_15_code 19 = .ok (.invokevirtual 189, 3) := by decide +kernel
theorem d_X_cover_22 : decode prog_1_method_15_code 22 = .ok (.astore_n 2, 1) := by decide +kernel
theorem d_X_cover_23 : decode prog_1_method_15_code 23 = .ok (.aload_n 0, 1) := by decide +kernel
theorem d_X_cover_24 : decode prog_1_method_15_code 24 = .ok (.getfield 91, 3) := by decide +kernel
theorem d_X_cover_27 : decode prog_1_method_15_code 27 = .ok (.getfield 258, 3) := by decide +kernel
theorem d_X_cover_30 : decode prog_1_method_15_code 30 = .ok (.ifCond .ne 19, 3) := by decide +kernel
theorem d_X_cover_33 : decode prog_1_method_15_code 33 = .ok (.aload_n 0, 1) := by decide +kernel
theorem d_X_cover_34 : decode prog_1_method_15_code 34 = .ok (.getfield 91, 3) := by decide +kernel
theorem d_X_cover_37 : decode prog_1_method_15_code 37 = .ok (.aload_n 0, 1) := by decide +kernel
theorem d_X_cover_38 : decode prog_1_method_15_code 38 = .ok (.getfield 19, 3) := by decide +kernel
theorem d_X_cover_41 : decode prog_1_method_15_code 41 = .ok (.aload_n 0, 1) := by decide +kernel
theorem d_X_cover_42 : decode prog_1_method_15_code 42 = .ok (.getfield 36, 3) := by decide +kernel
theorem d_X_cover_45 : decode prog_1_method_15_code 45 = .ok (.aload_n 2, 1) := by decide +kernel
theorem d_X_cover_46 : decode prog_1_method_15_code 46 = .ok (.invokevirtual 262, 3) := by decide +kernel
theorem d_Cover_find_0 : decode prog_2_method_2_code 0 = .ok (.aload_n 0, 1) := by decide +kernel
theorem d_Cover_find_1 : decode prog_2_method_2_code 1 = .ok (.iconst 1, 1) := by decide +kernel
theorem d_Cover_find_2 : decode prog_2_method_2_code 2 = .ok (.putfield 15, 3) := by decide +kernel
theorem d_Cover_find_5 : decode prog_2_method_2_code 5 = .ok (.aload_n 0, 1) := by decide +kernel
theorem d_Cover_find_6 : decode prog_2_method_2_code 6 = .ok (.aload_n 1, 1) := by decide +kernel
theorem d_Cover_find_7 : decode prog_2_method_2_code 7 = .ok (.aload_n 2, 1) := by decide +kernel
theorem d_Cover_find_8 : decode prog_2_method_2_code 8 = .ok (.aload_n 3, 1) := by decide +kernel
theorem d_Cover_find_9 : decode prog_2_method_2_code 9 = .ok (.invokevirtual 19, 3) := by decide +kernel
theorem d_Cover_gather_0 : decode prog_2_method_3_code 0 = .ok (.aload_n 0, 1) := by decide +kernel
theorem d_Cover_gather_1 : decode prog_2_method_3_code 1 = .ok (.aload_n 3, 1) := by decide +kernel
theorem d_Cover_gather_2 : decode prog_2_method_3_code 2 = .ok (.getfield 42, 3) := by decide +kernel
theorem d_Cover_gather_5 : decode prog_2_method_3_code 5 = .ok (.putfield 47, 3) := by decide +kernel
theorem d_Cover_gather_8 : decode prog_2_method_3_code 8 = .ok (.aload_n 0, 1) := by decide +kernel
theorem d_Cover_gather_9 : decode prog_2_method_3_code 9 = .ok (.getfield 9, 3) := by decide +kernel
theorem d_Cover_gather_12 : decode prog_2_method_3_code 12 = .ok (.iconst 0, 1) := by decide +kernel
theorem d_Cover_gather_13 : decode prog_2_method_3_code 13 = .ok (.invokestatic 48, 3) := by decide +kernel
theorem d_Cover_gather_16 : decode prog_2_method_3_code 16 = .ok (.iconst 0, 1) := by decide +kernel
theorem d_Cover_gather_17 : decode prog_2_method_3_code 17 = .ok (.istore 4, 2) := by decide +kernel
theorem d_Cover_gather_19 : decode prog_2_method_3_code 19 = .ok (.iload 4, 2) := by decide +kernel
theorem d_Cover_gather_21 : decode prog_2_method_3_code 21 = .ok (.aload_n 1, 1) := by decide +kernel
theorem d_Cover_gather_22 : decode prog_2_method_3_code 22 = .ok (.getfield 26, 3) := by decide +kernel
theorem d_Cover_gather_25 : decode prog_2_method_3_code 25 = .ok (.if_icmp .ge 55, 3) := by decide +kernel
theorem d_Cover_gather_80 : decode prog_2_method_3_code 80 = .ok (.return_, 1) := by decide +kernel
abbrev m_c1_Cover_gather : Room := { frames := 1, cells := 0, slots := 0, locals := 23 }
set_option maxHeartbeats 4000000 in
set_option maxRecDepth 100000 in
theorem c1_Cover_gather (l : Launch) (G : zG) (b0 : Nat) (b1 : Nat) (b2 : Nat) (b3 : Nat) (b4 : Nat) (b5 : Nat) (b6 : Nat) (b7 : Nat) (b8 : Nat) (b9 : Nat) (b10 : Nat) (b11 : Nat) (b12 : Nat) (b13 : Nat) (b14 : Nat) (b15 : Nat) (b16 : Nat) (b17 : Nat) (b18 : Nat) (b19 : Nat)  : zM l G y_Cover_gather prog_2_method_3_code 6 (Option.none : Option Jvm.ClassFile.FieldType) m_c1_Cover_gather [.ref b0, .ref b1, .ref b2, .ref b3] [(b3, .inr (5, [.int 1, .int 0, .ref b4, .ref b5, .ref b6, .ref b7, .ref b8, .ref b9, .int 0, .ref b10, .ref b11, .ref b12, .ref b13, .ref b14, .ref b15])), (b0, .inr (9, [.int 1, .int 0, .int 0, .ref b16, .int 0])), (b16, .inl (G.2 0, 240, .inl (fun _ => 0))), (b1, .inr (2, [.int 0, .int 1, .int 0, .ref b17, .ref b18, .ref b19]))] (fun v w => (v = none ∧ w = [(b3, .inr (5, [.int 1, .int 0, .ref b4, .ref b5, .ref b6, .ref b7, .ref b8, .ref b9, .int 0, .ref b10, .ref b11, .ref b12, .ref b13, .ref b14, .ref b15])), (b0, .inr (9, [.int 1, .int 0, .int 0, .ref b16, .int 0])), (b1, .inr (2, [.int 0, .int 1, .int 0, .ref b17, .ref b18, .ref b19])), (b16, .inl (G.2 0, 240, .inl (fun _ => 0)))])) := by
  refine z_start (by decide +kernel) (Nat.le_of_ble_eq_true rfl) ?_
  intro p e s m below meth c A Z hr hnm hA hP hD hS ls hl
  have Z : zC p s m _ meth c prog_2_method_3_code 6 "TraceMachines$Cover" G := Z
  obtain ⟨hx, hb, hml, hown, hts, hK, hN, hlocks⟩ := id Z
  have hl : lv_has ls 6 [(0, .ref b0), (1, .ref b1), (2, .ref b2), (3, .ref b3)] := hl
  refine lv_aload_n hx hb d_Cover_gather_0 rfl (lv_at hl 0 rfl) ?_
  refine lv_aload_n hx hb d_Cover_gather_1 rfl (lv_at hl 3 rfl) ?_
  refine va_get (D := G.1) (ci := 5) (v := .int 0) (C := R_Machine) (T := F_Machine) (N := 15) hx hb hts i_Machine hown hK hP 0 rfl rfl 8 (by decide) (hts _ q182) (fun _ h9 => h9) rfl d_Cover_gather_2 ?_
  refine va_put (D := G.1) (ci := 9) (v := .int 0) (ty := .int) (C := R_Cover) (T := F_Cover) (N := 5) hx hb hts i_Cover t_Cover t_Cover_ok n_Cover hown hK hP hD hS 1 rfl rfl 4 (by decide) (hts _ q345) (fun _ h9 => h9) rfl (by decide +kernel) rfl rfl (Nat.le_of_ble_eq_true rfl) d_Cover_gather_5 (fun H locs hP hD hS => ?_)
  have hP : va_P G.1 classes [(b3, .inr (5, [.int 1, .int 0, .ref b4, .ref b5, .ref b6, .ref b7, .ref b8, .ref b9, .int 0, .ref b10, .ref b11, .ref b12, .ref b13, .ref b14, .ref b15])), (b0, .inr (9, [.int 1, .int 0, .int 0, .ref b16, .int 0])), (b16, .inl (G.2 0, 240, .inl (fun _ => 0))), (b1, .inr (2, [.int 0, .int 1, .int 0, .ref b17, .ref b18, .ref b19]))] H := hP
  have hD := z_tie hP hD rfl
  refine lv_aload_n hx hb d_Cover_gather_8 rfl (lv_at hl 0 rfl) ?_
  refine va_get (D := G.1) (ci := 9) (v := .ref b16) (C := R_Cover) (T := F_Cover) (N := 5) hx hb hts i_Cover hown hK hP 1 rfl rfl 3 (by decide) (hts _ q344) (fun _ h9 => h9) rfl d_Cover_gather_9 ?_
  refine lv_iconst (v := 0) hx hb d_Cover_gather_12 (by decide) ?_
  refine z_callS (index := 48) (As := [.ref b16, .int 0]) (rest := []) (wr := [(b3, .inr (5, [.int 1, .int 0, .ref b4, .ref b5, .ref b6, .ref b7, .ref b8, .ref b9, .int 0, .ref b10, .ref b11, .ref b12, .ref b13, .ref b14, .ref b15])), (b0, .inr (9, [.int 1, .int 0, .int 0, .ref b16, .int 0])), (b1, .inr (2, [.int 0, .int 1, .int 0, .ref b17, .ref b18, .ref b19]))]) Z (c_fill_I l G (b16) (240) ((fun _ => 0)) (0) (by first | assumption | decide +kernel | omega)) hl.1 q771 q415 q13 q416 ⟨by decide, by decide, by show _ = some 2; decide +kernel⟩ ⟨Nat.le_of_ble_eq_true rfl, Nat.le_of_ble_eq_true rfl⟩ ⟨Nat.le_of_ble_eq_true rfl, Nat.le_of_ble_eq_true rfl⟩ rfl (Nat.le_of_ble_eq_true rfl) d_Cover_gather_13 hP hD hS hA [2] [0, 1, 3] rfl rfl rfl rfl (by decide) (fun v w1 H locs hw_1 hP hD hS => ?_)
  obtain ⟨rfl, rfl⟩ := hw_1
  have hP : va_P G.1 classes [(b3, .inr (5, [.int 1, .int 0, .ref b4, .ref b5, .ref b6, .ref b7, .ref b8, .ref b9, .int 0, .ref b10, .ref b11, .ref b12, .ref b13, .ref b14, .ref b15])), (b0, .inr (9, [.int 1, .int 0, .int 0, .ref b16, .int 0])), (b1, .inr (2, [.int 0, .int 1, .int 0, .ref b17, .ref b18, .ref b19])), (b16, .inl (G.2 0, 240, .inl (fun _ => 0)))] H := hP
  have hD := z_tie hP hD rfl
  refine W.widen (k := 0) (n := 0) (Nat.le_of_ble_eq_true rfl) (Nat.le_of_ble_eq_true rfl) ?_
  refine lv_iconst (v := 0) hx hb d_Cover_gather_16 (by decide) ?_
  refine lv_istore (lv' := [(4, .int 0), (0, .ref b0), (1, .ref b1), (2, .ref b2), (3, .ref b3)]) hx hb d_Cover_gather_17 hl (by decide) rfl (fun ls hl => ?_)
  refine lv_iload hx hb d_Cover_gather_19 (lv_at hl 0 rfl) ?_
  refine lv_aload_n hx hb d_Cover_gather_21 rfl (lv_at hl 2 rfl) ?_
  refine va_get (D := G.1) (ci := 2) (v := .int 0) (C := R_Traces) (T := F_Traces) (N := 6) hx hb hts i_Traces hown hK hP 2 rfl rfl 0 (by decide) (hts _ q54) (fun _ h9 => h9) rfl d_Cover_gather_22 ?_
  refine lv_icmp_ge (tgt := 80) hx hb d_Cover_gather_25 (by decide) (fun _ => ?_) (fun hc => absurd hc (by decide +kernel))
  exact z_vret hx hb hr hlocks hP hD hS (Nat.le_of_ble_eq_true rfl) (Nat.le_of_ble_eq_true rfl) d_Cover_gather_80 ⟨rfl, rfl⟩
theorem d_Cover_find_12 : decode prog_2_method_2_code 12 = .ok (.aload_n 0, 1) := by decide +kernel
theorem d_Cover_find_13 : decode prog_2_method_2_code 13 = .ok (.invokevirtual 23, 3) := by decide +kernel
theorem d_Cover_leaveOutImplied_0 : decode prog_2_method_4_code 0 = .ok (.iconst 0, 1) := by decide +kernel
theorem d_Cover_leaveOutImplied_1 : decode prog_2_method_4_code 1 = .ok (.istore_n 1, 1) := by decide +kernel
theorem d_Cover_leaveOutImplied_2 : decode prog_2_method_4_code 2 = .ok (.iconst 0, 1) := by decide +kernel
theorem d_Cover_leaveOutImplied_3 : decode prog_2_method_4_code 3 = .ok (.istore_n 2, 1) := by decide +kernel
theorem d_Cover_leaveOutImplied_4 : decode prog_2_method_4_code 4 = .ok (.iload_n 2, 1) := by decide +kernel
theorem d_Cover_leaveOutImplied_5 : decode prog_2_method_4_code 5 = .ok (.aload_n 0, 1) := by decide +kernel
theorem d_Cover_leaveOutImplied_6 : decode prog_2_method_4_code 6 = .ok (.getfield 47, 3) := by decide +kernel
theorem d_Cover_leaveOutImplied_9 : decode prog_2_method_4_code 9 = .ok (.if_icmp .ge 33, 3) := by decide +kernel
theorem d_Cover_leaveOutImplied_42 : decode prog_2_method_4_code 42 = .ok (.aload_n 0, 1) := by decide +kernel
theorem d_Cover_leaveOutImplied_43 : decode prog_2_method_4_code 43 = .ok (.iload_n 1, 1) := by decide +kernel
theorem d_Cover_leaveOutImplied_44 : decode prog_2_method_4_code 44 = .ok (.putfield 47, 3) := by decide +kernel
theorem d_Cover_leaveOutImplied_47 : decode prog_2_method_4_code 47 = .ok (.return_, 1) := by decide +kernel
abbrev m_c1_Cover_leaveOutImplied : Room := { frames := 0, cells := 0, slots := 0, locals := 0 }
set_option maxHeartbeats 4000000 in
set_option maxRecDepth 100000 in
theorem c1_Cover_leaveOutImplied (l : Launch) (G : zG) (b0 : Nat) (b1 : Nat)  : zM l G y_Cover_leaveOutImplied prog_2_method_4_code 3 (Option.none : Option Jvm.ClassFile.FieldType) m_c1_Cover_leaveOutImplied [.ref b0] [(b0, .inr (9, [.int 1, .int 0, .int 0, .ref b1, .int 0]))] (fun v w => (v = none ∧ w = [(b0, .inr (9, [.int 1, .int 0, .int 0, .ref b1, .int 0]))])) := by
  refine z_start (by decide +kernel) (Nat.le_of_ble_eq_true rfl) ?_
  intro p e s m below meth c A Z hr hnm hA hP hD hS ls hl
  have Z : zC p s m _ meth c prog_2_method_4_code 3 "TraceMachines$Cover" G := Z
  obtain ⟨hx, hb, hml, hown, hts, hK, hN, hlocks⟩ := id Z
  have hl : lv_has ls 3 [(0, .ref b0)] := hl
  refine lv_iconst (v := 0) hx hb d_Cover_leaveOutImplied_0 (by decide) ?_
  refine lv_istore_n (lv' := [(1, .int 0), (0, .ref b0)]) hx hb d_Cover_leaveOutImplied_1 rfl hl (by decide) rfl (fun ls hl => ?_)
  refine lv_iconst (v := 0) hx hb d_Cover_leaveOutImplied_2 (by decide) ?_
  refine lv_istore_n (lv' := [(2, .int 0), (1, .int 0), (0, .ref b0)]) hx hb d_Cover_leaveOutImplied_3 rfl hl (by decide) rfl (fun ls hl => ?_)
  refine lv_iload_n hx hb d_Cover_leaveOutImplied_4 rfl (lv_at hl 0 rfl) ?_
  refine lv_aload_n hx hb d_Cover_leaveOutImplied_5 rfl (lv_at hl 2 rfl) ?_
  refine va_get (D := G.1) (ci := 9) (v := .int 0) (C := R_Cover) (T := F_Cover) (N := 5) hx hb hts i_Cover hown hK hP 0 rfl rfl 4 (by decide) (hts _ q345) (fun _ h9 => h9) rfl d_Cover_leaveOutImplied_6 ?_
  refine lv_icmp_ge (tgt := 42) hx hb d_Cover_leaveOutImplied_9 (by decide) (fun _ => ?_) (fun hc => absurd hc (by decide +kernel))
  refine lv_aload_n hx hb d_Cover_leaveOutImplied_42 rfl (lv_at hl 2 rfl) ?_
  refine lv_iload_n hx hb d_Cover_leaveOutImplied_43 rfl (lv_at hl 1 rfl) ?_
  refine va_put (D := G.1) (ci := 9) (v := .int 0) (ty := .int) (C := R_Cover) (T := F_Cover) (N := 5) hx hb hts i_Cover t_Cover t_Cover_ok n_Cover hown hK hP hD hS 0 rfl rfl 4 (by decide) (hts _ q345) (fun _ h9 => h9) rfl (by decide +kernel) rfl rfl (Nat.le_of_ble_eq_true rfl) d_Cover_leaveOutImplied_44 (fun H locs hP hD hS => ?_)
  have hP : va_P G.1 classes [(b0, .inr (9, [.int 1, .int 0, .int 0, .ref b1, .int 0]))] H := hP
  have hD := z_tie hP hD rfl
  exact z_vret hx hb hr hlocks hP hD hS (Nat.le_of_ble_eq_true rfl) (Nat.le_of_ble_eq_true rfl) d_Cover_leaveOutImplied_47 ⟨rfl, rfl⟩
theorem d_Cover_find_16 : decode prog_2_method_2_code 16 = .ok (.aload_n 0, 1) := by decide +kernel
theorem d_Cover_find_17 : decode prog_2_method_2_code 17 = .ok (.iconst 1, 1) := by decide +kernel
theorem d_Cover_find_18 : decode prog_2_method_2_code 18 = .ok (.aload_n 1, 1) := by decide +kernel
theorem d_Cover_find_19 : decode prog_2_method_2_code 19 = .ok (.getfield 26, 3) := by decide +kernel
theorem d_Cover_find_22 : decode prog_2_method_2_code 22 = .ok (.ishl, 1) := by decide +kernel
theorem d_Cover_find_23 : decode prog_2_method_2_code 23 = .ok (.iconst 1, 1) := by decide +kernel
theorem d_Cover_find_24 : decode prog_2_method_2_code 24 = .ok (.isub, 1) := by decide +kernel
theorem d_Cover_find_25 : decode prog_2_method_2_code 25 = .ok (.putfield 32, 3) := by decide +kernel
theorem d_Cover_find_28 : decode prog_2_method_2_code 28 = .ok (.aload_n 0, 1) := by decide +kernel
theorem d_Cover_find_29 : decode prog_2_method_2_code 29 = .ok (.aload_n 1, 1) := by decide +kernel
theorem d_Cover_find_30 : decode prog_2_method_2_code 30 = .ok (.getfield 26, 3) := by decide +kernel
theorem d_Cover_find_33 : decode prog_2_method_2_code 33 = .ok (.putfield 35, 3) := by decide +kernel
theorem d_Cover_find_36 : decode prog_2_method_2_code 36 = .ok (.aload_n 0, 1) := by decide +kernel
theorem d_Cover_find_37 : decode prog_2_method_2_code 37 = .ok (.iconst 0, 1) := by decide +kernel
theorem d_Cover_find_38 : decode prog_2_method_2_code 38 = .ok (.iconst 0, 1) := by decide +kernel
theorem d_Cover_find_39 : decode prog_2_method_2_code 39 = .ok (.iconst 0, 1) := by decide +kernel
theorem d_Cover_find_40 : decode prog_2_method_2_code 40 = .ok (.invokevirtual 38, 3) := by decide +kernel
theorem d_Cover_search_0 : decode prog_2_method_6_code 0 = .ok (.iload_n 3, 1) := by decide +kernel
theorem d_Cover_search_1 : decode prog_2_method_6_code 1 = .ok (.aload_n 0, 1) := by decide +kernel
theorem d_Cover_search_2 : decode prog_2_method_6_code 2 = .ok (.getfield 35, 3) := by decide +kernel
theorem d_Cover_search_5 : decode prog_2_method_6_code 5 = .ok (.if_icmp .gt 19, 3) := by decide +kernel
theorem d_Cover_search_8 : decode prog_2_method_6_code 8 = .ok (.iload_n 3, 1) := by decide +kernel
theorem d_Cover_search_9 : decode prog_2_method_6_code 9 = .ok (.aload_n 0, 1) := by decide +kernel
theorem d_Cover_search_10 : decode prog_2_method_6_code 10 = .ok (.getfield 35, 3) := by decide +kernel
theorem d_Cover_search_13 : decode prog_2_method_6_code 13 = .ok (.if_icmp .ne 12, 3) := by decide +kernel
theorem d_Cover_search_16 : decode prog_2_method_6_code 16 = .ok (.iload_n 1, 1) := by decide +kernel
theorem d_Cover_search_17 : decode prog_2_method_6_code 17 = .ok (.aload_n 0, 1) := by decide +kernel
theorem d_Cover_search_18 : decode prog_2_method_6_code 18 = .ok (.getfield 32, 3) := by decide +kernel
theorem d_Cover_search_21 : decode prog_2_method_6_code 21 = .ok (.if_icmp .lt 4, 3) := by decide +kernel
theorem d_Cover_search_24 : decode prog_2_method_6_code 24 = .ok (.return_, 1) := by decide +kernel
abbrev m_c1_Cover_search : Room := { frames := 0, cells := 0, slots := 0, locals := 0 }
set_option maxHeartbeats 4000000 in
set_option maxRecDepth 100000 in
theorem c1_Cover_search (l : Launch) (G : zG) (b0 : Nat) (b1 : Nat)  : zM l G y_Cover_search prog_2_method_6_code 8 (Option.none : Option Jvm.ClassFile.FieldType) m_c1_Cover_search [.ref b0, .int 0, .int 0, .int 0] [(b0, .inr (9, [.int 1, .int 0, .int 0, .ref b1, .int 0]))] (fun v w => (v = none ∧ w = [(b0, .inr (9, [.int 1, .int 0, .int 0, .ref b1, .int 0]))])) := by
  refine z_start (by decide +kernel) (Nat.le_of_ble_eq_true rfl) ?_
  intro p e s m below meth c A Z hr hnm hA hP hD hS ls hl
  have Z : zC p s m _ meth c prog_2_method_6_code 8 "TraceMachines$Cover" G := Z
  obtain ⟨hx, hb, hml, hown, hts, hK, hN, hlocks⟩ := id Z
  have hl : lv_has ls 8 [(0, .ref b0), (1, .int 0), (2, .int 0), (3, .int 0)] := hl
  refine lv_iload_n hx hb d_Cover_search_0 rfl (lv_at hl 3 rfl) ?_
  refine lv_aload_n hx hb d_Cover_search_1 rfl (lv_at hl 0 rfl) ?_
  refine va_get (D := G.1) (ci := 9) (v := .int 0) (C := R_Cover) (T := F_Cover) (N := 5) hx hb hts i_Cover hown hK hP 0 rfl rfl 2 (by decide) (hts _ q343) (fun _ h9 => h9) rfl d_Cover_search_2 ?_
  refine lv_icmp_gt (tgt := 24) hx hb d_Cover_search_5 (by decide) (fun hc => absurd hc (by decide +kernel)) (fun _ => ?_)
  refine lv_iload_n hx hb d_Cover_search_8 rfl (lv_at hl 3 rfl) ?_
  refine lv_aload_n hx hb d_Cover_search_9 rfl (lv_at hl 0 rfl) ?_
  refine va_get (D := G.1) (ci := 9) (v := .int 0) (C := R_Cover) (T := F_Cover) (N := 5) hx hb hts i_Cover hown hK hP 0 rfl rfl 2 (by decide) (hts _ q343) (fun _ h9 => h9) rfl d_Cover_search_10 ?_
  refine lv_icmp_ne (tgt := 25) hx hb d_Cover_search_13 (by decide) (fun hc => absurd hc (by decide +kernel)) (fun _ => ?_)
  refine lv_iload_n hx hb d_Cover_search_16 rfl (lv_at hl 1 rfl) ?_
  refine lv_aload_n hx hb d_Cover_search_17 rfl (lv_at hl 0 rfl) ?_
  refine va_get (D := G.1) (ci := 9) (v := .int 0) (C := R_Cover) (T := F_Cover) (N := 5) hx hb hts i_Cover hown hK hP 0 rfl rfl 1 (by decide) (hts _ q341) (fun _ h9 => h9) rfl d_Cover_search_18 ?_
  refine lv_icmp_lt (tgt := 25) hx hb d_Cover_search_21 (by decide) (fun hc => absurd hc (by decide +kernel)) (fun _ => ?_)
  exact z_vret hx hb hr hlocks hP hD hS (Nat.le_of_ble_eq_true rfl) (Nat.le_of_ble_eq_true rfl) d_Cover_search_24 ⟨rfl, rfl⟩
theorem d_Cover_find_43 : decode prog_2_method_2_code 43 = .ok (.return_, 1) := by decide +kernel
abbrev m_c1_Cover_find : Room := { frames := 2, cells := 0, slots := 0, locals := 48 }
set_option maxHeartbeats 4000000 in
set_option maxRecDepth 100000 in
theorem c1_Cover_find (l : Launch) (G : zG) (b0 : Nat) (b1 : Nat) (b2 : Nat) (b3 : Nat) (b4 : Nat) (b5 : Nat) (b6 : Nat) (b7 : Nat) (b8 : Nat) (b9 : Nat) (b10 : Nat) (b11 : Nat) (b12 : Nat) (b13 : Nat) (b14 : Nat) (b15 : Nat) (b16 : Nat) (b17 : Nat) (b18 : Nat) (b19 : Nat)  : zM l G y_Cover_find prog_2_method_2_code 4 (Option.none : Option Jvm.ClassFile.FieldType) m_c1_Cover_find [.ref b0, .ref b1, .ref b2, .ref b3] [(b0, .inr (9, [.int 0, .int 0, .int 0, .ref b4, .int 0])), (b3, .inr (5, [.int 1, .int 0, .ref b5, .ref b6, .ref b7, .ref b8, .ref b9, .ref b10, .int 0, .ref b11, .ref b12, .ref b13, .ref b14, .ref b15, .ref b16])), (b4, .inl (G.2 0, 240, .inl (fun _ => 0))), (b1, .inr (2, [.int 0, .int 1, .int 0, .ref b17, .ref b18, .ref b19]))] (fun v w => (v = none ∧ w = [(b3, .inr (5, [.int 1, .int 0, .ref b5, .ref b6, .ref b7, .ref b8, .ref b9, .ref b10, .int 0, .ref b11, .ref b12, .ref b13, .ref b14, .ref b15, .ref b16])), (b1, .inr (2, [.int 0, .int 1, .int 0, .ref b17, .ref b18, .ref b19])), (b4, .inl (G.2 0, 240, .inl (fun _ => 0))), (b0, .inr (9, [.int 1, .int 0, .int 0, .ref b4, .int 0]))])) := by
  refine z_start (by decide +kernel) (Nat.le_of_ble_eq_true rfl) ?_
  intro p e s m below meth c A Z hr hnm hA hP hD hS ls hl
  have Z : zC p s m _ meth c prog_2_method_2_code 4 "TraceMachines$Cover" G := Z
  obtain ⟨hx, hb, hml, hown, hts, hK, hN, hlocks⟩ := id Z
  have hl : lv_has ls 4 [(0, .ref b0), (1, .ref b1), (2, .ref b2), (3, .ref b3)] := hl
  refine lv_aload_n hx hb d_Cover_find_0 rfl (lv_at hl 0 rfl) ?_
  refine lv_iconst (v := 1) hx hb d_Cover_find_1 (by decide) ?_
  refine va_put (D := G.1) (ci := 9) (v := .int 1) (ty := .boolean) (C := R_Cover) (T := F_Cover) (N := 5) hx hb hts i_Cover t_Cover t_Cover_ok n_Cover hown hK hP hD hS 0 rfl rfl 0 (by decide) (hts _ q339) (fun _ h9 => h9) rfl (by decide +kernel) rfl rfl (Nat.le_of_ble_eq_true rfl) d_Cover_find_2 (fun H locs hP hD hS => ?_)
  have hP : va_P G.1 classes [(b0, .inr (9, [.int 1, .int 0, .int 0, .ref b4, .int 0])), (b3, .inr (5, [.int 1, .int 0, .ref b5, .ref b6, .ref b7, .ref b8, .ref b9, .ref b10, .int 0, .ref b11, .ref b12, .ref b13, .ref b14, .ref b15, .ref b16])), (b4, .inl (G.2 0, 240, .inl (fun _ => 0))), (b1, .inr (2, [.int 0, .int 1, .int 0, .ref b17, .ref b18, .ref b19]))] H := hP
  have hD := z_tie hP hD rfl
  refine lv_aload_n hx hb d_Cover_find_5 rfl (lv_at hl 0 rfl) ?_
  refine lv_aload_n hx hb d_Cover_find_6 rfl (lv_at hl 1 rfl) ?_
  refine lv_aload_n hx hb d_Cover_find_7 rfl (lv_at hl 2 rfl) ?_
  refine lv_aload_n hx hb d_Cover_find_8 rfl (lv_at hl 3 rfl) ?_
  refine z_callV (index := 19) (As := [.ref b1, .ref b2, .ref b3]) (rest := []) (wr := []) Z (c1_Cover_gather l G (b0) (b1) (b2) (b3) (b5) (b6) (b7) (b8) (b9) (b10) (b11) (b12) (b13) (b14) (b15) (b16) (b4) (b17) (b18) (b19)) hl.1 q767 q769 qs17 q10 q770 ⟨by decide, by decide, by show _ = some 3; decide +kernel⟩ ⟨Nat.le_of_ble_eq_true rfl, Nat.le_of_ble_eq_true rfl⟩ ⟨Nat.le_of_ble_eq_true rfl, Nat.le_of_ble_eq_true rfl⟩ rfl (Nat.le_of_ble_eq_true rfl) d_Cover_find_9 hP hD hS hA 0 9 rfl rfl rfl [1, 0, 2, 3] [] rfl rfl rfl rfl (by decide) (fun v w1 H locs hw_1 hP hD hS => ?_)
  obtain ⟨rfl, rfl⟩ := hw_1
  have hP : va_P G.1 classes [(b3, .inr (5, [.int 1, .int 0, .ref b5, .ref b6, .ref b7, .ref b8, .ref b9, .ref b10, .int 0, .ref b11, .ref b12, .ref b13, .ref b14, .ref b15, .ref b16])), (b0, .inr (9, [.int 1, .int 0, .int 0, .ref b4, .int 0])), (b1, .inr (2, [.int 0, .int 1, .int 0, .ref b17, .ref b18, .ref b19])), (b4, .inl (G.2 0, 240, .inl (fun _ => 0)))] H := hP
  have hD := z_tie hP hD rfl
  refine W.widen (k := 0) (n := 0) (Nat.le_of_ble_eq_true rfl) (Nat.le_of_ble_eq_true rfl) ?_
  refine lv_aload_n hx hb d_Cover_find_12 rfl (lv_at hl 0 rfl) ?_
  refine z_callV (index := 23) (As := []) (rest := []) (wr := [(b3, .inr (5, [.int 1, .int 0, .ref b5, .ref b6, .ref b7, .ref b8, .ref b9, .ref b10, .int 0, .ref b11, .ref b12, .ref b13, .ref b14, .ref b15, .ref b16])), (b1, .inr (2, [.int 0, .int 1, .int 0, .ref b17, .ref b18, .ref b19])), (b4, .inl (G.2 0, 240, .inl (fun _ => 0)))]) Z (c1_Cover_leaveOutImplied l G (b0) (b4)) hl.1 q773 q775 qs18 q10 q776 ⟨by decide, by decide, by show _ = some 0; decide +kernel⟩ ⟨Nat.le_of_ble_eq_true rfl, Nat.le_of_ble_eq_true rfl⟩ ⟨Nat.le_of_ble_eq_true rfl, Nat.le_of_ble_eq_true rfl⟩ rfl (Nat.le_of_ble_eq_true rfl) d_Cover_find_13 hP hD hS hA 1 9 rfl rfl rfl [1] [0, 2, 3] rfl rfl rfl rfl (by decide) (fun v w1 H locs hw_2 hP hD hS => ?_)
  obtain ⟨rfl, rfl⟩ := hw_2
  have hP : va_P G.1 classes [(b3, .inr (5, [.int 1, .int 0, .ref b5, .ref b6, .ref b7, .ref b8, .ref b9, .ref b10, .int 0, .ref b11, .ref b12, .ref b13, .ref b14, .ref b15, .ref b16])), (b1, .inr (2, [.int 0, .int 1, .int 0, .ref b17, .ref b18, .ref b19])), (b4, .inl (G.2 0, 240, .inl (fun _ => 0))), (b0, .inr (9, [.int 1, .int 0, .int 0, .ref b4, .int 0]))] H := hP
  have hD := z_tie hP hD rfl
  refine W.widen (k := 0) (n := 0) (Nat.le_of_ble_eq_true rfl) (Nat.le_of_ble_eq_true rfl) ?_
  refine lv_aload_n hx hb d_Cover_find_16 rfl (lv_at hl 0 rfl) ?_
  refine lv_iconst (v := 1) hx hb d_Cover_find_17 (by decide) ?_
  refine lv_aload_n hx hb d_Cover_find_18 rfl (lv_at hl 1 rfl) ?_
  refine va_get (D := G.1) (ci := 2) (v := .int 0) (C := R_Traces) (T := F_Traces) (N := 6) hx hb hts i_Traces hown hK hP 1 rfl rfl 0 (by decide) (hts _ q54) (fun _ h9 => h9) rfl d_Cover_find_19 ?_
  refine lv_ishl hx hb d_Cover_find_22 ?_
  refine z_topi (y := 1) (by decide +kernel) ?_
  refine lv_iconst (v := 1) hx hb d_Cover_find_23 (by decide) ?_
  refine lv_isub hx hb d_Cover_find_24 ?_
  refine z_topi (y := 0) (by decide +kernel) ?_
  refine va_put (D := G.1) (ci := 9) (v := .int 0) (ty := .int) (C := R_Cover) (T := F_Cover) (N := 5) hx hb hts i_Cover t_Cover t_Cover_ok n_Cover hown hK hP hD hS 3 rfl rfl 1 (by decide) (hts _ q341) (fun _ h9 => h9) rfl (by decide +kernel) rfl rfl (Nat.le_of_ble_eq_true rfl) d_Cover_find_25 (fun H locs hP hD hS => ?_)
  have hP : va_P G.1 classes [(b3, .inr (5, [.int 1, .int 0, .ref b5, .ref b6, .ref b7, .ref b8, .ref b9, .ref b10, .int 0, .ref b11, .ref b12, .ref b13, .ref b14, .ref b15, .ref b16])), (b1, .inr (2, [.int 0, .int 1, .int 0, .ref b17, .ref b18, .ref b19])), (b4, .inl (G.2 0, 240, .inl (fun _ => 0))), (b0, .inr (9, [.int 1, .int 0, .int 0, .ref b4, .int 0]))] H := hP
  have hD := z_tie hP hD rfl
  refine lv_aload_n hx hb d_Cover_find_28 rfl (lv_at hl 0 rfl) ?_
  refine lv_aload_n hx hb d_Cover_find_29 rfl (lv_at hl 1 rfl) ?_
  refine va_get (D := G.1) (ci := 2) (v := .int 0) (C := R_Traces) (T := F_Traces) (N := 6) hx hb hts i_Traces hown hK hP 1 rfl rfl 0 (by decide) (hts _ q54) (fun _ h9 => h9) rfl d_Cover_find_30 ?_
  refine va_put (D := G.1) (ci := 9) (v := .int 0) (ty := .int) (C := R_Cover) (T := F_Cover) (N := 5) hx hb hts i_Cover t_Cover t_Cover_ok n_Cover hown hK hP hD hS 3 rfl rfl 2 (by decide) (hts _ q343) (fun _ h9 => h9) rfl (by decide +kernel) rfl rfl (Nat.le_of_ble_eq_true rfl) d_Cover_find_33 (fun H locs hP hD hS => ?_)
  have hP : va_P G.1 classes [(b3, .inr (5, [.int 1, .int 0, .ref b5, .ref b6, .ref b7, .ref b8, .ref b9, .ref b10, .int 0, .ref b11, .ref b12, .ref b13, .ref b14, .ref b15, .ref b16])), (b1, .inr (2, [.int 0, .int 1, .int 0, .ref b17, .ref b18, .ref b19])), (b4, .inl (G.2 0, 240, .inl (fun _ => 0))), (b0, .inr (9, [.int 1, .int 0, .int 0, .ref b4, .int 0]))] H := hP
  have hD := z_tie hP hD rfl
  refine lv_aload_n hx hb d_Cover_find_36 rfl (lv_at hl 0 rfl) ?_
  refine lv_iconst (v := 0) hx hb d_Cover_find_37 (by decide) ?_
  refine lv_iconst (v := 0) hx hb d_Cover_find_38 (by decide) ?_
  refine lv_iconst (v := 0) hx hb d_Cover_find_39 (by decide) ?_
  refine z_callV (index := 38) (As := [.int 0, .int 0, .int 0]) (rest := []) (wr := [(b3, .inr (5, [.int 1, .int 0, .ref b5, .ref b6, .ref b7, .ref b8, .ref b9, .ref b10, .int 0, .ref b11, .ref b12, .ref b13, .ref b14, .ref b15, .ref b16])), (b1, .inr (2, [.int 0, .int 1, .int 0, .ref b17, .ref b18, .ref b19])), (b4, .inl (G.2 0, 240, .inl (fun _ => 0)))]) Z (c1_Cover_search l G (b0) (b4)) hl.1 q781 q783 qs20 q10 q784 ⟨by decide, by decide, by show _ = some 3; decide +kernel⟩ ⟨Nat.le_of_ble_eq_true rfl, Nat.le_of_ble_eq_true rfl⟩ ⟨Nat.le_of_ble_eq_true rfl, Nat.le_of_ble_eq_true rfl⟩ rfl (Nat.le_of_ble_eq_true rfl) d_Cover_find_40 hP hD hS hA 3 9 rfl rfl rfl [3] [0, 1, 2] rfl rfl rfl rfl (by decide) (fun v w1 H locs hw_3 hP hD hS => ?_)
  obtain ⟨rfl, rfl⟩ := hw_3
  have hP : va_P G.1 classes [(b3, .inr (5, [.int 1, .int 0, .ref b5, .ref b6, .ref b7, .ref b8, .ref b9, .ref b10, .int 0, .ref b11, .ref b12, .ref b13, .ref b14, .ref b15, .ref b16])), (b1, .inr (2, [.int 0, .int 1, .int 0, .ref b17, .ref b18, .ref b19])), (b4, .inl (G.2 0, 240, .inl (fun _ => 0))), (b0, .inr (9, [.int 1, .int 0, .int 0, .ref b4, .int 0]))] H := hP
  have hD := z_tie hP hD rfl
  refine W.widen (k := 0) (n := 0) (Nat.le_of_ble_eq_true rfl) (Nat.le_of_ble_eq_true rfl) ?_
  exact z_vret hx hb hr hlocks hP hD hS (Nat.le_of_ble_eq_true rfl) (Nat.le_of_ble_eq_true rfl) d_Cover_find_43 ⟨rfl, rfl⟩
theorem d_X_cover_49 : decode prog_1_method_15_code 49 = .ok (.iload_n 1, 1) := by decide +kernel
theorem d_X_cover_50 : decode prog_1_method_15_code 50 = .ok (.ifCond .ne 16, 3) := by decide +kernel
theorem d_X_cover_53 : decode prog_1_method_15_code 53 = .ok (.aload_n 0, 1) := by decide +kernel
theorem d_X_cover_54 : decode prog_1_method_15_code 54 = .ok (.getfield 91, 3) := by decide +kernel
theorem d_X_cover_57 : decode prog_1_method_15_code 57 = .ok (.getfield 266, 3) := by decide +kernel
theorem d_X_cover_60 : decode prog_1_method_15_code 60 = .ok (.invokestatic 269, 3) := by decide +kernel
theorem d_Integer_bitCount_0 : decode prog_17_method_49_code 0 = .ok (.iload_n 0, 1) := by decide +kernel
theorem d_Integer_bitCount_1 : decode prog_17_method_49_code 1 = .ok (.iload_n 0, 1) := by decide +kernel
theorem d_Integer_bitCount_2 : decode prog_17_method_49_code 2 = .ok (.iconst 1, 1) := by decide +kernel
theorem d_Integer_bitCount_3 : decode prog_17_method_49_code 3 = .ok (.iushr, 1) := by decide +kernel
theorem d_Integer_bitCount_4 : decode prog_17_method_49_code 4 = .ok (.ldc_w 265, 3) := by decide +kernel
theorem d_Integer_bitCount_7 : decode prog_17_method_49_code 7 = .ok (.iand, 1) := by decide +kernel
theorem d_Integer_bitCount_8 : decode prog_17_method_49_code 8 = .ok (.isub, 1) := by decide +kernel
theorem d_Integer_bitCount_9 : decode prog_17_method_49_code 9 = .ok (.istore_n 0, 1) := by decide +kernel
theorem d_Integer_bitCount_10 : decode prog_17_method_49_code 10 = .ok (.iload_n 0, 1) := by decide +kernel
theorem d_Integer_bitCount_11 : decode prog_17_method_49_code 11 = .ok (.ldc_w 266, 3) := by decide +kernel
theorem d_Integer_bitCount_14 : decode prog_17_method_49_code 14 = .ok (.iand, 1) := by decide +kernel
theorem d_Integer_bitCount_15 : decode prog_17_method_49_code 15 = .ok (.iload_n 0, 1) := by decide +kernel
theorem d_Integer_bitCount_16 : decode prog_17_method_49_code 16 = .ok (.iconst 2, 1) := by decide +kernel
theorem d_Integer_bitCount_17 : decode prog_17_method_49_code 17 = .ok (.iushr, 1) := by decide +kernel
theorem d_Integer_bitCount_18 : decode prog_17_method_49_code 18 = .ok (.ldc_w 266, 3) := by decide +kernel
theorem d_Integer_bitCount_21 : decode prog_17_method_49_code 21 = .ok (.iand, 1) := by decide +kernel
theorem d_Integer_bitCount_22 : decode prog_17_method_49_code 22 = .ok (.iadd, 1) := by decide +kernel
theorem d_Integer_bitCount_23 : decode prog_17_method_49_code 23 = .ok (.istore_n 0, 1) := by decide +kernel
theorem d_Integer_bitCount_24 : decode prog_17_method_49_code 24 = .ok (.iload_n 0, 1) := by decide +kernel
theorem d_Integer_bitCount_25 : decode prog_17_method_49_code 25 = .ok (.iload_n 0, 1) := by decide +kernel
theorem d_Integer_bitCount_26 : decode prog_17_method_49_code 26 = .ok (.iconst 4, 1) := by decide +kernel
theorem d_Integer_bitCount_27 : decode prog_17_method_49_code 27 = .ok (.iushr, 1) := by decide +kernel
theorem d_Integer_bitCount_28 : decode prog_17_method_49_code 28 = .ok (.iadd, 1) := by decide +kernel
theorem d_Integer_bitCount_29 : decode prog_17_method_49_code 29 = .ok (.ldc_w 267, 3) := by decide +kernel
theorem d_Integer_bitCount_32 : decode prog_17_method_49_code 32 = .ok (.iand, 1) := by decide +kernel
theorem d_Integer_bitCount_33 : decode prog_17_method_49_code 33 = .ok (.istore_n 0, 1) := by decide +kernel
theorem d_Integer_bitCount_34 : decode prog_17_method_49_code 34 = .ok (.iload_n 0, 1) := by decide +kernel
theorem d_Integer_bitCount_35 : decode prog_17_method_49_code 35 = .ok (.iload_n 0, 1) := by decide +kernel
theorem d_Integer_bitCount_36 : decode prog_17_method_49_code 36 = .ok (.bipush 8, 2) := by decide +kernel
theorem d_Integer_bitCount_38 : decode prog_17_method_49_code 38 = .ok (.iushr, 1) := by decide +kernel
theorem d_Integer_bitCount_39 : decode prog_17_method_49_code 39 = .ok (.iadd, 1) := by decide +kernel
theorem d_Integer_bitCount_40 : decode prog_17_method_49_code 40 = .ok (.istore_n 0, 1) := by decide +kernel
theorem d_Integer_bitCount_41 : decode prog_17_method_49_code 41 = .ok (.iload_n 0, 1) := by decide +kernel
theorem d_Integer_bitCount_42 : decode prog_17_method_49_code 42 = .ok (.iload_n 0, 1) := by decide +kernel
theorem d_Integer_bitCount_43 : decode prog_17_method_49_code 43 = .ok (.bipush 16, 2) := by decide +kernel
theorem d_Integer_bitCount_45 : decode prog_17_method_49_code 45 = .ok (.iushr, 1) := by decide +kernel
theorem d_Integer_bitCount_46 : decode prog_17_method_49_code 46 = .ok (.iadd, 1) := by decide +kernel
theorem d_Integer_bitCount_47 : decode prog_17_method_49_code 47 = .ok (.istore_n 0, 1) := by decide +kernel
theorem d_Integer_bitCount_48 : decode prog_17_method_49_code 48 = .ok (.iload_n 0, 1) := by decide +kernel
theorem d_Integer_bitCount_49 : decode prog_17_method_49_code 49 = .ok (.bipush 63, 2) := by decide +kernel
theorem d_Integer_bitCount_51 : decode prog_17_method_49_code 51 = .ok (.iand, 1) := by decide +kernel
theorem d_Integer_bitCount_52 : decode prog_17_method_49_code 52 = .ok (.ireturn, 1) := by decide +kernel
abbrev m_c1_Integer_bitCount : Room := { frames := 0, cells := 0, slots := 0, locals := 0 }
set_option maxHeartbeats 4000000 in
set_option maxRecDepth 100000 in
theorem c1_Integer_bitCount (l : Launch) (G : zG)   : zM l G y_Integer_bitCount prog_17_method_49_code 1 (Option.some Jvm.ClassFile.FieldType.int) m_c1_Integer_bitCount [.int 0] [] (fun v w => (v = some (.int 0) ∧ w = [])) := by
  refine z_start (by decide +kernel) (Nat.le_of_ble_eq_true rfl) ?_
  intro p e s m below meth c A Z hr hnm hA hP hD hS ls hl
  have Z : zC p s m _ meth c prog_17_method_49_code 1 "java/lang/Integer" G := Z
  obtain ⟨hx, hb, hml, hown, hts, hK, hN, hlocks⟩ := id Z
  have hl : lv_has ls 1 [(0, .int 0)] := hl
  refine lv_iload_n hx hb d_Integer_bitCount_0 rfl (lv_at hl 0 rfl) ?_
  refine lv_iload_n hx hb d_Integer_bitCount_1 rfl (lv_at hl 0 rfl) ?_
  refine lv_iconst (v := 1) hx hb d_Integer_bitCount_2 (by decide) ?_
  refine lv_iushr (v := 0) hx hb d_Integer_bitCount_3 (by decide +kernel) ?_
  refine lv_ldcw hx hb hown (hts _ q792) d_Integer_bitCount_4 ?_
  refine lv_iand hx hb d_Integer_bitCount_7 ?_
  refine z_topi (y := 0) (by decide +kernel) ?_
  refine lv_isub hx hb d_Integer_bitCount_8 ?_
  refine z_topi (y := 0) (by decide +kernel) ?_
  refine lv_istore_n (lv' := [(0, .int 0)]) hx hb d_Integer_bitCount_9 rfl hl (by decide) rfl (fun ls hl => ?_)
  refine lv_iload_n hx hb d_Integer_bitCount_10 rfl (lv_at hl 0 rfl) ?_
  refine lv_ldcw hx hb hown (hts _ q793) d_Integer_bitCount_11 ?_
  refine lv_iand hx hb d_Integer_bitCount_14 ?_
  refine z_topi (y := 0) (by decide +kernel) ?_
  refine lv_iload_n hx hb d_Integer_bitCount_15 rfl (lv_at hl 0 rfl) ?_
  refine lv_iconst (v := 2) hx hb d_Integer_bitCount_16 (by decide) ?_
  refine lv_iushr (v := 0) hx hb d_Integer_bitCount_17 (by decide +kernel) ?_
  refine lv_ldcw hx hb hown (hts _ q793) d_Integer_bitCount_18 ?_
  refine lv_iand hx hb d_Integer_bitCount_21 ?_
  refine z_topi (y := 0) (by decide +kernel) ?_
  refine lv_iadd hx hb d_Integer_bitCount_22 ?_
  refine z_topi (y := 0) (by decide +kernel) ?_
  refine lv_istore_n (lv' := [(0, .int 0)]) hx hb d_Integer_bitCount_23 rfl hl (by decide) rfl (fun ls hl => ?_)
  refine lv_iload_n hx hb d_Integer_bitCount_24 rfl (lv_at hl 0 rfl) ?_
  refine lv_iload_n hx hb d_Integer_bitCount_25 rfl (lv_at hl 0 rfl) ?_
  refine lv_iconst (v := 4) hx hb d_Integer_bitCount_26 (by decide) ?_
  refine lv_iushr (v := 0) hx hb d_Integer_bitCount_27 (by decide +kernel) ?_
  refine lv_iadd hx hb d_Integer_bitCount_28 ?_
  refine z_topi (y := 0) (by decide +kernel) ?_
  refine lv_ldcw hx hb hown (hts _ q794) d_Integer_bitCount_29 ?_
  refine lv_iand hx hb d_Integer_bitCount_32 ?_
  refine z_topi (y := 0) (by decide +kernel) ?_
  refine lv_istore_n (lv' := [(0, .int 0)]) hx hb d_Integer_bitCount_33 rfl hl (by decide) rfl (fun ls hl => ?_)
  refine lv_iload_n hx hb d_Integer_bitCount_34 rfl (lv_at hl 0 rfl) ?_
  refine lv_iload_n hx hb d_Integer_bitCount_35 rfl (lv_at hl 0 rfl) ?_
  refine lv_bipush (v := 8) hx hb d_Integer_bitCount_36 (by decide) ?_
  refine lv_iushr (v := 0) hx hb d_Integer_bitCount_38 (by decide +kernel) ?_
  refine lv_iadd hx hb d_Integer_bitCount_39 ?_
  refine z_topi (y := 0) (by decide +kernel) ?_
  refine lv_istore_n (lv' := [(0, .int 0)]) hx hb d_Integer_bitCount_40 rfl hl (by decide) rfl (fun ls hl => ?_)
  refine lv_iload_n hx hb d_Integer_bitCount_41 rfl (lv_at hl 0 rfl) ?_
  refine lv_iload_n hx hb d_Integer_bitCount_42 rfl (lv_at hl 0 rfl) ?_
  refine lv_bipush (v := 16) hx hb d_Integer_bitCount_43 (by decide) ?_
  refine lv_iushr (v := 0) hx hb d_Integer_bitCount_45 (by decide +kernel) ?_
  refine lv_iadd hx hb d_Integer_bitCount_46 ?_
  refine z_topi (y := 0) (by decide +kernel) ?_
  refine lv_istore_n (lv' := [(0, .int 0)]) hx hb d_Integer_bitCount_47 rfl hl (by decide) rfl (fun ls hl => ?_)
  refine lv_iload_n hx hb d_Integer_bitCount_48 rfl (lv_at hl 0 rfl) ?_
  refine lv_bipush (v := 63) hx hb d_Integer_bitCount_49 (by decide) ?_
  refine lv_iand hx hb d_Integer_bitCount_51 ?_
  refine z_topi (y := 0) (by decide +kernel) ?_
  exact z_iret hx hb hr hlocks hP hD hS (Nat.le_of_ble_eq_true rfl) (Nat.le_of_ble_eq_true rfl) d_Integer_bitCount_52 ⟨rfl, rfl⟩
theorem d_X_cover_4 : decode prog_1_method_15_code 4 = .ok (.iload_n 1, 1) := by decide +kernel
theorem d_X_cover_5 : decode prog_1_method_15_code 5 = .ok (.iconst 1, 1) := by decide +kernel
theorem d_X_cover_6 : decode prog_1_method_15_code 6 = .ok (.if_icmp .eq 5, 3) := by decide +kernel
theorem d_X_cover_9 : decode prog_1_method_15_code 9 = .ok (.iconst (-1), 1) := by decide +kernel
theorem d_X_cover_10 : decode prog_1_method_15_code 10 = .ok (.ireturn, 1) := by decide +kernel
theorem d_X_cover_63 : decode prog_1_method_15_code 63 = .ok (.goto 10, 3) := by decide +kernel
theorem d_X_cover_66 : decode prog_1_method_15_code 66 = .ok (.aload_n 0, 1) := by decide +kernel
theorem d_X_cover_67 : decode prog_1_method_15_code 67 = .ok (.getfield 91, 3) := by decide +kernel
theorem d_X_cover_70 : decode prog_1_method_15_code 70 = .ok (.getfield 266, 3) := by decide +kernel
theorem d_X_cover_73 : decode prog_1_method_15_code 73 = .ok (.ireturn, 1) := by decide +kernel
abbrev m_t_X_cover : Room := { frames := 4, cells := 0, slots := 0, locals := 95 }
set_option maxHeartbeats 4000000 in
set_option maxRecDepth 100000 in
theorem t_X_cover (l : Launch) (G : zG) (b0 : Nat) (p0 : Int32) (b2 : Nat) (b3 : Nat) (b4 : Nat) (b5 : Nat) (b6 : Nat) (b7 : Nat) (b8 : Nat) (b9 : Nat) (b10 : Nat) (b11 : Nat) (b12 : Nat) (b13 : Nat) (b14 : Nat) (b15 : Nat) (b16 : Nat) (b17 : Nat) (b18 : Nat) (b19 : Nat) (b20 : Nat) (b21 : Nat) (b22 : Nat) (b23 : Nat) (b24 : Nat) (b25 : Nat) (b26 : Nat) (b27 : Nat) (b28 : Nat) (b29 : Nat) (b30 : Nat) (b31 : Nat) (b32 : Nat) (b33 : Nat) (b34 : Nat) (b35 : Nat) (b36 : Nat) (b37 : Nat) (b38 : Nat) (b39 : Nat) (b40 : Nat) (b41 : Nat) (b42 : Nat) (b43 : Nat) (b44 : Nat) (b45 : Nat) (b46 : Nat) (b47 : Nat) (b48 : Nat) (b49 : Nat) (b50 : Nat)  : zM l G y_X_cover prog_1_method_15_code 3 (Option.some Jvm.ClassFile.FieldType.int) m_t_X_cover [.ref b0, .int p0] [(b0, .inr (0, [.ref b2, .ref b3, .ref b4, .ref b5, .int 0, .int 0, .ref b6, .ref b7, .ref b8, .ref b9, .ref b10, .ref b11, .ref b12, .ref b13, .ref b14, .ref b15, .ref b16, .ref b17, .ref b18, .ref b19])), (b3, .inr (2, [.int 0, .int 1, .int 0, .ref b20, .ref b21, .ref b22])), (b9, .inl (G.2 6, 4, .inr (.inr (.inr (.inr (va_up (va_up (va_up (va_up (fun _ => none) 0 (some b23)) 1 (some b24)) 2 (some b25)) 3 (some b26))))))), (b7, .inr (3, [.int 0, .int 0, .int 0, .ref b27, .ref b28, .ref b29, .ref b30, .ref b31, .ref b32, .ref b33, .ref b34])), (b24, .inr (5, [.int 0, .int 0, .ref b35, .ref b36, .ref b37, .ref b38, .ref b39, .ref b40, .int 0, .ref b41, .ref b42, .ref b43, .ref b44, .ref b45, .ref b46])), (b8, .inr (4, [.ref b47, .ref b48, .ref b49])), (b49, .inl (G.2 0, 512, .inl (fun _ => 0))), (b40, .inl (G.2 1, 4, .inr (.inl (fun _ => 0)))), (b45, .inl (G.2 0, 242, .inl (fun _ => 0))), (b16, .inr (9, [.int 0, .int 0, .int 0, .ref b50, .int 0])), (b50, .inl (G.2 0, 240, .inl (fun _ => 0)))] (fun v _ => v = some (.int (a_cover p0))) := by
  refine z_start (by decide +kernel) (Nat.le_of_ble_eq_true rfl) ?_
  intro p e s m below meth c A Z hr hnm hA hP hD hS ls hl
  have Z : zC p s m _ meth c prog_1_method_15_code 3 "TraceMachines" G := Z
  obtain ⟨hx, hb, hml, hown, hts, hK, hN, hlocks⟩ := id Z
  have hl : lv_has ls 3 [(0, .ref b0), (1, .int p0)] := hl
  refine lv_iload_n hx hb d_X_cover_0 rfl (lv_at hl 1 rfl) ?_
  refine lv_if_eq (tgt := 11) hx hb d_X_cover_1 (by decide) (fun hc_1 => ?_) (fun hc_1 => ?_)
  · simp only [fa_lt, fa_le, fa_eq, Int32.toInt_toInt64, li_0] at hc_1
    refine lv_aload_n hx hb d_X_cover_11 rfl (lv_at hl 0 rfl) ?_
    refine lv_aload_n hx hb d_X_cover_12 rfl (lv_at hl 0 rfl) ?_
    refine va_get (D := G.1) (ci := 0) (v := .ref b3) (C := R_X) (T := F_X) (N := 20) hx hb hts i_X hown hK hP 0 rfl rfl 1 (by decide) (hts _ q418) (fun _ h9 => h9) rfl d_X_cover_13 ?_
    refine va_get (D := G.1) (ci := 2) (v := .int 1) (C := R_Traces) (T := F_Traces) (N := 6) hx hb hts i_Traces hown hK hP 1 rfl rfl 1 (by decide) (hts _ q60) (fun _ h9 => h9) rfl d_X_cover_16 ?_
    refine z_callV (index := 189) (As := [.int 1]) (rest := []) (wr := [(b16, .inr (9, [.int 0, .int 0, .int 0, .ref b50, .int 0])), (b50, .inl (G.2 0, 240, .inl (fun _ => 0)))]) Z (c1_X_machine l G (b0) (b2) (b3) (b4) (b5) (b6) (b7) (b8) (b9) (b10) (b11) (b12) (b13) (b14) (b15) (b16) (b17) (b18) (b19) (b23) (b24) (b25) (b26) (b27) (b28) (b29) (b30) (b31) (b32) (b33) (b34) (b20) (b21) (b22) (b35) (b36) (b37) (b38) (b39) (b40) (b41) (b42) (b43) (b44) (b45) (b46) (b47) (b48) (b49)) hl.1 q563 q565 qs2 q1 q566 ⟨by decide, by decide, by show _ = some 1; decide +kernel⟩ ⟨Nat.le_of_ble_eq_true rfl, Nat.le_of_ble_eq_true rfl⟩ ⟨Nat.le_of_ble_eq_true rfl, Nat.le_of_ble_eq_true rfl⟩ rfl (Nat.le_of_ble_eq_true rfl) d_X_cover_19 hP hD hS hA 0 0 rfl rfl rfl [0, 2, 3, 1, 4, 5, 6, 7, 8] [9, 10] rfl rfl rfl rfl (by decide) (fun v w1 H locs hw_2 hP hD hS => ?_)
    obtain ⟨rfl, rfl⟩ := hw_2
    have hP : va_P G.1 classes [(b16, .inr (9, [.int 0, .int 0, .int 0, .ref b50, .int 0])), (b50, .inl (G.2 0, 240, .inl (fun _ => 0))), (b0, .inr (0, [.ref b2, .ref b3, .ref b4, .ref b5, .int 0, .int 0, .ref b6, .ref b7, .ref b8, .ref b9, .ref b10, .ref b11, .ref b12, .ref b13, .ref b14, .ref b15, .ref b16, .ref b17, .ref b18, .ref b19])), (b9, .inl (G.2 6, 4, .inr (.inr (.inr (.inr (va_up (va_up (va_up (va_up (fun _ => none) 0 (some b23)) 1 (some b24)) 2 (some b25)) 3 (some b26))))))), (b8, .inr (4, [.ref b47, .ref b48, .ref b49])), (b3, .inr (2, [.int 0, .int 1, .int 0, .ref b20, .ref b21, .ref b22])), (b49, .inl (G.2 0, 512, .inl (fun _ => (-1)))), (b40, .inl (G.2 1, 4, .inr (.inl (fun _ => 0)))), (b7, .inr (3, [.int 1, .int (-1), .int 0, .ref b27, .ref b28, .ref b29, .ref b30, .ref b31, .ref b32, .ref b33, .ref b34])), (b24, .inr (5, [.int 1, .int 0, .ref b35, .ref b36, .ref b37, .ref b38, .ref b39, .ref b40, .int 0, .ref b41, .ref b42, .ref b43, .ref b44, .ref b45, .ref b46])), (b45, .inl (G.2 0, 242, .inl (upd (fun _ => 0) 0 0)))] H := hP
    have hD := z_tie hP hD rfl
    refine W.widen (k := 0) (n := 0) (Nat.le_of_ble_eq_true rfl) (Nat.le_of_ble_eq_true rfl) ?_
    refine lv_astore_n (lv' := [(2, .ref b24), (0, .ref b0), (1, .int p0)]) hx hb d_X_cover_22 rfl hl (by decide) rfl (fun ls hl => ?_)
    refine lv_aload_n hx hb d_X_cover_23 rfl (lv_at hl 1 rfl) ?_
    refine va_get (D := G.1) (ci := 0) (v := .ref b16) (C := R_X) (T := F_X) (N := 20) hx hb hts i_X hown hK hP 2 rfl rfl 16 (by decide) (hts _ q433) (fun _ h9 => h9) rfl d_X_cover_24 ?_
    refine va_get (D := G.1) (ci := 9) (v := .int 0) (C := R_Cover) (T := F_Cover) (N := 5) hx hb hts i_Cover hown hK hP 0 rfl rfl 0 (by decide) (hts _ q340) (fun _ h9 => h9) rfl d_X_cover_27 ?_
    refine lv_if_ne (tgt := 49) hx hb d_X_cover_30 (by decide) (fun hc => absurd hc (by decide +kernel)) (fun _ => ?_)
    refine lv_aload_n hx hb d_X_cover_33 rfl (lv_at hl 1 rfl) ?_
    refine va_get (D := G.1) (ci := 0) (v := .ref b16) (C := R_X) (T := F_X) (N := 20) hx hb hts i_X hown hK hP 2 rfl rfl 16 (by decide) (hts _ q433) (fun _ h9 => h9) rfl d_X_cover_34 ?_
    refine lv_aload_n hx hb d_X_cover_37 rfl (lv_at hl 1 rfl) ?_
    refine va_get (D := G.1) (ci := 0) (v := .ref b3) (C := R_X) (T := F_X) (N := 20) hx hb hts i_X hown hK hP 2 rfl rfl 1 (by decide) (hts _ q418) (fun _ h9 => h9) rfl d_X_cover_38 ?_
    refine lv_aload_n hx hb d_X_cover_41 rfl (lv_at hl 1 rfl) ?_
    refine va_get (D := G.1) (ci := 0) (v := .ref b7) (C := R_X) (T := F_X) (N := 20) hx hb hts i_X hown hK hP 2 rfl rfl 7 (by decide) (hts _ q424) (fun _ h9 => h9) rfl d_X_cover_42 ?_
    refine lv_aload_n hx hb d_X_cover_45 rfl (lv_at hl 0 rfl) ?_
    refine z_callV (index := 262) (As := [.ref b3, .ref b7, .ref b24]) (rest := []) (wr := [(b0, .inr (0, [.ref b2, .ref b3, .ref b4, .ref b5, .int 0, .int 0, .ref b6, .ref b7, .ref b8, .ref b9, .ref b10, .ref b11, .ref b12, .ref b13, .ref b14, .ref b15, .ref b16, .ref b17, .ref b18, .ref b19])), (b9, .inl (G.2 6, 4, .inr (.inr (.inr (.inr (va_up (va_up (va_up (va_up (fun _ => none) 0 (some b23)) 1 (some b24)) 2 (some b25)) 3 (some b26))))))), (b8, .inr (4, [.ref b47, .ref b48, .ref b49])), (b49, .inl (G.2 0, 512, .inl (fun _ => (-1)))), (b40, .inl (G.2 1, 4, .inr (.inl (fun _ => 0)))), (b7, .inr (3, [.int 1, .int (-1), .int 0, .ref b27, .ref b28, .ref b29, .ref b30, .ref b31, .ref b32, .ref b33, .ref b34])), (b45, .inl (G.2 0, 242, .inl (upd (fun _ => 0) 0 0)))]) Z (c1_Cover_find l G (b16) (b3) (b7) (b24) (b50) (b35) (b36) (b37) (b38) (b39) (b40) (b41) (b42) (b43) (b44) (b45) (b46) (b20) (b21) (b22)) hl.1 q763 q764 q765 q10 q766 ⟨by decide, by decide, by show _ = some 3; decide +kernel⟩ ⟨Nat.le_of_ble_eq_true rfl, Nat.le_of_ble_eq_true rfl⟩ ⟨Nat.le_of_ble_eq_true rfl, Nat.le_of_ble_eq_true rfl⟩ rfl (Nat.le_of_ble_eq_true rfl) d_X_cover_46 hP hD hS hA 0 9 rfl rfl rfl [0, 9, 1, 5] [2, 3, 4, 6, 7, 8, 10] rfl rfl rfl rfl (by decide) (fun v w1 H locs hw_3 hP hD hS => ?_)
    obtain ⟨rfl, rfl⟩ := hw_3
    have hP : va_P G.1 classes [(b0, .inr (0, [.ref b2, .ref b3, .ref b4, .ref b5, .int 0, .int 0, .ref b6, .ref b7, .ref b8, .ref b9, .ref b10, .ref b11, .ref b12, .ref b13, .ref b14, .ref b15, .ref b16, .ref b17, .ref b18, .ref b19])), (b9, .inl (G.2 6, 4, .inr (.inr (.inr (.inr (va_up (va_up (va_up (va_up (fun _ => none) 0 (some b23)) 1 (some b24)) 2 (some b25)) 3 (some b26))))))), (b8, .inr (4, [.ref b47, .ref b48, .ref b49])), (b49, .inl (G.2 0, 512, .inl (fun _ => (-1)))), (b40, .inl (G.2 1, 4, .inr (.inl (fun _ => 0)))), (b7, .inr (3, [.int 1, .int (-1), .int 0, .ref b27, .ref b28, .ref b29, .ref b30, .ref b31, .ref b32, .ref b33, .ref b34])), (b45, .inl (G.2 0, 242, .inl (upd (fun _ => 0) 0 0))), (b24, .inr (5, [.int 1, .int 0, .ref b35, .ref b36, .ref b37, .ref b38, .ref b39, .ref b40, .int 0, .ref b41, .ref b42, .ref b43, .ref b44, .ref b45, .ref b46])), (b3, .inr (2, [.int 0, .int 1, .int 0, .ref b20, .ref b21, .ref b22])), (b50, .inl (G.2 0, 240, .inl (fun _ => 0))), (b16, .inr (9, [.int 1, .int 0, .int 0, .ref b50, .int 0]))] H := hP
    have hD := z_tie hP hD rfl
    refine W.widen (k := 0) (n := 0) (Nat.le_of_ble_eq_true rfl) (Nat.le_of_ble_eq_true rfl) ?_
    refine lv_iload_n hx hb d_X_cover_49 rfl (lv_at hl 2 rfl) ?_
    refine lv_if_ne (tgt := 66) hx hb d_X_cover_50 (by decide) (fun hc => absurd hc (by intro hc; simp only [fa_lt, fa_le, fa_eq, Int32.toInt_toInt64, li_0] at hc; omega)) (fun _ => ?_)
    refine lv_aload_n hx hb d_X_cover_53 rfl (lv_at hl 1 rfl) ?_
    refine va_get (D := G.1) (ci := 0) (v := .ref b16) (C := R_X) (T := F_X) (N := 20) hx hb hts i_X hown hK hP 0 rfl rfl 16 (by decide) (hts _ q433) (fun _ h9 => h9) rfl d_X_cover_54 ?_
    refine va_get (D := G.1) (ci := 9) (v := .int 0) (C := R_Cover) (T := F_Cover) (N := 5) hx hb hts i_Cover hown hK hP 10 rfl rfl 1 (by decide) (hts _ q342) (fun _ h9 => h9) rfl d_X_cover_57 ?_
    refine z_callS (index := 269) (As := [.int 0]) (rest := []) (wr := [(b0, .inr (0, [.ref b2, .ref b3, .ref b4, .ref b5, .int 0, .int 0, .ref b6, .ref b7, .ref b8, .ref b9, .ref b10, .ref b11, .ref b12, .ref b13, .ref b14, .ref b15, .ref b16, .ref b17, .ref b18, .ref b19])), (b9, .inl (G.2 6, 4, .inr (.inr (.inr (.inr (va_up (va_up (va_up (va_up (fun _ => none) 0 (some b23)) 1 (some b24)) 2 (some b25)) 3 (some b26))))))), (b8, .inr (4, [.ref b47, .ref b48, .ref b49])), (b49, .inl (G.2 0, 512, .inl (fun _ => (-1)))), (b40, .inl (G.2 1, 4, .inr (.inl (fun _ => 0)))), (b7, .inr (3, [.int 1, .int (-1), .int 0, .ref b27, .ref b28, .ref b29, .ref b30, .ref b31, .ref b32, .ref b33, .ref b34])), (b45, .inl (G.2 0, 242, .inl (upd (fun _ => 0) 0 0))), (b24, .inr (5, [.int 1, .int 0, .ref b35, .ref b36, .ref b37, .ref b38, .ref b39, .ref b40, .int 0, .ref b41, .ref b42, .ref b43, .ref b44, .ref b45, .ref b46])), (b3, .inr (2, [.int 0, .int 1, .int 0, .ref b20, .ref b21, .ref b22])), (b50, .inl (G.2 0, 240, .inl (fun _ => 0))), (b16, .inr (9, [.int 1, .int 0, .int 0, .ref b50, .int 0]))]) Z (c1_Integer_bitCount l G ) hl.1 q795 q790 q22 q791 ⟨by decide, by decide, by show _ = some 1; decide +kernel⟩ ⟨Nat.le_of_ble_eq_true rfl, Nat.le_of_ble_eq_true rfl⟩ ⟨Nat.le_of_ble_eq_true rfl, Nat.le_of_ble_eq_true rfl⟩ rfl (Nat.le_of_ble_eq_true rfl) d_X_cover_60 hP hD hS hA [] [0, 1, 2, 3, 4, 5, 6, 7, 8, 9, 10] rfl rfl rfl rfl (by decide) (fun v w1 H locs hw_4 hP hD hS => ?_)
    obtain ⟨rfl, rfl⟩ := hw_4
    have hP : va_P G.1 classes [(b0, .inr (0, [.ref b2, .ref b3, .ref b4, .ref b5, .int 0, .int 0, .ref b6, .ref b7, .ref b8, .ref b9, .ref b10, .ref b11, .ref b12, .ref b13, .ref b14, .ref b15, .ref b16, .ref b17, .ref b18, .ref b19])), (b9, .inl (G.2 6, 4, .inr (.inr (.inr (.inr (va_up (va_up (va_up (va_up (fun _ => none) 0 (some b23)) 1 (some b24)) 2 (some b25)) 3 (some b26))))))), (b8, .inr (4, [.ref b47, .ref b48, .ref b49])), (b49, .inl (G.2 0, 512, .inl (fun _ => (-1)))), (b40, .inl (G.2 1, 4, .inr (.inl (fun _ => 0)))), (b7, .inr (3, [.int 1, .int (-1), .int 0, .ref b27, .ref b28, .ref b29, .ref b30, .ref b31, .ref b32, .ref b33, .ref b34])), (b45, .inl (G.2 0, 242, .inl (upd (fun _ => 0) 0 0))), (b24, .inr (5, [.int 1, .int 0, .ref b35, .ref b36, .ref b37, .ref b38, .ref b39, .ref b40, .int 0, .ref b41, .ref b42, .ref b43, .ref b44, .ref b45, .ref b46])), (b3, .inr (2, [.int 0, .int 1, .int 0, .ref b20, .ref b21, .ref b22])), (b50, .inl (G.2 0, 240, .inl (fun _ => 0))), (b16, .inr (9, [.int 1, .int 0, .int 0, .ref b50, .int 0]))] H := hP
    have hD := z_tie hP hD rfl
    refine W.widen (k := 0) (n := 0) (Nat.le_of_ble_eq_true rfl) (Nat.le_of_ble_eq_true rfl) ?_
    refine lv_goto (tgt := 73) hx hb d_X_cover_63 (by decide) ?_
    exact z_iret hx hb hr hlocks hP hD hS (Nat.le_of_ble_eq_true rfl) (Nat.le_of_ble_eq_true rfl) d_X_cover_73 (congrArg (fun z => some (Value.int z)) (by unfold a_cover; (first | rfl | (repeat (first | rw [if_pos (by omega)] | rw [if_neg (by omega)])))))
  · simp only [fa_lt, fa_le, fa_eq, Int32.toInt_toInt64, li_0] at hc_1
    refine lv_iload_n hx hb d_X_cover_4 rfl (lv_at hl 1 rfl) ?_
    refine lv_iconst (v := 1) hx hb d_X_cover_5 (by decide) ?_
    refine lv_icmp_eq (tgt := 11) hx hb d_X_cover_6 (by decide) (fun hc_5 => ?_) (fun hc_5 => ?_)
    · simp only [fa_lt, fa_le, fa_eq, Int32.toInt_toInt64, li_1] at hc_5
      refine lv_aload_n hx hb d_X_cover_11 rfl (lv_at hl 0 rfl) ?_
      refine lv_aload_n hx hb d_X_cover_12 rfl (lv_at hl 0 rfl) ?_
      refine va_get (D := G.1) (ci := 0) (v := .ref b3) (C := R_X) (T := F_X) (N := 20) hx hb hts i_X hown hK hP 0 rfl rfl 1 (by decide) (hts _ q418) (fun _ h9 => h9) rfl d_X_cover_13 ?_
      refine va_get (D := G.1) (ci := 2) (v := .int 1) (C := R_Traces) (T := F_Traces) (N := 6) hx hb hts i_Traces hown hK hP 1 rfl rfl 1 (by decide) (hts _ q60) (fun _ h9 => h9) rfl d_X_cover_16 ?_
      refine z_callV (index := 189) (As := [.int 1]) (rest := []) (wr := [(b16, .inr (9, [.int 0, .int 0, .int 0, .ref b50, .int 0])), (b50, .inl (G.2 0, 240, .inl (fun _ => 0)))]) Z (c1_X_machine l G (b0) (b2) (b3) (b4) (b5) (b6) (b7) (b8) (b9) (b10) (b11) (b12) (b13) (b14) (b15) (b16) (b17) (b18) (b19) (b23) (b24) (b25) (b26) (b27) (b28) (b29) (b30) (b31) (b32) (b33) (b34) (b20) (b21) (b22) (b35) (b36) (b37) (b38) (b39) (b40) (b41) (b42) (b43) (b44) (b45) (b46) (b47) (b48) (b49)) hl.1 q563 q565 qs2 q1 q566 ⟨by decide, by decide, by show _ = some 1; decide +kernel⟩ ⟨Nat.le_of_ble_eq_true rfl, Nat.le_of_ble_eq_true rfl⟩ ⟨Nat.le_of_ble_eq_true rfl, Nat.le_of_ble_eq_true rfl⟩ rfl (Nat.le_of_ble_eq_true rfl) d_X_cover_19 hP hD hS hA 0 0 rfl rfl rfl [0, 2, 3, 1, 4, 5, 6, 7, 8] [9, 10] rfl rfl rfl rfl (by decide) (fun v w1 H locs hw_6 hP hD hS => ?_)
      obtain ⟨rfl, rfl⟩ := hw_6
      have hP : va_P G.1 classes [(b16, .inr (9, [.int 0, .int 0, .int 0, .ref b50, .int 0])), (b50, .inl (G.2 0, 240, .inl (fun _ => 0))), (b0, .inr (0, [.ref b2, .ref b3, .ref b4, .ref b5, .int 0, .int 0, .ref b6, .ref b7, .ref b8, .ref b9, .ref b10, .ref b11, .ref b12, .ref b13, .ref b14, .ref b15, .ref b16, .ref b17, .ref b18, .ref b19])), (b9, .inl (G.2 6, 4, .inr (.inr (.inr (.inr (va_up (va_up (va_up (va_up (fun _ => none) 0 (some b23)) 1 (some b24)) 2 (some b25)) 3 (some b26))))))), (b8, .inr (4, [.ref b47, .ref b48, .ref b49])), (b3, .inr (2, [.int 0, .int 1, .int 0, .ref b20, .ref b21, .ref b22])), (b49, .inl (G.2 0, 512, .inl (fun _ => (-1)))), (b40, .inl (G.2 1, 4, .inr (.inl (fun _ => 0)))), (b7, .inr (3, [.int 1, .int (-1), .int 0, .ref b27, .ref b28, .ref b29, .ref b30, .ref b31, .ref b32, .ref b33, .ref b34])), (b24, .inr (5, [.int 1, .int 0, .ref b35, .ref b36, .ref b37, .ref b38, .ref b39, .ref b40, .int 0, .ref b41, .ref b42, .ref b43, .ref b44, .ref b45, .ref b46])), (b45, .inl (G.2 0, 242, .inl (upd (fun _ => 0) 0 0)))] H := hP
      have hD := z_tie hP hD rfl
      refine W.widen (k := 0) (n := 0) (Nat.le_of_ble_eq_true rfl) (Nat.le_of_ble_eq_true rfl) ?_
      refine lv_astore_n (lv' := [(2, .ref b24), (0, .ref b0), (1, .int p0)]) hx hb d_X_cover_22 rfl hl (by decide) rfl (fun ls hl => ?_)
      refine lv_aload_n hx hb d_X_cover_23 rfl (lv_at hl 1 rfl) ?_
      refine va_get (D := G.1) (ci := 0) (v := .ref b16) (C := R_X) (T := F_X) (N := 20) hx hb hts i_X hown hK hP 2 rfl rfl 16 (by decide) (hts _ q433) (fun _ h9 => h9) rfl d_X_cover_24 ?_
      refine va_get (D := G.1) (ci := 9) (v := .int 0) (C := R_Cover) (T := F_Cover) (N := 5) hx hb hts i_Cover hown hK hP 0 rfl rfl 0 (by decide) (hts _ q340) (fun _ h9 => h9) rfl d_X_cover_27 ?_
      refine lv_if_ne (tgt := 49) hx hb d_X_cover_30 (by decide) (fun hc => absurd hc (by decide +kernel)) (fun _ => ?_)
      refine lv_aload_n hx hb d_X_cover_33 rfl (lv_at hl 1 rfl) ?_
      refine va_get (D := G.1) (ci := 0) (v := .ref b16) (C := R_X) (T := F_X) (N := 20) hx hb hts i_X hown hK hP 2 rfl rfl 16 (by decide) (hts _ q433) (fun _ h9 => h9) rfl d_X_cover_34 ?_
      refine lv_aload_n hx hb d_X_cover_37 rfl (lv_at hl 1 rfl) ?_
      refine va_get (D := G.1) (ci := 0) (v := .ref b3) (C := R_X) (T := F_X) (N := 20) hx hb hts i_X hown hK hP 2 rfl rfl 1 (by decide) (hts _ q418) (fun _ h9 => h9) rfl d_X_cover_38 ?_
      refine lv_aload_n hx hb d_X_cover_41 rfl (lv_at hl 1 rfl) ?_
      refine va_get (D := G.1) (ci := 0) (v := .ref b7) (C := R_X) (T := F_X) (N := 20) hx hb hts i_X hown hK hP 2 rfl rfl 7 (by decide) (hts _ q424) (fun _ h9 => h9) rfl d_X_cover_42 ?_
      refine lv_aload_n hx hb d_X_cover_45 rfl (lv_at hl 0 rfl) ?_
      refine z_callV (index := 262) (As := [.ref b3, .ref b7, .ref b24]) (rest := []) (wr := [(b0, .inr (0, [.ref b2, .ref b3, .ref b4, .ref b5, .int 0, .int 0, .ref b6, .ref b7, .ref b8, .ref b9, .ref b10, .ref b11, .ref b12, .ref b13, .ref b14, .ref b15, .ref b16, .ref b17, .ref b18, .ref b19])), (b9, .inl (G.2 6, 4, .inr (.inr (.inr (.inr (va_up (va_up (va_up (va_up (fun _ => none) 0 (some b23)) 1 (some b24)) 2 (some b25)) 3 (some b26))))))), (b8, .inr (4, [.ref b47, .ref b48, .ref b49])), (b49, .inl (G.2 0, 512, .inl (fun _ => (-1)))), (b40, .inl (G.2 1, 4, .inr (.inl (fun _ => 0)))), (b7, .inr (3, [.int 1, .int (-1), .int 0, .ref b27, .ref b28, .ref b29, .ref b30, .ref b31, .ref b32, .ref b33, .ref b34])), (b45, .inl (G.2 0, 242, .inl (upd (fun _ => 0) 0 0)))]) Z (c1_Cover_find l G (b16) (b3) (b7) (b24) (b50) (b35) (b36) (b37) (b38) (b39) (b40) (b41) (b42) (b43) (b44) (b45) (b46) (b20) (b21) (b22)) hl.1 q763 q764 q765 q10 q766 ⟨by decide, by decide, by show _ = some 3; decide +kernel⟩ ⟨Nat.le_of_ble_eq_true rfl, Nat.le_of_ble_eq_true rfl⟩ ⟨Nat.le_of_ble_eq_true rfl, Nat.le_of_ble_eq_true rfl⟩ rfl (Nat.le_of_ble_eq_true rfl) d_X_cover_46 hP hD hS hA 0 9 rfl rfl rfl [0, 9, 1, 5] [2, 3, 4, 6, 7, 8, 10] rfl rfl rfl rfl (by decide) (fun v w1 H locs hw_7 hP hD hS => ?_)
      obtain ⟨rfl, rfl⟩ := hw_7
      have hP : va_P G.1 classes [(b0, .inr (0, [.ref b2, .ref b3, .ref b4, .ref b5, .int 0, .int 0, .ref b6, .ref b7, .ref b8, .ref b9, .ref b10, .ref b11, .ref b12, .ref b13, .ref b14, .ref b15, .ref b16, .ref b17, .ref b18, .ref b19])), (b9, .inl (G.2 6, 4, .inr (.inr (.inr (.inr (va_up (va_up (va_up (va_up (fun _ => none) 0 (some b23)) 1 (some b24)) 2 (some b25)) 3 (some b26))))))), (b8, .inr (4, [.ref b47, .ref b48, .ref b49])), (b49, .inl (G.2 0, 512, .inl (fun _ => (-1)))), (b40, .inl (G.2 1, 4, .inr (.inl (fun _ => 0)))), (b7, .inr (3, [.int 1, .int (-1), .int 0, .ref b27, .ref b28, .ref b29, .ref b30, .ref b31, .ref b32, .ref b33, .ref b34])), (b45, .inl (G.2 0, 242, .inl (upd (fun _ => 0) 0 0))), (b24, .inr (5, [.int 1, .int 0, .ref b35, .ref b36, .ref b37, .ref b38, .ref b39, .ref b40, .int 0, .ref b41, .ref b42, .ref b43, .ref b44, .ref b45, .ref b46])), (b3, .inr (2, [.int 0, .int 1, .int 0, .ref b20, .ref b21, .ref b22])), (b50, .inl (G.2 0, 240, .inl (fun _ => 0))), (b16, .inr (9, [.int 1, .int 0, .int 0, .ref b50, .int 0]))] H := hP
      have hD := z_tie hP hD rfl
      refine W.widen (k := 0) (n := 0) (Nat.le_of_ble_eq_true rfl) (Nat.le_of_ble_eq_true rfl) ?_
      refine lv_iload_n hx hb d_X_cover_49 rfl (lv_at hl 2 rfl) ?_
      refine lv_if_ne (tgt := 66) hx hb d_X_cover_50 (by decide) (fun _ => ?_) (fun hc => absurd hc (by intro hc; simp only [fa_lt, fa_le, fa_eq, Int32.toInt_toInt64, li_0] at hc; omega))
      refine lv_aload_n hx hb d_X_cover_66 rfl (lv_at hl 1 rfl) ?_
      refine va_get (D := G.1) (ci := 0) (v := .ref b16) (C := R_X) (T := F_X) (N := 20) hx hb hts i_X hown hK hP 0 rfl rfl 16 (by decide) (hts _ q433) (fun _ h9 => h9) rfl d_X_cover_67 ?_
      refine va_get (D := G.1) (ci := 9) (v := .int 0) (C := R_Cover) (T := F_Cover) (N := 5) hx hb hts i_Cover hown hK hP 10 rfl rfl 1 (by decide) (hts _ q342) (fun _ h9 => h9) rfl d_X_cover_70 ?_
      exact z_iret hx hb hr hlocks hP hD hS (Nat.le_of_ble_eq_true rfl) (Nat.le_of_ble_eq_true rfl) d_X_cover_73 (congrArg (fun z => some (Value.int z)) (by unfold a_cover; (first | rfl | (repeat (first | rw [if_pos (by omega)] | rw [if_neg (by omega)])))))
    · simp only [fa_lt, fa_le, fa_eq, Int32.toInt_toInt64, li_1] at hc_5
      refine lv_iconst (v := (-1)) hx hb d_X_cover_9 (by decide) ?_
      exact z_iret hx hb hr hlocks hP hD hS (Nat.le_of_ble_eq_true rfl) (Nat.le_of_ble_eq_true rfl) d_X_cover_10 (congrArg (fun z => some (Value.int z)) (by unfold a_cover; (first | rfl | (repeat (first | rw [if_pos (by omega)] | rw [if_neg (by omega)])))))
theorem d_X_ways_0 : decode prog_1_method_16_code 0 = .ok (.aload_n 0, 1) := by decide +kernel
theorem d_X_ways_1 : decode prog_1_method_16_code 1 = .ok (.getfield 19, 3) := by decide +kernel
theorem d_X_ways_4 : decode prog_1_method_16_code 4 = .ok (.iload_n 1, 1) := by decide +kernel
theorem d_X_ways_5 : decode prog_1_method_16_code 5 = .ok (.invokevirtual 146, 3) := by decide +kernel
theorem d_X_ways_8 : decode prog_1_method_16_code 8 = .ok (.ifCond .eq 29, 3) := by decide +kernel
theorem d_X_ways_37 : decode prog_1_method_16_code 37 = .ok (.iconst (-1), 1) := by decide +kernel
theorem d_X_ways_38 : decode prog_1_method_16_code 38 = .ok (.ireturn, 1) := by decide +kernel
abbrev m_t_X_ways : Room := { frames := 1, cells := 0, slots := 0, locals := 21 }
set_option maxHeartbeats 4000000 in
set_option maxRecDepth 100000 in
theorem t_X_ways (l : Launch) (G : zG) (b0 : Nat) (p0 : Int32) (b2 : Nat) (b3 : Nat) (b4 : Nat) (b5 : Nat) (b6 : Nat) (b7 : Nat) (b8 : Nat) (b9 : Nat) (b10 : Nat) (b11 : Nat) (b12 : Nat) (b13 : Nat) (b14 : Nat) (b15 : Nat) (b16 : Nat) (b17 : Nat) (b18 : Nat) (b19 : Nat) (b20 : Nat) (b21 : Nat) (b22 : Nat)  : zM l G y_X_ways prog_1_method_16_code 2 (Option.some Jvm.ClassFile.FieldType.int) m_t_X_ways [.ref b0, .int p0] [(b0, .inr (0, [.ref b2, .ref b3, .ref b4, .ref b5, .int 0, .int 0, .ref b6, .ref b7, .ref b8, .ref b9, .ref b10, .ref b11, .ref b12, .ref b13, .ref b14, .ref b15, .ref b16, .ref b17, .ref b18, .ref b19])), (b3, .inr (2, [.int 0, .int 1, .int 0, .ref b20, .ref b21, .ref b22]))] (fun v _ => v = some (.int (a_ways p0))) := by
  refine z_start (by decide +kernel) (Nat.le_of_ble_eq_true rfl) ?_
  intro p e s m below meth c A Z hr hnm hA hP hD hS ls hl
  have Z : zC p s m _ meth c prog_1_method_16_code 2 "TraceMachines" G := Z
  obtain ⟨hx, hb, hml, hown, hts, hK, hN, hlocks⟩ := id Z
  have hl : lv_has ls 2 [(0, .ref b0), (1, .int p0)] := hl
  refine lv_aload_n hx hb d_X_ways_0 rfl (lv_at hl 0 rfl) ?_
  refine va_get (D := G.1) (ci := 0) (v := .ref b3) (C := R_X) (T := F_X) (N := 20) hx hb hts i_X hown hK hP 0 rfl rfl 1 (by decide) (hts _ q418) (fun _ h9 => h9) rfl d_X_ways_1 ?_
  refine lv_iload_n hx hb d_X_ways_4 rfl (lv_at hl 1 rfl) ?_
  refine z_callV (index := 146) (As := [.int p0]) (rest := []) (wr := [(b0, .inr (0, [.ref b2, .ref b3, .ref b4, .ref b5, .int 0, .int 0, .ref b6, .ref b7, .ref b8, .ref b9, .ref b10, .ref b11, .ref b12, .ref b13, .ref b14, .ref b15, .ref b16, .ref b17, .ref b18, .ref b19]))]) Z (c1_Traces_has l G (b3) (p0) (b20) (b21) (b22)) hl.1 q536 q537 q538 q3 q539 ⟨by decide, by decide, by show _ = some 1; decide +kernel⟩ ⟨Nat.le_of_ble_eq_true rfl, Nat.le_of_ble_eq_true rfl⟩ ⟨Nat.le_of_ble_eq_true rfl, Nat.le_of_ble_eq_true rfl⟩ rfl (Nat.le_of_ble_eq_true rfl) d_X_ways_5 hP hD hS hA 1 2 rfl rfl rfl [1] [0] rfl rfl rfl rfl (by decide) (fun v w1 H locs hw_1 hP hD hS => ?_)
  obtain ⟨rfl, rfl⟩ := hw_1
  have hP : va_P G.1 classes [(b0, .inr (0, [.ref b2, .ref b3, .ref b4, .ref b5, .int 0, .int 0, .ref b6, .ref b7, .ref b8, .ref b9, .ref b10, .ref b11, .ref b12, .ref b13, .ref b14, .ref b15, .ref b16, .ref b17, .ref b18, .ref b19])), (b3, .inr (2, [.int 0, .int 1, .int 0, .ref b20, .ref b21, .ref b22]))] H := hP
  have hD := z_tie hP hD rfl
  refine W.widen (k := 0) (n := 0) (Nat.le_of_ble_eq_true rfl) (Nat.le_of_ble_eq_true rfl) ?_
  refine lv_if_eq (tgt := 37) hx hb d_X_ways_8 (by decide) (fun _ => ?_) (fun hc => absurd hc (by decide +kernel))
  refine lv_iconst (v := (-1)) hx hb d_X_ways_37 (by decide) ?_
  exact z_iret hx hb hr hlocks hP hD hS (Nat.le_of_ble_eq_true rfl) (Nat.le_of_ble_eq_true rfl) d_X_ways_38 (congrArg (fun z => some (Value.int z)) (by unfold a_ways; (first | rfl | (repeat (first | rw [if_pos (by omega)] | rw [if_neg (by omega)])))))
theorem d_X_words_0 : decode prog_1_method_17_code 0 = .ok (.iload_n 1, 1) := by decide +kernel
theorem d_X_words_1 : decode prog_1_method_17_code 1 = .ok (.ifCond .lt 31, 3) := by decide +kernel
theorem d_X_words_4 : decode prog_1_method_17_code 4 = .ok (.iload_n 1, 1) := by decide +kernel
theorem d_X_words_5 : decode prog_1_method_17_code 5 = .ok (.bipush 8, 2) := by decide +kernel
theorem d_X_words_7 : decode prog_1_method_17_code 7 = .ok (.if_icmp .gt 25, 3) := by decide +kernel
theorem d_X_words_10 : decode prog_1_method_17_code 10 = .ok (.aload_n 0, 1) := by decide +kernel
theorem d_X_words_11 : decode prog_1_method_17_code 11 = .ok (.getfield 77, 3) := by decide +kernel
theorem d_X_words_14 : decode prog_1_method_17_code 14 = .ok (.aload_n 0, 1) := by decide +kernel
theorem d_X_words_15 : decode prog_1_method_17_code 15 = .ok (.aload_n 0, 1) := by decide +kernel
theorem d_X_words_16 : decode prog_1_method_17_code 16 = .ok (.getfield 19, 3) := by decide +kernel
theorem d_X_words_19 : decode prog_1_method_17_code 19 = .ok (.getfield 156, 3) := by decide +kernel
theorem d_X_words_22 : decode prog_1_method_17_code 22 = .ok (.invokevirtual 189, 3) := by decide +kernel
theorem d_X_words_25 : decode prog_1_method_17_code 25 = .ok (.iload_n 1, 1) := by decide +kernel
theorem d_X_words_26 : decode prog_1_method_17_code 26 = .ok (.invokevirtual 278, 3) := by decide +kernel
theorem d_X_words_32 : decode prog_1_method_17_code 32 = .ok (.iconst (-1), 1) := by decide +kernel
theorem d_X_words_33 : decode prog_1_method_17_code 33 = .ok (.ireturn, 1) := by decide +kernel
theorem d_Words_number_0 : decode prog_12_method_2_code 0 = .ok (.aload_n 1, 1) := by decide +kernel
theorem d_Words_number_1 : decode prog_12_method_2_code 1 = .ok (.getfield 42, 3) := by decide +kernel
theorem d_Words_number_4 : decode prog_12_method_2_code 4 = .ok (.ifCond .ne 5, 3) := by decide +kernel
theorem d_Words_number_7 : decode prog_12_method_2_code 7 = .ok (.iconst 0, 1) := by decide +kernel
theorem d_Words_number_8 : decode prog_12_method_2_code 8 = .ok (.ireturn, 1) := by decide +kernel
theorem li_8 : (8 : Int32).toInt = 8 := by decide +kernel
abbrev m_c1_Words_number : Room := { frames := 0, cells := 0, slots := 0, locals := 0 }
set_option maxHeartbeats 4000000 in
set_option maxRecDepth 100000 in
theorem c1_Words_number (l : Launch) (G : zG) (b0 : Nat) (b1 : Nat) (b2 : Int32) (b3 : Nat) (b4 : Nat) (b5 : Nat) (b6 : Nat) (b7 : Nat) (b8 : Nat) (b9 : Nat) (b10 : Nat) (b11 : Nat) (b12 : Nat) (b13 : Nat) (b14 : Nat) (hlo_b2 : 0 ≤ b2.toInt) (hhi_b2 : b2.toInt ≤ 8) : zM l G y_Words_number prog_12_method_2_code 4 (Option.some Jvm.ClassFile.FieldType.int) m_c1_Words_number [.ref b0, .ref b1, .int b2] [(b1, .inr (5, [.int 1, .int 0, .ref b3, .ref b4, .ref b5, .ref b6, .ref b7, .ref b8, .int 0, .ref b9, .ref b10, .ref b11, .ref b12, .ref b13, .ref b14]))] (fun v w => (v = some (.int 0) ∧ w = [(b1, .inr (5, [.int 1, .int 0, .ref b3, .ref b4, .ref b5, .ref b6, .ref b7, .ref b8, .int 0, .ref b9, .ref b10, .ref b11, .ref b12, .ref b13, .ref b14]))])) := by
  refine z_start (by decide +kernel) (Nat.le_of_ble_eq_true rfl) ?_
  intro p e s m below meth c A Z hr hnm hA hP hD hS ls hl
  have Z : zC p s m _ meth c prog_12_method_2_code 4 "TraceMachines$Words" G := Z
  obtain ⟨hx, hb, hml, hown, hts, hK, hN, hlocks⟩ := id Z
  have hl : lv_has ls 4 [(0, .ref b0), (1, .ref b1), (2, .int b2)] := hl
  refine lv_aload_n hx hb d_Words_number_0 rfl (lv_at hl 1 rfl) ?_
  refine va_get (D := G.1) (ci := 5) (v := .int 0) (C := R_Machine) (T := F_Machine) (N := 15) hx hb hts i_Machine hown hK hP 0 rfl rfl 1 (by decide) (hts _ q166) (fun _ h9 => h9) rfl d_Words_number_1 ?_
  refine lv_if_ne (tgt := 9) hx hb d_Words_number_4 (by decide) (fun hc => absurd hc (by decide +kernel)) (fun _ => ?_)
  refine lv_iconst (v := 0) hx hb d_Words_number_7 (by decide) ?_
  exact z_iret hx hb hr hlocks hP hD hS (Nat.le_of_ble_eq_true rfl) (Nat.le_of_ble_eq_true rfl) d_Words_number_8 ⟨rfl, rfl⟩
theorem d_X_words_29 : decode prog_1_method_17_code 29 = .ok (.goto 4, 3) := by decide +kernel
abbrev m_t_X_words : Room := { frames := 4, cells := 0, slots := 0, locals := 95 }
set_option maxHeartbeats 4000000 in
set_option maxRecDepth 100000 in
theorem t_X_words (l : Launch) (G : zG) (b0 : Nat) (p0 : Int32) (b2 : Nat) (b3 : Nat) (b4 : Nat) (b5 : Nat) (b6 : Nat) (b7 : Nat) (b8 : Nat) (b9 : Nat) (b10 : Nat) (b11 : Nat) (b12 : Nat) (b13 : Nat) (b14 : Nat) (b15 : Nat) (b16 : Nat) (b17 : Nat) (b18 : Nat) (b19 : Nat) (b20 : Nat) (b21 : Nat) (b22 : Nat) (b23 : Nat) (b24 : Nat) (b25 : Nat) (b26 : Nat) (b27 : Nat) (b28 : Nat) (b29 : Nat) (b30 : Nat) (b31 : Nat) (b32 : Nat) (b33 : Nat) (b34 : Nat) (b35 : Nat) (b36 : Nat) (b37 : Nat) (b38 : Nat) (b39 : Nat) (b40 : Nat) (b41 : Nat) (b42 : Nat) (b43 : Nat) (b44 : Nat) (b45 : Nat) (b46 : Nat) (b47 : Nat) (b48 : Nat) (b49 : Nat) (b50 : Nat) (b51 : Nat) (b52 : Nat) (b53 : Nat) (b54 : Nat) (b55 : Nat) (b56 : Nat) (b57 : Nat)  : zM l G y_X_words prog_1_method_17_code 2 (Option.some Jvm.ClassFile.FieldType.int) m_t_X_words [.ref b0, .int p0] [(b0, .inr (0, [.ref b2, .ref b3, .ref b4, .ref b5, .int 0, .int 0, .ref b6, .ref b7, .ref b8, .ref b9, .ref b10, .ref b11, .ref b12, .ref b13, .ref b14, .ref b15, .ref b16, .ref b17, .ref b18, .ref b19])), (b3, .inr (2, [.int 0, .int 1, .int 0, .ref b20, .ref b21, .ref b22])), (b9, .inl (G.2 6, 4, .inr (.inr (.inr (.inr (va_up (va_up (va_up (va_up (fun _ => none) 0 (some b23)) 1 (some b24)) 2 (some b25)) 3 (some b26))))))), (b7, .inr (3, [.int 0, .int 0, .int 0, .ref b27, .ref b28, .ref b29, .ref b30, .ref b31, .ref b32, .ref b33, .ref b34])), (b24, .inr (5, [.int 0, .int 0, .ref b35, .ref b36, .ref b37, .ref b38, .ref b39, .ref b40, .int 0, .ref b41, .ref b42, .ref b43, .ref b44, .ref b45, .ref b46])), (b8, .inr (4, [.ref b47, .ref b48, .ref b49])), (b49, .inl (G.2 0, 512, .inl (fun _ => 0))), (b40, .inl (G.2 1, 4, .inr (.inl (fun _ => 0)))), (b45, .inl (G.2 0, 242, .inl (fun _ => 0))), (b14, .inr (7, [.ref b50, .ref b51, .ref b52, .ref b53, .ref b54, .ref b55, .ref b56, .ref b57]))] (fun v _ => v = some (.int (a_words p0))) := by
  refine z_start (by decide +kernel) (Nat.le_of_ble_eq_true rfl) ?_
  intro p e s m below meth c A Z hr hnm hA hP hD hS ls hl
  have Z : zC p s m _ meth c prog_1_method_17_code 2 "TraceMachines" G := Z
  obtain ⟨hx, hb, hml, hown, hts, hK, hN, hlocks⟩ := id Z
  have hl : lv_has ls 2 [(0, .ref b0), (1, .int p0)] := hl
  refine lv_iload_n hx hb d_X_words_0 rfl (lv_at hl 1 rfl) ?_
  refine lv_if_lt (tgt := 32) hx hb d_X_words_1 (by decide) (fun hc_1 => ?_) (fun hc_1 => ?_)
  · simp only [fa_lt, fa_le, fa_eq, Int32.toInt_toInt64, li_0] at hc_1
    refine lv_iconst (v := (-1)) hx hb d_X_words_32 (by decide) ?_
    exact z_iret hx hb hr hlocks hP hD hS (Nat.le_of_ble_eq_true rfl) (Nat.le_of_ble_eq_true rfl) d_X_words_33 (congrArg (fun z => some (Value.int z)) (by unfold a_words; (first | rfl | (repeat (first | rw [if_pos (by omega)] | rw [if_neg (by omega)])))))
  · simp only [fa_lt, fa_le, fa_eq, Int32.toInt_toInt64, li_0] at hc_1
    refine lv_iload_n hx hb d_X_words_4 rfl (lv_at hl 1 rfl) ?_
    refine lv_bipush (v := 8) hx hb d_X_words_5 (by decide) ?_
    refine lv_icmp_gt (tgt := 32) hx hb d_X_words_7 (by decide) (fun hc_2 => ?_) (fun hc_2 => ?_)
    · simp only [fa_lt, fa_le, fa_eq, Int32.toInt_toInt64, li_8] at hc_2
      refine lv_iconst (v := (-1)) hx hb d_X_words_32 (by decide) ?_
      exact z_iret hx hb hr hlocks hP hD hS (Nat.le_of_ble_eq_true rfl) (Nat.le_of_ble_eq_true rfl) d_X_words_33 (congrArg (fun z => some (Value.int z)) (by unfold a_words; (first | rfl | (repeat (first | rw [if_pos (by omega)] | rw [if_neg (by omega)])))))
    · simp only [fa_lt, fa_le, fa_eq, Int32.toInt_toInt64, li_8] at hc_2
      refine lv_aload_n hx hb d_X_words_10 rfl (lv_at hl 0 rfl) ?_
      refine va_get (D := G.1) (ci := 0) (v := .ref b14) (C := R_X) (T := F_X) (N := 20) hx hb hts i_X hown hK hP 0 rfl rfl 14 (by decide) (hts _ q431) (fun _ h9 => h9) rfl d_X_words_11 ?_
      refine lv_aload_n hx hb d_X_words_14 rfl (lv_at hl 0 rfl) ?_
      refine lv_aload_n hx hb d_X_words_15 rfl (lv_at hl 0 rfl) ?_
      refine va_get (D := G.1) (ci := 0) (v := .ref b3) (C := R_X) (T := F_X) (N := 20) hx hb hts i_X hown hK hP 0 rfl rfl 1 (by decide) (hts _ q418) (fun _ h9 => h9) rfl d_X_words_16 ?_
      refine va_get (D := G.1) (ci := 2) (v := .int 1) (C := R_Traces) (T := F_Traces) (N := 6) hx hb hts i_Traces hown hK hP 1 rfl rfl 1 (by decide) (hts _ q60) (fun _ h9 => h9) rfl d_X_words_19 ?_
      refine z_callV (index := 189) (As := [.int 1]) (rest := [.ref b14]) (wr := [(b14, .inr (7, [.ref b50, .ref b51, .ref b52, .ref b53, .ref b54, .ref b55, .ref b56, .ref b57]))]) Z (c1_X_machine l G (b0) (b2) (b3) (b4) (b5) (b6) (b7) (b8) (b9) (b10) (b11) (b12) (b13) (b14) (b15) (b16) (b17) (b18) (b19) (b23) (b24) (b25) (b26) (b27) (b28) (b29) (b30) (b31) (b32) (b33) (b34) (b20) (b21) (b22) (b35) (b36) (b37) (b38) (b39) (b40) (b41) (b42) (b43) (b44) (b45) (b46) (b47) (b48) (b49)) hl.1 q563 q565 qs2 q1 q566 ⟨by decide, by decide, by show _ = some 1; decide +kernel⟩ ⟨Nat.le_of_ble_eq_true rfl, Nat.le_of_ble_eq_true rfl⟩ ⟨Nat.le_of_ble_eq_true rfl, Nat.le_of_ble_eq_true rfl⟩ rfl (Nat.le_of_ble_eq_true rfl) d_X_words_22 hP hD hS hA 0 0 rfl rfl rfl [0, 2, 3, 1, 4, 5, 6, 7, 8] [9] rfl rfl rfl rfl (by decide) (fun v w1 H locs hw_3 hP hD hS => ?_)
      obtain ⟨rfl, rfl⟩ := hw_3
      have hP : va_P G.1 classes [(b14, .inr (7, [.ref b50, .ref b51, .ref b52, .ref b53, .ref b54, .ref b55, .ref b56, .ref b57])), (b0, .inr (0, [.ref b2, .ref b3, .ref b4, .ref b5, .int 0, .int 0, .ref b6, .ref b7, .ref b8, .ref b9, .ref b10, .ref b11, .ref b12, .ref b13, .ref b14, .ref b15, .ref b16, .ref b17, .ref b18, .ref b19])), (b9, .inl (G.2 6, 4, .inr (.inr (.inr (.inr (va_up (va_up (va_up (va_up (fun _ => none) 0 (some b23)) 1 (some b24)) 2 (some b25)) 3 (some b26))))))), (b8, .inr (4, [.ref b47, .ref b48, .ref b49])), (b3, .inr (2, [.int 0, .int 1, .int 0, .ref b20, .ref b21, .ref b22])), (b49, .inl (G.2 0, 512, .inl (fun _ => (-1)))), (b40, .inl (G.2 1, 4, .inr (.inl (fun _ => 0)))), (b7, .inr (3, [.int 1, .int (-1), .int 0, .ref b27, .ref b28, .ref b29, .ref b30, .ref b31, .ref b32, .ref b33, .ref b34])), (b24, .inr (5, [.int 1, .int 0, .ref b35, .ref b36, .ref b37, .ref b38, .ref b39, .ref b40, .int 0, .ref b41, .ref b42, .ref b43, .ref b44, .ref b45, .ref b46])), (b45, .inl (G.2 0, 242, .inl (upd (fun _ => 0) 0 0)))] H := hP
      have hD := z_tie hP hD rfl
      refine W.widen (k := 0) (n := 0) (Nat.le_of_ble_eq_true rfl) (Nat.le_of_ble_eq_true rfl) ?_
      refine lv_iload_n hx hb d_X_words_25 rfl (lv_at hl 1 rfl) ?_
      refine z_callV (index := 278) (As := [.ref b24, .int p0]) (rest := []) (wr := [(b14, .inr (7, [.ref b50, .ref b51, .ref b52, .ref b53, .ref b54, .ref b55, .ref b56, .ref b57])), (b0, .inr (0, [.ref b2, .ref b3, .ref b4, .ref b5, .int 0, .int 0, .ref b6, .ref b7, .ref b8, .ref b9, .ref b10, .ref b11, .ref b12, .ref b13, .ref b14, .ref b15, .ref b16, .ref b17, .ref b18, .ref b19])), (b9, .inl (G.2 6, 4, .inr (.inr (.inr (.inr (va_up (va_up (va_up (va_up (fun _ => none) 0 (some b23)) 1 (some b24)) 2 (some b25)) 3 (some b26))))))), (b8, .inr (4, [.ref b47, .ref b48, .ref b49])), (b3, .inr (2, [.int 0, .int 1, .int 0, .ref b20, .ref b21, .ref b22])), (b49, .inl (G.2 0, 512, .inl (fun _ => (-1)))), (b40, .inl (G.2 1, 4, .inr (.inl (fun _ => 0)))), (b7, .inr (3, [.int 1, .int (-1), .int 0, .ref b27, .ref b28, .ref b29, .ref b30, .ref b31, .ref b32, .ref b33, .ref b34])), (b45, .inl (G.2 0, 242, .inl (upd (fun _ => 0) 0 0)))]) Z (c1_Words_number l G (b14) (b24) (p0) (b35) (b36) (b37) (b38) (b39) (b40) (b41) (b42) (b43) (b44) (b45) (b46) (by first | assumption | decide +kernel | omega) (by first | assumption | decide +kernel | omega)) hl.1 q819 q820 q821 q8 q822 ⟨by decide, by decide, by show _ = some 2; decide +kernel⟩ ⟨Nat.le_of_ble_eq_true rfl, Nat.le_of_ble_eq_true rfl⟩ ⟨Nat.le_of_ble_eq_true rfl, Nat.le_of_ble_eq_true rfl⟩ rfl (Nat.le_of_ble_eq_true rfl) d_X_words_26 hP hD hS hA 0 7 rfl rfl rfl [8] [0, 1, 2, 3, 4, 5, 6, 7, 9] rfl rfl rfl rfl (by decide) (fun v w1 H locs hw_4 hP hD hS => ?_)
      obtain ⟨rfl, rfl⟩ := hw_4
      have hP : va_P G.1 classes [(b14, .inr (7, [.ref b50, .ref b51, .ref b52, .ref b53, .ref b54, .ref b55, .ref b56, .ref b57])), (b0, .inr (0, [.ref b2, .ref b3, .ref b4, .ref b5, .int 0, .int 0, .ref b6, .ref b7, .ref b8, .ref b9, .ref b10, .ref b11, .ref b12, .ref b13, .ref b14, .ref b15, .ref b16, .ref b17, .ref b18, .ref b19])), (b9, .inl (G.2 6, 4, .inr (.inr (.inr (.inr (va_up (va_up (va_up (va_up (fun _ => none) 0 (some b23)) 1 (some b24)) 2 (some b25)) 3 (some b26))))))), (b8, .inr (4, [.ref b47, .ref b48, .ref b49])), (b3, .inr (2, [.int 0, .int 1, .int 0, .ref b20, .ref b21, .ref b22])), (b49, .inl (G.2 0, 512, .inl (fun _ => (-1)))), (b40, .inl (G.2 1, 4, .inr (.inl (fun _ => 0)))), (b7, .inr (3, [.int 1, .int (-1), .int 0, .ref b27, .ref b28, .ref b29, .ref b30, .ref b31, .ref b32, .ref b33, .ref b34])), (b45, .inl (G.2 0, 242, .inl (upd (fun _ => 0) 0 0))), (b24, .inr (5, [.int 1, .int 0, .ref b35, .ref b36, .ref b37, .ref b38, .ref b39, .ref b40, .int 0, .ref b41, .ref b42, .ref b43, .ref b44, .ref b45, .ref b46]))] H := hP
      have hD := z_tie hP hD rfl
      refine W.widen (k := 0) (n := 0) (Nat.le_of_ble_eq_true rfl) (Nat.le_of_ble_eq_true rfl) ?_
      refine lv_goto (tgt := 33) hx hb d_X_words_29 (by decide) ?_
      exact z_iret hx hb hr hlocks hP hD hS (Nat.le_of_ble_eq_true rfl) (Nat.le_of_ble_eq_true rfl) d_X_words_33 (congrArg (fun z => some (Value.int z)) (by unfold a_words; (first | rfl | (repeat (first | rw [if_pos (by omega)] | rw [if_neg (by omega)])))))
theorem d_X_walk_0 : decode prog_1_method_19_code 0 = .ok (.iload_n 1, 1) := by decide +kernel
theorem d_X_walk_1 : decode prog_1_method_19_code 1 = .ok (.ifCond .lt 20, 3) := by decide +kernel
theorem d_X_walk_4 : decode prog_1_method_19_code 4 = .ok (.iload_n 1, 1) := by decide +kernel
theorem d_X_walk_5 : decode prog_1_method_19_code 5 = .ok (.ldc_w 298, 3) := by decide +kernel
theorem d_X_walk_8 : decode prog_1_method_19_code 8 = .ok (.if_icmp .ge 13, 3) := by decide +kernel
theorem d_X_walk_11 : decode prog_1_method_19_code 11 = .ok (.aload_n 0, 1) := by decide +kernel
theorem d_X_walk_12 : decode prog_1_method_19_code 12 = .ok (.getfield 19, 3) := by decide +kernel
theorem d_X_walk_15 : decode prog_1_method_19_code 15 = .ok (.getfield 143, 3) := by decide +kernel
theorem d_X_walk_18 : decode prog_1_method_19_code 18 = .ok (.ifCond .ne 5, 3) := by decide +kernel
theorem d_X_walk_21 : decode prog_1_method_19_code 21 = .ok (.iconst (-1), 1) := by decide +kernel
theorem d_X_walk_22 : decode prog_1_method_19_code 22 = .ok (.ireturn, 1) := by decide +kernel
theorem li_1000000 : (1000000 : Int32).toInt = 1000000 := by decide +kernel
abbrev m_t_X_walk : Room := { frames := 0, cells := 0, slots := 0, locals := 0 }
set_option maxHeartbeats 4000000 in
set_option maxRecDepth 100000 in
theorem t_X_walk (l : Launch) (G : zG) (b0 : Nat) (p0 : Int32) (p1 : Int32) (b3 : Nat) (b4 : Nat) (b5 : Nat) (b6 : Nat) (b7 : Nat) (b8 : Nat) (b9 : Nat) (b10 : Nat) (b11 : Nat) (b12 : Nat) (b13 : Nat) (b14 : Nat) (b15 : Nat) (b16 : Nat) (b17 : Nat) (b18 : Nat) (b19 : Nat) (b20 : Nat) (b21 : Nat) (b22 : Nat) (b23 : Nat)  : zM l G y_X_walk prog_1_method_19_code 5 (Option.some Jvm.ClassFile.FieldType.int) m_t_X_walk [.ref b0, .int p0, .int p1] [(b0, .inr (0, [.ref b3, .ref b4, .ref b5, .ref b6, .int 0, .int 0, .ref b7, .ref b8, .ref b9, .ref b10, .ref b11, .ref b12, .ref b13, .ref b14, .ref b15, .ref b16, .ref b17, .ref b18, .ref b19, .ref b20])), (b4, .inr (2, [.int 0, .int 1, .int 0, .ref b21, .ref b22, .ref b23]))] (fun v _ => v = some (.int (a_walk p0 p1))) := by
  refine z_start (by decide +kernel) (Nat.le_of_ble_eq_true rfl) ?_
  intro p e s m below meth c A Z hr hnm hA hP hD hS ls hl
  have Z : zC p s m _ meth c prog_1_method_19_code 5 "TraceMachines" G := Z
  obtain ⟨hx, hb, hml, hown, hts, hK, hN, hlocks⟩ := id Z
  have hl : lv_has ls 5 [(0, .ref b0), (1, .int p0), (2, .int p1)] := hl
  refine lv_iload_n hx hb d_X_walk_0 rfl (lv_at hl 1 rfl) ?_
  refine lv_if_lt (tgt := 21) hx hb d_X_walk_1 (by decide) (fun hc_1 => ?_) (fun hc_1 => ?_)
  · simp only [fa_lt, fa_le, fa_eq, Int32.toInt_toInt64, li_0] at hc_1
    refine lv_iconst (v := (-1)) hx hb d_X_walk_21 (by decide) ?_
    exact z_iret hx hb hr hlocks hP hD hS (Nat.le_of_ble_eq_true rfl) (Nat.le_of_ble_eq_true rfl) d_X_walk_22 (congrArg (fun z => some (Value.int z)) (by unfold a_walk; (first | rfl | (repeat (first | rw [if_pos (by omega)] | rw [if_neg (by omega)])))))
  · simp only [fa_lt, fa_le, fa_eq, Int32.toInt_toInt64, li_0] at hc_1
    refine lv_iload_n hx hb d_X_walk_4 rfl (lv_at hl 1 rfl) ?_
    refine lv_ldcw hx hb hown (hts _ q904) d_X_walk_5 ?_
    refine lv_icmp_ge (tgt := 21) hx hb d_X_walk_8 (by decide) (fun hc_2 => ?_) (fun hc_2 => ?_)
    · simp only [fa_lt, fa_le, fa_eq, Int32.toInt_toInt64, li_1000000] at hc_2
      refine lv_iconst (v := (-1)) hx hb d_X_walk_21 (by decide) ?_
      exact z_iret hx hb hr hlocks hP hD hS (Nat.le_of_ble_eq_true rfl) (Nat.le_of_ble_eq_true rfl) d_X_walk_22 (congrArg (fun z => some (Value.int z)) (by unfold a_walk; (first | rfl | (repeat (first | rw [if_pos (by omega)] | rw [if_neg (by omega)])))))
    · simp only [fa_lt, fa_le, fa_eq, Int32.toInt_toInt64, li_1000000] at hc_2
      refine lv_aload_n hx hb d_X_walk_11 rfl (lv_at hl 0 rfl) ?_
      refine va_get (D := G.1) (ci := 0) (v := .ref b4) (C := R_X) (T := F_X) (N := 20) hx hb hts i_X hown hK hP 0 rfl rfl 1 (by decide) (hts _ q418) (fun _ h9 => h9) rfl d_X_walk_12 ?_
      refine va_get (D := G.1) (ci := 2) (v := .int 0) (C := R_Traces) (T := F_Traces) (N := 6) hx hb hts i_Traces hown hK hP 1 rfl rfl 0 (by decide) (hts _ q58) (fun _ h9 => h9) rfl d_X_walk_15 ?_
      refine lv_if_ne (tgt := 23) hx hb d_X_walk_18 (by decide) (fun hc => absurd hc (by decide +kernel)) (fun _ => ?_)
      refine lv_iconst (v := (-1)) hx hb d_X_walk_21 (by decide) ?_
      exact z_iret hx hb hr hlocks hP hD hS (Nat.le_of_ble_eq_true rfl) (Nat.le_of_ble_eq_true rfl) d_X_walk_22 (congrArg (fun z => some (Value.int z)) (by unfold a_walk; (first | rfl | (repeat (first | rw [if_pos (by omega)] | rw [if_neg (by omega)])))))
theorem d_X_rule_0 : decode prog_1_method_20_code 0 = .ok (.iload_n 1, 1) := by decide +kernel
theorem d_X_rule_1 : decode prog_1_method_20_code 1 = .ok (.invokestatic 305, 3) := by decide +kernel
theorem d_X_isKind_0 : decode prog_1_method_31_code 0 = .ok (.iload_n 0, 1) := by decide +kernel
theorem d_X_isKind_1 : decode prog_1_method_31_code 1 = .ok (.ifCond .lt 13, 3) := by decide +kernel
theorem d_X_isKind_4 : decode prog_1_method_31_code 4 = .ok (.iload_n 0, 1) := by decide +kernel
theorem d_X_isKind_5 : decode prog_1_method_31_code 5 = .ok (.bipush 6, 2) := by decide +kernel
theorem d_X_isKind_7 : decode prog_1_method_31_code 7 = .ok (.if_icmp .ge 7, 3) := by decide +kernel
theorem d_X_isKind_10 : decode prog_1_method_31_code 10 = .ok (.iconst 1, 1) := by decide +kernel
theorem d_X_isKind_11 : decode prog_1_method_31_code 11 = .ok (.goto 4, 3) := by decide +kernel
theorem d_X_isKind_14 : decode prog_1_method_31_code 14 = .ok (.iconst 0, 1) := by decide +kernel
theorem d_X_isKind_15 : decode prog_1_method_31_code 15 = .ok (.ireturn, 1) := by decide +kernel
theorem li_6 : (6 : Int32).toInt = 6 := by decide +kernel
abbrev m_c1_X_isKind : Room := { frames := 0, cells := 0, slots := 0, locals := 0 }
set_option maxHeartbeats 4000000 in
set_option maxRecDepth 100000 in
theorem c1_X_isKind (l : Launch) (G : zG) (b0 : Int32)  : zM l G y_X_isKind prog_1_method_31_code 1 (Option.some Jvm.ClassFile.FieldType.boolean) m_c1_X_isKind [.int b0] [] (fun v w => (v = some (.int 0) ∧ w = [] ∧ b0.toInt < 0) ∨ (v = some (.int 0) ∧ w = [] ∧ 0 ≤ b0.toInt ∧ 6 ≤ b0.toInt) ∨ (v = some (.int 1) ∧ w = [] ∧ 0 ≤ b0.toInt ∧ b0.toInt < 6)) := by
  refine z_start (by decide +kernel) (Nat.le_of_ble_eq_true rfl) ?_
  intro p e s m below meth c A Z hr hnm hA hP hD hS ls hl
  have Z : zC p s m _ meth c prog_1_method_31_code 1 "TraceMachines" G := Z
  obtain ⟨hx, hb, hml, hown, hts, hK, hN, hlocks⟩ := id Z
  have hl : lv_has ls 1 [(0, .int b0)] := hl
  refine lv_iload_n hx hb d_X_isKind_0 rfl (lv_at hl 0 rfl) ?_
  refine lv_if_lt (tgt := 14) hx hb d_X_isKind_1 (by decide) (fun hc_1 => ?_) (fun hc_1 => ?_)
  · simp only [fa_lt, fa_le, fa_eq, Int32.toInt_toInt64, li_0] at hc_1
    refine lv_iconst (v := 0) hx hb d_X_isKind_14 (by decide) ?_
    exact z_zret hx hb hr hlocks rfl hP hD hS (Nat.le_of_ble_eq_true rfl) (Nat.le_of_ble_eq_true rfl) d_X_isKind_15 (Or.inl ⟨rfl, rfl, by omega⟩)
  · simp only [fa_lt, fa_le, fa_eq, Int32.toInt_toInt64, li_0] at hc_1
    refine lv_iload_n hx hb d_X_isKind_4 rfl (lv_at hl 0 rfl) ?_
    refine lv_bipush (v := 6) hx hb d_X_isKind_5 (by decide) ?_
    refine lv_icmp_ge (tgt := 14) hx hb d_X_isKind_7 (by decide) (fun hc_2 => ?_) (fun hc_2 => ?_)
    · simp only [fa_lt, fa_le, fa_eq, Int32.toInt_toInt64, li_6] at hc_2
      refine lv_iconst (v := 0) hx hb d_X_isKind_14 (by decide) ?_
      exact z_zret hx hb hr hlocks rfl hP hD hS (Nat.le_of_ble_eq_true rfl) (Nat.le_of_ble_eq_true rfl) d_X_isKind_15 (Or.inr (Or.inl ⟨rfl, rfl, by omega, by omega⟩))
    · simp only [fa_lt, fa_le, fa_eq, Int32.toInt_toInt64, li_6] at hc_2
      refine lv_iconst (v := 1) hx hb d_X_isKind_10 (by decide) ?_
      refine lv_goto (tgt := 15) hx hb d_X_isKind_11 (by decide) ?_
      exact z_zret hx hb hr hlocks rfl hP hD hS (Nat.le_of_ble_eq_true rfl) (Nat.le_of_ble_eq_true rfl) d_X_isKind_15 (Or.inr (Or.inr (⟨rfl, rfl, by omega, by omega⟩)))
theorem d_X_rule_4 : decode prog_1_method_20_code 4 = .ok (.ifCond .eq 22, 3) := by decide +kernel
theorem d_X_rule_7 : decode prog_1_method_20_code 7 = .ok (.iload_n 2, 1) := by decide +kernel
theorem d_X_rule_8 : decode prog_1_method_20_code 8 = .ok (.invokestatic 308, 3) := by decide +kernel
theorem d_X_rule_26 : decode prog_1_method_20_code 26 = .ok (.iconst (-1), 1) := by decide +kernel
theorem d_X_rule_27 : decode prog_1_method_20_code 27 = .ok (.ireturn, 1) := by decide +kernel
theorem d_X_isLetter_0 : decode prog_1_method_32_code 0 = .ok (.iload_n 0, 1) := by decide +kernel
theorem d_X_isLetter_1 : decode prog_1_method_32_code 1 = .ok (.ifCond .lt 13, 3) := by decide +kernel
theorem d_X_isLetter_4 : decode prog_1_method_32_code 4 = .ok (.iload_n 0, 1) := by decide +kernel
theorem d_X_isLetter_5 : decode prog_1_method_32_code 5 = .ok (.bipush 10, 2) := by decide +kernel
theorem d_X_isLetter_7 : decode prog_1_method_32_code 7 = .ok (.if_icmp .ge 7, 3) := by decide +kernel
theorem d_X_isLetter_10 : decode prog_1_method_32_code 10 = .ok (.iconst 1, 1) := by decide +kernel
theorem d_X_isLetter_11 : decode prog_1_method_32_code 11 = .ok (.goto 4, 3) := by decide +kernel
theorem d_X_isLetter_14 : decode prog_1_method_32_code 14 = .ok (.iconst 0, 1) := by decide +kernel
theorem d_X_isLetter_15 : decode prog_1_method_32_code 15 = .ok (.ireturn, 1) := by decide +kernel
theorem li_10 : (10 : Int32).toInt = 10 := by decide +kernel
abbrev m_c1_X_isLetter : Room := { frames := 0, cells := 0, slots := 0, locals := 0 }
set_option maxHeartbeats 4000000 in
set_option maxRecDepth 100000 in
theorem c1_X_isLetter (l : Launch) (G : zG) (b0 : Int32)  : zM l G y_X_isLetter prog_1_method_32_code 1 (Option.some Jvm.ClassFile.FieldType.boolean) m_c1_X_isLetter [.int b0] [] (fun v w => (v = some (.int 0) ∧ w = [] ∧ b0.toInt < 0) ∨ (v = some (.int 0) ∧ w = [] ∧ 0 ≤ b0.toInt ∧ 10 ≤ b0.toInt) ∨ (v = some (.int 1) ∧ w = [] ∧ 0 ≤ b0.toInt ∧ b0.toInt < 10)) := by
  refine z_start (by decide +kernel) (Nat.le_of_ble_eq_true rfl) ?_
  intro p e s m below meth c A Z hr hnm hA hP hD hS ls hl
  have Z : zC p s m _ meth c prog_1_method_32_code 1 "TraceMachines" G := Z
  obtain ⟨hx, hb, hml, hown, hts, hK, hN, hlocks⟩ := id Z
  have hl : lv_has ls 1 [(0, .int b0)] := hl
  refine lv_iload_n hx hb d_X_isLetter_0 rfl (lv_at hl 0 rfl) ?_
  refine lv_if_lt (tgt := 14) hx hb d_X_isLetter_1 (by decide) (fun hc_1 => ?_) (fun hc_1 => ?_)
  · simp only [fa_lt, fa_le, fa_eq, Int32.toInt_toInt64, li_0] at hc_1
    refine lv_iconst (v := 0) hx hb d_X_isLetter_14 (by decide) ?_
    exact z_zret hx hb hr hlocks rfl hP hD hS (Nat.le_of_ble_eq_true rfl) (Nat.le_of_ble_eq_true rfl) d_X_isLetter_15 (Or.inl ⟨rfl, rfl, by omega⟩)
  · simp only [fa_lt, fa_le, fa_eq, Int32.toInt_toInt64, li_0] at hc_1
    refine lv_iload_n hx hb d_X_isLetter_4 rfl (lv_at hl 0 rfl) ?_
    refine lv_bipush (v := 10) hx hb d_X_isLetter_5 (by decide) ?_
    refine lv_icmp_ge (tgt := 14) hx hb d_X_isLetter_7 (by decide) (fun hc_2 => ?_) (fun hc_2 => ?_)
    · simp only [fa_lt, fa_le, fa_eq, Int32.toInt_toInt64, li_10] at hc_2
      refine lv_iconst (v := 0) hx hb d_X_isLetter_14 (by decide) ?_
      exact z_zret hx hb hr hlocks rfl hP hD hS (Nat.le_of_ble_eq_true rfl) (Nat.le_of_ble_eq_true rfl) d_X_isLetter_15 (Or.inr (Or.inl ⟨rfl, rfl, by omega, by omega⟩))
    · simp only [fa_lt, fa_le, fa_eq, Int32.toInt_toInt64, li_10] at hc_2
      refine lv_iconst (v := 1) hx hb d_X_isLetter_10 (by decide) ?_
      refine lv_goto (tgt := 15) hx hb d_X_isLetter_11 (by decide) ?_
      exact z_zret hx hb hr hlocks rfl hP hD hS (Nat.le_of_ble_eq_true rfl) (Nat.le_of_ble_eq_true rfl) d_X_isLetter_15 (Or.inr (Or.inr (⟨rfl, rfl, by omega, by omega⟩)))
theorem d_X_rule_11 : decode prog_1_method_20_code 11 = .ok (.ifCond .eq 15, 3) := by decide +kernel
theorem d_X_rule_14 : decode prog_1_method_20_code 14 = .ok (.iload_n 3, 1) := by decide +kernel
theorem d_X_rule_15 : decode prog_1_method_20_code 15 = .ok (.invokestatic 308, 3) := by decide +kernel
theorem d_X_rule_18 : decode prog_1_method_20_code 18 = .ok (.ifCond .eq 8, 3) := by decide +kernel
theorem d_X_rule_21 : decode prog_1_method_20_code 21 = .ok (.iload_n 2, 1) := by decide +kernel
theorem d_X_rule_22 : decode prog_1_method_20_code 22 = .ok (.iload_n 3, 1) := by decide +kernel
theorem d_X_rule_23 : decode prog_1_method_20_code 23 = .ok (.if_icmp .ne 5, 3) := by decide +kernel
theorem d_X_rule_28 : decode prog_1_method_20_code 28 = .ok (.iload 4, 2) := by decide +kernel
theorem d_X_rule_30 : decode prog_1_method_20_code 30 = .ok (.ifCond .eq 11, 3) := by decide +kernel
theorem d_X_rule_41 : decode prog_1_method_20_code 41 = .ok (.aload_n 0, 1) := by decide +kernel
theorem d_X_rule_42 : decode prog_1_method_20_code 42 = .ok (.getfield 98, 3) := by decide +kernel
theorem d_X_rule_45 : decode prog_1_method_20_code 45 = .ok (.aload_n 0, 1) := by decide +kernel
theorem d_X_rule_46 : decode prog_1_method_20_code 46 = .ok (.getfield 19, 3) := by decide +kernel
theorem d_X_rule_49 : decode prog_1_method_20_code 49 = .ok (.iload_n 1, 1) := by decide +kernel
theorem d_X_rule_50 : decode prog_1_method_20_code 50 = .ok (.iload_n 2, 1) := by decide +kernel
theorem d_X_rule_51 : decode prog_1_method_20_code 51 = .ok (.iload_n 3, 1) := by decide +kernel
theorem d_X_rule_52 : decode prog_1_method_20_code 52 = .ok (.invokevirtual 311, 3) := by decide +kernel
theorem d_Pair_tally_0 : decode prog_6_method_3_code 0 = .ok (.aload_n 0, 1) := by decide +kernel
theorem d_Pair_tally_1 : decode prog_6_method_3_code 1 = .ok (.iconst 0, 1) := by decide +kernel
theorem d_Pair_tally_2 : decode prog_6_method_3_code 2 = .ok (.putfield 15, 3) := by decide +kernel
theorem d_Pair_tally_5 : decode prog_6_method_3_code 5 = .ok (.aload_n 0, 1) := by decide +kernel
theorem d_Pair_tally_6 : decode prog_6_method_3_code 6 = .ok (.iconst 0, 1) := by decide +kernel
theorem d_Pair_tally_7 : decode prog_6_method_3_code 7 = .ok (.putfield 19, 3) := by decide +kernel
theorem d_Pair_tally_10 : decode prog_6_method_3_code 10 = .ok (.iconst 0, 1) := by decide +kernel
theorem d_Pair_tally_11 : decode prog_6_method_3_code 11 = .ok (.istore 5, 2) := by decide +kernel
theorem d_Pair_tally_13 : decode prog_6_method_3_code 13 = .ok (.iload 5, 2) := by decide +kernel
theorem d_Pair_tally_15 : decode prog_6_method_3_code 15 = .ok (.aload_n 1, 1) := by decide +kernel
theorem d_Pair_tally_16 : decode prog_6_method_3_code 16 = .ok (.getfield 22, 3) := by decide +kernel
theorem d_Pair_tally_19 : decode prog_6_method_3_code 19 = .ok (.if_icmp .ge 55, 3) := by decide +kernel
theorem d_Pair_tally_74 : decode prog_6_method_3_code 74 = .ok (.return_, 1) := by decide +kernel
abbrev m_c1_Pair_tally : Room := { frames := 0, cells := 0, slots := 0, locals := 0 }
set_option maxHeartbeats 4000000 in
set_option maxRecDepth 100000 in
theorem c1_Pair_tally (l : Launch) (G : zG) (b0 : Nat) (b1 : Nat) (b2 : Int32) (b3 : Int32) (b4 : Int32) (b5 : Nat) (b6 : Nat) (b7 : Nat) (hlo_b2 : 0 ≤ b2.toInt) (hhi_b2 : b2.toInt ≤ 5) (hlo_b3 : 0 ≤ b3.toInt) (hhi_b3 : b3.toInt ≤ 9) (hlo_b4 : 0 ≤ b4.toInt) (hhi_b4 : b4.toInt ≤ 9) : zM l G y_Pair_tally prog_6_method_3_code 6 (Option.none : Option Jvm.ClassFile.FieldType) m_c1_Pair_tally [.ref b0, .ref b1, .int b2, .int b3, .int b4] [(b0, .inr (10, [.int 0, .int 0, .int 0, .int 0, .int 0, .int 0, .int 0, .int 0, .int 0, .int 0])), (b1, .inr (2, [.int 0, .int 1, .int 0, .ref b5, .ref b6, .ref b7]))] (fun v w => (v = none ∧ w = [(b0, .inr (10, [.int 0, .int 0, .int 0, .int 0, .int 0, .int 0, .int 0, .int 0, .int 0, .int 0])), (b1, .inr (2, [.int 0, .int 1, .int 0, .ref b5, .ref b6, .ref b7]))])) := by
  refine z_start (by decide +kernel) (Nat.le_of_ble_eq_true rfl) ?_
  intro p e s m below meth c A Z hr hnm hA hP hD hS ls hl
  have Z : zC p s m _ meth c prog_6_method_3_code 6 "TraceMachines$Pair" G := Z
  obtain ⟨hx, hb, hml, hown, hts, hK, hN, hlocks⟩ := id Z
  have hl : lv_has ls 6 [(0, .ref b0), (1, .ref b1), (2, .int b2), (3, .int b3), (4, .int b4)] := hl
  refine lv_aload_n hx hb d_Pair_tally_0 rfl (lv_at hl 0 rfl) ?_
  refine lv_iconst (v := 0) hx hb d_Pair_tally_1 (by decide) ?_
  refine va_put (D := G.1) (ci := 10) (v := .int 0) (ty := .int) (C := R_Pair) (T := F_Pair) (N := 10) hx hb hts i_Pair t_Pair t_Pair_ok n_Pair hown hK hP hD hS 0 rfl rfl 0 (by decide) (hts _ q363) (fun _ h9 => h9) rfl (by decide +kernel) rfl rfl (Nat.le_of_ble_eq_true rfl) d_Pair_tally_2 (fun H locs hP hD hS => ?_)
  have hP : va_P G.1 classes [(b0, .inr (10, [.int 0, .int 0, .int 0, .int 0, .int 0, .int 0, .int 0, .int 0, .int 0, .int 0])), (b1, .inr (2, [.int 0, .int 1, .int 0, .ref b5, .ref b6, .ref b7]))] H := hP
  have hD := z_tie hP hD rfl
  refine lv_aload_n hx hb d_Pair_tally_5 rfl (lv_at hl 0 rfl) ?_
  refine lv_iconst (v := 0) hx hb d_Pair_tally_6 (by decide) ?_
  refine va_put (D := G.1) (ci := 10) (v := .int 0) (ty := .int) (C := R_Pair) (T := F_Pair) (N := 10) hx hb hts i_Pair t_Pair t_Pair_ok n_Pair hown hK hP hD hS 0 rfl rfl 1 (by decide) (hts _ q365) (fun _ h9 => h9) rfl (by decide +kernel) rfl rfl (Nat.le_of_ble_eq_true rfl) d_Pair_tally_7 (fun H locs hP hD hS => ?_)
  have hP : va_P G.1 classes [(b0, .inr (10, [.int 0, .int 0, .int 0, .int 0, .int 0, .int 0, .int 0, .int 0, .int 0, .int 0])), (b1, .inr (2, [.int 0, .int 1, .int 0, .ref b5, .ref b6, .ref b7]))] H := hP
  have hD := z_tie hP hD rfl
  refine lv_iconst (v := 0) hx hb d_Pair_tally_10 (by decide) ?_
  refine lv_istore (lv' := [(5, .int 0), (0, .ref b0), (1, .ref b1), (2, .int b2), (3, .int b3), (4, .int b4)]) hx hb d_Pair_tally_11 hl (by decide) rfl (fun ls hl => ?_)
  refine lv_iload hx hb d_Pair_tally_13 (lv_at hl 0 rfl) ?_
  refine lv_aload_n hx hb d_Pair_tally_15 rfl (lv_at hl 2 rfl) ?_
  refine va_get (D := G.1) (ci := 2) (v := .int 0) (C := R_Traces) (T := F_Traces) (N := 6) hx hb hts i_Traces hown hK hP 1 rfl rfl 0 (by decide) (hts _ q56) (fun _ h9 => h9) rfl d_Pair_tally_16 ?_
  refine lv_icmp_ge (tgt := 74) hx hb d_Pair_tally_19 (by decide) (fun _ => ?_) (fun hc => absurd hc (by decide +kernel))
  exact z_vret hx hb hr hlocks hP hD hS (Nat.le_of_ble_eq_true rfl) (Nat.le_of_ble_eq_true rfl) d_Pair_tally_74 ⟨rfl, rfl⟩
theorem d_X_rule_33 : decode prog_1_method_20_code 33 = .ok (.iload 4, 2) := by decide +kernel
theorem d_X_rule_35 : decode prog_1_method_20_code 35 = .ok (.iconst 1, 1) := by decide +kernel
theorem d_X_rule_36 : decode prog_1_method_20_code 36 = .ok (.if_icmp .eq 5, 3) := by decide +kernel
theorem d_X_rule_39 : decode prog_1_method_20_code 39 = .ok (.iconst (-1), 1) := by decide +kernel
theorem d_X_rule_40 : decode prog_1_method_20_code 40 = .ok (.ireturn, 1) := by decide +kernel
theorem d_X_rule_55 : decode prog_1_method_20_code 55 = .ok (.iload 4, 2) := by decide +kernel
theorem d_X_rule_57 : decode prog_1_method_20_code 57 = .ok (.ifCond .ne 13, 3) := by decide +kernel
theorem d_X_rule_60 : decode prog_1_method_20_code 60 = .ok (.aload_n 0, 1) := by decide +kernel
theorem d_X_rule_61 : decode prog_1_method_20_code 61 = .ok (.getfield 98, 3) := by decide +kernel
theorem d_X_rule_64 : decode prog_1_method_20_code 64 = .ok (.getfield 315, 3) := by decide +kernel
theorem d_X_rule_67 : decode prog_1_method_20_code 67 = .ok (.goto 10, 3) := by decide +kernel
theorem d_X_rule_70 : decode prog_1_method_20_code 70 = .ok (.aload_n 0, 1) := by decide +kernel
theorem d_X_rule_71 : decode prog_1_method_20_code 71 = .ok (.getfield 98, 3) := by decide +kernel
theorem d_X_rule_74 : decode prog_1_method_20_code 74 = .ok (.getfield 318, 3) := by decide +kernel
theorem d_X_rule_77 : decode prog_1_method_20_code 77 = .ok (.ireturn, 1) := by decide +kernel
abbrev m_t_X_rule : Room := { frames := 1, cells := 0, slots := 0, locals := 25 }
set_option maxHeartbeats 4000000 in
set_option maxRecDepth 100000 in
theorem t_X_rule (l : Launch) (G : zG) (b0 : Nat) (p0 : Int32) (p1 : Int32) (p2 : Int32) (p3 : Int32) (b5 : Nat) (b6 : Nat) (b7 : Nat) (b8 : Nat) (b9 : Nat) (b10 : Nat) (b11 : Nat) (b12 : Nat) (b13 : Nat) (b14 : Nat) (b15 : Nat) (b16 : Nat) (b17 : Nat) (b18 : Nat) (b19 : Nat) (b20 : Nat) (b21 : Nat) (b22 : Nat) (b23 : Nat) (b24 : Nat) (b25 : Nat)  : zM l G y_X_rule prog_1_method_20_code 5 (Option.some Jvm.ClassFile.FieldType.int) m_t_X_rule [.ref b0, .int p0, .int p1, .int p2, .int p3] [(b0, .inr (0, [.ref b5, .ref b6, .ref b7, .ref b8, .int 0, .int 0, .ref b9, .ref b10, .ref b11, .ref b12, .ref b13, .ref b14, .ref b15, .ref b16, .ref b17, .ref b18, .ref b19, .ref b20, .ref b21, .ref b22])), (b20, .inr (10, [.int 0, .int 0, .int 0, .int 0, .int 0, .int 0, .int 0, .int 0, .int 0, .int 0])), (b6, .inr (2, [.int 0, .int 1, .int 0, .ref b23, .ref b24, .ref b25]))] (fun v _ => v = some (.int (a_rule p0 p1 p2 p3))) := by
  refine z_start (by decide +kernel) (Nat.le_of_ble_eq_true rfl) ?_
  intro p e s m below meth c A Z hr hnm hA hP hD hS ls hl
  have Z : zC p s m _ meth c prog_1_method_20_code 5 "TraceMachines" G := Z
  obtain ⟨hx, hb, hml, hown, hts, hK, hN, hlocks⟩ := id Z
  have hl : lv_has ls 5 [(0, .ref b0), (1, .int p0), (2, .int p1), (3, .int p2), (4, .int p3)] := hl
  refine lv_iload_n hx hb d_X_rule_0 rfl (lv_at hl 1 rfl) ?_
  refine z_callS (index := 305) (As := [.int p0]) (rest := []) (wr := [(b0, .inr (0, [.ref b5, .ref b6, .ref b7, .ref b8, .int 0, .int 0, .ref b9, .ref b10, .ref b11, .ref b12, .ref b13, .ref b14, .ref b15, .ref b16, .ref b17, .ref b18, .ref b19, .ref b20, .ref b21, .ref b22])), (b20, .inr (10, [.int 0, .int 0, .int 0, .int 0, .int 0, .int 0, .int 0, .int 0, .int 0, .int 0])), (b6, .inr (2, [.int 0, .int 1, .int 0, .ref b23, .ref b24, .ref b25]))]) Z (c1_X_isKind l G (p0)) hl.1 q915 q916 q1 q917 ⟨by decide, by decide, by show _ = some 1; decide +kernel⟩ ⟨Nat.le_of_ble_eq_true rfl, Nat.le_of_ble_eq_true rfl⟩ ⟨Nat.le_of_ble_eq_true rfl, Nat.le_of_ble_eq_true rfl⟩ rfl (Nat.le_of_ble_eq_true rfl) d_X_rule_1 hP hD hS hA [] [0, 1, 2] rfl rfl rfl rfl (by decide) (fun v w1 H locs hw_1 hP hD hS => ?_)
  rcases hw_1 with ⟨rfl, rfl, hq_2⟩ | ⟨rfl, rfl, hq_3, hq_4⟩ | ⟨rfl, rfl, hq_5, hq_6⟩
  · try simp only [Int32.toInt_toInt64, li_0] at hq_2
    have hP : va_P G.1 classes [(b0, .inr (0, [.ref b5, .ref b6, .ref b7, .ref b8, .int 0, .int 0, .ref b9, .ref b10, .ref b11, .ref b12, .ref b13, .ref b14, .ref b15, .ref b16, .ref b17, .ref b18, .ref b19, .ref b20, .ref b21, .ref b22])), (b20, .inr (10, [.int 0, .int 0, .int 0, .int 0, .int 0, .int 0, .int 0, .int 0, .int 0, .int 0])), (b6, .inr (2, [.int 0, .int 1, .int 0, .ref b23, .ref b24, .ref b25]))] H := hP
    have hD := z_tie hP hD rfl
    refine W.widen (k := 0) (n := 0) (Nat.le_of_ble_eq_true rfl) (Nat.le_of_ble_eq_true rfl) ?_
    refine lv_if_eq (tgt := 26) hx hb d_X_rule_4 (by decide) (fun _ => ?_) (fun hc => absurd hc (by decide +kernel))
    refine lv_iconst (v := (-1)) hx hb d_X_rule_26 (by decide) ?_
    exact z_iret hx hb hr hlocks hP hD hS (Nat.le_of_ble_eq_true rfl) (Nat.le_of_ble_eq_true rfl) d_X_rule_27 (congrArg (fun z => some (Value.int z)) (by unfold a_rule; (first | rfl | (repeat (first | rw [if_pos (by omega)] | rw [if_neg (by omega)])))))
  · try simp only [Int32.toInt_toInt64, li_0] at hq_3
    try simp only [Int32.toInt_toInt64, li_6] at hq_4
    have hP : va_P G.1 classes [(b0, .inr (0, [.ref b5, .ref b6, .ref b7, .ref b8, .int 0, .int 0, .ref b9, .ref b10, .ref b11, .ref b12, .ref b13, .ref b14, .ref b15, .ref b16, .ref b17, .ref b18, .ref b19, .ref b20, .ref b21, .ref b22])), (b20, .inr (10, [.int 0, .int 0, .int 0, .int 0, .int 0, .int 0, .int 0, .int 0, .int 0, .int 0])), (b6, .inr (2, [.int 0, .int 1, .int 0, .ref b23, .ref b24, .ref b25]))] H := hP
    have hD := z_tie hP hD rfl
    refine W.widen (k := 0) (n := 0) (Nat.le_of_ble_eq_true rfl) (Nat.le_of_ble_eq_true rfl) ?_
    refine lv_if_eq (tgt := 26) hx hb d_X_rule_4 (by decide) (fun _ => ?_) (fun hc => absurd hc (by decide +kernel))
    refine lv_iconst (v := (-1)) hx hb d_X_rule_26 (by decide) ?_
    exact z_iret hx hb hr hlocks hP hD hS (Nat.le_of_ble_eq_true rfl) (Nat.le_of_ble_eq_true rfl) d_X_rule_27 (congrArg (fun z => some (Value.int z)) (by unfold a_rule; (first | rfl | (repeat (first | rw [if_pos (by omega)] | rw [if_neg (by omega)])))))
  · try simp only [Int32.toInt_toInt64, li_0] at hq_5
    try simp only [Int32.toInt_toInt64, li_6] at hq_6
    have hP : va_P G.1 classes [(b0, .inr (0, [.ref b5, .ref b6, .ref b7, .ref b8, .int 0, .int 0, .ref b9, .ref b10, .ref b11, .ref b12, .ref b13, .ref b14, .ref b15, .ref b16, .ref b17, .ref b18, .ref b19, .ref b20, .ref b21, .ref b22])), (b20, .inr (10, [.int 0, .int 0, .int 0, .int 0, .int 0, .int 0, .int 0, .int 0, .int 0, .int 0])), (b6, .inr (2, [.int 0, .int 1, .int 0, .ref b23, .ref b24, .ref b25]))] H := hP
    have hD := z_tie hP hD rfl
    refine W.widen (k := 0) (n := 0) (Nat.le_of_ble_eq_true rfl) (Nat.le_of_ble_eq_true rfl) ?_
    refine lv_if_eq (tgt := 26) hx hb d_X_rule_4 (by decide) (fun hc => absurd hc (by decide +kernel)) (fun _ => ?_)
    refine lv_iload_n hx hb d_X_rule_7 rfl (lv_at hl 2 rfl) ?_
    refine z_callS (index := 308) (As := [.int p1]) (rest := []) (wr := [(b0, .inr (0, [.ref b5, .ref b6, .ref b7, .ref b8, .int 0, .int 0, .ref b9, .ref b10, .ref b11, .ref b12, .ref b13, .ref b14, .ref b15, .ref b16, .ref b17, .ref b18, .ref b19, .ref b20, .ref b21, .ref b22])), (b20, .inr (10, [.int 0, .int 0, .int 0, .int 0, .int 0, .int 0, .int 0, .int 0, .int 0, .int 0])), (b6, .inr (2, [.int 0, .int 1, .int 0, .ref b23, .ref b24, .ref b25]))]) Z (c1_X_isLetter l G (p1)) hl.1 q918 q518 q1 q519 ⟨by decide, by decide, by show _ = some 1; decide +kernel⟩ ⟨Nat.le_of_ble_eq_true rfl, Nat.le_of_ble_eq_true rfl⟩ ⟨Nat.le_of_ble_eq_true rfl, Nat.le_of_ble_eq_true rfl⟩ rfl (Nat.le_of_ble_eq_true rfl) d_X_rule_8 hP hD hS hA [] [0, 1, 2] rfl rfl rfl rfl (by decide) (fun v w1 H locs hw_7 hP hD hS => ?_)
    rcases hw_7 with ⟨rfl, rfl, hq_8⟩ | ⟨rfl, rfl, hq_9, hq_10⟩ | ⟨rfl, rfl, hq_11, hq_12⟩
    · try simp only [Int32.toInt_toInt64, li_0] at hq_8
      have hP : va_P G.1 classes [(b0, .inr (0, [.ref b5, .ref b6, .ref b7, .ref b8, .int 0, .int 0, .ref b9, .ref b10, .ref b11, .ref b12, .ref b13, .ref b14, .ref b15, .ref b16, .ref b17, .ref b18, .ref b19, .ref b20, .ref b21, .ref b22])), (b20, .inr (10, [.int 0, .int 0, .int 0, .int 0, .int 0, .int 0, .int 0, .int 0, .int 0, .int 0])), (b6, .inr (2, [.int 0, .int 1, .int 0, .ref b23, .ref b24, .ref b25]))] H := hP
      have hD := z_tie hP hD rfl
      refine W.widen (k := 0) (n := 0) (Nat.le_of_ble_eq_true rfl) (Nat.le_of_ble_eq_true rfl) ?_
      refine lv_if_eq (tgt := 26) hx hb d_X_rule_11 (by decide) (fun _ => ?_) (fun hc => absurd hc (by decide +kernel))
      refine lv_iconst (v := (-1)) hx hb d_X_rule_26 (by decide) ?_
      exact z_iret hx hb hr hlocks hP hD hS (Nat.le_of_ble_eq_true rfl) (Nat.le_of_ble_eq_true rfl) d_X_rule_27 (congrArg (fun z => some (Value.int z)) (by unfold a_rule; (first | rfl | (repeat (first | rw [if_pos (by omega)] | rw [if_neg (by omega)])))))
    · try simp only [Int32.toInt_toInt64, li_0] at hq_9
      try simp only [Int32.toInt_toInt64, li_10] at hq_10
      have hP : va_P G.1 classes [(b0, .inr (0, [.ref b5, .ref b6, .ref b7, .ref b8, .int 0, .int 0, .ref b9, .ref b10, .ref b11, .ref b12, .ref b13, .ref b14, .ref b15, .ref b16, .ref b17, .ref b18, .ref b19, .ref b20, .ref b21, .ref b22])), (b20, .inr (10, [.int 0, .int 0, .int 0, .int 0, .int 0, .int 0, .int 0, .int 0, .int 0, .int 0])), (b6, .inr (2, [.int 0, .int 1, .int 0, .ref b23, .ref b24, .ref b25]))] H := hP
      have hD := z_tie hP hD rfl
      refine W.widen (k := 0) (n := 0) (Nat.le_of_ble_eq_true rfl) (Nat.le_of_ble_eq_true rfl) ?_
      refine lv_if_eq (tgt := 26) hx hb d_X_rule_11 (by decide) (fun _ => ?_) (fun hc => absurd hc (by decide +kernel))
      refine lv_iconst (v := (-1)) hx hb d_X_rule_26 (by decide) ?_
      exact z_iret hx hb hr hlocks hP hD hS (Nat.le_of_ble_eq_true rfl) (Nat.le_of_ble_eq_true rfl) d_X_rule_27 (congrArg (fun z => some (Value.int z)) (by unfold a_rule; (first | rfl | (repeat (first | rw [if_pos (by omega)] | rw [if_neg (by omega)])))))
    · try simp only [Int32.toInt_toInt64, li_0] at hq_11
      try simp only [Int32.toInt_toInt64, li_10] at hq_12
      have hP : va_P G.1 classes [(b0, .inr (0, [.ref b5, .ref b6, .ref b7, .ref b8, .int 0, .int 0, .ref b9, .ref b10, .ref b11, .ref b12, .ref b13, .ref b14, .ref b15, .ref b16, .ref b17, .ref b18, .ref b19, .ref b20, .ref b21, .ref b22])), (b20, .inr (10, [.int 0, .int 0, .int 0, .int 0, .int 0, .int 0, .int 0, .int 0, .int 0, .int 0])), (b6, .inr (2, [.int 0, .int 1, .int 0, .ref b23, .ref b24, .ref b25]))] H := hP
      have hD := z_tie hP hD rfl
      refine W.widen (k := 0) (n := 0) (Nat.le_of_ble_eq_true rfl) (Nat.le_of_ble_eq_true rfl) ?_
      refine lv_if_eq (tgt := 26) hx hb d_X_rule_11 (by decide) (fun hc => absurd hc (by decide +kernel)) (fun _ => ?_)
      refine lv_iload_n hx hb d_X_rule_14 rfl (lv_at hl 3 rfl) ?_
      refine z_callS (index := 308) (As := [.int p2]) (rest := []) (wr := [(b0, .inr (0, [.ref b5, .ref b6, .ref b7, .ref b8, .int 0, .int 0, .ref b9, .ref b10, .ref b11, .ref b12, .ref b13, .ref b14, .ref b15, .ref b16, .ref b17, .ref b18, .ref b19, .ref b20, .ref b21, .ref b22])), (b20, .inr (10, [.int 0, .int 0, .int 0, .int 0, .int 0, .int 0, .int 0, .int 0, .int 0, .int 0])), (b6, .inr (2, [.int 0, .int 1, .int 0, .ref b23, .ref b24, .ref b25]))]) Z (c1_X_isLetter l G (p2)) hl.1 q918 q518 q1 q519 ⟨by decide, by decide, by show _ = some 1; decide +kernel⟩ ⟨Nat.le_of_ble_eq_true rfl, Nat.le_of_ble_eq_true rfl⟩ ⟨Nat.le_of_ble_eq_true rfl, Nat.le_of_ble_eq_true rfl⟩ rfl (Nat.le_of_ble_eq_true rfl) d_X_rule_15 hP hD hS hA [] [0, 1, 2] rfl rfl rfl rfl (by decide) (fun v w1 H locs hw_13 hP hD hS => ?_)
      rcases hw_13 with ⟨rfl, rfl, hq_14⟩ | ⟨rfl, rfl, hq_15, hq_16⟩ | ⟨rfl, rfl, hq_17, hq_18⟩
      · try simp only [Int32.toInt_toInt64, li_0] at hq_14
        have hP : va_P G.1 classes [(b0, .inr (0, [.ref b5, .ref b6, .ref b7, .ref b8, .int 0, .int 0, .ref b9, .ref b10, .ref b11, .ref b12, .ref b13, .ref b14, .ref b15, .ref b16, .ref b17, .ref b18, .ref b19, .ref b20, .ref b21, .ref b22])), (b20, .inr (10, [.int 0, .int 0, .int 0, .int 0, .int 0, .int 0, .int 0, .int 0, .int 0, .int 0])), (b6, .inr (2, [.int 0, .int 1, .int 0, .ref b23, .ref b24, .ref b25]))] H := hP
        have hD := z_tie hP hD rfl
        refine W.widen (k := 0) (n := 0) (Nat.le_of_ble_eq_true rfl) (Nat.le_of_ble_eq_true rfl) ?_
        refine lv_if_eq (tgt := 26) hx hb d_X_rule_18 (by decide) (fun _ => ?_) (fun hc => absurd hc (by decide +kernel))
        refine lv_iconst (v := (-1)) hx hb d_X_rule_26 (by decide) ?_
        exact z_iret hx hb hr hlocks hP hD hS (Nat.le_of_ble_eq_true rfl) (Nat.le_of_ble_eq_true rfl) d_X_rule_27 (congrArg (fun z => some (Value.int z)) (by unfold a_rule; (first | rfl | (repeat (first | rw [if_pos (by omega)] | rw [if_neg (by omega)])))))
      · try simp only [Int32.toInt_toInt64, li_0] at hq_15
        try simp only [Int32.toInt_toInt64, li_10] at hq_16
        have hP : va_P G.1 classes [(b0, .inr (0, [.ref b5, .ref b6, .ref b7, .ref b8, .int 0, .int 0, .ref b9, .ref b10, .ref b11, .ref b12, .ref b13, .ref b14, .ref b15, .ref b16, .ref b17, .ref b18, .ref b19, .ref b20, .ref b21, .ref b22])), (b20, .inr (10, [.int 0, .int 0, .int 0, .int 0, .int 0, .int 0, .int 0, .int 0, .int 0, .int 0])), (b6, .inr (2, [.int 0, .int 1, .int 0, .ref b23, .ref b24, .ref b25]))] H := hP
        have hD := z_tie hP hD rfl
        refine W.widen (k := 0) (n := 0) (Nat.le_of_ble_eq_true rfl) (Nat.le_of_ble_eq_true rfl) ?_
        refine lv_if_eq (tgt := 26) hx hb d_X_rule_18 (by decide) (fun _ => ?_) (fun hc => absurd hc (by decide +kernel))
        refine lv_iconst (v := (-1)) hx hb d_X_rule_26 (by decide) ?_
        exact z_iret hx hb hr hlocks hP hD hS (Nat.le_of_ble_eq_true rfl) (Nat.le_of_ble_eq_true rfl) d_X_rule_27 (congrArg (fun z => some (Value.int z)) (by unfold a_rule; (first | rfl | (repeat (first | rw [if_pos (by omega)] | rw [if_neg (by omega)])))))
      · try simp only [Int32.toInt_toInt64, li_0] at hq_17
        try simp only [Int32.toInt_toInt64, li_10] at hq_18
        have hP : va_P G.1 classes [(b0, .inr (0, [.ref b5, .ref b6, .ref b7, .ref b8, .int 0, .int 0, .ref b9, .ref b10, .ref b11, .ref b12, .ref b13, .ref b14, .ref b15, .ref b16, .ref b17, .ref b18, .ref b19, .ref b20, .ref b21, .ref b22])), (b20, .inr (10, [.int 0, .int 0, .int 0, .int 0, .int 0, .int 0, .int 0, .int 0, .int 0, .int 0])), (b6, .inr (2, [.int 0, .int 1, .int 0, .ref b23, .ref b24, .ref b25]))] H := hP
        have hD := z_tie hP hD rfl
        refine W.widen (k := 0) (n := 0) (Nat.le_of_ble_eq_true rfl) (Nat.le_of_ble_eq_true rfl) ?_
        refine lv_if_eq (tgt := 26) hx hb d_X_rule_18 (by decide) (fun hc => absurd hc (by decide +kernel)) (fun _ => ?_)
        refine lv_iload_n hx hb d_X_rule_21 rfl (lv_at hl 2 rfl) ?_
        refine lv_iload_n hx hb d_X_rule_22 rfl (lv_at hl 3 rfl) ?_
        refine lv_icmp_ne (tgt := 28) hx hb d_X_rule_23 (by decide) (fun hc_19 => ?_) (fun hc_19 => ?_)
        · simp only [fa_lt, fa_le, fa_eq, Int32.toInt_toInt64] at hc_19
          refine lv_iload hx hb d_X_rule_28 (lv_at hl 4 rfl) ?_
          refine lv_if_eq (tgt := 41) hx hb d_X_rule_30 (by decide) (fun hc_20 => ?_) (fun hc_20 => ?_)
          · simp only [fa_lt, fa_le, fa_eq, Int32.toInt_toInt64, li_0] at hc_20
            refine lv_aload_n hx hb d_X_rule_41 rfl (lv_at hl 0 rfl) ?_
            refine va_get (D := G.1) (ci := 0) (v := .ref b20) (C := R_X) (T := F_X) (N := 20) hx hb hts i_X hown hK hP 0 rfl rfl 17 (by decide) (hts _ q434) (fun _ h9 => h9) rfl d_X_rule_42 ?_
            refine lv_aload_n hx hb d_X_rule_45 rfl (lv_at hl 0 rfl) ?_
            refine va_get (D := G.1) (ci := 0) (v := .ref b6) (C := R_X) (T := F_X) (N := 20) hx hb hts i_X hown hK hP 0 rfl rfl 1 (by decide) (hts _ q418) (fun _ h9 => h9) rfl d_X_rule_46 ?_
            refine lv_iload_n hx hb d_X_rule_49 rfl (lv_at hl 1 rfl) ?_
            refine lv_iload_n hx hb d_X_rule_50 rfl (lv_at hl 2 rfl) ?_
            refine lv_iload_n hx hb d_X_rule_51 rfl (lv_at hl 3 rfl) ?_
            refine z_callV (index := 311) (As := [.ref b6, .int p0, .int p1, .int p2]) (rest := []) (wr := [(b0, .inr (0, [.ref b5, .ref b6, .ref b7, .ref b8, .int 0, .int 0, .ref b9, .ref b10, .ref b11, .ref b12, .ref b13, .ref b14, .ref b15, .ref b16, .ref b17, .ref b18, .ref b19, .ref b20, .ref b21, .ref b22]))]) Z (c1_Pair_tally l G (b20) (b6) (p0) (p1) (p2) (b23) (b24) (b25) (by first | assumption | decide +kernel | omega) (by first | assumption | decide +kernel | omega) (by first | assumption | decide +kernel | omega) (by first | assumption | decide +kernel | omega) (by first | assumption | decide +kernel | omega) (by first | assumption | decide +kernel | omega)) hl.1 q919 q920 q921 q11 q922 ⟨by decide, by decide, by show _ = some 4; decide +kernel⟩ ⟨Nat.le_of_ble_eq_true rfl, Nat.le_of_ble_eq_true rfl⟩ ⟨Nat.le_of_ble_eq_true rfl, Nat.le_of_ble_eq_true rfl⟩ rfl (Nat.le_of_ble_eq_true rfl) d_X_rule_52 hP hD hS hA 1 10 rfl rfl rfl [1, 2] [0] rfl rfl rfl rfl (by decide) (fun v w1 H locs hw_21 hP hD hS => ?_)
            obtain ⟨rfl, rfl⟩ := hw_21
            have hP : va_P G.1 classes [(b0, .inr (0, [.ref b5, .ref b6, .ref b7, .ref b8, .int 0, .int 0, .ref b9, .ref b10, .ref b11, .ref b12, .ref b13, .ref b14, .ref b15, .ref b16, .ref b17, .ref b18, .ref b19, .ref b20, .ref b21, .ref b22])), (b20, .inr (10, [.int 0, .int 0, .int 0, .int 0, .int 0, .int 0, .int 0, .int 0, .int 0, .int 0])), (b6, .inr (2, [.int 0, .int 1, .int 0, .ref b23, .ref b24, .ref b25]))] H := hP
            have hD := z_tie hP hD rfl
            refine W.widen (k := 0) (n := 0) (Nat.le_of_ble_eq_true rfl) (Nat.le_of_ble_eq_true rfl) ?_
            refine lv_iload hx hb d_X_rule_55 (lv_at hl 4 rfl) ?_
            refine lv_if_ne (tgt := 70) hx hb d_X_rule_57 (by decide) (fun hc => absurd hc (by intro hc; simp only [fa_lt, fa_le, fa_eq, Int32.toInt_toInt64, li_0] at hc; omega)) (fun _ => ?_)
            refine lv_aload_n hx hb d_X_rule_60 rfl (lv_at hl 0 rfl) ?_
            refine va_get (D := G.1) (ci := 0) (v := .ref b20) (C := R_X) (T := F_X) (N := 20) hx hb hts i_X hown hK hP 0 rfl rfl 17 (by decide) (hts _ q434) (fun _ h9 => h9) rfl d_X_rule_61 ?_
            refine va_get (D := G.1) (ci := 10) (v := .int 0) (C := R_Pair) (T := F_Pair) (N := 10) hx hb hts i_Pair hown hK hP 1 rfl rfl 0 (by decide) (hts _ q364) (fun _ h9 => h9) rfl d_X_rule_64 ?_
            refine lv_goto (tgt := 77) hx hb d_X_rule_67 (by decide) ?_
            exact z_iret hx hb hr hlocks hP hD hS (Nat.le_of_ble_eq_true rfl) (Nat.le_of_ble_eq_true rfl) d_X_rule_77 (congrArg (fun z => some (Value.int z)) (by unfold a_rule; (first | rfl | (repeat (first | rw [if_pos (by omega)] | rw [if_neg (by omega)])))))
          · simp only [fa_lt, fa_le, fa_eq, Int32.toInt_toInt64, li_0] at hc_20
            refine lv_iload hx hb d_X_rule_33 (lv_at hl 4 rfl) ?_
            refine lv_iconst (v := 1) hx hb d_X_rule_35 (by decide) ?_
            refine lv_icmp_eq (tgt := 41) hx hb d_X_rule_36 (by decide) (fun hc_22 => ?_) (fun hc_22 => ?_)
            · simp only [fa_lt, fa_le, fa_eq, Int32.toInt_toInt64, li_1] at hc_22
              refine lv_aload_n hx hb d_X_rule_41 rfl (lv_at hl 0 rfl) ?_
              refine va_get (D := G.1) (ci := 0) (v := .ref b20) (C := R_X) (T := F_X) (N := 20) hx hb hts i_X hown hK hP 0 rfl rfl 17 (by decide) (hts _ q434) (fun _ h9 => h9) rfl d_X_rule_42 ?_
              refine lv_aload_n hx hb d_X_rule_45 rfl (lv_at hl 0 rfl) ?_
              refine va_get (D := G.1) (ci := 0) (v := .ref b6) (C := R_X) (T := F_X) (N := 20) hx hb hts i_X hown hK hP 0 rfl rfl 1 (by decide) (hts _ q418) (fun _ h9 => h9) rfl d_X_rule_46 ?_
              refine lv_iload_n hx hb d_X_rule_49 rfl (lv_at hl 1 rfl) ?_
              refine lv_iload_n hx hb d_X_rule_50 rfl (lv_at hl 2 rfl) ?_
              refine lv_iload_n hx hb d_X_rule_51 rfl (lv_at hl 3 rfl) ?_
              refine z_callV (index := 311) (As := [.ref b6, .int p0, .int p1, .int p2]) (rest := []) (wr := [(b0, .inr (0, [.ref b5, .ref b6, .ref b7, .ref b8, .int 0, .int 0, .ref b9, .ref b10, .ref b11, .ref b12, .ref b13, .ref b14, .ref b15, .ref b16, .ref b17, .ref b18, .ref b19, .ref b20, .ref b21, .ref b22]))]) Z (c1_Pair_tally l G (b20) (b6) (p0) (p1) (p2) (b23) (b24) (b25) (by first | assumption | decide +kernel | omega) (by first | assumption | decide +kernel | omega) (by first | assumption | decide +kernel | omega) (by first | assumption | decide +kernel | omega) (by first | assumption | decide +kernel | omega) (by first | assumption | decide +kernel | omega)) hl.1 q919 q920 q921 q11 q922 ⟨by decide, by decide, by show _ = some 4; decide +kernel⟩ ⟨Nat.le_of_ble_eq_true rfl, Nat.le_of_ble_eq_true rfl⟩ ⟨Nat.le_of_ble_eq_true rfl, Nat.le_of_ble_eq_true rfl⟩ rfl (Nat.le_of_ble_eq_true rfl) d_X_rule_52 hP hD hS hA 1 10 rfl rfl rfl [1, 2] [0] rfl rfl rfl rfl (by decide) (fun v w1 H locs hw_23 hP hD hS => ?_)
              obtain ⟨rfl, rfl⟩ := hw_23
              have hP : va_P G.1 classes [(b0, .inr (0, [.ref b5, .ref b6, .ref b7, .ref b8, .int 0, .int 0, .ref b9, .ref b10, .ref b11, .ref b12, .ref b13, .ref b14, .ref b15, .ref b16, .ref b17, .ref b18, .ref b19, .ref b20, .ref b21, .ref b22])), (b20, .inr (10, [.int 0, .int 0, .int 0, .int 0, .int 0, .int 0, .int 0, .int 0, .int 0, .int 0])), (b6, .inr (2, [.int 0, .int 1, .int 0, .ref b23, .ref b24, .ref b25]))] H := hP
              have hD := z_tie hP hD rfl
              refine W.widen (k := 0) (n := 0) (Nat.le_of_ble_eq_true rfl) (Nat.le_of_ble_eq_true rfl) ?_
              refine lv_iload hx hb d_X_rule_55 (lv_at hl 4 rfl) ?_
              refine lv_if_ne (tgt := 70) hx hb d_X_rule_57 (by decide) (fun _ => ?_) (fun hc => absurd hc (by intro hc; simp only [fa_lt, fa_le, fa_eq, Int32.toInt_toInt64, li_0] at hc; omega))
              refine lv_aload_n hx hb d_X_rule_70 rfl (lv_at hl 0 rfl) ?_
              refine va_get (D := G.1) (ci := 0) (v := .ref b20) (C := R_X) (T := F_X) (N := 20) hx hb hts i_X hown hK hP 0 rfl rfl 17 (by decide) (hts _ q434) (fun _ h9 => h9) rfl d_X_rule_71 ?_
              refine va_get (D := G.1) (ci := 10) (v := .int 0) (C := R_Pair) (T := F_Pair) (N := 10) hx hb hts i_Pair hown hK hP 1 rfl rfl 1 (by decide) (hts _ q366) (fun _ h9 => h9) rfl d_X_rule_74 ?_
              exact z_iret hx hb hr hlocks hP hD hS (Nat.le_of_ble_eq_true rfl) (Nat.le_of_ble_eq_true rfl) d_X_rule_77 (congrArg (fun z => some (Value.int z)) (by unfold a_rule; (first | rfl | (repeat (first | rw [if_pos (by omega)] | rw [if_neg (by omega)])))))
            · simp only [fa_lt, fa_le, fa_eq, Int32.toInt_toInt64, li_1] at hc_22
              refine lv_iconst (v := (-1)) hx hb d_X_rule_39 (by decide) ?_
              exact z_iret hx hb hr hlocks hP hD hS (Nat.le_of_ble_eq_true rfl) (Nat.le_of_ble_eq_true rfl) d_X_rule_40 (congrArg (fun z => some (Value.int z)) (by unfold a_rule; (first | rfl | (repeat (first | rw [if_pos (by omega)] | rw [if_neg (by omega)])))))
        · simp only [fa_lt, fa_le, fa_eq, Int32.toInt_toInt64] at hc_19
          refine lv_iconst (v := (-1)) hx hb d_X_rule_26 (by decide) ?_
          exact z_iret hx hb hr hlocks hP hD hS (Nat.le_of_ble_eq_true rfl) (Nat.le_of_ble_eq_true rfl) d_X_rule_27 (congrArg (fun z => some (Value.int z)) (by unfold a_rule; (first | rfl | (repeat (first | rw [if_pos (by omega)] | rw [if_neg (by omega)])))))
