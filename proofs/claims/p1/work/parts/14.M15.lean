theorem d_Model_ran_0 : decode prog_14_method_52_code 0 = .ok (.aload_n 0, 1) := by decide +kernel
theorem d_Model_ran_1 : decode prog_14_method_52_code 1 = .ok (.iconst 0, 1) := by decide +kernel
theorem d_Model_ran_2 : decode prog_14_method_52_code 2 = .ok (.putfield 1, 3) := by decide +kernel
theorem d_Model_ran_5 : decode prog_14_method_52_code 5 = .ok (.aload_n 0, 1) := by decide +kernel
theorem d_Model_ran_6 : decode prog_14_method_52_code 6 = .ok (.getfield 290, 3) := by decide +kernel
theorem d_Model_ran_9 : decode prog_14_method_52_code 9 = .ok (.ifCond .ne 5, 3) := by decide +kernel
theorem d_Model_ran_12 : decode prog_14_method_52_code 12 = .ok (.iconst (-1), 1) := by decide +kernel
theorem d_Model_ran_13 : decode prog_14_method_52_code 13 = .ok (.ireturn, 1) := by decide +kernel
abbrev m_t_Model_ran : Room := { frames := 0, cells := 0, slots := 0, locals := 0 }
set_option maxHeartbeats 4000000 in
set_option maxRecDepth 100000 in
theorem t_Model_ran (l : Launch) (G : zG) (b0 : Nat) (p0 : Int32) (b2 : Nat) (b3 : Nat) (b4 : Nat) (b5 : Nat) (b6 : Nat) (b7 : Nat) (b8 : Nat) (b9 : Nat) (b10 : Nat) (b11 : Nat) (b12 : Nat) (b13 : Nat) (b14 : Nat) (b15 : Nat) (b16 : Nat) (b17 : Nat) (b18 : Nat) (b19 : Nat) (b20 : Nat) (b21 : Nat) (b22 : Nat) (b23 : Nat) (b24 : Nat) (b25 : Nat) (b26 : Nat) (b27 : Nat) (b28 : Nat) (b29 : Nat) (b30 : Nat) (b31 : Nat) (b32 : Nat) (b33 : Nat) (b34 : Nat) (b35 : Nat) (b36 : Nat) (b37 : Nat) (b38 : Nat) (b39 : Nat) (b40 : Nat)  : zM l G y_Model_ran prog_14_method_52_code 2 (Option.some Jvm.ClassFile.FieldType.int) m_t_Model_ran [.ref b0, .int p0] [(b0, .inr (12, [.int 0, .ref b2, .ref b3, .ref b4, .ref b5, .int 0, .ref b6, .int 0, .int 0, .int 0, .int 0, .ref b7, .ref b8, .ref b9, .int 0, .ref b10, .ref b11, .ref b12, .ref b13, .ref b14, .ref b15, .ref b16, .ref b17, .ref b18, .ref b19, .ref b20, .ref b21, .int 0, .ref b22, .ref b23, .int 0, .int 0, .int 0, .int 0, .ref b24, .ref b25, .ref b26, .ref b27, .ref b28, .ref b29, .ref b30, .int 0, .ref b31, .ref b32, .int 0, .ref b33, .ref b34, .ref b35, .ref b36, .ref b37, .int 0, .ref b38, .ref b39, .ref b40]))] (fun v _ => v = some (.int (a_ran p0))) := by
  refine z_start (by decide +kernel) (Nat.le_of_ble_eq_true rfl) ?_
  intro p e s m below meth c A Z hr hnm hA hP hD hS ls hl
  have Z : zC p s m _ meth c prog_14_method_52_code 2 "TraceMachinesModel" G := Z
  obtain ⟨hx, hb, hml, hown, hts, hK, hN, hlocks⟩ := id Z
  have hl : lv_has ls 2 [(0, .ref b0), (1, .int p0)] := hl
  refine lv_aload_n hx hb d_Model_ran_0 rfl (lv_at hl 0 rfl) ?_
  refine lv_iconst (v := 0) hx hb d_Model_ran_1 (by decide) ?_
  refine va_put (D := G.1) (ci := 12) (v := .int 0) (ty := .int) (C := R_Model) (T := F_Model) (N := 54) hx hb hts i_Model t_Model t_Model_ok n_Model hown hK hP hD hS 0 rfl rfl 0 (by decide) (hts _ q1113) (fun _ h9 => h9) rfl (by decide +kernel) rfl rfl (Nat.le_of_ble_eq_true rfl) d_Model_ran_2 (fun H locs hP hD hS => ?_)
  have hP : va_P G.1 classes [(b0, .inr (12, [.int 0, .ref b2, .ref b3, .ref b4, .ref b5, .int 0, .ref b6, .int 0, .int 0, .int 0, .int 0, .ref b7, .ref b8, .ref b9, .int 0, .ref b10, .ref b11, .ref b12, .ref b13, .ref b14, .ref b15, .ref b16, .ref b17, .ref b18, .ref b19, .ref b20, .ref b21, .int 0, .ref b22, .ref b23, .int 0, .int 0, .int 0, .int 0, .ref b24, .ref b25, .ref b26, .ref b27, .ref b28, .ref b29, .ref b30, .int 0, .ref b31, .ref b32, .int 0, .ref b33, .ref b34, .ref b35, .ref b36, .ref b37, .int 0, .ref b38, .ref b39, .ref b40]))] H := hP
  have hD := z_tie hP hD rfl
  refine lv_aload_n hx hb d_Model_ran_5 rfl (lv_at hl 0 rfl) ?_
  refine va_get (D := G.1) (ci := 12) (v := .int 0) (C := R_Model) (T := F_Model) (N := 54) hx hb hts i_Model hown hK hP 0 rfl rfl 30 (by decide) (hts _ q1143) (fun _ h9 => h9) rfl d_Model_ran_6 ?_
  refine lv_if_ne (tgt := 14) hx hb d_Model_ran_9 (by decide) (fun hc => absurd hc (by decide +kernel)) (fun _ => ?_)
  refine lv_iconst (v := (-1)) hx hb d_Model_ran_12 (by decide) ?_
  exact z_iret hx hb hr hlocks hP hD hS (Nat.le_of_ble_eq_true rfl) (Nat.le_of_ble_eq_true rfl) d_Model_ran_13 (congrArg (fun z => some (Value.int z)) (by unfold a_ran; (first | rfl | (repeat (first | rw [if_pos (by omega)] | rw [if_neg (by omega)])))))
theorem d_Model_ways_0 : decode prog_14_method_59_code 0 = .ok (.aload_n 0, 1) := by decide +kernel
theorem d_Model_ways_1 : decode prog_14_method_59_code 1 = .ok (.iconst 0, 1) := by decide +kernel
theorem d_Model_ways_2 : decode prog_14_method_59_code 2 = .ok (.putfield 1, 3) := by decide +kernel
theorem d_Model_ways_5 : decode prog_14_method_59_code 5 = .ok (.aload_n 0, 1) := by decide +kernel
theorem d_Model_ways_6 : decode prog_14_method_59_code 6 = .ok (.iload_n 1, 1) := by decide +kernel
theorem d_Model_ways_7 : decode prog_14_method_59_code 7 = .ok (.invokevirtual 191, 3) := by decide +kernel
theorem d_Model_ways_10 : decode prog_14_method_59_code 10 = .ok (.ifCond .ne 5, 3) := by decide +kernel
theorem d_Model_ways_13 : decode prog_14_method_59_code 13 = .ok (.iconst (-1), 1) := by decide +kernel
theorem d_Model_ways_14 : decode prog_14_method_59_code 14 = .ok (.ireturn, 1) := by decide +kernel
abbrev m_t_Model_ways : Room := { frames := 2, cells := 0, slots := 0, locals := 46 }
set_option maxHeartbeats 4000000 in
set_option maxRecDepth 100000 in
theorem t_Model_ways (l : Launch) (G : zG) (b0 : Nat) (p0 : Int32) (b2 : Nat) (b3 : Nat) (b4 : Nat) (b5 : Nat) (b6 : Nat) (b7 : Nat) (b8 : Nat) (b9 : Nat) (b10 : Nat) (b11 : Nat) (b12 : Nat) (b13 : Nat) (b14 : Nat) (b15 : Nat) (b16 : Nat) (b17 : Nat) (b18 : Nat) (b19 : Nat) (b20 : Nat) (b21 : Nat) (b22 : Nat) (b23 : Nat) (b24 : Nat) (b25 : Nat) (b26 : Nat) (b27 : Nat) (b28 : Nat) (b29 : Nat) (b30 : Nat) (b31 : Nat) (b32 : Nat) (b33 : Nat) (b34 : Nat) (b35 : Nat) (b36 : Nat) (b37 : Nat) (b38 : Nat) (b39 : Nat) (b40 : Nat)  : zM l G y_Model_ways prog_14_method_59_code 5 (Option.some Jvm.ClassFile.FieldType.int) m_t_Model_ways [.ref b0, .int p0] [(b0, .inr (12, [.int 0, .ref b2, .ref b3, .ref b4, .ref b5, .int 0, .ref b6, .int 0, .int 0, .int 0, .int 0, .ref b7, .ref b8, .ref b9, .int 0, .ref b10, .ref b11, .ref b12, .ref b13, .ref b14, .ref b15, .ref b16, .ref b17, .ref b18, .ref b19, .ref b20, .ref b21, .int 0, .ref b22, .ref b23, .int 0, .int 0, .int 0, .int 0, .ref b24, .ref b25, .ref b26, .ref b27, .ref b28, .ref b29, .ref b30, .int 0, .ref b31, .ref b32, .int 0, .ref b33, .ref b34, .ref b35, .ref b36, .ref b37, .int 0, .ref b38, .ref b39, .ref b40])), (b2, .inl (G.2 0, 503, .inl (upd (fun _ => 0) 501 1)))] (fun v _ => v = some (.int (a_ways p0))) := by
  refine z_start (by decide +kernel) (Nat.le_of_ble_eq_true rfl) ?_
  intro p e s m below meth c A Z hr hnm hA hP hD hS ls hl
  have Z : zC p s m _ meth c prog_14_method_59_code 5 "TraceMachinesModel" G := Z
  obtain ⟨hx, hb, hml, hown, hts, hK, hN, hlocks⟩ := id Z
  have hl : lv_has ls 5 [(0, .ref b0), (1, .int p0)] := hl
  refine lv_aload_n hx hb d_Model_ways_0 rfl (lv_at hl 0 rfl) ?_
  refine lv_iconst (v := 0) hx hb d_Model_ways_1 (by decide) ?_
  refine va_put (D := G.1) (ci := 12) (v := .int 0) (ty := .int) (C := R_Model) (T := F_Model) (N := 54) hx hb hts i_Model t_Model t_Model_ok n_Model hown hK hP hD hS 0 rfl rfl 0 (by decide) (hts _ q1113) (fun _ h9 => h9) rfl (by decide +kernel) rfl rfl (Nat.le_of_ble_eq_true rfl) d_Model_ways_2 (fun H locs hP hD hS => ?_)
  have hP : va_P G.1 classes [(b0, .inr (12, [.int 0, .ref b2, .ref b3, .ref b4, .ref b5, .int 0, .ref b6, .int 0, .int 0, .int 0, .int 0, .ref b7, .ref b8, .ref b9, .int 0, .ref b10, .ref b11, .ref b12, .ref b13, .ref b14, .ref b15, .ref b16, .ref b17, .ref b18, .ref b19, .ref b20, .ref b21, .int 0, .ref b22, .ref b23, .int 0, .int 0, .int 0, .int 0, .ref b24, .ref b25, .ref b26, .ref b27, .ref b28, .ref b29, .ref b30, .int 0, .ref b31, .ref b32, .int 0, .ref b33, .ref b34, .ref b35, .ref b36, .ref b37, .int 0, .ref b38, .ref b39, .ref b40])), (b2, .inl (G.2 0, 503, .inl (upd (fun _ => 0) 501 1)))] H := hP
  have hD := z_tie hP hD rfl
  refine lv_aload_n hx hb d_Model_ways_5 rfl (lv_at hl 0 rfl) ?_
  refine lv_iload_n hx hb d_Model_ways_6 rfl (lv_at hl 1 rfl) ?_
  refine z_callV (index := 191) (As := [.int p0]) (rest := []) (wr := []) Z (c1_Model_isTrace l G (b0) (p0) (b2) (b3) (b4) (b5) (b6) (b7) (b8) (b9) (b10) (b11) (b12) (b13) (b14) (b15) (b16) (b17) (b18) (b19) (b20) (b21) (b22) (b23) (b24) (b25) (b26) (b27) (b28) (b29) (b30) (b31) (b32) (b33) (b34) (b35) (b36) (b37) (b38) (b39) (b40)) hl.1 q1332 q1334 qs52 q14 q1335 ⟨by decide, by decide, by show _ = some 1; decide +kernel⟩ ⟨Nat.le_of_ble_eq_true rfl, Nat.le_of_ble_eq_true rfl⟩ ⟨Nat.le_of_ble_eq_true rfl, Nat.le_of_ble_eq_true rfl⟩ rfl (Nat.le_of_ble_eq_true rfl) d_Model_ways_7 hP hD hS hA 0 12 rfl rfl rfl [0, 1] [] rfl rfl rfl rfl (by decide) (fun v w1 H locs hw_1 hP hD hS => ?_)
  obtain ⟨rfl, rfl⟩ := hw_1
  have hP : va_P G.1 classes [(b0, .inr (12, [.int 0, .ref b2, .ref b3, .ref b4, .ref b5, .int 0, .ref b6, .int 0, .int 0, .int 0, .int 0, .ref b7, .ref b8, .ref b9, .int 0, .ref b10, .ref b11, .ref b12, .ref b13, .ref b14, .ref b15, .ref b16, .ref b17, .ref b18, .ref b19, .ref b20, .ref b21, .int 0, .ref b22, .ref b23, .int 0, .int 0, .int 0, .int 0, .ref b24, .ref b25, .ref b26, .ref b27, .ref b28, .ref b29, .ref b30, .int 0, .ref b31, .ref b32, .int 0, .ref b33, .ref b34, .ref b35, .ref b36, .ref b37, .int 0, .ref b38, .ref b39, .ref b40])), (b2, .inl (G.2 0, 503, .inl (upd (fun _ => 0) 501 1)))] H := hP
  have hD := z_tie hP hD rfl
  refine W.widen (k := 0) (n := 0) (Nat.le_of_ble_eq_true rfl) (Nat.le_of_ble_eq_true rfl) ?_
  refine lv_if_ne (tgt := 15) hx hb d_Model_ways_10 (by decide) (fun hc => absurd hc (by decide +kernel)) (fun _ => ?_)
  refine lv_iconst (v := (-1)) hx hb d_Model_ways_13 (by decide) ?_
  exact z_iret hx hb hr hlocks hP hD hS (Nat.le_of_ble_eq_true rfl) (Nat.le_of_ble_eq_true rfl) d_Model_ways_14 (congrArg (fun z => some (Value.int z)) (by unfold a_ways; (first | rfl | (repeat (first | rw [if_pos (by omega)] | rw [if_neg (by omega)])))))
theorem d_Model_words_0 : decode prog_14_method_63_code 0 = .ok (.aload_n 0, 1) := by decide +kernel
theorem d_Model_words_1 : decode prog_14_method_63_code 1 = .ok (.iconst 0, 1) := by decide +kernel
theorem d_Model_words_2 : decode prog_14_method_63_code 2 = .ok (.putfield 1, 3) := by decide +kernel
theorem d_Model_words_5 : decode prog_14_method_63_code 5 = .ok (.iload_n 1, 1) := by decide +kernel
theorem d_Model_words_6 : decode prog_14_method_63_code 6 = .ok (.i2l, 1) := by decide +kernel
theorem d_Model_words_7 : decode prog_14_method_63_code 7 = .ok (.lconst 0, 1) := by decide +kernel
theorem d_Model_words_8 : decode prog_14_method_63_code 8 = .ok (.ldc2_w 333, 3) := by decide +kernel
theorem d_Model_words_11 : decode prog_14_method_63_code 11 = .ok (.invokestatic 138, 3) := by decide +kernel
theorem ll_8 : (8 : Int64).toInt = 8 := by decide +kernel
abbrev m_c7_Model_in : Room := { frames := 0, cells := 0, slots := 0, locals := 0 }
set_option maxHeartbeats 4000000 in
set_option maxRecDepth 100000 in
theorem c7_Model_in (l : Launch) (G : zG) (b0 : Int64)  : zM l G y_Model_in prog_14_method_3_code 6 (Option.some Jvm.ClassFile.FieldType.boolean) m_c7_Model_in [.long b0, .long 0, .long 8] [] (fun v w => (v = some (.int 0) ∧ w = [] ∧ b0.toInt < 0) ∨ (v = some (.int 0) ∧ w = [] ∧ 0 ≤ b0.toInt ∧ 8 < b0.toInt) ∨ (v = some (.int 1) ∧ w = [] ∧ 0 ≤ b0.toInt ∧ b0.toInt ≤ 8)) := by
  refine z_start (by decide +kernel) (Nat.le_of_ble_eq_true rfl) ?_
  intro p e s m below meth c A Z hr hnm hA hP hD hS ls hl
  have Z : zC p s m _ meth c prog_14_method_3_code 6 "TraceMachinesModel" G := Z
  obtain ⟨hx, hb, hml, hown, hts, hK, hN, hlocks⟩ := id Z
  have hl : lv_has ls 6 [(0, .long b0), (2, .long 0), (4, .long 8)] := hl
  refine lv_lload_n hx hb d_Model_in_0 rfl (lv_at hl 0 rfl) ?_
  refine lv_lload_n hx hb d_Model_in_1 rfl (lv_at hl 1 rfl) ?_
  refine W.lcmp hx hb d_Model_in_2 ?_
  refine lv_topi (fun v_1 ev_1 => ?_)
  refine lv_if_lt (tgt := 17) hx hb d_Model_in_3 (by decide) (fun hc_2 => ?_) (fun hc_2 => ?_)
  · rw [ev_1] at hc_2; simp only [lg_cmp_lt, lg_cmp_le, lg_cmp_gt, lg_cmp_ge, lg_cmp_eq] at hc_2; simp only [fa_lt64, fa_le64, fa_eq64, Int32.toInt_toInt64, ll_0] at hc_2
    refine lv_iconst (v := 0) hx hb d_Model_in_17 (by decide) ?_
    exact z_zret hx hb hr hlocks rfl hP hD hS (Nat.le_of_ble_eq_true rfl) (Nat.le_of_ble_eq_true rfl) d_Model_in_18 (Or.inl ⟨rfl, rfl, by omega⟩)
  · rw [ev_1] at hc_2; simp only [lg_cmp_lt, lg_cmp_le, lg_cmp_gt, lg_cmp_ge, lg_cmp_eq] at hc_2; simp only [fa_lt64, fa_le64, fa_eq64, Int32.toInt_toInt64, ll_0] at hc_2
    refine lv_lload_n hx hb d_Model_in_6 rfl (lv_at hl 0 rfl) ?_
    refine lv_lload hx hb d_Model_in_7 (lv_at hl 2 rfl) ?_
    refine W.lcmp hx hb d_Model_in_9 ?_
    refine lv_topi (fun v_3 ev_3 => ?_)
    refine lv_if_gt (tgt := 17) hx hb d_Model_in_10 (by decide) (fun hc_4 => ?_) (fun hc_4 => ?_)
    · rw [ev_3] at hc_4; simp only [lg_cmp_lt, lg_cmp_le, lg_cmp_gt, lg_cmp_ge, lg_cmp_eq] at hc_4; simp only [fa_lt64, fa_le64, fa_eq64, Int32.toInt_toInt64, ll_8] at hc_4
      refine lv_iconst (v := 0) hx hb d_Model_in_17 (by decide) ?_
      exact z_zret hx hb hr hlocks rfl hP hD hS (Nat.le_of_ble_eq_true rfl) (Nat.le_of_ble_eq_true rfl) d_Model_in_18 (Or.inr (Or.inl ⟨rfl, rfl, by omega, by omega⟩))
    · rw [ev_3] at hc_4; simp only [lg_cmp_lt, lg_cmp_le, lg_cmp_gt, lg_cmp_ge, lg_cmp_eq] at hc_4; simp only [fa_lt64, fa_le64, fa_eq64, Int32.toInt_toInt64, ll_8] at hc_4
      refine lv_iconst (v := 1) hx hb d_Model_in_13 (by decide) ?_
      refine lv_goto (tgt := 18) hx hb d_Model_in_14 (by decide) ?_
      exact z_zret hx hb hr hlocks rfl hP hD hS (Nat.le_of_ble_eq_true rfl) (Nat.le_of_ble_eq_true rfl) d_Model_in_18 (Or.inr (Or.inr (⟨rfl, rfl, by omega, by omega⟩)))
theorem d_Model_words_14 : decode prog_14_method_63_code 14 = .ok (.ifCond .ne 5, 3) := by decide +kernel
theorem d_Model_words_17 : decode prog_14_method_63_code 17 = .ok (.iconst (-1), 1) := by decide +kernel
theorem d_Model_words_18 : decode prog_14_method_63_code 18 = .ok (.ireturn, 1) := by decide +kernel
theorem d_Model_words_19 : decode prog_14_method_63_code 19 = .ok (.aload_n 0, 1) := by decide +kernel
theorem d_Model_words_20 : decode prog_14_method_63_code 20 = .ok (.invokevirtual 254, 3) := by decide +kernel
theorem d_Model_words_23 : decode prog_14_method_63_code 23 = .ok (.aload_n 0, 1) := by decide +kernel
theorem d_Model_words_24 : decode prog_14_method_63_code 24 = .ok (.iconst 0, 1) := by decide +kernel
theorem d_Model_words_25 : decode prog_14_method_63_code 25 = .ok (.invokevirtual 275, 3) := by decide +kernel
abbrev m_c2_Model_start : Room := { frames := 0, cells := 0, slots := 0, locals := 0 }
set_option maxHeartbeats 4000000 in
set_option maxRecDepth 100000 in
theorem c2_Model_start (l : Launch) (G : zG) (b0 : Nat) (b1 : Nat) (b2 : Nat) (b3 : Nat) (b4 : Nat) (b5 : Nat) (b6 : Nat) (b7 : Nat) (b8 : Nat) (b9 : Nat) (b10 : Nat) (b11 : Nat) (b12 : Nat) (b13 : Nat) (b14 : Nat) (b15 : Nat) (b16 : Nat) (b17 : Nat) (b18 : Nat) (b19 : Nat) (b20 : Nat) (b21 : Nat) (b22 : Nat) (b23 : Nat) (b24 : Nat) (b25 : Nat) (b26 : Nat) (b27 : Nat) (b28 : Nat) (b29 : Nat) (b30 : Nat) (b31 : Nat) (b32 : Nat) (b33 : Nat) (b34 : Nat) (b35 : Nat) (b36 : Nat) (b37 : Nat) (b38 : Nat) (b39 : Nat)  : zM l G y_Model_start prog_14_method_46_code 3 (Option.none : Option Jvm.ClassFile.FieldType) m_c2_Model_start [.ref b0, .int 0] [(b0, .inr (12, [.int 0, .ref b1, .ref b2, .ref b3, .ref b4, .int 0, .ref b5, .int 0, .int 0, .int 0, .int 0, .ref b6, .ref b7, .ref b8, .int 0, .ref b9, .ref b10, .ref b11, .ref b12, .ref b13, .ref b14, .ref b15, .ref b16, .ref b17, .ref b18, .ref b19, .ref b20, .int 0, .ref b21, .ref b22, .int 0, .int 0, .int 0, .int 0, .ref b23, .ref b24, .ref b25, .ref b26, .ref b27, .ref b28, .ref b29, .int 0, .ref b30, .ref b31, .int 0, .ref b32, .ref b33, .ref b34, .ref b35, .ref b36, .int 0, .ref b37, .ref b38, .ref b39])), (b21, .inl (G.2 1, 4, .inr (.inl (fun _ => 0)))), (b15, .inl (G.2 0, 2, .inl (upd (fun _ => 0) 0 0)))] (fun v w => (v = none ∧ w = [(b0, .inr (12, [.int 0, .ref b1, .ref b2, .ref b3, .ref b4, .int 0, .ref b5, .int 0, .int 0, .int 0, .int 0, .ref b6, .ref b7, .ref b8, .int 0, .ref b9, .ref b10, .ref b11, .ref b12, .ref b13, .ref b14, .ref b15, .ref b16, .ref b17, .ref b18, .ref b19, .ref b20, .int 0, .ref b21, .ref b22, .int 0, .int 0, .int 0, .int 0, .ref b23, .ref b24, .ref b25, .ref b26, .ref b27, .ref b28, .ref b29, .int 0, .ref b30, .ref b31, .int 0, .ref b32, .ref b33, .ref b34, .ref b35, .ref b36, .int 0, .ref b37, .ref b38, .ref b39])), (b21, .inl (G.2 1, 4, .inr (.inl (vp_updL (vp_updL (vp_updL (vp_updL (vp_updL (fun _ => 0) 0 0) 1 0) 2 0) 3 0) 0 0)))), (b15, .inl (G.2 0, 2, .inl (upd (fun _ => 0) 0 0)))])) := by
  refine z_start (by decide +kernel) (Nat.le_of_ble_eq_true rfl) ?_
  intro p e s m below meth c A Z hr hnm hA hP hD hS ls hl
  have Z : zC p s m _ meth c prog_14_method_46_code 3 "TraceMachinesModel" G := Z
  obtain ⟨hx, hb, hml, hown, hts, hK, hN, hlocks⟩ := id Z
  have hl : lv_has ls 3 [(0, .ref b0), (1, .int 0)] := hl
  refine lv_iconst (v := 0) hx hb d_Model_start_0 (by decide) ?_
  refine lv_istore_n (lv' := [(2, .int 0), (0, .ref b0), (1, .int 0)]) hx hb d_Model_start_1 rfl hl (by decide) rfl (fun ls hl => ?_)
  refine lv_iload_n hx hb d_Model_start_2 rfl (lv_at hl 0 rfl) ?_
  refine lv_iconst (v := 4) hx hb d_Model_start_3 (by decide) ?_
  refine lv_icmp_ge (tgt := 20) hx hb d_Model_start_4 (by decide) (fun hc => absurd hc (by decide +kernel)) (fun _ => ?_)
  refine lv_aload_n hx hb d_Model_start_7 rfl (lv_at hl 1 rfl) ?_
  refine va_get (D := G.1) (ci := 12) (v := .ref b21) (C := R_Model) (T := F_Model) (N := 54) hx hb hts i_Model hown hK hP 0 rfl rfl 28 (by decide) (hts _ q1141) (fun _ h9 => h9) rfl d_Model_start_8 ?_
  refine lv_iload_n hx hb d_Model_start_11 rfl (lv_at hl 0 rfl) ?_
  refine lv_lconst (v := 0) hx hb d_Model_start_12 (by decide) ?_
  refine va_last hx hb hK hP hD hS 1 1 rfl rfl (i := 0) (z_in rfl) d_Model_start_13 (fun H locs hP hD hS => ?_)
  have hP : va_P G.1 classes [(b0, .inr (12, [.int 0, .ref b1, .ref b2, .ref b3, .ref b4, .int 0, .ref b5, .int 0, .int 0, .int 0, .int 0, .ref b6, .ref b7, .ref b8, .int 0, .ref b9, .ref b10, .ref b11, .ref b12, .ref b13, .ref b14, .ref b15, .ref b16, .ref b17, .ref b18, .ref b19, .ref b20, .int 0, .ref b21, .ref b22, .int 0, .int 0, .int 0, .int 0, .ref b23, .ref b24, .ref b25, .ref b26, .ref b27, .ref b28, .ref b29, .int 0, .ref b30, .ref b31, .int 0, .ref b32, .ref b33, .ref b34, .ref b35, .ref b36, .int 0, .ref b37, .ref b38, .ref b39])), (b21, .inl (G.2 1, 4, .inr (.inl (vp_updL (fun _ => 0) 0 0)))), (b15, .inl (G.2 0, 2, .inl (upd (fun _ => 0) 0 0)))] H := hP
  have hD := z_tie hP hD rfl
  refine lv_iinc (v := 1) (lv' := [(2, .int 1), (0, .ref b0), (1, .int 0)]) hx hb d_Model_start_14 hl (k := 0) rfl (by decide +kernel) (by decide) rfl (fun ls hl => ?_)
  refine lv_goto (tgt := 2) hx hb d_Model_start_17 (by decide) ?_
  refine lv_iload_n hx hb d_Model_start_2 rfl (lv_at hl 0 rfl) ?_
  refine lv_iconst (v := 4) hx hb d_Model_start_3 (by decide) ?_
  refine lv_icmp_ge (tgt := 20) hx hb d_Model_start_4 (by decide) (fun hc => absurd hc (by decide +kernel)) (fun _ => ?_)
  refine lv_aload_n hx hb d_Model_start_7 rfl (lv_at hl 1 rfl) ?_
  refine va_get (D := G.1) (ci := 12) (v := .ref b21) (C := R_Model) (T := F_Model) (N := 54) hx hb hts i_Model hown hK hP 0 rfl rfl 28 (by decide) (hts _ q1141) (fun _ h9 => h9) rfl d_Model_start_8 ?_
  refine lv_iload_n hx hb d_Model_start_11 rfl (lv_at hl 0 rfl) ?_
  refine lv_lconst (v := 0) hx hb d_Model_start_12 (by decide) ?_
  refine va_last hx hb hK hP hD hS 1 1 rfl rfl (i := 1) (z_in rfl) d_Model_start_13 (fun H locs hP hD hS => ?_)
  have hP : va_P G.1 classes [(b0, .inr (12, [.int 0, .ref b1, .ref b2, .ref b3, .ref b4, .int 0, .ref b5, .int 0, .int 0, .int 0, .int 0, .ref b6, .ref b7, .ref b8, .int 0, .ref b9, .ref b10, .ref b11, .ref b12, .ref b13, .ref b14, .ref b15, .ref b16, .ref b17, .ref b18, .ref b19, .ref b20, .int 0, .ref b21, .ref b22, .int 0, .int 0, .int 0, .int 0, .ref b23, .ref b24, .ref b25, .ref b26, .ref b27, .ref b28, .ref b29, .int 0, .ref b30, .ref b31, .int 0, .ref b32, .ref b33, .ref b34, .ref b35, .ref b36, .int 0, .ref b37, .ref b38, .ref b39])), (b21, .inl (G.2 1, 4, .inr (.inl (vp_updL (vp_updL (fun _ => 0) 0 0) 1 0)))), (b15, .inl (G.2 0, 2, .inl (upd (fun _ => 0) 0 0)))] H := hP
  have hD := z_tie hP hD rfl
  refine lv_iinc (v := 2) (lv' := [(2, .int 2), (0, .ref b0), (1, .int 0)]) hx hb d_Model_start_14 hl (k := 0) rfl (by decide +kernel) (by decide) rfl (fun ls hl => ?_)
  refine lv_goto (tgt := 2) hx hb d_Model_start_17 (by decide) ?_
  refine lv_iload_n hx hb d_Model_start_2 rfl (lv_at hl 0 rfl) ?_
  refine lv_iconst (v := 4) hx hb d_Model_start_3 (by decide) ?_
  refine lv_icmp_ge (tgt := 20) hx hb d_Model_start_4 (by decide) (fun hc => absurd hc (by decide +kernel)) (fun _ => ?_)
  refine lv_aload_n hx hb d_Model_start_7 rfl (lv_at hl 1 rfl) ?_
  refine va_get (D := G.1) (ci := 12) (v := .ref b21) (C := R_Model) (T := F_Model) (N := 54) hx hb hts i_Model hown hK hP 0 rfl rfl 28 (by decide) (hts _ q1141) (fun _ h9 => h9) rfl d_Model_start_8 ?_
  refine lv_iload_n hx hb d_Model_start_11 rfl (lv_at hl 0 rfl) ?_
  refine lv_lconst (v := 0) hx hb d_Model_start_12 (by decide) ?_
  refine va_last hx hb hK hP hD hS 1 1 rfl rfl (i := 2) (z_in rfl) d_Model_start_13 (fun H locs hP hD hS => ?_)
  have hP : va_P G.1 classes [(b0, .inr (12, [.int 0, .ref b1, .ref b2, .ref b3, .ref b4, .int 0, .ref b5, .int 0, .int 0, .int 0, .int 0, .ref b6, .ref b7, .ref b8, .int 0, .ref b9, .ref b10, .ref b11, .ref b12, .ref b13, .ref b14, .ref b15, .ref b16, .ref b17, .ref b18, .ref b19, .ref b20, .int 0, .ref b21, .ref b22, .int 0, .int 0, .int 0, .int 0, .ref b23, .ref b24, .ref b25, .ref b26, .ref b27, .ref b28, .ref b29, .int 0, .ref b30, .ref b31, .int 0, .ref b32, .ref b33, .ref b34, .ref b35, .ref b36, .int 0, .ref b37, .ref b38, .ref b39])), (b21, .inl (G.2 1, 4, .inr (.inl (vp_updL (vp_updL (vp_updL (fun _ => 0) 0 0) 1 0) 2 0)))), (b15, .inl (G.2 0, 2, .inl (upd (fun _ => 0) 0 0)))] H := hP
  have hD := z_tie hP hD rfl
  refine lv_iinc (v := 3) (lv' := [(2, .int 3), (0, .ref b0), (1, .int 0)]) hx hb d_Model_start_14 hl (k := 0) rfl (by decide +kernel) (by decide) rfl (fun ls hl => ?_)
  refine lv_goto (tgt := 2) hx hb d_Model_start_17 (by decide) ?_
  refine lv_iload_n hx hb d_Model_start_2 rfl (lv_at hl 0 rfl) ?_
  refine lv_iconst (v := 4) hx hb d_Model_start_3 (by decide) ?_
  refine lv_icmp_ge (tgt := 20) hx hb d_Model_start_4 (by decide) (fun hc => absurd hc (by decide +kernel)) (fun _ => ?_)
  refine lv_aload_n hx hb d_Model_start_7 rfl (lv_at hl 1 rfl) ?_
  refine va_get (D := G.1) (ci := 12) (v := .ref b21) (C := R_Model) (T := F_Model) (N := 54) hx hb hts i_Model hown hK hP 0 rfl rfl 28 (by decide) (hts _ q1141) (fun _ h9 => h9) rfl d_Model_start_8 ?_
  refine lv_iload_n hx hb d_Model_start_11 rfl (lv_at hl 0 rfl) ?_
  refine lv_lconst (v := 0) hx hb d_Model_start_12 (by decide) ?_
  refine va_last hx hb hK hP hD hS 1 1 rfl rfl (i := 3) (z_in rfl) d_Model_start_13 (fun H locs hP hD hS => ?_)
  have hP : va_P G.1 classes [(b0, .inr (12, [.int 0, .ref b1, .ref b2, .ref b3, .ref b4, .int 0, .ref b5, .int 0, .int 0, .int 0, .int 0, .ref b6, .ref b7, .ref b8, .int 0, .ref b9, .ref b10, .ref b11, .ref b12, .ref b13, .ref b14, .ref b15, .ref b16, .ref b17, .ref b18, .ref b19, .ref b20, .int 0, .ref b21, .ref b22, .int 0, .int 0, .int 0, .int 0, .ref b23, .ref b24, .ref b25, .ref b26, .ref b27, .ref b28, .ref b29, .int 0, .ref b30, .ref b31, .int 0, .ref b32, .ref b33, .ref b34, .ref b35, .ref b36, .int 0, .ref b37, .ref b38, .ref b39])), (b21, .inl (G.2 1, 4, .inr (.inl (vp_updL (vp_updL (vp_updL (vp_updL (fun _ => 0) 0 0) 1 0) 2 0) 3 0)))), (b15, .inl (G.2 0, 2, .inl (upd (fun _ => 0) 0 0)))] H := hP
  have hD := z_tie hP hD rfl
  refine lv_iinc (v := 4) (lv' := [(2, .int 4), (0, .ref b0), (1, .int 0)]) hx hb d_Model_start_14 hl (k := 0) rfl (by decide +kernel) (by decide) rfl (fun ls hl => ?_)
  refine lv_goto (tgt := 2) hx hb d_Model_start_17 (by decide) ?_
  refine lv_iload_n hx hb d_Model_start_2 rfl (lv_at hl 0 rfl) ?_
  refine lv_iconst (v := 4) hx hb d_Model_start_3 (by decide) ?_
  refine lv_icmp_ge (tgt := 20) hx hb d_Model_start_4 (by decide) (fun _ => ?_) (fun hc => absurd hc (by decide +kernel))
  refine lv_aload_n hx hb d_Model_start_20 rfl (lv_at hl 1 rfl) ?_
  refine va_get (D := G.1) (ci := 12) (v := .ref b21) (C := R_Model) (T := F_Model) (N := 54) hx hb hts i_Model hown hK hP 0 rfl rfl 28 (by decide) (hts _ q1141) (fun _ h9 => h9) rfl d_Model_start_21 ?_
  refine lv_iconst (v := 0) hx hb d_Model_start_24 (by decide) ?_
  refine lv_aload_n hx hb d_Model_start_25 rfl (lv_at hl 1 rfl) ?_
  refine va_get (D := G.1) (ci := 12) (v := .ref b15) (C := R_Model) (T := F_Model) (N := 54) hx hb hts i_Model hown hK hP 0 rfl rfl 21 (by decide) (hts _ q1134) (fun _ h9 => h9) rfl d_Model_start_26 ?_
  refine lv_iload_n hx hb d_Model_start_29 rfl (lv_at hl 2 rfl) ?_
  refine va_iald hx hb hK hP 2 0 rfl rfl (i := 0) (z_in rfl) d_Model_start_30 ?_
  refine z_topi (y := 0) rfl ?_
  refine lv_if_le (tgt := 38) hx hb d_Model_start_31 (by decide) (fun _ => ?_) (fun hc => absurd hc (by decide +kernel))
  refine lv_lconst (v := 0) hx hb d_Model_start_38 (by decide) ?_
  refine va_last hx hb hK hP hD hS 1 1 rfl rfl (i := 0) (z_in rfl) d_Model_start_39 (fun H locs hP hD hS => ?_)
  have hP : va_P G.1 classes [(b0, .inr (12, [.int 0, .ref b1, .ref b2, .ref b3, .ref b4, .int 0, .ref b5, .int 0, .int 0, .int 0, .int 0, .ref b6, .ref b7, .ref b8, .int 0, .ref b9, .ref b10, .ref b11, .ref b12, .ref b13, .ref b14, .ref b15, .ref b16, .ref b17, .ref b18, .ref b19, .ref b20, .int 0, .ref b21, .ref b22, .int 0, .int 0, .int 0, .int 0, .ref b23, .ref b24, .ref b25, .ref b26, .ref b27, .ref b28, .ref b29, .int 0, .ref b30, .ref b31, .int 0, .ref b32, .ref b33, .ref b34, .ref b35, .ref b36, .int 0, .ref b37, .ref b38, .ref b39])), (b21, .inl (G.2 1, 4, .inr (.inl (vp_updL (vp_updL (vp_updL (vp_updL (vp_updL (fun _ => 0) 0 0) 1 0) 2 0) 3 0) 0 0)))), (b15, .inl (G.2 0, 2, .inl (upd (fun _ => 0) 0 0)))] H := hP
  have hD := z_tie hP hD rfl
  exact z_vret hx hb hr hlocks hP hD hS (Nat.le_of_ble_eq_true rfl) (Nat.le_of_ble_eq_true rfl) d_Model_start_40 ⟨rfl, rfl⟩
theorem d_Model_words_28 : decode prog_14_method_63_code 28 = .ok (.aload_n 0, 1) := by decide +kernel
theorem d_Model_words_29 : decode prog_14_method_63_code 29 = .ok (.aload_n 0, 1) := by decide +kernel
theorem d_Model_words_30 : decode prog_14_method_63_code 30 = .ok (.getfield 76, 3) := by decide +kernel
theorem d_Model_words_33 : decode prog_14_method_63_code 33 = .ok (.iconst 0, 1) := by decide +kernel
theorem d_Model_words_34 : decode prog_14_method_63_code 34 = .ok (.invokestatic 278, 3) := by decide +kernel
theorem d_Model_words_37 : decode prog_14_method_63_code 37 = .ok (.ifCond .eq 7, 3) := by decide +kernel
theorem d_Model_words_40 : decode prog_14_method_63_code 40 = .ok (.iconst 0, 1) := by decide +kernel
theorem d_Model_words_41 : decode prog_14_method_63_code 41 = .ok (.goto 4, 3) := by decide +kernel
theorem d_Model_words_45 : decode prog_14_method_63_code 45 = .ok (.putfield 327, 3) := by decide +kernel
theorem d_Model_words_48 : decode prog_14_method_63_code 48 = .ok (.aload_n 0, 1) := by decide +kernel
theorem d_Model_words_49 : decode prog_14_method_63_code 49 = .ok (.getfield 101, 3) := by decide +kernel
theorem d_Model_words_52 : decode prog_14_method_63_code 52 = .ok (.iconst 0, 1) := by decide +kernel
theorem d_Model_words_53 : decode prog_14_method_63_code 53 = .ok (.iconst 1, 1) := by decide +kernel
theorem d_Model_words_54 : decode prog_14_method_63_code 54 = .ok (.iastore, 1) := by decide +kernel
theorem d_Model_words_55 : decode prog_14_method_63_code 55 = .ok (.iconst 0, 1) := by decide +kernel
theorem d_Model_words_56 : decode prog_14_method_63_code 56 = .ok (.istore_n 2, 1) := by decide +kernel
theorem d_Model_words_57 : decode prog_14_method_63_code 57 = .ok (.iload_n 2, 1) := by decide +kernel
theorem d_Model_words_58 : decode prog_14_method_63_code 58 = .ok (.iconst 4, 1) := by decide +kernel
theorem d_Model_words_59 : decode prog_14_method_63_code 59 = .ok (.if_icmp .ge 21, 3) := by decide +kernel
theorem d_Model_words_62 : decode prog_14_method_63_code 62 = .ok (.aload_n 0, 1) := by decide +kernel
theorem d_Model_words_63 : decode prog_14_method_63_code 63 = .ok (.getfield 98, 3) := by decide +kernel
theorem d_Model_words_66 : decode prog_14_method_63_code 66 = .ok (.iload_n 2, 1) := by decide +kernel
theorem d_Model_words_67 : decode prog_14_method_63_code 67 = .ok (.aload_n 0, 1) := by decide +kernel
theorem d_Model_words_68 : decode prog_14_method_63_code 68 = .ok (.getfield 76, 3) := by decide +kernel
theorem d_Model_words_71 : decode prog_14_method_63_code 71 = .ok (.iload_n 2, 1) := by decide +kernel
theorem d_Model_words_72 : decode prog_14_method_63_code 72 = .ok (.laload, 1) := by decide +kernel
theorem d_Model_words_73 : decode prog_14_method_63_code 73 = .ok (.lastore, 1) := by decide +kernel
theorem d_Model_words_74 : decode prog_14_method_63_code 74 = .ok (.iinc 2 1, 3) := by decide +kernel
theorem d_Model_words_77 : decode prog_14_method_63_code 77 = .ok (.goto (-20), 3) := by decide +kernel
theorem d_Model_words_80 : decode prog_14_method_63_code 80 = .ok (.iconst 0, 1) := by decide +kernel
theorem d_Model_words_81 : decode prog_14_method_63_code 81 = .ok (.istore_n 2, 1) := by decide +kernel
theorem d_Model_words_82 : decode prog_14_method_63_code 82 = .ok (.iload_n 2, 1) := by decide +kernel
theorem d_Model_words_83 : decode prog_14_method_63_code 83 = .ok (.iload_n 1, 1) := by decide +kernel
theorem d_Model_words_84 : decode prog_14_method_63_code 84 = .ok (.if_icmp .ge 25, 3) := by decide +kernel
theorem d_Model_words_87 : decode prog_14_method_63_code 87 = .ok (.aload_n 0, 1) := by decide +kernel
theorem d_Model_words_88 : decode prog_14_method_63_code 88 = .ok (.getfield 327, 3) := by decide +kernel
theorem d_Model_words_91 : decode prog_14_method_63_code 91 = .ok (.bipush 100, 2) := by decide +kernel
theorem d_Model_words_93 : decode prog_14_method_63_code 93 = .ok (.if_icmp .le 6, 3) := by decide +kernel
theorem d_Model_words_99 : decode prog_14_method_63_code 99 = .ok (.aload_n 0, 1) := by decide +kernel
theorem d_Model_words_100 : decode prog_14_method_63_code 100 = .ok (.invokevirtual 335, 3) := by decide +kernel
theorem d_Model_words_109 : decode prog_14_method_63_code 109 = .ok (.iconst 0, 1) := by decide +kernel
theorem d_Model_words_110 : decode prog_14_method_63_code 110 = .ok (.istore_n 2, 1) := by decide +kernel
theorem d_Model_words_111 : decode prog_14_method_63_code 111 = .ok (.iconst 0, 1) := by decide +kernel
theorem d_Model_words_112 : decode prog_14_method_63_code 112 = .ok (.istore_n 3, 1) := by decide +kernel
theorem d_Model_words_113 : decode prog_14_method_63_code 113 = .ok (.iload_n 3, 1) := by decide +kernel
theorem d_Model_words_114 : decode prog_14_method_63_code 114 = .ok (.aload_n 0, 1) := by decide +kernel
theorem d_Model_words_115 : decode prog_14_method_63_code 115 = .ok (.getfield 327, 3) := by decide +kernel
theorem d_Model_words_118 : decode prog_14_method_63_code 118 = .ok (.if_icmp .ge 37, 3) := by decide +kernel
theorem d_Model_words_155 : decode prog_14_method_63_code 155 = .ok (.iload_n 2, 1) := by decide +kernel
theorem d_Model_words_156 : decode prog_14_method_63_code 156 = .ok (.ireturn, 1) := by decide +kernel
theorem d_Model_nextLevel_0 : decode prog_14_method_62_code 0 = .ok (.aload_n 0, 1) := by decide +kernel
theorem d_Model_nextLevel_1 : decode prog_14_method_62_code 1 = .ok (.iconst 0, 1) := by decide +kernel
theorem d_Model_nextLevel_2 : decode prog_14_method_62_code 2 = .ok (.putfield 320, 3) := by decide +kernel
theorem d_Model_nextLevel_5 : decode prog_14_method_62_code 5 = .ok (.iconst 0, 1) := by decide +kernel
theorem d_Model_nextLevel_6 : decode prog_14_method_62_code 6 = .ok (.istore_n 1, 1) := by decide +kernel
theorem d_Model_nextLevel_7 : decode prog_14_method_62_code 7 = .ok (.iload_n 1, 1) := by decide +kernel
theorem d_Model_nextLevel_8 : decode prog_14_method_62_code 8 = .ok (.aload_n 0, 1) := by decide +kernel
theorem d_Model_nextLevel_9 : decode prog_14_method_62_code 9 = .ok (.getfield 327, 3) := by decide +kernel
theorem d_Model_nextLevel_12 : decode prog_14_method_62_code 12 = .ok (.if_icmp .ge 59, 3) := by decide +kernel
theorem d_Model_nextLevel_71 : decode prog_14_method_62_code 71 = .ok (.aload_n 0, 1) := by decide +kernel
theorem d_Model_nextLevel_72 : decode prog_14_method_62_code 72 = .ok (.aload_n 0, 1) := by decide +kernel
theorem d_Model_nextLevel_73 : decode prog_14_method_62_code 73 = .ok (.getfield 320, 3) := by decide +kernel
theorem d_Model_nextLevel_76 : decode prog_14_method_62_code 76 = .ok (.putfield 327, 3) := by decide +kernel
theorem d_Model_nextLevel_79 : decode prog_14_method_62_code 79 = .ok (.iconst 0, 1) := by decide +kernel
theorem d_Model_nextLevel_80 : decode prog_14_method_62_code 80 = .ok (.istore_n 1, 1) := by decide +kernel
theorem d_Model_nextLevel_81 : decode prog_14_method_62_code 81 = .ok (.iload_n 1, 1) := by decide +kernel
theorem d_Model_nextLevel_82 : decode prog_14_method_62_code 82 = .ok (.aload_n 0, 1) := by decide +kernel
theorem d_Model_nextLevel_83 : decode prog_14_method_62_code 83 = .ok (.getfield 320, 3) := by decide +kernel
theorem d_Model_nextLevel_86 : decode prog_14_method_62_code 86 = .ok (.if_icmp .ge 54, 3) := by decide +kernel
theorem d_Model_nextLevel_140 : decode prog_14_method_62_code 140 = .ok (.return_, 1) := by decide +kernel
abbrev m_c1_Model_nextLevel : Room := { frames := 0, cells := 0, slots := 0, locals := 0 }
set_option maxHeartbeats 4000000 in
set_option maxRecDepth 100000 in
theorem c1_Model_nextLevel (l : Launch) (G : zG) (b0 : Nat) (b1 : Nat) (b2 : Nat) (b3 : Nat) (b4 : Nat) (b5 : Nat) (b6 : Nat) (b7 : Nat) (b8 : Nat) (b9 : Nat) (b10 : Nat) (b11 : Nat) (b12 : Nat) (b13 : Nat) (b14 : Nat) (b15 : Nat) (b16 : Nat) (b17 : Nat) (b18 : Nat) (b19 : Nat) (b20 : Nat) (b21 : Nat) (b22 : Nat) (b23 : Nat) (b24 : Nat) (b25 : Nat) (b26 : Nat) (b27 : Nat) (b28 : Nat) (b29 : Nat) (b30 : Nat) (b31 : Nat) (b32 : Nat) (b33 : Nat) (b34 : Nat) (b35 : Nat) (b36 : Nat) (b37 : Nat) (b38 : Nat) (b39 : Nat)  : zM l G y_Model_nextLevel prog_14_method_62_code 3 (Option.none : Option Jvm.ClassFile.FieldType) m_c1_Model_nextLevel [.ref b0] [(b0, .inr (12, [.int 0, .ref b1, .ref b2, .ref b3, .ref b4, .int 0, .ref b5, .int 0, .int 0, .int 0, .int 0, .ref b6, .ref b7, .ref b8, .int 0, .ref b9, .ref b10, .ref b11, .ref b12, .ref b13, .ref b14, .ref b15, .ref b16, .ref b17, .ref b18, .ref b19, .ref b20, .int 0, .ref b21, .ref b22, .int 0, .int 0, .int 0, .int 0, .ref b23, .ref b24, .ref b25, .ref b26, .ref b27, .ref b28, .ref b29, .int 0, .ref b30, .ref b31, .int 0, .ref b32, .ref b33, .ref b34, .ref b35, .ref b36, .int 0, .ref b37, .ref b38, .ref b39]))] (fun v w => (v = none ∧ w = [(b0, .inr (12, [.int 0, .ref b1, .ref b2, .ref b3, .ref b4, .int 0, .ref b5, .int 0, .int 0, .int 0, .int 0, .ref b6, .ref b7, .ref b8, .int 0, .ref b9, .ref b10, .ref b11, .ref b12, .ref b13, .ref b14, .ref b15, .ref b16, .ref b17, .ref b18, .ref b19, .ref b20, .int 0, .ref b21, .ref b22, .int 0, .int 0, .int 0, .int 0, .ref b23, .ref b24, .ref b25, .ref b26, .ref b27, .ref b28, .ref b29, .int 0, .ref b30, .ref b31, .int 0, .ref b32, .ref b33, .ref b34, .ref b35, .ref b36, .int 0, .ref b37, .ref b38, .ref b39]))])) := by
  refine z_start (by decide +kernel) (Nat.le_of_ble_eq_true rfl) ?_
  intro p e s m below meth c A Z hr hnm hA hP hD hS ls hl
  have Z : zC p s m _ meth c prog_14_method_62_code 3 "TraceMachinesModel" G := Z
  obtain ⟨hx, hb, hml, hown, hts, hK, hN, hlocks⟩ := id Z
  have hl : lv_has ls 3 [(0, .ref b0)] := hl
  refine lv_aload_n hx hb d_Model_nextLevel_0 rfl (lv_at hl 0 rfl) ?_
  refine lv_iconst (v := 0) hx hb d_Model_nextLevel_1 (by decide) ?_
  refine va_put (D := G.1) (ci := 12) (v := .int 0) (ty := .int) (C := R_Model) (T := F_Model) (N := 54) hx hb hts i_Model t_Model t_Model_ok n_Model hown hK hP hD hS 0 rfl rfl 44 (by decide) (hts _ q1157) (fun _ h9 => h9) rfl (by decide +kernel) rfl rfl (Nat.le_of_ble_eq_true rfl) d_Model_nextLevel_2 (fun H locs hP hD hS => ?_)
  have hP : va_P G.1 classes [(b0, .inr (12, [.int 0, .ref b1, .ref b2, .ref b3, .ref b4, .int 0, .ref b5, .int 0, .int 0, .int 0, .int 0, .ref b6, .ref b7, .ref b8, .int 0, .ref b9, .ref b10, .ref b11, .ref b12, .ref b13, .ref b14, .ref b15, .ref b16, .ref b17, .ref b18, .ref b19, .ref b20, .int 0, .ref b21, .ref b22, .int 0, .int 0, .int 0, .int 0, .ref b23, .ref b24, .ref b25, .ref b26, .ref b27, .ref b28, .ref b29, .int 0, .ref b30, .ref b31, .int 0, .ref b32, .ref b33, .ref b34, .ref b35, .ref b36, .int 0, .ref b37, .ref b38, .ref b39]))] H := hP
  have hD := z_tie hP hD rfl
  refine lv_iconst (v := 0) hx hb d_Model_nextLevel_5 (by decide) ?_
  refine lv_istore_n (lv' := [(1, .int 0), (0, .ref b0)]) hx hb d_Model_nextLevel_6 rfl hl (by decide) rfl (fun ls hl => ?_)
  refine lv_iload_n hx hb d_Model_nextLevel_7 rfl (lv_at hl 0 rfl) ?_
  refine lv_aload_n hx hb d_Model_nextLevel_8 rfl (lv_at hl 1 rfl) ?_
  refine va_get (D := G.1) (ci := 12) (v := .int 0) (C := R_Model) (T := F_Model) (N := 54) hx hb hts i_Model hown hK hP 0 rfl rfl 41 (by decide) (hts _ q1154) (fun _ h9 => h9) rfl d_Model_nextLevel_9 ?_
  refine lv_icmp_ge (tgt := 71) hx hb d_Model_nextLevel_12 (by decide) (fun _ => ?_) (fun hc => absurd hc (by decide +kernel))
  refine lv_aload_n hx hb d_Model_nextLevel_71 rfl (lv_at hl 1 rfl) ?_
  refine lv_aload_n hx hb d_Model_nextLevel_72 rfl (lv_at hl 1 rfl) ?_
  refine va_get (D := G.1) (ci := 12) (v := .int 0) (C := R_Model) (T := F_Model) (N := 54) hx hb hts i_Model hown hK hP 0 rfl rfl 44 (by decide) (hts _ q1157) (fun _ h9 => h9) rfl d_Model_nextLevel_73 ?_
  refine va_put (D := G.1) (ci := 12) (v := .int 0) (ty := .int) (C := R_Model) (T := F_Model) (N := 54) hx hb hts i_Model t_Model t_Model_ok n_Model hown hK hP hD hS 0 rfl rfl 41 (by decide) (hts _ q1154) (fun _ h9 => h9) rfl (by decide +kernel) rfl rfl (Nat.le_of_ble_eq_true rfl) d_Model_nextLevel_76 (fun H locs hP hD hS => ?_)
  have hP : va_P G.1 classes [(b0, .inr (12, [.int 0, .ref b1, .ref b2, .ref b3, .ref b4, .int 0, .ref b5, .int 0, .int 0, .int 0, .int 0, .ref b6, .ref b7, .ref b8, .int 0, .ref b9, .ref b10, .ref b11, .ref b12, .ref b13, .ref b14, .ref b15, .ref b16, .ref b17, .ref b18, .ref b19, .ref b20, .int 0, .ref b21, .ref b22, .int 0, .int 0, .int 0, .int 0, .ref b23, .ref b24, .ref b25, .ref b26, .ref b27, .ref b28, .ref b29, .int 0, .ref b30, .ref b31, .int 0, .ref b32, .ref b33, .ref b34, .ref b35, .ref b36, .int 0, .ref b37, .ref b38, .ref b39]))] H := hP
  have hD := z_tie hP hD rfl
  refine lv_iconst (v := 0) hx hb d_Model_nextLevel_79 (by decide) ?_
  refine lv_istore_n (lv' := [(1, .int 0), (0, .ref b0)]) hx hb d_Model_nextLevel_80 rfl hl (by decide) rfl (fun ls hl => ?_)
  refine lv_iload_n hx hb d_Model_nextLevel_81 rfl (lv_at hl 0 rfl) ?_
  refine lv_aload_n hx hb d_Model_nextLevel_82 rfl (lv_at hl 1 rfl) ?_
  refine va_get (D := G.1) (ci := 12) (v := .int 0) (C := R_Model) (T := F_Model) (N := 54) hx hb hts i_Model hown hK hP 0 rfl rfl 44 (by decide) (hts _ q1157) (fun _ h9 => h9) rfl d_Model_nextLevel_83 ?_
  refine lv_icmp_ge (tgt := 140) hx hb d_Model_nextLevel_86 (by decide) (fun _ => ?_) (fun hc => absurd hc (by decide +kernel))
  exact z_vret hx hb hr hlocks hP hD hS (Nat.le_of_ble_eq_true rfl) (Nat.le_of_ble_eq_true rfl) d_Model_nextLevel_140 ⟨rfl, rfl⟩
theorem d_Model_words_103 : decode prog_14_method_63_code 103 = .ok (.iinc 2 1, 3) := by decide +kernel
theorem d_Model_words_106 : decode prog_14_method_63_code 106 = .ok (.goto (-24), 3) := by decide +kernel
abbrev m_t_Model_words : Room := { frames := 4, cells := 0, slots := 0, locals := 94 }
set_option maxHeartbeats 4000000 in
set_option maxRecDepth 100000 in
theorem t_Model_words (l : Launch) (G : zG) (b0 : Nat) (p0 : Int32) (b2 : Nat) (b3 : Nat) (b4 : Nat) (b5 : Nat) (b6 : Nat) (b7 : Nat) (b8 : Nat) (b9 : Nat) (b10 : Nat) (b11 : Nat) (b12 : Nat) (b13 : Nat) (b14 : Nat) (b15 : Nat) (b16 : Nat) (b17 : Nat) (b18 : Nat) (b19 : Nat) (b20 : Nat) (b21 : Nat) (b22 : Nat) (b23 : Nat) (b24 : Nat) (b25 : Nat) (b26 : Nat) (b27 : Nat) (b28 : Nat) (b29 : Nat) (b30 : Nat) (b31 : Nat) (b32 : Nat) (b33 : Nat) (b34 : Nat) (b35 : Nat) (b36 : Nat) (b37 : Nat) (b38 : Nat) (b39 : Nat) (b40 : Nat)  : zM l G y_Model_words prog_14_method_63_code 4 (Option.some Jvm.ClassFile.FieldType.int) m_t_Model_words [.ref b0, .int p0] [(b0, .inr (12, [.int 0, .ref b2, .ref b3, .ref b4, .ref b5, .int 0, .ref b6, .int 0, .int 0, .int 0, .int 0, .ref b7, .ref b8, .ref b9, .int 0, .ref b10, .ref b11, .ref b12, .ref b13, .ref b14, .ref b15, .ref b16, .ref b17, .ref b18, .ref b19, .ref b20, .ref b21, .int 0, .ref b22, .ref b23, .int 0, .int 0, .int 0, .int 0, .ref b24, .ref b25, .ref b26, .ref b27, .ref b28, .ref b29, .ref b30, .int 0, .ref b31, .ref b32, .int 0, .ref b33, .ref b34, .ref b35, .ref b36, .ref b37, .int 0, .ref b38, .ref b39, .ref b40])), (b2, .inl (G.2 0, 503, .inl (upd (fun _ => 0) 501 1))), (b10, .inl (G.2 0, 2, .inl (fun _ => 0))), (b11, .inl (G.2 0, 4820, .inl (fun _ => 0))), (b14, .inl (G.2 0, 482, .inl (fun _ => 0))), (b16, .inl (G.2 0, 2, .inl (fun _ => 0))), (b20, .inl (G.2 0, 2, .inl (fun _ => 0))), (b22, .inl (G.2 1, 4, .inr (.inl (fun _ => 0)))), (b30, .inl (G.2 0, 1001, .inl (fun _ => 0))), (b29, .inl (G.2 1, 4004, .inr (.inl (fun _ => 0))))] (fun v _ => v = some (.int (a_words p0))) := by
  refine z_start (by decide +kernel) (Nat.le_of_ble_eq_true rfl) ?_
  intro p e s m below meth c A Z hr hnm hA hP hD hS ls hl
  have Z : zC p s m _ meth c prog_14_method_63_code 4 "TraceMachinesModel" G := Z
  obtain ⟨hx, hb, hml, hown, hts, hK, hN, hlocks⟩ := id Z
  have hl : lv_has ls 4 [(0, .ref b0), (1, .int p0)] := hl
  refine lv_aload_n hx hb d_Model_words_0 rfl (lv_at hl 0 rfl) ?_
  refine lv_iconst (v := 0) hx hb d_Model_words_1 (by decide) ?_
  refine va_put (D := G.1) (ci := 12) (v := .int 0) (ty := .int) (C := R_Model) (T := F_Model) (N := 54) hx hb hts i_Model t_Model t_Model_ok n_Model hown hK hP hD hS 0 rfl rfl 0 (by decide) (hts _ q1113) (fun _ h9 => h9) rfl (by decide +kernel) rfl rfl (Nat.le_of_ble_eq_true rfl) d_Model_words_2 (fun H locs hP hD hS => ?_)
  have hP : va_P G.1 classes [(b0, .inr (12, [.int 0, .ref b2, .ref b3, .ref b4, .ref b5, .int 0, .ref b6, .int 0, .int 0, .int 0, .int 0, .ref b7, .ref b8, .ref b9, .int 0, .ref b10, .ref b11, .ref b12, .ref b13, .ref b14, .ref b15, .ref b16, .ref b17, .ref b18, .ref b19, .ref b20, .ref b21, .int 0, .ref b22, .ref b23, .int 0, .int 0, .int 0, .int 0, .ref b24, .ref b25, .ref b26, .ref b27, .ref b28, .ref b29, .ref b30, .int 0, .ref b31, .ref b32, .int 0, .ref b33, .ref b34, .ref b35, .ref b36, .ref b37, .int 0, .ref b38, .ref b39, .ref b40])), (b2, .inl (G.2 0, 503, .inl (upd (fun _ => 0) 501 1))), (b10, .inl (G.2 0, 2, .inl (fun _ => 0))), (b11, .inl (G.2 0, 4820, .inl (fun _ => 0))), (b14, .inl (G.2 0, 482, .inl (fun _ => 0))), (b16, .inl (G.2 0, 2, .inl (fun _ => 0))), (b20, .inl (G.2 0, 2, .inl (fun _ => 0))), (b22, .inl (G.2 1, 4, .inr (.inl (fun _ => 0)))), (b30, .inl (G.2 0, 1001, .inl (fun _ => 0))), (b29, .inl (G.2 1, 4004, .inr (.inl (fun _ => 0))))] H := hP
  have hD := z_tie hP hD rfl
  refine lv_iload_n hx hb d_Model_words_5 rfl (lv_at hl 1 rfl) ?_
  refine lv_i2l (v := p0.toInt64) hx hb d_Model_words_6 rfl ?_
  refine lv_lconst (v := 0) hx hb d_Model_words_7 (by decide) ?_
  refine lv_ldc2 hx hb hown (hts _ q1508) d_Model_words_8 ?_
  refine z_callS (index := 138) (As := [.long p0.toInt64, .long 0, .long 8]) (rest := []) (wr := [(b0, .inr (12, [.int 0, .ref b2, .ref b3, .ref b4, .ref b5, .int 0, .ref b6, .int 0, .int 0, .int 0, .int 0, .ref b7, .ref b8, .ref b9, .int 0, .ref b10, .ref b11, .ref b12, .ref b13, .ref b14, .ref b15, .ref b16, .ref b17, .ref b18, .ref b19, .ref b20, .ref b21, .int 0, .ref b22, .ref b23, .int 0, .int 0, .int 0, .int 0, .ref b24, .ref b25, .ref b26, .ref b27, .ref b28, .ref b29, .ref b30, .int 0, .ref b31, .ref b32, .int 0, .ref b33, .ref b34, .ref b35, .ref b36, .ref b37, .int 0, .ref b38, .ref b39, .ref b40])), (b2, .inl (G.2 0, 503, .inl (upd (fun _ => 0) 501 1))), (b10, .inl (G.2 0, 2, .inl (fun _ => 0))), (b11, .inl (G.2 0, 4820, .inl (fun _ => 0))), (b14, .inl (G.2 0, 482, .inl (fun _ => 0))), (b16, .inl (G.2 0, 2, .inl (fun _ => 0))), (b20, .inl (G.2 0, 2, .inl (fun _ => 0))), (b22, .inl (G.2 1, 4, .inr (.inl (fun _ => 0)))), (b30, .inl (G.2 0, 1001, .inl (fun _ => 0))), (b29, .inl (G.2 1, 4004, .inr (.inl (fun _ => 0))))]) Z (c7_Model_in l G (p0.toInt64)) hl.1 q1285 q1286 q14 q1287 ⟨by decide, by decide, by show _ = some 3; decide +kernel⟩ ⟨Nat.le_of_ble_eq_true rfl, Nat.le_of_ble_eq_true rfl⟩ ⟨Nat.le_of_ble_eq_true rfl, Nat.le_of_ble_eq_true rfl⟩ rfl (Nat.le_of_ble_eq_true rfl) d_Model_words_11 hP hD hS hA [] [0, 1, 2, 3, 4, 5, 6, 7, 8, 9] rfl rfl rfl rfl (by decide) (fun v w1 H locs hw_1 hP hD hS => ?_)
  rcases hw_1 with ⟨rfl, rfl, hq_2⟩ | ⟨rfl, rfl, hq_3, hq_4⟩ | ⟨rfl, rfl, hq_5, hq_6⟩
  · try simp only [Int32.toInt_toInt64, ll_0] at hq_2
    have hP : va_P G.1 classes [(b0, .inr (12, [.int 0, .ref b2, .ref b3, .ref b4, .ref b5, .int 0, .ref b6, .int 0, .int 0, .int 0, .int 0, .ref b7, .ref b8, .ref b9, .int 0, .ref b10, .ref b11, .ref b12, .ref b13, .ref b14, .ref b15, .ref b16, .ref b17, .ref b18, .ref b19, .ref b20, .ref b21, .int 0, .ref b22, .ref b23, .int 0, .int 0, .int 0, .int 0, .ref b24, .ref b25, .ref b26, .ref b27, .ref b28, .ref b29, .ref b30, .int 0, .ref b31, .ref b32, .int 0, .ref b33, .ref b34, .ref b35, .ref b36, .ref b37, .int 0, .ref b38, .ref b39, .ref b40])), (b2, .inl (G.2 0, 503, .inl (upd (fun _ => 0) 501 1))), (b10, .inl (G.2 0, 2, .inl (fun _ => 0))), (b11, .inl (G.2 0, 4820, .inl (fun _ => 0))), (b14, .inl (G.2 0, 482, .inl (fun _ => 0))), (b16, .inl (G.2 0, 2, .inl (fun _ => 0))), (b20, .inl (G.2 0, 2, .inl (fun _ => 0))), (b22, .inl (G.2 1, 4, .inr (.inl (fun _ => 0)))), (b30, .inl (G.2 0, 1001, .inl (fun _ => 0))), (b29, .inl (G.2 1, 4004, .inr (.inl (fun _ => 0))))] H := hP
    have hD := z_tie hP hD rfl
    refine W.widen (k := 0) (n := 0) (Nat.le_of_ble_eq_true rfl) (Nat.le_of_ble_eq_true rfl) ?_
    refine lv_if_ne (tgt := 19) hx hb d_Model_words_14 (by decide) (fun hc => absurd hc (by decide +kernel)) (fun _ => ?_)
    refine lv_iconst (v := (-1)) hx hb d_Model_words_17 (by decide) ?_
    exact z_iret hx hb hr hlocks hP hD hS (Nat.le_of_ble_eq_true rfl) (Nat.le_of_ble_eq_true rfl) d_Model_words_18 (congrArg (fun z => some (Value.int z)) (by unfold a_words; (first | rfl | (repeat (first | rw [if_pos (by omega)] | rw [if_neg (by omega)])))))
  · try simp only [Int32.toInt_toInt64, ll_0] at hq_3
    try simp only [Int32.toInt_toInt64, ll_8] at hq_4
    have hP : va_P G.1 classes [(b0, .inr (12, [.int 0, .ref b2, .ref b3, .ref b4, .ref b5, .int 0, .ref b6, .int 0, .int 0, .int 0, .int 0, .ref b7, .ref b8, .ref b9, .int 0, .ref b10, .ref b11, .ref b12, .ref b13, .ref b14, .ref b15, .ref b16, .ref b17, .ref b18, .ref b19, .ref b20, .ref b21, .int 0, .ref b22, .ref b23, .int 0, .int 0, .int 0, .int 0, .ref b24, .ref b25, .ref b26, .ref b27, .ref b28, .ref b29, .ref b30, .int 0, .ref b31, .ref b32, .int 0, .ref b33, .ref b34, .ref b35, .ref b36, .ref b37, .int 0, .ref b38, .ref b39, .ref b40])), (b2, .inl (G.2 0, 503, .inl (upd (fun _ => 0) 501 1))), (b10, .inl (G.2 0, 2, .inl (fun _ => 0))), (b11, .inl (G.2 0, 4820, .inl (fun _ => 0))), (b14, .inl (G.2 0, 482, .inl (fun _ => 0))), (b16, .inl (G.2 0, 2, .inl (fun _ => 0))), (b20, .inl (G.2 0, 2, .inl (fun _ => 0))), (b22, .inl (G.2 1, 4, .inr (.inl (fun _ => 0)))), (b30, .inl (G.2 0, 1001, .inl (fun _ => 0))), (b29, .inl (G.2 1, 4004, .inr (.inl (fun _ => 0))))] H := hP
    have hD := z_tie hP hD rfl
    refine W.widen (k := 0) (n := 0) (Nat.le_of_ble_eq_true rfl) (Nat.le_of_ble_eq_true rfl) ?_
    refine lv_if_ne (tgt := 19) hx hb d_Model_words_14 (by decide) (fun hc => absurd hc (by decide +kernel)) (fun _ => ?_)
    refine lv_iconst (v := (-1)) hx hb d_Model_words_17 (by decide) ?_
    exact z_iret hx hb hr hlocks hP hD hS (Nat.le_of_ble_eq_true rfl) (Nat.le_of_ble_eq_true rfl) d_Model_words_18 (congrArg (fun z => some (Value.int z)) (by unfold a_words; (first | rfl | (repeat (first | rw [if_pos (by omega)] | rw [if_neg (by omega)])))))
  · try simp only [Int32.toInt_toInt64, ll_0] at hq_5
    try simp only [Int32.toInt_toInt64, ll_8] at hq_6
    have hP : va_P G.1 classes [(b0, .inr (12, [.int 0, .ref b2, .ref b3, .ref b4, .ref b5, .int 0, .ref b6, .int 0, .int 0, .int 0, .int 0, .ref b7, .ref b8, .ref b9, .int 0, .ref b10, .ref b11, .ref b12, .ref b13, .ref b14, .ref b15, .ref b16, .ref b17, .ref b18, .ref b19, .ref b20, .ref b21, .int 0, .ref b22, .ref b23, .int 0, .int 0, .int 0, .int 0, .ref b24, .ref b25, .ref b26, .ref b27, .ref b28, .ref b29, .ref b30, .int 0, .ref b31, .ref b32, .int 0, .ref b33, .ref b34, .ref b35, .ref b36, .ref b37, .int 0, .ref b38, .ref b39, .ref b40])), (b2, .inl (G.2 0, 503, .inl (upd (fun _ => 0) 501 1))), (b10, .inl (G.2 0, 2, .inl (fun _ => 0))), (b11, .inl (G.2 0, 4820, .inl (fun _ => 0))), (b14, .inl (G.2 0, 482, .inl (fun _ => 0))), (b16, .inl (G.2 0, 2, .inl (fun _ => 0))), (b20, .inl (G.2 0, 2, .inl (fun _ => 0))), (b22, .inl (G.2 1, 4, .inr (.inl (fun _ => 0)))), (b30, .inl (G.2 0, 1001, .inl (fun _ => 0))), (b29, .inl (G.2 1, 4004, .inr (.inl (fun _ => 0))))] H := hP
    have hD := z_tie hP hD rfl
    refine W.widen (k := 0) (n := 0) (Nat.le_of_ble_eq_true rfl) (Nat.le_of_ble_eq_true rfl) ?_
    refine lv_if_ne (tgt := 19) hx hb d_Model_words_14 (by decide) (fun _ => ?_) (fun hc => absurd hc (by decide +kernel))
    refine lv_aload_n hx hb d_Model_words_19 rfl (lv_at hl 0 rfl) ?_
    refine z_callV (index := 254) (As := []) (rest := []) (wr := [(b22, .inl (G.2 1, 4, .inr (.inl (fun _ => 0)))), (b30, .inl (G.2 0, 1001, .inl (fun _ => 0))), (b29, .inl (G.2 1, 4004, .inr (.inl (fun _ => 0))))]) Z (c1_Model_lay1 l G (b0) (b2) (b3) (b4) (b5) (b6) (b7) (b8) (b9) (b10) (b11) (b12) (b13) (b14) (b15) (b16) (b17) (b18) (b19) (b20) (b21) (b22) (b23) (b24) (b25) (b26) (b27) (b28) (b29) (b30) (b31) (b32) (b33) (b34) (b35) (b36) (b37) (b38) (b39) (b40)) hl.1 q1360 q1362 qs55 q14 q1363 ⟨by decide, by decide, by show _ = some 0; decide +kernel⟩ ⟨Nat.le_of_ble_eq_true rfl, Nat.le_of_ble_eq_true rfl⟩ ⟨Nat.le_of_ble_eq_true rfl, Nat.le_of_ble_eq_true rfl⟩ rfl (Nat.le_of_ble_eq_true rfl) d_Model_words_20 hP hD hS hA 0 12 rfl rfl rfl [0, 1, 2, 3, 4, 5, 6] [7, 8, 9] rfl rfl rfl rfl (by decide) (fun v w1 H locs hw_7 hP hD hS => ?_)
    obtain ⟨rfl, rfl⟩ := hw_7
    have hP : va_P G.1 classes [(b22, .inl (G.2 1, 4, .inr (.inl (fun _ => 0)))), (b30, .inl (G.2 0, 1001, .inl (fun _ => 0))), (b29, .inl (G.2 1, 4004, .inr (.inl (fun _ => 0)))), (b20, .inl (G.2 0, 2, .inl (upd (fun _ => 0) 0 0))), (b11, .inl (G.2 0, 4820, .inl (upd (upd (upd (upd (upd (upd (upd (upd (upd (upd (fun _ => 0) 0 (-1)) 1 (-1)) 2 (-1)) 3 (-1)) 4 (-1)) 5 (-1)) 6 (-1)) 7 (-1)) 8 (-1)) 9 (-1)))), (b14, .inl (G.2 0, 482, .inl (upd (upd (fun _ => 0) 0 0) 0 0))), (b16, .inl (G.2 0, 2, .inl (upd (fun _ => 0) 0 0))), (b10, .inl (G.2 0, 2, .inl (upd (upd (fun _ => 0) 0 0) 0 1))), (b0, .inr (12, [.int 0, .ref b2, .ref b3, .ref b4, .ref b5, .int 0, .ref b6, .int 0, .int 0, .int 0, .int 0, .ref b7, .ref b8, .ref b9, .int 0, .ref b10, .ref b11, .ref b12, .ref b13, .ref b14, .ref b15, .ref b16, .ref b17, .ref b18, .ref b19, .ref b20, .ref b21, .int 0, .ref b22, .ref b23, .int 0, .int 0, .int 0, .int 0, .ref b24, .ref b25, .ref b26, .ref b27, .ref b28, .ref b29, .ref b30, .int 0, .ref b31, .ref b32, .int 0, .ref b33, .ref b34, .ref b35, .ref b36, .ref b37, .int 0, .ref b38, .ref b39, .ref b40])), (b2, .inl (G.2 0, 503, .inl (upd (fun _ => 0) 501 1)))] H := hP
    have hD := z_tie hP hD rfl
    refine W.widen (k := 0) (n := 0) (Nat.le_of_ble_eq_true rfl) (Nat.le_of_ble_eq_true rfl) ?_
    refine lv_aload_n hx hb d_Model_words_23 rfl (lv_at hl 0 rfl) ?_
    refine lv_iconst (v := 0) hx hb d_Model_words_24 (by decide) ?_
    refine z_callV (index := 275) (As := [.int 0]) (rest := []) (wr := [(b30, .inl (G.2 0, 1001, .inl (fun _ => 0))), (b29, .inl (G.2 1, 4004, .inr (.inl (fun _ => 0)))), (b20, .inl (G.2 0, 2, .inl (upd (fun _ => 0) 0 0))), (b11, .inl (G.2 0, 4820, .inl (upd (upd (upd (upd (upd (upd (upd (upd (upd (upd (fun _ => 0) 0 (-1)) 1 (-1)) 2 (-1)) 3 (-1)) 4 (-1)) 5 (-1)) 6 (-1)) 7 (-1)) 8 (-1)) 9 (-1)))), (b14, .inl (G.2 0, 482, .inl (upd (upd (fun _ => 0) 0 0) 0 0))), (b10, .inl (G.2 0, 2, .inl (upd (upd (fun _ => 0) 0 0) 0 1))), (b2, .inl (G.2 0, 503, .inl (upd (fun _ => 0) 501 1)))]) Z (c2_Model_start l G (b0) (b2) (b3) (b4) (b5) (b6) (b7) (b8) (b9) (b10) (b11) (b12) (b13) (b14) (b15) (b16) (b17) (b18) (b19) (b20) (b21) (b22) (b23) (b24) (b25) (b26) (b27) (b28) (b29) (b30) (b31) (b32) (b33) (b34) (b35) (b36) (b37) (b38) (b39) (b40)) hl.1 q1457 q1459 qs75 q14 q1460 ⟨by decide, by decide, by show _ = some 1; decide +kernel⟩ ⟨Nat.le_of_ble_eq_true rfl, Nat.le_of_ble_eq_true rfl⟩ ⟨Nat.le_of_ble_eq_true rfl, Nat.le_of_ble_eq_true rfl⟩ rfl (Nat.le_of_ble_eq_true rfl) d_Model_words_25 hP hD hS hA 8 12 rfl rfl rfl [8, 0, 6] [1, 2, 3, 4, 5, 7, 9] rfl rfl rfl rfl (by decide) (fun v w1 H locs hw_8 hP hD hS => ?_)
    obtain ⟨rfl, rfl⟩ := hw_8
    have hP : va_P G.1 classes [(b30, .inl (G.2 0, 1001, .inl (fun _ => 0))), (b29, .inl (G.2 1, 4004, .inr (.inl (fun _ => 0)))), (b20, .inl (G.2 0, 2, .inl (upd (fun _ => 0) 0 0))), (b11, .inl (G.2 0, 4820, .inl (upd (upd (upd (upd (upd (upd (upd (upd (upd (upd (fun _ => 0) 0 (-1)) 1 (-1)) 2 (-1)) 3 (-1)) 4 (-1)) 5 (-1)) 6 (-1)) 7 (-1)) 8 (-1)) 9 (-1)))), (b14, .inl (G.2 0, 482, .inl (upd (upd (fun _ => 0) 0 0) 0 0))), (b10, .inl (G.2 0, 2, .inl (upd (upd (fun _ => 0) 0 0) 0 1))), (b2, .inl (G.2 0, 503, .inl (upd (fun _ => 0) 501 1))), (b0, .inr (12, [.int 0, .ref b2, .ref b3, .ref b4, .ref b5, .int 0, .ref b6, .int 0, .int 0, .int 0, .int 0, .ref b7, .ref b8, .ref b9, .int 0, .ref b10, .ref b11, .ref b12, .ref b13, .ref b14, .ref b15, .ref b16, .ref b17, .ref b18, .ref b19, .ref b20, .ref b21, .int 0, .ref b22, .ref b23, .int 0, .int 0, .int 0, .int 0, .ref b24, .ref b25, .ref b26, .ref b27, .ref b28, .ref b29, .ref b30, .int 0, .ref b31, .ref b32, .int 0, .ref b33, .ref b34, .ref b35, .ref b36, .ref b37, .int 0, .ref b38, .ref b39, .ref b40])), (b22, .inl (G.2 1, 4, .inr (.inl (vp_updL (vp_updL (vp_updL (vp_updL (vp_updL (fun _ => 0) 0 0) 1 0) 2 0) 3 0) 0 0)))), (b16, .inl (G.2 0, 2, .inl (upd (fun _ => 0) 0 0)))] H := hP
    have hD := z_tie hP hD rfl
    refine W.widen (k := 0) (n := 0) (Nat.le_of_ble_eq_true rfl) (Nat.le_of_ble_eq_true rfl) ?_
    refine lv_aload_n hx hb d_Model_words_28 rfl (lv_at hl 0 rfl) ?_
    refine lv_aload_n hx hb d_Model_words_29 rfl (lv_at hl 0 rfl) ?_
    refine va_get (D := G.1) (ci := 12) (v := .ref b22) (C := R_Model) (T := F_Model) (N := 54) hx hb hts i_Model hown hK hP 7 rfl rfl 28 (by decide) (hts _ q1141) (fun _ h9 => h9) rfl d_Model_words_30 ?_
    refine lv_iconst (v := 0) hx hb d_Model_words_33 (by decide) ?_
    refine z_callS (index := 278) (As := [.ref b22, .int 0]) (rest := [.ref b0]) (wr := [(b30, .inl (G.2 0, 1001, .inl (fun _ => 0))), (b29, .inl (G.2 1, 4004, .inr (.inl (fun _ => 0)))), (b20, .inl (G.2 0, 2, .inl (upd (fun _ => 0) 0 0))), (b11, .inl (G.2 0, 4820, .inl (upd (upd (upd (upd (upd (upd (upd (upd (upd (upd (fun _ => 0) 0 (-1)) 1 (-1)) 2 (-1)) 3 (-1)) 4 (-1)) 5 (-1)) 6 (-1)) 7 (-1)) 8 (-1)) 9 (-1)))), (b14, .inl (G.2 0, 482, .inl (upd (upd (fun _ => 0) 0 0) 0 0))), (b10, .inl (G.2 0, 2, .inl (upd (upd (fun _ => 0) 0 0) 0 1))), (b2, .inl (G.2 0, 503, .inl (upd (fun _ => 0) 501 1))), (b0, .inr (12, [.int 0, .ref b2, .ref b3, .ref b4, .ref b5, .int 0, .ref b6, .int 0, .int 0, .int 0, .int 0, .ref b7, .ref b8, .ref b9, .int 0, .ref b10, .ref b11, .ref b12, .ref b13, .ref b14, .ref b15, .ref b16, .ref b17, .ref b18, .ref b19, .ref b20, .ref b21, .int 0, .ref b22, .ref b23, .int 0, .int 0, .int 0, .int 0, .ref b24, .ref b25, .ref b26, .ref b27, .ref b28, .ref b29, .ref b30, .int 0, .ref b31, .ref b32, .int 0, .ref b33, .ref b34, .ref b35, .ref b36, .ref b37, .int 0, .ref b38, .ref b39, .ref b40])), (b16, .inl (G.2 0, 2, .inl (upd (fun _ => 0) 0 0)))]) Z (c1_Model_isEmpty l G (b22)) hl.1 q1461 q1462 q14 q1463 ⟨by decide, by decide, by show _ = some 2; decide +kernel⟩ ⟨Nat.le_of_ble_eq_true rfl, Nat.le_of_ble_eq_true rfl⟩ ⟨Nat.le_of_ble_eq_true rfl, Nat.le_of_ble_eq_true rfl⟩ rfl (Nat.le_of_ble_eq_true rfl) d_Model_words_34 hP hD hS hA [8] [0, 1, 2, 3, 4, 5, 6, 7, 9] rfl rfl rfl rfl (by decide) (fun v w1 H locs hw_9 hP hD hS => ?_)
    obtain ⟨rfl, rfl⟩ := hw_9
    have hP : va_P G.1 classes [(b30, .inl (G.2 0, 1001, .inl (fun _ => 0))), (b29, .inl (G.2 1, 4004, .inr (.inl (fun _ => 0)))), (b20, .inl (G.2 0, 2, .inl (upd (fun _ => 0) 0 0))), (b11, .inl (G.2 0, 4820, .inl (upd (upd (upd (upd (upd (upd (upd (upd (upd (upd (fun _ => 0) 0 (-1)) 1 (-1)) 2 (-1)) 3 (-1)) 4 (-1)) 5 (-1)) 6 (-1)) 7 (-1)) 8 (-1)) 9 (-1)))), (b14, .inl (G.2 0, 482, .inl (upd (upd (fun _ => 0) 0 0) 0 0))), (b10, .inl (G.2 0, 2, .inl (upd (upd (fun _ => 0) 0 0) 0 1))), (b2, .inl (G.2 0, 503, .inl (upd (fun _ => 0) 501 1))), (b0, .inr (12, [.int 0, .ref b2, .ref b3, .ref b4, .ref b5, .int 0, .ref b6, .int 0, .int 0, .int 0, .int 0, .ref b7, .ref b8, .ref b9, .int 0, .ref b10, .ref b11, .ref b12, .ref b13, .ref b14, .ref b15, .ref b16, .ref b17, .ref b18, .ref b19, .ref b20, .ref b21, .int 0, .ref b22, .ref b23, .int 0, .int 0, .int 0, .int 0, .ref b24, .ref b25, .ref b26, .ref b27, .ref b28, .ref b29, .ref b30, .int 0, .ref b31, .ref b32, .int 0, .ref b33, .ref b34, .ref b35, .ref b36, .ref b37, .int 0, .ref b38, .ref b39, .ref b40])), (b16, .inl (G.2 0, 2, .inl (upd (fun _ => 0) 0 0))), (b22, .inl (G.2 1, 4, .inr (.inl (vp_updL (vp_updL (vp_updL (vp_updL (vp_updL (fun _ => 0) 0 0) 1 0) 2 0) 3 0) 0 0))))] H := hP
    have hD := z_tie hP hD rfl
    refine W.widen (k := 0) (n := 0) (Nat.le_of_ble_eq_true rfl) (Nat.le_of_ble_eq_true rfl) ?_
    refine lv_if_eq (tgt := 44) hx hb d_Model_words_37 (by decide) (fun hc => absurd hc (by decide +kernel)) (fun _ => ?_)
    refine lv_iconst (v := 0) hx hb d_Model_words_40 (by decide) ?_
    refine lv_goto (tgt := 45) hx hb d_Model_words_41 (by decide) ?_
    refine va_put (D := G.1) (ci := 12) (v := .int 0) (ty := .int) (C := R_Model) (T := F_Model) (N := 54) hx hb hts i_Model t_Model t_Model_ok n_Model hown hK hP hD hS 7 rfl rfl 41 (by decide) (hts _ q1154) (fun _ h9 => h9) rfl (by decide +kernel) rfl rfl (Nat.le_of_ble_eq_true rfl) d_Model_words_45 (fun H locs hP hD hS => ?_)
    have hP : va_P G.1 classes [(b30, .inl (G.2 0, 1001, .inl (fun _ => 0))), (b29, .inl (G.2 1, 4004, .inr (.inl (fun _ => 0)))), (b20, .inl (G.2 0, 2, .inl (upd (fun _ => 0) 0 0))), (b11, .inl (G.2 0, 4820, .inl (upd (upd (upd (upd (upd (upd (upd (upd (upd (upd (fun _ => 0) 0 (-1)) 1 (-1)) 2 (-1)) 3 (-1)) 4 (-1)) 5 (-1)) 6 (-1)) 7 (-1)) 8 (-1)) 9 (-1)))), (b14, .inl (G.2 0, 482, .inl (upd (upd (fun _ => 0) 0 0) 0 0))), (b10, .inl (G.2 0, 2, .inl (upd (upd (fun _ => 0) 0 0) 0 1))), (b2, .inl (G.2 0, 503, .inl (upd (fun _ => 0) 501 1))), (b0, .inr (12, [.int 0, .ref b2, .ref b3, .ref b4, .ref b5, .int 0, .ref b6, .int 0, .int 0, .int 0, .int 0, .ref b7, .ref b8, .ref b9, .int 0, .ref b10, .ref b11, .ref b12, .ref b13, .ref b14, .ref b15, .ref b16, .ref b17, .ref b18, .ref b19, .ref b20, .ref b21, .int 0, .ref b22, .ref b23, .int 0, .int 0, .int 0, .int 0, .ref b24, .ref b25, .ref b26, .ref b27, .ref b28, .ref b29, .ref b30, .int 0, .ref b31, .ref b32, .int 0, .ref b33, .ref b34, .ref b35, .ref b36, .ref b37, .int 0, .ref b38, .ref b39, .ref b40])), (b16, .inl (G.2 0, 2, .inl (upd (fun _ => 0) 0 0))), (b22, .inl (G.2 1, 4, .inr (.inl (vp_updL (vp_updL (vp_updL (vp_updL (vp_updL (fun _ => 0) 0 0) 1 0) 2 0) 3 0) 0 0))))] H := hP
    have hD := z_tie hP hD rfl
    refine lv_aload_n hx hb d_Model_words_48 rfl (lv_at hl 0 rfl) ?_
    refine va_get (D := G.1) (ci := 12) (v := .ref b30) (C := R_Model) (T := F_Model) (N := 54) hx hb hts i_Model hown hK hP 7 rfl rfl 40 (by decide) (hts _ q1153) (fun _ h9 => h9) rfl d_Model_words_49 ?_
    refine lv_iconst (v := 0) hx hb d_Model_words_52 (by decide) ?_
    refine lv_iconst (v := 1) hx hb d_Model_words_53 (by decide) ?_
    refine va_iast hx hb hK hP hD hS 0 0 rfl rfl (i := 0) (z_in rfl) d_Model_words_54 (fun H locs hP hD hS => ?_)
    have hP : va_P G.1 classes [(b30, .inl (G.2 0, 1001, .inl (upd (fun _ => 0) 0 1))), (b29, .inl (G.2 1, 4004, .inr (.inl (fun _ => 0)))), (b20, .inl (G.2 0, 2, .inl (upd (fun _ => 0) 0 0))), (b11, .inl (G.2 0, 4820, .inl (upd (upd (upd (upd (upd (upd (upd (upd (upd (upd (fun _ => 0) 0 (-1)) 1 (-1)) 2 (-1)) 3 (-1)) 4 (-1)) 5 (-1)) 6 (-1)) 7 (-1)) 8 (-1)) 9 (-1)))), (b14, .inl (G.2 0, 482, .inl (upd (upd (fun _ => 0) 0 0) 0 0))), (b10, .inl (G.2 0, 2, .inl (upd (upd (fun _ => 0) 0 0) 0 1))), (b2, .inl (G.2 0, 503, .inl (upd (fun _ => 0) 501 1))), (b0, .inr (12, [.int 0, .ref b2, .ref b3, .ref b4, .ref b5, .int 0, .ref b6, .int 0, .int 0, .int 0, .int 0, .ref b7, .ref b8, .ref b9, .int 0, .ref b10, .ref b11, .ref b12, .ref b13, .ref b14, .ref b15, .ref b16, .ref b17, .ref b18, .ref b19, .ref b20, .ref b21, .int 0, .ref b22, .ref b23, .int 0, .int 0, .int 0, .int 0, .ref b24, .ref b25, .ref b26, .ref b27, .ref b28, .ref b29, .ref b30, .int 0, .ref b31, .ref b32, .int 0, .ref b33, .ref b34, .ref b35, .ref b36, .ref b37, .int 0, .ref b38, .ref b39, .ref b40])), (b16, .inl (G.2 0, 2, .inl (upd (fun _ => 0) 0 0))), (b22, .inl (G.2 1, 4, .inr (.inl (vp_updL (vp_updL (vp_updL (vp_updL (vp_updL (fun _ => 0) 0 0) 1 0) 2 0) 3 0) 0 0))))] H := hP
    have hD := z_tie hP hD rfl
    refine lv_iconst (v := 0) hx hb d_Model_words_55 (by decide) ?_
    refine lv_istore_n (lv' := [(2, .int 0), (0, .ref b0), (1, .int p0)]) hx hb d_Model_words_56 rfl hl (by decide) rfl (fun ls hl => ?_)
    refine lv_iload_n hx hb d_Model_words_57 rfl (lv_at hl 0 rfl) ?_
    refine lv_iconst (v := 4) hx hb d_Model_words_58 (by decide) ?_
    refine lv_icmp_ge (tgt := 80) hx hb d_Model_words_59 (by decide) (fun hc => absurd hc (by decide +kernel)) (fun _ => ?_)
    refine lv_aload_n hx hb d_Model_words_62 rfl (lv_at hl 1 rfl) ?_
    refine va_get (D := G.1) (ci := 12) (v := .ref b29) (C := R_Model) (T := F_Model) (N := 54) hx hb hts i_Model hown hK hP 7 rfl rfl 39 (by decide) (hts _ q1152) (fun _ h9 => h9) rfl d_Model_words_63 ?_
    refine lv_iload_n hx hb d_Model_words_66 rfl (lv_at hl 0 rfl) ?_
    refine lv_aload_n hx hb d_Model_words_67 rfl (lv_at hl 1 rfl) ?_
    refine va_get (D := G.1) (ci := 12) (v := .ref b22) (C := R_Model) (T := F_Model) (N := 54) hx hb hts i_Model hown hK hP 7 rfl rfl 28 (by decide) (hts _ q1141) (fun _ h9 => h9) rfl d_Model_words_68 ?_
    refine lv_iload_n hx hb d_Model_words_71 rfl (lv_at hl 0 rfl) ?_
    refine va_lald hx hb hK hP 9 1 rfl rfl (i := 0) (z_in rfl) d_Model_words_72 ?_
    refine z_topl (y := 0) rfl ?_
    refine va_last hx hb hK hP hD hS 1 1 rfl rfl (i := 0) (z_in rfl) d_Model_words_73 (fun H locs hP hD hS => ?_)
    have hP : va_P G.1 classes [(b30, .inl (G.2 0, 1001, .inl (upd (fun _ => 0) 0 1))), (b29, .inl (G.2 1, 4004, .inr (.inl (vp_updL (fun _ => 0) 0 0)))), (b20, .inl (G.2 0, 2, .inl (upd (fun _ => 0) 0 0))), (b11, .inl (G.2 0, 4820, .inl (upd (upd (upd (upd (upd (upd (upd (upd (upd (upd (fun _ => 0) 0 (-1)) 1 (-1)) 2 (-1)) 3 (-1)) 4 (-1)) 5 (-1)) 6 (-1)) 7 (-1)) 8 (-1)) 9 (-1)))), (b14, .inl (G.2 0, 482, .inl (upd (upd (fun _ => 0) 0 0) 0 0))), (b10, .inl (G.2 0, 2, .inl (upd (upd (fun _ => 0) 0 0) 0 1))), (b2, .inl (G.2 0, 503, .inl (upd (fun _ => 0) 501 1))), (b0, .inr (12, [.int 0, .ref b2, .ref b3, .ref b4, .ref b5, .int 0, .ref b6, .int 0, .int 0, .int 0, .int 0, .ref b7, .ref b8, .ref b9, .int 0, .ref b10, .ref b11, .ref b12, .ref b13, .ref b14, .ref b15, .ref b16, .ref b17, .ref b18, .ref b19, .ref b20, .ref b21, .int 0, .ref b22, .ref b23, .int 0, .int 0, .int 0, .int 0, .ref b24, .ref b25, .ref b26, .ref b27, .ref b28, .ref b29, .ref b30, .int 0, .ref b31, .ref b32, .int 0, .ref b33, .ref b34, .ref b35, .ref b36, .ref b37, .int 0, .ref b38, .ref b39, .ref b40])), (b16, .inl (G.2 0, 2, .inl (upd (fun _ => 0) 0 0))), (b22, .inl (G.2 1, 4, .inr (.inl (vp_updL (vp_updL (vp_updL (vp_updL (vp_updL (fun _ => 0) 0 0) 1 0) 2 0) 3 0) 0 0))))] H := hP
    have hD := z_tie hP hD rfl
    refine lv_iinc (v := 1) (lv' := [(2, .int 1), (0, .ref b0), (1, .int p0)]) hx hb d_Model_words_74 hl (k := 0) rfl (by decide +kernel) (by decide) rfl (fun ls hl => ?_)
    refine lv_goto (tgt := 57) hx hb d_Model_words_77 (by decide) ?_
    refine lv_iload_n hx hb d_Model_words_57 rfl (lv_at hl 0 rfl) ?_
    refine lv_iconst (v := 4) hx hb d_Model_words_58 (by decide) ?_
    refine lv_icmp_ge (tgt := 80) hx hb d_Model_words_59 (by decide) (fun hc => absurd hc (by decide +kernel)) (fun _ => ?_)
    refine lv_aload_n hx hb d_Model_words_62 rfl (lv_at hl 1 rfl) ?_
    refine va_get (D := G.1) (ci := 12) (v := .ref b29) (C := R_Model) (T := F_Model) (N := 54) hx hb hts i_Model hown hK hP 7 rfl rfl 39 (by decide) (hts _ q1152) (fun _ h9 => h9) rfl d_Model_words_63 ?_
    refine lv_iload_n hx hb d_Model_words_66 rfl (lv_at hl 0 rfl) ?_
    refine lv_aload_n hx hb d_Model_words_67 rfl (lv_at hl 1 rfl) ?_
    refine va_get (D := G.1) (ci := 12) (v := .ref b22) (C := R_Model) (T := F_Model) (N := 54) hx hb hts i_Model hown hK hP 7 rfl rfl 28 (by decide) (hts _ q1141) (fun _ h9 => h9) rfl d_Model_words_68 ?_
    refine lv_iload_n hx hb d_Model_words_71 rfl (lv_at hl 0 rfl) ?_
    refine va_lald hx hb hK hP 9 1 rfl rfl (i := 1) (z_in rfl) d_Model_words_72 ?_
    refine z_topl (y := 0) rfl ?_
    refine va_last hx hb hK hP hD hS 1 1 rfl rfl (i := 1) (z_in rfl) d_Model_words_73 (fun H locs hP hD hS => ?_)
    have hP : va_P G.1 classes [(b30, .inl (G.2 0, 1001, .inl (upd (fun _ => 0) 0 1))), (b29, .inl (G.2 1, 4004, .inr (.inl (vp_updL (vp_updL (fun _ => 0) 0 0) 1 0)))), (b20, .inl (G.2 0, 2, .inl (upd (fun _ => 0) 0 0))), (b11, .inl (G.2 0, 4820, .inl (upd (upd (upd (upd (upd (upd (upd (upd (upd (upd (fun _ => 0) 0 (-1)) 1 (-1)) 2 (-1)) 3 (-1)) 4 (-1)) 5 (-1)) 6 (-1)) 7 (-1)) 8 (-1)) 9 (-1)))), (b14, .inl (G.2 0, 482, .inl (upd (upd (fun _ => 0) 0 0) 0 0))), (b10, .inl (G.2 0, 2, .inl (upd (upd (fun _ => 0) 0 0) 0 1))), (b2, .inl (G.2 0, 503, .inl (upd (fun _ => 0) 501 1))), (b0, .inr (12, [.int 0, .ref b2, .ref b3, .ref b4, .ref b5, .int 0, .ref b6, .int 0, .int 0, .int 0, .int 0, .ref b7, .ref b8, .ref b9, .int 0, .ref b10, .ref b11, .ref b12, .ref b13, .ref b14, .ref b15, .ref b16, .ref b17, .ref b18, .ref b19, .ref b20, .ref b21, .int 0, .ref b22, .ref b23, .int 0, .int 0, .int 0, .int 0, .ref b24, .ref b25, .ref b26, .ref b27, .ref b28, .ref b29, .ref b30, .int 0, .ref b31, .ref b32, .int 0, .ref b33, .ref b34, .ref b35, .ref b36, .ref b37, .int 0, .ref b38, .ref b39, .ref b40])), (b16, .inl (G.2 0, 2, .inl (upd (fun _ => 0) 0 0))), (b22, .inl (G.2 1, 4, .inr (.inl (vp_updL (vp_updL (vp_updL (vp_updL (vp_updL (fun _ => 0) 0 0) 1 0) 2 0) 3 0) 0 0))))] H := hP
    have hD := z_tie hP hD rfl
    refine lv_iinc (v := 2) (lv' := [(2, .int 2), (0, .ref b0), (1, .int p0)]) hx hb d_Model_words_74 hl (k := 0) rfl (by decide +kernel) (by decide) rfl (fun ls hl => ?_)
    refine lv_goto (tgt := 57) hx hb d_Model_words_77 (by decide) ?_
    refine lv_iload_n hx hb d_Model_words_57 rfl (lv_at hl 0 rfl) ?_
    refine lv_iconst (v := 4) hx hb d_Model_words_58 (by decide) ?_
    refine lv_icmp_ge (tgt := 80) hx hb d_Model_words_59 (by decide) (fun hc => absurd hc (by decide +kernel)) (fun _ => ?_)
    refine lv_aload_n hx hb d_Model_words_62 rfl (lv_at hl 1 rfl) ?_
    refine va_get (D := G.1) (ci := 12) (v := .ref b29) (C := R_Model) (T := F_Model) (N := 54) hx hb hts i_Model hown hK hP 7 rfl rfl 39 (by decide) (hts _ q1152) (fun _ h9 => h9) rfl d_Model_words_63 ?_
    refine lv_iload_n hx hb d_Model_words_66 rfl (lv_at hl 0 rfl) ?_
    refine lv_aload_n hx hb d_Model_words_67 rfl (lv_at hl 1 rfl) ?_
    refine va_get (D := G.1) (ci := 12) (v := .ref b22) (C := R_Model) (T := F_Model) (N := 54) hx hb hts i_Model hown hK hP 7 rfl rfl 28 (by decide) (hts _ q1141) (fun _ h9 => h9) rfl d_Model_words_68 ?_
    refine lv_iload_n hx hb d_Model_words_71 rfl (lv_at hl 0 rfl) ?_
    refine va_lald hx hb hK hP 9 1 rfl rfl (i := 2) (z_in rfl) d_Model_words_72 ?_
    refine z_topl (y := 0) rfl ?_
    refine va_last hx hb hK hP hD hS 1 1 rfl rfl (i := 2) (z_in rfl) d_Model_words_73 (fun H locs hP hD hS => ?_)
    have hP : va_P G.1 classes [(b30, .inl (G.2 0, 1001, .inl (upd (fun _ => 0) 0 1))), (b29, .inl (G.2 1, 4004, .inr (.inl (vp_updL (vp_updL (vp_updL (fun _ => 0) 0 0) 1 0) 2 0)))), (b20, .inl (G.2 0, 2, .inl (upd (fun _ => 0) 0 0))), (b11, .inl (G.2 0, 4820, .inl (upd (upd (upd (upd (upd (upd (upd (upd (upd (upd (fun _ => 0) 0 (-1)) 1 (-1)) 2 (-1)) 3 (-1)) 4 (-1)) 5 (-1)) 6 (-1)) 7 (-1)) 8 (-1)) 9 (-1)))), (b14, .inl (G.2 0, 482, .inl (upd (upd (fun _ => 0) 0 0) 0 0))), (b10, .inl (G.2 0, 2, .inl (upd (upd (fun _ => 0) 0 0) 0 1))), (b2, .inl (G.2 0, 503, .inl (upd (fun _ => 0) 501 1))), (b0, .inr (12, [.int 0, .ref b2, .ref b3, .ref b4, .ref b5, .int 0, .ref b6, .int 0, .int 0, .int 0, .int 0, .ref b7, .ref b8, .ref b9, .int 0, .ref b10, .ref b11, .ref b12, .ref b13, .ref b14, .ref b15, .ref b16, .ref b17, .ref b18, .ref b19, .ref b20, .ref b21, .int 0, .ref b22, .ref b23, .int 0, .int 0, .int 0, .int 0, .ref b24, .ref b25, .ref b26, .ref b27, .ref b28, .ref b29, .ref b30, .int 0, .ref b31, .ref b32, .int 0, .ref b33, .ref b34, .ref b35, .ref b36, .ref b37, .int 0, .ref b38, .ref b39, .ref b40])), (b16, .inl (G.2 0, 2, .inl (upd (fun _ => 0) 0 0))), (b22, .inl (G.2 1, 4, .inr (.inl (vp_updL (vp_updL (vp_updL (vp_updL (vp_updL (fun _ => 0) 0 0) 1 0) 2 0) 3 0) 0 0))))] H := hP
    have hD := z_tie hP hD rfl
    refine lv_iinc (v := 3) (lv' := [(2, .int 3), (0, .ref b0), (1, .int p0)]) hx hb d_Model_words_74 hl (k := 0) rfl (by decide +kernel) (by decide) rfl (fun ls hl => ?_)
    refine lv_goto (tgt := 57) hx hb d_Model_words_77 (by decide) ?_
    refine lv_iload_n hx hb d_Model_words_57 rfl (lv_at hl 0 rfl) ?_
    refine lv_iconst (v := 4) hx hb d_Model_words_58 (by decide) ?_
    refine lv_icmp_ge (tgt := 80) hx hb d_Model_words_59 (by decide) (fun hc => absurd hc (by decide +kernel)) (fun _ => ?_)
    refine lv_aload_n hx hb d_Model_words_62 rfl (lv_at hl 1 rfl) ?_
    refine va_get (D := G.1) (ci := 12) (v := .ref b29) (C := R_Model) (T := F_Model) (N := 54) hx hb hts i_Model hown hK hP 7 rfl rfl 39 (by decide) (hts _ q1152) (fun _ h9 => h9) rfl d_Model_words_63 ?_
    refine lv_iload_n hx hb d_Model_words_66 rfl (lv_at hl 0 rfl) ?_
    refine lv_aload_n hx hb d_Model_words_67 rfl (lv_at hl 1 rfl) ?_
    refine va_get (D := G.1) (ci := 12) (v := .ref b22) (C := R_Model) (T := F_Model) (N := 54) hx hb hts i_Model hown hK hP 7 rfl rfl 28 (by decide) (hts _ q1141) (fun _ h9 => h9) rfl d_Model_words_68 ?_
    refine lv_iload_n hx hb d_Model_words_71 rfl (lv_at hl 0 rfl) ?_
    refine va_lald hx hb hK hP 9 1 rfl rfl (i := 3) (z_in rfl) d_Model_words_72 ?_
    refine z_topl (y := 0) rfl ?_
    refine va_last hx hb hK hP hD hS 1 1 rfl rfl (i := 3) (z_in rfl) d_Model_words_73 (fun H locs hP hD hS => ?_)
    have hP : va_P G.1 classes [(b30, .inl (G.2 0, 1001, .inl (upd (fun _ => 0) 0 1))), (b29, .inl (G.2 1, 4004, .inr (.inl (vp_updL (vp_updL (vp_updL (vp_updL (fun _ => 0) 0 0) 1 0) 2 0) 3 0)))), (b20, .inl (G.2 0, 2, .inl (upd (fun _ => 0) 0 0))), (b11, .inl (G.2 0, 4820, .inl (upd (upd (upd (upd (upd (upd (upd (upd (upd (upd (fun _ => 0) 0 (-1)) 1 (-1)) 2 (-1)) 3 (-1)) 4 (-1)) 5 (-1)) 6 (-1)) 7 (-1)) 8 (-1)) 9 (-1)))), (b14, .inl (G.2 0, 482, .inl (upd (upd (fun _ => 0) 0 0) 0 0))), (b10, .inl (G.2 0, 2, .inl (upd (upd (fun _ => 0) 0 0) 0 1))), (b2, .inl (G.2 0, 503, .inl (upd (fun _ => 0) 501 1))), (b0, .inr (12, [.int 0, .ref b2, .ref b3, .ref b4, .ref b5, .int 0, .ref b6, .int 0, .int 0, .int 0, .int 0, .ref b7, .ref b8, .ref b9, .int 0, .ref b10, .ref b11, .ref b12, .ref b13, .ref b14, .ref b15, .ref b16, .ref b17, .ref b18, .ref b19, .ref b20, .ref b21, .int 0, .ref b22, .ref b23, .int 0, .int 0, .int 0, .int 0, .ref b24, .ref b25, .ref b26, .ref b27, .ref b28, .ref b29, .ref b30, .int 0, .ref b31, .ref b32, .int 0, .ref b33, .ref b34, .ref b35, .ref b36, .ref b37, .int 0, .ref b38, .ref b39, .ref b40])), (b16, .inl (G.2 0, 2, .inl (upd (fun _ => 0) 0 0))), (b22, .inl (G.2 1, 4, .inr (.inl (vp_updL (vp_updL (vp_updL (vp_updL (vp_updL (fun _ => 0) 0 0) 1 0) 2 0) 3 0) 0 0))))] H := hP
    have hD := z_tie hP hD rfl
    refine lv_iinc (v := 4) (lv' := [(2, .int 4), (0, .ref b0), (1, .int p0)]) hx hb d_Model_words_74 hl (k := 0) rfl (by decide +kernel) (by decide) rfl (fun ls hl => ?_)
    refine lv_goto (tgt := 57) hx hb d_Model_words_77 (by decide) ?_
    refine lv_iload_n hx hb d_Model_words_57 rfl (lv_at hl 0 rfl) ?_
    refine lv_iconst (v := 4) hx hb d_Model_words_58 (by decide) ?_
    refine lv_icmp_ge (tgt := 80) hx hb d_Model_words_59 (by decide) (fun _ => ?_) (fun hc => absurd hc (by decide +kernel))
    refine lv_iconst (v := 0) hx hb d_Model_words_80 (by decide) ?_
    refine lv_istore_n (lv' := [(2, .int 0), (0, .ref b0), (1, .int p0)]) hx hb d_Model_words_81 rfl hl (by decide) rfl (fun ls hl => ?_)
    refine lv_iload_n hx hb d_Model_words_82 rfl (lv_at hl 0 rfl) ?_
    refine lv_iload_n hx hb d_Model_words_83 rfl (lv_at hl 2 rfl) ?_
    refine lv_icmp_ge (tgt := 109) hx hb d_Model_words_84 (by decide) (fun hc_10 => ?_) (fun hc_10 => ?_)
    · simp only [fa_lt, fa_le, fa_eq, Int32.toInt_toInt64, li_0] at hc_10
      refine lv_iconst (v := 0) hx hb d_Model_words_109 (by decide) ?_
      refine lv_istore_n (lv' := [(2, .int 0), (0, .ref b0), (1, .int p0)]) hx hb d_Model_words_110 rfl hl (by decide) rfl (fun ls hl => ?_)
      refine lv_iconst (v := 0) hx hb d_Model_words_111 (by decide) ?_
      refine lv_istore_n (lv' := [(3, .int 0), (2, .int 0), (0, .ref b0), (1, .int p0)]) hx hb d_Model_words_112 rfl hl (by decide) rfl (fun ls hl => ?_)
      refine lv_iload_n hx hb d_Model_words_113 rfl (lv_at hl 0 rfl) ?_
      refine lv_aload_n hx hb d_Model_words_114 rfl (lv_at hl 2 rfl) ?_
      refine va_get (D := G.1) (ci := 12) (v := .int 0) (C := R_Model) (T := F_Model) (N := 54) hx hb hts i_Model hown hK hP 7 rfl rfl 41 (by decide) (hts _ q1154) (fun _ h9 => h9) rfl d_Model_words_115 ?_
      refine lv_icmp_ge (tgt := 155) hx hb d_Model_words_118 (by decide) (fun _ => ?_) (fun hc => absurd hc (by decide +kernel))
      refine lv_iload_n hx hb d_Model_words_155 rfl (lv_at hl 1 rfl) ?_
      exact z_iret hx hb hr hlocks hP hD hS (Nat.le_of_ble_eq_true rfl) (Nat.le_of_ble_eq_true rfl) d_Model_words_156 (congrArg (fun z => some (Value.int z)) (by unfold a_words; (first | rfl | (repeat (first | rw [if_pos (by omega)] | rw [if_neg (by omega)])))))
    · simp only [fa_lt, fa_le, fa_eq, Int32.toInt_toInt64, li_0] at hc_10
      refine lv_aload_n hx hb d_Model_words_87 rfl (lv_at hl 1 rfl) ?_
      refine va_get (D := G.1) (ci := 12) (v := .int 0) (C := R_Model) (T := F_Model) (N := 54) hx hb hts i_Model hown hK hP 7 rfl rfl 41 (by decide) (hts _ q1154) (fun _ h9 => h9) rfl d_Model_words_88 ?_
      refine lv_bipush (v := 100) hx hb d_Model_words_91 (by decide) ?_
      refine lv_icmp_le (tgt := 99) hx hb d_Model_words_93 (by decide) (fun _ => ?_) (fun hc => absurd hc (by decide +kernel))
      refine lv_aload_n hx hb d_Model_words_99 rfl (lv_at hl 1 rfl) ?_
      refine z_callV (index := 335) (As := []) (rest := []) (wr := [(b30, .inl (G.2 0, 1001, .inl (upd (fun _ => 0) 0 1))), (b29, .inl (G.2 1, 4004, .inr (.inl (vp_updL (vp_updL (vp_updL (vp_updL (fun _ => 0) 0 0) 1 0) 2 0) 3 0)))), (b20, .inl (G.2 0, 2, .inl (upd (fun _ => 0) 0 0))), (b11, .inl (G.2 0, 4820, .inl (upd (upd (upd (upd (upd (upd (upd (upd (upd (upd (fun _ => 0) 0 (-1)) 1 (-1)) 2 (-1)) 3 (-1)) 4 (-1)) 5 (-1)) 6 (-1)) 7 (-1)) 8 (-1)) 9 (-1)))), (b14, .inl (G.2 0, 482, .inl (upd (upd (fun _ => 0) 0 0) 0 0))), (b10, .inl (G.2 0, 2, .inl (upd (upd (fun _ => 0) 0 0) 0 1))), (b2, .inl (G.2 0, 503, .inl (upd (fun _ => 0) 501 1))), (b16, .inl (G.2 0, 2, .inl (upd (fun _ => 0) 0 0))), (b22, .inl (G.2 1, 4, .inr (.inl (vp_updL (vp_updL (vp_updL (vp_updL (vp_updL (fun _ => 0) 0 0) 1 0) 2 0) 3 0) 0 0))))]) Z (c1_Model_nextLevel l G (b0) (b2) (b3) (b4) (b5) (b6) (b7) (b8) (b9) (b10) (b11) (b12) (b13) (b14) (b15) (b16) (b17) (b18) (b19) (b20) (b21) (b22) (b23) (b24) (b25) (b26) (b27) (b28) (b29) (b30) (b31) (b32) (b33) (b34) (b35) (b36) (b37) (b38) (b39) (b40)) hl.1 q1509 q1511 qs81 q14 q1512 ⟨by decide, by decide, by show _ = some 0; decide +kernel⟩ ⟨Nat.le_of_ble_eq_true rfl, Nat.le_of_ble_eq_true rfl⟩ ⟨Nat.le_of_ble_eq_true rfl, Nat.le_of_ble_eq_true rfl⟩ rfl (Nat.le_of_ble_eq_true rfl) d_Model_words_100 hP hD hS hA 7 12 rfl rfl rfl [7] [0, 1, 2, 3, 4, 5, 6, 8, 9] rfl rfl rfl rfl (by decide) (fun v w1 H locs hw_11 hP hD hS => ?_)
      obtain ⟨rfl, rfl⟩ := hw_11
      have hP : va_P G.1 classes [(b30, .inl (G.2 0, 1001, .inl (upd (fun _ => 0) 0 1))), (b29, .inl (G.2 1, 4004, .inr (.inl (vp_updL (vp_updL (vp_updL (vp_updL (fun _ => 0) 0 0) 1 0) 2 0) 3 0)))), (b20, .inl (G.2 0, 2, .inl (upd (fun _ => 0) 0 0))), (b11, .inl (G.2 0, 4820, .inl (upd (upd (upd (upd (upd (upd (upd (upd (upd (upd (fun _ => 0) 0 (-1)) 1 (-1)) 2 (-1)) 3 (-1)) 4 (-1)) 5 (-1)) 6 (-1)) 7 (-1)) 8 (-1)) 9 (-1)))), (b14, .inl (G.2 0, 482, .inl (upd (upd (fun _ => 0) 0 0) 0 0))), (b10, .inl (G.2 0, 2, .inl (upd (upd (fun _ => 0) 0 0) 0 1))), (b2, .inl (G.2 0, 503, .inl (upd (fun _ => 0) 501 1))), (b16, .inl (G.2 0, 2, .inl (upd (fun _ => 0) 0 0))), (b22, .inl (G.2 1, 4, .inr (.inl (vp_updL (vp_updL (vp_updL (vp_updL (vp_updL (fun _ => 0) 0 0) 1 0) 2 0) 3 0) 0 0)))), (b0, .inr (12, [.int 0, .ref b2, .ref b3, .ref b4, .ref b5, .int 0, .ref b6, .int 0, .int 0, .int 0, .int 0, .ref b7, .ref b8, .ref b9, .int 0, .ref b10, .ref b11, .ref b12, .ref b13, .ref b14, .ref b15, .ref b16, .ref b17, .ref b18, .ref b19, .ref b20, .ref b21, .int 0, .ref b22, .ref b23, .int 0, .int 0, .int 0, .int 0, .ref b24, .ref b25, .ref b26, .ref b27, .ref b28, .ref b29, .ref b30, .int 0, .ref b31, .ref b32, .int 0, .ref b33, .ref b34, .ref b35, .ref b36, .ref b37, .int 0, .ref b38, .ref b39, .ref b40]))] H := hP
      have hD := z_tie hP hD rfl
      refine W.widen (k := 0) (n := 0) (Nat.le_of_ble_eq_true rfl) (Nat.le_of_ble_eq_true rfl) ?_
      refine lv_iinc (v := 1) (lv' := [(2, .int 1), (0, .ref b0), (1, .int p0)]) hx hb d_Model_words_103 hl (k := 0) rfl (by decide +kernel) (by decide) rfl (fun ls hl => ?_)
      refine lv_goto (tgt := 82) hx hb d_Model_words_106 (by decide) ?_
      refine lv_iload_n hx hb d_Model_words_82 rfl (lv_at hl 0 rfl) ?_
      refine lv_iload_n hx hb d_Model_words_83 rfl (lv_at hl 2 rfl) ?_
      refine lv_icmp_ge (tgt := 109) hx hb d_Model_words_84 (by decide) (fun hc_12 => ?_) (fun hc_12 => ?_)
      · simp only [fa_lt, fa_le, fa_eq, Int32.toInt_toInt64, li_1] at hc_12
        refine lv_iconst (v := 0) hx hb d_Model_words_109 (by decide) ?_
        refine lv_istore_n (lv' := [(2, .int 0), (0, .ref b0), (1, .int p0)]) hx hb d_Model_words_110 rfl hl (by decide) rfl (fun ls hl => ?_)
        refine lv_iconst (v := 0) hx hb d_Model_words_111 (by decide) ?_
        refine lv_istore_n (lv' := [(3, .int 0), (2, .int 0), (0, .ref b0), (1, .int p0)]) hx hb d_Model_words_112 rfl hl (by decide) rfl (fun ls hl => ?_)
        refine lv_iload_n hx hb d_Model_words_113 rfl (lv_at hl 0 rfl) ?_
        refine lv_aload_n hx hb d_Model_words_114 rfl (lv_at hl 2 rfl) ?_
        refine va_get (D := G.1) (ci := 12) (v := .int 0) (C := R_Model) (T := F_Model) (N := 54) hx hb hts i_Model hown hK hP 9 rfl rfl 41 (by decide) (hts _ q1154) (fun _ h9 => h9) rfl d_Model_words_115 ?_
        refine lv_icmp_ge (tgt := 155) hx hb d_Model_words_118 (by decide) (fun _ => ?_) (fun hc => absurd hc (by decide +kernel))
        refine lv_iload_n hx hb d_Model_words_155 rfl (lv_at hl 1 rfl) ?_
        exact z_iret hx hb hr hlocks hP hD hS (Nat.le_of_ble_eq_true rfl) (Nat.le_of_ble_eq_true rfl) d_Model_words_156 (congrArg (fun z => some (Value.int z)) (by unfold a_words; (first | rfl | (repeat (first | rw [if_pos (by omega)] | rw [if_neg (by omega)])))))
      · simp only [fa_lt, fa_le, fa_eq, Int32.toInt_toInt64, li_1] at hc_12
        refine lv_aload_n hx hb d_Model_words_87 rfl (lv_at hl 1 rfl) ?_
        refine va_get (D := G.1) (ci := 12) (v := .int 0) (C := R_Model) (T := F_Model) (N := 54) hx hb hts i_Model hown hK hP 9 rfl rfl 41 (by decide) (hts _ q1154) (fun _ h9 => h9) rfl d_Model_words_88 ?_
        refine lv_bipush (v := 100) hx hb d_Model_words_91 (by decide) ?_
        refine lv_icmp_le (tgt := 99) hx hb d_Model_words_93 (by decide) (fun _ => ?_) (fun hc => absurd hc (by decide +kernel))
        refine lv_aload_n hx hb d_Model_words_99 rfl (lv_at hl 1 rfl) ?_
        refine z_callV (index := 335) (As := []) (rest := []) (wr := [(b30, .inl (G.2 0, 1001, .inl (upd (fun _ => 0) 0 1))), (b29, .inl (G.2 1, 4004, .inr (.inl (vp_updL (vp_updL (vp_updL (vp_updL (fun _ => 0) 0 0) 1 0) 2 0) 3 0)))), (b20, .inl (G.2 0, 2, .inl (upd (fun _ => 0) 0 0))), (b11, .inl (G.2 0, 4820, .inl (upd (upd (upd (upd (upd (upd (upd (upd (upd (upd (fun _ => 0) 0 (-1)) 1 (-1)) 2 (-1)) 3 (-1)) 4 (-1)) 5 (-1)) 6 (-1)) 7 (-1)) 8 (-1)) 9 (-1)))), (b14, .inl (G.2 0, 482, .inl (upd (upd (fun _ => 0) 0 0) 0 0))), (b10, .inl (G.2 0, 2, .inl (upd (upd (fun _ => 0) 0 0) 0 1))), (b2, .inl (G.2 0, 503, .inl (upd (fun _ => 0) 501 1))), (b16, .inl (G.2 0, 2, .inl (upd (fun _ => 0) 0 0))), (b22, .inl (G.2 1, 4, .inr (.inl (vp_updL (vp_updL (vp_updL (vp_updL (vp_updL (fun _ => 0) 0 0) 1 0) 2 0) 3 0) 0 0))))]) Z (c1_Model_nextLevel l G (b0) (b2) (b3) (b4) (b5) (b6) (b7) (b8) (b9) (b10) (b11) (b12) (b13) (b14) (b15) (b16) (b17) (b18) (b19) (b20) (b21) (b22) (b23) (b24) (b25) (b26) (b27) (b28) (b29) (b30) (b31) (b32) (b33) (b34) (b35) (b36) (b37) (b38) (b39) (b40)) hl.1 q1509 q1511 qs81 q14 q1512 ⟨by decide, by decide, by show _ = some 0; decide +kernel⟩ ⟨Nat.le_of_ble_eq_true rfl, Nat.le_of_ble_eq_true rfl⟩ ⟨Nat.le_of_ble_eq_true rfl, Nat.le_of_ble_eq_true rfl⟩ rfl (Nat.le_of_ble_eq_true rfl) d_Model_words_100 hP hD hS hA 9 12 rfl rfl rfl [9] [0, 1, 2, 3, 4, 5, 6, 7, 8] rfl rfl rfl rfl (by decide) (fun v w1 H locs hw_13 hP hD hS => ?_)
        obtain ⟨rfl, rfl⟩ := hw_13
        have hP : va_P G.1 classes [(b30, .inl (G.2 0, 1001, .inl (upd (fun _ => 0) 0 1))), (b29, .inl (G.2 1, 4004, .inr (.inl (vp_updL (vp_updL (vp_updL (vp_updL (fun _ => 0) 0 0) 1 0) 2 0) 3 0)))), (b20, .inl (G.2 0, 2, .inl (upd (fun _ => 0) 0 0))), (b11, .inl (G.2 0, 4820, .inl (upd (upd (upd (upd (upd (upd (upd (upd (upd (upd (fun _ => 0) 0 (-1)) 1 (-1)) 2 (-1)) 3 (-1)) 4 (-1)) 5 (-1)) 6 (-1)) 7 (-1)) 8 (-1)) 9 (-1)))), (b14, .inl (G.2 0, 482, .inl (upd (upd (fun _ => 0) 0 0) 0 0))), (b10, .inl (G.2 0, 2, .inl (upd (upd (fun _ => 0) 0 0) 0 1))), (b2, .inl (G.2 0, 503, .inl (upd (fun _ => 0) 501 1))), (b16, .inl (G.2 0, 2, .inl (upd (fun _ => 0) 0 0))), (b22, .inl (G.2 1, 4, .inr (.inl (vp_updL (vp_updL (vp_updL (vp_updL (vp_updL (fun _ => 0) 0 0) 1 0) 2 0) 3 0) 0 0)))), (b0, .inr (12, [.int 0, .ref b2, .ref b3, .ref b4, .ref b5, .int 0, .ref b6, .int 0, .int 0, .int 0, .int 0, .ref b7, .ref b8, .ref b9, .int 0, .ref b10, .ref b11, .ref b12, .ref b13, .ref b14, .ref b15, .ref b16, .ref b17, .ref b18, .ref b19, .ref b20, .ref b21, .int 0, .ref b22, .ref b23, .int 0, .int 0, .int 0, .int 0, .ref b24, .ref b25, .ref b26, .ref b27, .ref b28, .ref b29, .ref b30, .int 0, .ref b31, .ref b32, .int 0, .ref b33, .ref b34, .ref b35, .ref b36, .ref b37, .int 0, .ref b38, .ref b39, .ref b40]))] H := hP
        have hD := z_tie hP hD rfl
        refine W.widen (k := 0) (n := 0) (Nat.le_of_ble_eq_true rfl) (Nat.le_of_ble_eq_true rfl) ?_
        refine lv_iinc (v := 2) (lv' := [(2, .int 2), (0, .ref b0), (1, .int p0)]) hx hb d_Model_words_103 hl (k := 0) rfl (by decide +kernel) (by decide) rfl (fun ls hl => ?_)
        refine lv_goto (tgt := 82) hx hb d_Model_words_106 (by decide) ?_
        refine lv_iload_n hx hb d_Model_words_82 rfl (lv_at hl 0 rfl) ?_
        refine lv_iload_n hx hb d_Model_words_83 rfl (lv_at hl 2 rfl) ?_
        refine lv_icmp_ge (tgt := 109) hx hb d_Model_words_84 (by decide) (fun hc_14 => ?_) (fun hc_14 => ?_)
        · simp only [fa_lt, fa_le, fa_eq, Int32.toInt_toInt64, li_2] at hc_14
          refine lv_iconst (v := 0) hx hb d_Model_words_109 (by decide) ?_
          refine lv_istore_n (lv' := [(2, .int 0), (0, .ref b0), (1, .int p0)]) hx hb d_Model_words_110 rfl hl (by decide) rfl (fun ls hl => ?_)
          refine lv_iconst (v := 0) hx hb d_Model_words_111 (by decide) ?_
          refine lv_istore_n (lv' := [(3, .int 0), (2, .int 0), (0, .ref b0), (1, .int p0)]) hx hb d_Model_words_112 rfl hl (by decide) rfl (fun ls hl => ?_)
          refine lv_iload_n hx hb d_Model_words_113 rfl (lv_at hl 0 rfl) ?_
          refine lv_aload_n hx hb d_Model_words_114 rfl (lv_at hl 2 rfl) ?_
          refine va_get (D := G.1) (ci := 12) (v := .int 0) (C := R_Model) (T := F_Model) (N := 54) hx hb hts i_Model hown hK hP 9 rfl rfl 41 (by decide) (hts _ q1154) (fun _ h9 => h9) rfl d_Model_words_115 ?_
          refine lv_icmp_ge (tgt := 155) hx hb d_Model_words_118 (by decide) (fun _ => ?_) (fun hc => absurd hc (by decide +kernel))
          refine lv_iload_n hx hb d_Model_words_155 rfl (lv_at hl 1 rfl) ?_
          exact z_iret hx hb hr hlocks hP hD hS (Nat.le_of_ble_eq_true rfl) (Nat.le_of_ble_eq_true rfl) d_Model_words_156 (congrArg (fun z => some (Value.int z)) (by unfold a_words; (first | rfl | (repeat (first | rw [if_pos (by omega)] | rw [if_neg (by omega)])))))
        · simp only [fa_lt, fa_le, fa_eq, Int32.toInt_toInt64, li_2] at hc_14
          refine lv_aload_n hx hb d_Model_words_87 rfl (lv_at hl 1 rfl) ?_
          refine va_get (D := G.1) (ci := 12) (v := .int 0) (C := R_Model) (T := F_Model) (N := 54) hx hb hts i_Model hown hK hP 9 rfl rfl 41 (by decide) (hts _ q1154) (fun _ h9 => h9) rfl d_Model_words_88 ?_
          refine lv_bipush (v := 100) hx hb d_Model_words_91 (by decide) ?_
          refine lv_icmp_le (tgt := 99) hx hb d_Model_words_93 (by decide) (fun _ => ?_) (fun hc => absurd hc (by decide +kernel))
          refine lv_aload_n hx hb d_Model_words_99 rfl (lv_at hl 1 rfl) ?_
          refine z_callV (index := 335) (As := []) (rest := []) (wr := [(b30, .inl (G.2 0, 1001, .inl (upd (fun _ => 0) 0 1))), (b29, .inl (G.2 1, 4004, .inr (.inl (vp_updL (vp_updL (vp_updL (vp_updL (fun _ => 0) 0 0) 1 0) 2 0) 3 0)))), (b20, .inl (G.2 0, 2, .inl (upd (fun _ => 0) 0 0))), (b11, .inl (G.2 0, 4820, .inl (upd (upd (upd (upd (upd (upd (upd (upd (upd (upd (fun _ => 0) 0 (-1)) 1 (-1)) 2 (-1)) 3 (-1)) 4 (-1)) 5 (-1)) 6 (-1)) 7 (-1)) 8 (-1)) 9 (-1)))), (b14, .inl (G.2 0, 482, .inl (upd (upd (fun _ => 0) 0 0) 0 0))), (b10, .inl (G.2 0, 2, .inl (upd (upd (fun _ => 0) 0 0) 0 1))), (b2, .inl (G.2 0, 503, .inl (upd (fun _ => 0) 501 1))), (b16, .inl (G.2 0, 2, .inl (upd (fun _ => 0) 0 0))), (b22, .inl (G.2 1, 4, .inr (.inl (vp_updL (vp_updL (vp_updL (vp_updL (vp_updL (fun _ => 0) 0 0) 1 0) 2 0) 3 0) 0 0))))]) Z (c1_Model_nextLevel l G (b0) (b2) (b3) (b4) (b5) (b6) (b7) (b8) (b9) (b10) (b11) (b12) (b13) (b14) (b15) (b16) (b17) (b18) (b19) (b20) (b21) (b22) (b23) (b24) (b25) (b26) (b27) (b28) (b29) (b30) (b31) (b32) (b33) (b34) (b35) (b36) (b37) (b38) (b39) (b40)) hl.1 q1509 q1511 qs81 q14 q1512 ⟨by decide, by decide, by show _ = some 0; decide +kernel⟩ ⟨Nat.le_of_ble_eq_true rfl, Nat.le_of_ble_eq_true rfl⟩ ⟨Nat.le_of_ble_eq_true rfl, Nat.le_of_ble_eq_true rfl⟩ rfl (Nat.le_of_ble_eq_true rfl) d_Model_words_100 hP hD hS hA 9 12 rfl rfl rfl [9] [0, 1, 2, 3, 4, 5, 6, 7, 8] rfl rfl rfl rfl (by decide) (fun v w1 H locs hw_15 hP hD hS => ?_)
          obtain ⟨rfl, rfl⟩ := hw_15
          have hP : va_P G.1 classes [(b30, .inl (G.2 0, 1001, .inl (upd (fun _ => 0) 0 1))), (b29, .inl (G.2 1, 4004, .inr (.inl (vp_updL (vp_updL (vp_updL (vp_updL (fun _ => 0) 0 0) 1 0) 2 0) 3 0)))), (b20, .inl (G.2 0, 2, .inl (upd (fun _ => 0) 0 0))), (b11, .inl (G.2 0, 4820, .inl (upd (upd (upd (upd (upd (upd (upd (upd (upd (upd (fun _ => 0) 0 (-1)) 1 (-1)) 2 (-1)) 3 (-1)) 4 (-1)) 5 (-1)) 6 (-1)) 7 (-1)) 8 (-1)) 9 (-1)))), (b14, .inl (G.2 0, 482, .inl (upd (upd (fun _ => 0) 0 0) 0 0))), (b10, .inl (G.2 0, 2, .inl (upd (upd (fun _ => 0) 0 0) 0 1))), (b2, .inl (G.2 0, 503, .inl (upd (fun _ => 0) 501 1))), (b16, .inl (G.2 0, 2, .inl (upd (fun _ => 0) 0 0))), (b22, .inl (G.2 1, 4, .inr (.inl (vp_updL (vp_updL (vp_updL (vp_updL (vp_updL (fun _ => 0) 0 0) 1 0) 2 0) 3 0) 0 0)))), (b0, .inr (12, [.int 0, .ref b2, .ref b3, .ref b4, .ref b5, .int 0, .ref b6, .int 0, .int 0, .int 0, .int 0, .ref b7, .ref b8, .ref b9, .int 0, .ref b10, .ref b11, .ref b12, .ref b13, .ref b14, .ref b15, .ref b16, .ref b17, .ref b18, .ref b19, .ref b20, .ref b21, .int 0, .ref b22, .ref b23, .int 0, .int 0, .int 0, .int 0, .ref b24, .ref b25, .ref b26, .ref b27, .ref b28, .ref b29, .ref b30, .int 0, .ref b31, .ref b32, .int 0, .ref b33, .ref b34, .ref b35, .ref b36, .ref b37, .int 0, .ref b38, .ref b39, .ref b40]))] H := hP
          have hD := z_tie hP hD rfl
          refine W.widen (k := 0) (n := 0) (Nat.le_of_ble_eq_true rfl) (Nat.le_of_ble_eq_true rfl) ?_
          refine lv_iinc (v := 3) (lv' := [(2, .int 3), (0, .ref b0), (1, .int p0)]) hx hb d_Model_words_103 hl (k := 0) rfl (by decide +kernel) (by decide) rfl (fun ls hl => ?_)
          refine lv_goto (tgt := 82) hx hb d_Model_words_106 (by decide) ?_
          refine lv_iload_n hx hb d_Model_words_82 rfl (lv_at hl 0 rfl) ?_
          refine lv_iload_n hx hb d_Model_words_83 rfl (lv_at hl 2 rfl) ?_
          refine lv_icmp_ge (tgt := 109) hx hb d_Model_words_84 (by decide) (fun hc_16 => ?_) (fun hc_16 => ?_)
          · simp only [fa_lt, fa_le, fa_eq, Int32.toInt_toInt64, li_3] at hc_16
            refine lv_iconst (v := 0) hx hb d_Model_words_109 (by decide) ?_
            refine lv_istore_n (lv' := [(2, .int 0), (0, .ref b0), (1, .int p0)]) hx hb d_Model_words_110 rfl hl (by decide) rfl (fun ls hl => ?_)
            refine lv_iconst (v := 0) hx hb d_Model_words_111 (by decide) ?_
            refine lv_istore_n (lv' := [(3, .int 0), (2, .int 0), (0, .ref b0), (1, .int p0)]) hx hb d_Model_words_112 rfl hl (by decide) rfl (fun ls hl => ?_)
            refine lv_iload_n hx hb d_Model_words_113 rfl (lv_at hl 0 rfl) ?_
            refine lv_aload_n hx hb d_Model_words_114 rfl (lv_at hl 2 rfl) ?_
            refine va_get (D := G.1) (ci := 12) (v := .int 0) (C := R_Model) (T := F_Model) (N := 54) hx hb hts i_Model hown hK hP 9 rfl rfl 41 (by decide) (hts _ q1154) (fun _ h9 => h9) rfl d_Model_words_115 ?_
            refine lv_icmp_ge (tgt := 155) hx hb d_Model_words_118 (by decide) (fun _ => ?_) (fun hc => absurd hc (by decide +kernel))
            refine lv_iload_n hx hb d_Model_words_155 rfl (lv_at hl 1 rfl) ?_
            exact z_iret hx hb hr hlocks hP hD hS (Nat.le_of_ble_eq_true rfl) (Nat.le_of_ble_eq_true rfl) d_Model_words_156 (congrArg (fun z => some (Value.int z)) (by unfold a_words; (first | rfl | (repeat (first | rw [if_pos (by omega)] | rw [if_neg (by omega)])))))
          · simp only [fa_lt, fa_le, fa_eq, Int32.toInt_toInt64, li_3] at hc_16
            refine lv_aload_n hx hb d_Model_words_87 rfl (lv_at hl 1 rfl) ?_
            refine va_get (D := G.1) (ci := 12) (v := .int 0) (C := R_Model) (T := F_Model) (N := 54) hx hb hts i_Model hown hK hP 9 rfl rfl 41 (by decide) (hts _ q1154) (fun _ h9 => h9) rfl d_Model_words_88 ?_
            refine lv_bipush (v := 100) hx hb d_Model_words_91 (by decide) ?_
            refine lv_icmp_le (tgt := 99) hx hb d_Model_words_93 (by decide) (fun _ => ?_) (fun hc => absurd hc (by decide +kernel))
            refine lv_aload_n hx hb d_Model_words_99 rfl (lv_at hl 1 rfl) ?_
            refine z_callV (index := 335) (As := []) (rest := []) (wr := [(b30, .inl (G.2 0, 1001, .inl (upd (fun _ => 0) 0 1))), (b29, .inl (G.2 1, 4004, .inr (.inl (vp_updL (vp_updL (vp_updL (vp_updL (fun _ => 0) 0 0) 1 0) 2 0) 3 0)))), (b20, .inl (G.2 0, 2, .inl (upd (fun _ => 0) 0 0))), (b11, .inl (G.2 0, 4820, .inl (upd (upd (upd (upd (upd (upd (upd (upd (upd (upd (fun _ => 0) 0 (-1)) 1 (-1)) 2 (-1)) 3 (-1)) 4 (-1)) 5 (-1)) 6 (-1)) 7 (-1)) 8 (-1)) 9 (-1)))), (b14, .inl (G.2 0, 482, .inl (upd (upd (fun _ => 0) 0 0) 0 0))), (b10, .inl (G.2 0, 2, .inl (upd (upd (fun _ => 0) 0 0) 0 1))), (b2, .inl (G.2 0, 503, .inl (upd (fun _ => 0) 501 1))), (b16, .inl (G.2 0, 2, .inl (upd (fun _ => 0) 0 0))), (b22, .inl (G.2 1, 4, .inr (.inl (vp_updL (vp_updL (vp_updL (vp_updL (vp_updL (fun _ => 0) 0 0) 1 0) 2 0) 3 0) 0 0))))]) Z (c1_Model_nextLevel l G (b0) (b2) (b3) (b4) (b5) (b6) (b7) (b8) (b9) (b10) (b11) (b12) (b13) (b14) (b15) (b16) (b17) (b18) (b19) (b20) (b21) (b22) (b23) (b24) (b25) (b26) (b27) (b28) (b29) (b30) (b31) (b32) (b33) (b34) (b35) (b36) (b37) (b38) (b39) (b40)) hl.1 q1509 q1511 qs81 q14 q1512 ⟨by decide, by decide, by show _ = some 0; decide +kernel⟩ ⟨Nat.le_of_ble_eq_true rfl, Nat.le_of_ble_eq_true rfl⟩ ⟨Nat.le_of_ble_eq_true rfl, Nat.le_of_ble_eq_true rfl⟩ rfl (Nat.le_of_ble_eq_true rfl) d_Model_words_100 hP hD hS hA 9 12 rfl rfl rfl [9] [0, 1, 2, 3, 4, 5, 6, 7, 8] rfl rfl rfl rfl (by decide) (fun v w1 H locs hw_17 hP hD hS => ?_)
            obtain ⟨rfl, rfl⟩ := hw_17
            have hP : va_P G.1 classes [(b30, .inl (G.2 0, 1001, .inl (upd (fun _ => 0) 0 1))), (b29, .inl (G.2 1, 4004, .inr (.inl (vp_updL (vp_updL (vp_updL (vp_updL (fun _ => 0) 0 0) 1 0) 2 0) 3 0)))), (b20, .inl (G.2 0, 2, .inl (upd (fun _ => 0) 0 0))), (b11, .inl (G.2 0, 4820, .inl (upd (upd (upd (upd (upd (upd (upd (upd (upd (upd (fun _ => 0) 0 (-1)) 1 (-1)) 2 (-1)) 3 (-1)) 4 (-1)) 5 (-1)) 6 (-1)) 7 (-1)) 8 (-1)) 9 (-1)))), (b14, .inl (G.2 0, 482, .inl (upd (upd (fun _ => 0) 0 0) 0 0))), (b10, .inl (G.2 0, 2, .inl (upd (upd (fun _ => 0) 0 0) 0 1))), (b2, .inl (G.2 0, 503, .inl (upd (fun _ => 0) 501 1))), (b16, .inl (G.2 0, 2, .inl (upd (fun _ => 0) 0 0))), (b22, .inl (G.2 1, 4, .inr (.inl (vp_updL (vp_updL (vp_updL (vp_updL (vp_updL (fun _ => 0) 0 0) 1 0) 2 0) 3 0) 0 0)))), (b0, .inr (12, [.int 0, .ref b2, .ref b3, .ref b4, .ref b5, .int 0, .ref b6, .int 0, .int 0, .int 0, .int 0, .ref b7, .ref b8, .ref b9, .int 0, .ref b10, .ref b11, .ref b12, .ref b13, .ref b14, .ref b15, .ref b16, .ref b17, .ref b18, .ref b19, .ref b20, .ref b21, .int 0, .ref b22, .ref b23, .int 0, .int 0, .int 0, .int 0, .ref b24, .ref b25, .ref b26, .ref b27, .ref b28, .ref b29, .ref b30, .int 0, .ref b31, .ref b32, .int 0, .ref b33, .ref b34, .ref b35, .ref b36, .ref b37, .int 0, .ref b38, .ref b39, .ref b40]))] H := hP
            have hD := z_tie hP hD rfl
            refine W.widen (k := 0) (n := 0) (Nat.le_of_ble_eq_true rfl) (Nat.le_of_ble_eq_true rfl) ?_
            refine lv_iinc (v := 4) (lv' := [(2, .int 4), (0, .ref b0), (1, .int p0)]) hx hb d_Model_words_103 hl (k := 0) rfl (by decide +kernel) (by decide) rfl (fun ls hl => ?_)
            refine lv_goto (tgt := 82) hx hb d_Model_words_106 (by decide) ?_
            refine lv_iload_n hx hb d_Model_words_82 rfl (lv_at hl 0 rfl) ?_
            refine lv_iload_n hx hb d_Model_words_83 rfl (lv_at hl 2 rfl) ?_
            refine lv_icmp_ge (tgt := 109) hx hb d_Model_words_84 (by decide) (fun hc_18 => ?_) (fun hc_18 => ?_)
            · simp only [fa_lt, fa_le, fa_eq, Int32.toInt_toInt64, li_4] at hc_18
              refine lv_iconst (v := 0) hx hb d_Model_words_109 (by decide) ?_
              refine lv_istore_n (lv' := [(2, .int 0), (0, .ref b0), (1, .int p0)]) hx hb d_Model_words_110 rfl hl (by decide) rfl (fun ls hl => ?_)
              refine lv_iconst (v := 0) hx hb d_Model_words_111 (by decide) ?_
              refine lv_istore_n (lv' := [(3, .int 0), (2, .int 0), (0, .ref b0), (1, .int p0)]) hx hb d_Model_words_112 rfl hl (by decide) rfl (fun ls hl => ?_)
              refine lv_iload_n hx hb d_Model_words_113 rfl (lv_at hl 0 rfl) ?_
              refine lv_aload_n hx hb d_Model_words_114 rfl (lv_at hl 2 rfl) ?_
              refine va_get (D := G.1) (ci := 12) (v := .int 0) (C := R_Model) (T := F_Model) (N := 54) hx hb hts i_Model hown hK hP 9 rfl rfl 41 (by decide) (hts _ q1154) (fun _ h9 => h9) rfl d_Model_words_115 ?_
              refine lv_icmp_ge (tgt := 155) hx hb d_Model_words_118 (by decide) (fun _ => ?_) (fun hc => absurd hc (by decide +kernel))
              refine lv_iload_n hx hb d_Model_words_155 rfl (lv_at hl 1 rfl) ?_
              exact z_iret hx hb hr hlocks hP hD hS (Nat.le_of_ble_eq_true rfl) (Nat.le_of_ble_eq_true rfl) d_Model_words_156 (congrArg (fun z => some (Value.int z)) (by unfold a_words; (first | rfl | (repeat (first | rw [if_pos (by omega)] | rw [if_neg (by omega)])))))
            · simp only [fa_lt, fa_le, fa_eq, Int32.toInt_toInt64, li_4] at hc_18
              refine lv_aload_n hx hb d_Model_words_87 rfl (lv_at hl 1 rfl) ?_
              refine va_get (D := G.1) (ci := 12) (v := .int 0) (C := R_Model) (T := F_Model) (N := 54) hx hb hts i_Model hown hK hP 9 rfl rfl 41 (by decide) (hts _ q1154) (fun _ h9 => h9) rfl d_Model_words_88 ?_
              refine lv_bipush (v := 100) hx hb d_Model_words_91 (by decide) ?_
              refine lv_icmp_le (tgt := 99) hx hb d_Model_words_93 (by decide) (fun _ => ?_) (fun hc => absurd hc (by decide +kernel))
              refine lv_aload_n hx hb d_Model_words_99 rfl (lv_at hl 1 rfl) ?_
              refine z_callV (index := 335) (As := []) (rest := []) (wr := [(b30, .inl (G.2 0, 1001, .inl (upd (fun _ => 0) 0 1))), (b29, .inl (G.2 1, 4004, .inr (.inl (vp_updL (vp_updL (vp_updL (vp_updL (fun _ => 0) 0 0) 1 0) 2 0) 3 0)))), (b20, .inl (G.2 0, 2, .inl (upd (fun _ => 0) 0 0))), (b11, .inl (G.2 0, 4820, .inl (upd (upd (upd (upd (upd (upd (upd (upd (upd (upd (fun _ => 0) 0 (-1)) 1 (-1)) 2 (-1)) 3 (-1)) 4 (-1)) 5 (-1)) 6 (-1)) 7 (-1)) 8 (-1)) 9 (-1)))), (b14, .inl (G.2 0, 482, .inl (upd (upd (fun _ => 0) 0 0) 0 0))), (b10, .inl (G.2 0, 2, .inl (upd (upd (fun _ => 0) 0 0) 0 1))), (b2, .inl (G.2 0, 503, .inl (upd (fun _ => 0) 501 1))), (b16, .inl (G.2 0, 2, .inl (upd (fun _ => 0) 0 0))), (b22, .inl (G.2 1, 4, .inr (.inl (vp_updL (vp_updL (vp_updL (vp_updL (vp_updL (fun _ => 0) 0 0) 1 0) 2 0) 3 0) 0 0))))]) Z (c1_Model_nextLevel l G (b0) (b2) (b3) (b4) (b5) (b6) (b7) (b8) (b9) (b10) (b11) (b12) (b13) (b14) (b15) (b16) (b17) (b18) (b19) (b20) (b21) (b22) (b23) (b24) (b25) (b26) (b27) (b28) (b29) (b30) (b31) (b32) (b33) (b34) (b35) (b36) (b37) (b38) (b39) (b40)) hl.1 q1509 q1511 qs81 q14 q1512 ⟨by decide, by decide, by show _ = some 0; decide +kernel⟩ ⟨Nat.le_of_ble_eq_true rfl, Nat.le_of_ble_eq_true rfl⟩ ⟨Nat.le_of_ble_eq_true rfl, Nat.le_of_ble_eq_true rfl⟩ rfl (Nat.le_of_ble_eq_true rfl) d_Model_words_100 hP hD hS hA 9 12 rfl rfl rfl [9] [0, 1, 2, 3, 4, 5, 6, 7, 8] rfl rfl rfl rfl (by decide) (fun v w1 H locs hw_19 hP hD hS => ?_)
              obtain ⟨rfl, rfl⟩ := hw_19
              have hP : va_P G.1 classes [(b30, .inl (G.2 0, 1001, .inl (upd (fun _ => 0) 0 1))), (b29, .inl (G.2 1, 4004, .inr (.inl (vp_updL (vp_updL (vp_updL (vp_updL (fun _ => 0) 0 0) 1 0) 2 0) 3 0)))), (b20, .inl (G.2 0, 2, .inl (upd (fun _ => 0) 0 0))), (b11, .inl (G.2 0, 4820, .inl (upd (upd (upd (upd (upd (upd (upd (upd (upd (upd (fun _ => 0) 0 (-1)) 1 (-1)) 2 (-1)) 3 (-1)) 4 (-1)) 5 (-1)) 6 (-1)) 7 (-1)) 8 (-1)) 9 (-1)))), (b14, .inl (G.2 0, 482, .inl (upd (upd (fun _ => 0) 0 0) 0 0))), (b10, .inl (G.2 0, 2, .inl (upd (upd (fun _ => 0) 0 0) 0 1))), (b2, .inl (G.2 0, 503, .inl (upd (fun _ => 0) 501 1))), (b16, .inl (G.2 0, 2, .inl (upd (fun _ => 0) 0 0))), (b22, .inl (G.2 1, 4, .inr (.inl (vp_updL (vp_updL (vp_updL (vp_updL (vp_updL (fun _ => 0) 0 0) 1 0) 2 0) 3 0) 0 0)))), (b0, .inr (12, [.int 0, .ref b2, .ref b3, .ref b4, .ref b5, .int 0, .ref b6, .int 0, .int 0, .int 0, .int 0, .ref b7, .ref b8, .ref b9, .int 0, .ref b10, .ref b11, .ref b12, .ref b13, .ref b14, .ref b15, .ref b16, .ref b17, .ref b18, .ref b19, .ref b20, .ref b21, .int 0, .ref b22, .ref b23, .int 0, .int 0, .int 0, .int 0, .ref b24, .ref b25, .ref b26, .ref b27, .ref b28, .ref b29, .ref b30, .int 0, .ref b31, .ref b32, .int 0, .ref b33, .ref b34, .ref b35, .ref b36, .ref b37, .int 0, .ref b38, .ref b39, .ref b40]))] H := hP
              have hD := z_tie hP hD rfl
              refine W.widen (k := 0) (n := 0) (Nat.le_of_ble_eq_true rfl) (Nat.le_of_ble_eq_true rfl) ?_
              refine lv_iinc (v := 5) (lv' := [(2, .int 5), (0, .ref b0), (1, .int p0)]) hx hb d_Model_words_103 hl (k := 0) rfl (by decide +kernel) (by decide) rfl (fun ls hl => ?_)
              refine lv_goto (tgt := 82) hx hb d_Model_words_106 (by decide) ?_
              refine lv_iload_n hx hb d_Model_words_82 rfl (lv_at hl 0 rfl) ?_
              refine lv_iload_n hx hb d_Model_words_83 rfl (lv_at hl 2 rfl) ?_
              refine lv_icmp_ge (tgt := 109) hx hb d_Model_words_84 (by decide) (fun hc_20 => ?_) (fun hc_20 => ?_)
              · simp only [fa_lt, fa_le, fa_eq, Int32.toInt_toInt64, li_5] at hc_20
                refine lv_iconst (v := 0) hx hb d_Model_words_109 (by decide) ?_
                refine lv_istore_n (lv' := [(2, .int 0), (0, .ref b0), (1, .int p0)]) hx hb d_Model_words_110 rfl hl (by decide) rfl (fun ls hl => ?_)
                refine lv_iconst (v := 0) hx hb d_Model_words_111 (by decide) ?_
                refine lv_istore_n (lv' := [(3, .int 0), (2, .int 0), (0, .ref b0), (1, .int p0)]) hx hb d_Model_words_112 rfl hl (by decide) rfl (fun ls hl => ?_)
                refine lv_iload_n hx hb d_Model_words_113 rfl (lv_at hl 0 rfl) ?_
                refine lv_aload_n hx hb d_Model_words_114 rfl (lv_at hl 2 rfl) ?_
                refine va_get (D := G.1) (ci := 12) (v := .int 0) (C := R_Model) (T := F_Model) (N := 54) hx hb hts i_Model hown hK hP 9 rfl rfl 41 (by decide) (hts _ q1154) (fun _ h9 => h9) rfl d_Model_words_115 ?_
                refine lv_icmp_ge (tgt := 155) hx hb d_Model_words_118 (by decide) (fun _ => ?_) (fun hc => absurd hc (by decide +kernel))
                refine lv_iload_n hx hb d_Model_words_155 rfl (lv_at hl 1 rfl) ?_
                exact z_iret hx hb hr hlocks hP hD hS (Nat.le_of_ble_eq_true rfl) (Nat.le_of_ble_eq_true rfl) d_Model_words_156 (congrArg (fun z => some (Value.int z)) (by unfold a_words; (first | rfl | (repeat (first | rw [if_pos (by omega)] | rw [if_neg (by omega)])))))
              · simp only [fa_lt, fa_le, fa_eq, Int32.toInt_toInt64, li_5] at hc_20
                refine lv_aload_n hx hb d_Model_words_87 rfl (lv_at hl 1 rfl) ?_
                refine va_get (D := G.1) (ci := 12) (v := .int 0) (C := R_Model) (T := F_Model) (N := 54) hx hb hts i_Model hown hK hP 9 rfl rfl 41 (by decide) (hts _ q1154) (fun _ h9 => h9) rfl d_Model_words_88 ?_
                refine lv_bipush (v := 100) hx hb d_Model_words_91 (by decide) ?_
                refine lv_icmp_le (tgt := 99) hx hb d_Model_words_93 (by decide) (fun _ => ?_) (fun hc => absurd hc (by decide +kernel))
                refine lv_aload_n hx hb d_Model_words_99 rfl (lv_at hl 1 rfl) ?_
                refine z_callV (index := 335) (As := []) (rest := []) (wr := [(b30, .inl (G.2 0, 1001, .inl (upd (fun _ => 0) 0 1))), (b29, .inl (G.2 1, 4004, .inr (.inl (vp_updL (vp_updL (vp_updL (vp_updL (fun _ => 0) 0 0) 1 0) 2 0) 3 0)))), (b20, .inl (G.2 0, 2, .inl (upd (fun _ => 0) 0 0))), (b11, .inl (G.2 0, 4820, .inl (upd (upd (upd (upd (upd (upd (upd (upd (upd (upd (fun _ => 0) 0 (-1)) 1 (-1)) 2 (-1)) 3 (-1)) 4 (-1)) 5 (-1)) 6 (-1)) 7 (-1)) 8 (-1)) 9 (-1)))), (b14, .inl (G.2 0, 482, .inl (upd (upd (fun _ => 0) 0 0) 0 0))), (b10, .inl (G.2 0, 2, .inl (upd (upd (fun _ => 0) 0 0) 0 1))), (b2, .inl (G.2 0, 503, .inl (upd (fun _ => 0) 501 1))), (b16, .inl (G.2 0, 2, .inl (upd (fun _ => 0) 0 0))), (b22, .inl (G.2 1, 4, .inr (.inl (vp_updL (vp_updL (vp_updL (vp_updL (vp_updL (fun _ => 0) 0 0) 1 0) 2 0) 3 0) 0 0))))]) Z (c1_Model_nextLevel l G (b0) (b2) (b3) (b4) (b5) (b6) (b7) (b8) (b9) (b10) (b11) (b12) (b13) (b14) (b15) (b16) (b17) (b18) (b19) (b20) (b21) (b22) (b23) (b24) (b25) (b26) (b27) (b28) (b29) (b30) (b31) (b32) (b33) (b34) (b35) (b36) (b37) (b38) (b39) (b40)) hl.1 q1509 q1511 qs81 q14 q1512 ⟨by decide, by decide, by show _ = some 0; decide +kernel⟩ ⟨Nat.le_of_ble_eq_true rfl, Nat.le_of_ble_eq_true rfl⟩ ⟨Nat.le_of_ble_eq_true rfl, Nat.le_of_ble_eq_true rfl⟩ rfl (Nat.le_of_ble_eq_true rfl) d_Model_words_100 hP hD hS hA 9 12 rfl rfl rfl [9] [0, 1, 2, 3, 4, 5, 6, 7, 8] rfl rfl rfl rfl (by decide) (fun v w1 H locs hw_21 hP hD hS => ?_)
                obtain ⟨rfl, rfl⟩ := hw_21
                have hP : va_P G.1 classes [(b30, .inl (G.2 0, 1001, .inl (upd (fun _ => 0) 0 1))), (b29, .inl (G.2 1, 4004, .inr (.inl (vp_updL (vp_updL (vp_updL (vp_updL (fun _ => 0) 0 0) 1 0) 2 0) 3 0)))), (b20, .inl (G.2 0, 2, .inl (upd (fun _ => 0) 0 0))), (b11, .inl (G.2 0, 4820, .inl (upd (upd (upd (upd (upd (upd (upd (upd (upd (upd (fun _ => 0) 0 (-1)) 1 (-1)) 2 (-1)) 3 (-1)) 4 (-1)) 5 (-1)) 6 (-1)) 7 (-1)) 8 (-1)) 9 (-1)))), (b14, .inl (G.2 0, 482, .inl (upd (upd (fun _ => 0) 0 0) 0 0))), (b10, .inl (G.2 0, 2, .inl (upd (upd (fun _ => 0) 0 0) 0 1))), (b2, .inl (G.2 0, 503, .inl (upd (fun _ => 0) 501 1))), (b16, .inl (G.2 0, 2, .inl (upd (fun _ => 0) 0 0))), (b22, .inl (G.2 1, 4, .inr (.inl (vp_updL (vp_updL (vp_updL (vp_updL (vp_updL (fun _ => 0) 0 0) 1 0) 2 0) 3 0) 0 0)))), (b0, .inr (12, [.int 0, .ref b2, .ref b3, .ref b4, .ref b5, .int 0, .ref b6, .int 0, .int 0, .int 0, .int 0, .ref b7, .ref b8, .ref b9, .int 0, .ref b10, .ref b11, .ref b12, .ref b13, .ref b14, .ref b15, .ref b16, .ref b17, .ref b18, .ref b19, .ref b20, .ref b21, .int 0, .ref b22, .ref b23, .int 0, .int 0, .int 0, .int 0, .ref b24, .ref b25, .ref b26, .ref b27, .ref b28, .ref b29, .ref b30, .int 0, .ref b31, .ref b32, .int 0, .ref b33, .ref b34, .ref b35, .ref b36, .ref b37, .int 0, .ref b38, .ref b39, .ref b40]))] H := hP
                have hD := z_tie hP hD rfl
                refine W.widen (k := 0) (n := 0) (Nat.le_of_ble_eq_true rfl) (Nat.le_of_ble_eq_true rfl) ?_
                refine lv_iinc (v := 6) (lv' := [(2, .int 6), (0, .ref b0), (1, .int p0)]) hx hb d_Model_words_103 hl (k := 0) rfl (by decide +kernel) (by decide) rfl (fun ls hl => ?_)
                refine lv_goto (tgt := 82) hx hb d_Model_words_106 (by decide) ?_
                refine lv_iload_n hx hb d_Model_words_82 rfl (lv_at hl 0 rfl) ?_
                refine lv_iload_n hx hb d_Model_words_83 rfl (lv_at hl 2 rfl) ?_
                refine lv_icmp_ge (tgt := 109) hx hb d_Model_words_84 (by decide) (fun hc_22 => ?_) (fun hc_22 => ?_)
                · simp only [fa_lt, fa_le, fa_eq, Int32.toInt_toInt64, li_6] at hc_22
                  refine lv_iconst (v := 0) hx hb d_Model_words_109 (by decide) ?_
                  refine lv_istore_n (lv' := [(2, .int 0), (0, .ref b0), (1, .int p0)]) hx hb d_Model_words_110 rfl hl (by decide) rfl (fun ls hl => ?_)
                  refine lv_iconst (v := 0) hx hb d_Model_words_111 (by decide) ?_
                  refine lv_istore_n (lv' := [(3, .int 0), (2, .int 0), (0, .ref b0), (1, .int p0)]) hx hb d_Model_words_112 rfl hl (by decide) rfl (fun ls hl => ?_)
                  refine lv_iload_n hx hb d_Model_words_113 rfl (lv_at hl 0 rfl) ?_
                  refine lv_aload_n hx hb d_Model_words_114 rfl (lv_at hl 2 rfl) ?_
                  refine va_get (D := G.1) (ci := 12) (v := .int 0) (C := R_Model) (T := F_Model) (N := 54) hx hb hts i_Model hown hK hP 9 rfl rfl 41 (by decide) (hts _ q1154) (fun _ h9 => h9) rfl d_Model_words_115 ?_
                  refine lv_icmp_ge (tgt := 155) hx hb d_Model_words_118 (by decide) (fun _ => ?_) (fun hc => absurd hc (by decide +kernel))
                  refine lv_iload_n hx hb d_Model_words_155 rfl (lv_at hl 1 rfl) ?_
                  exact z_iret hx hb hr hlocks hP hD hS (Nat.le_of_ble_eq_true rfl) (Nat.le_of_ble_eq_true rfl) d_Model_words_156 (congrArg (fun z => some (Value.int z)) (by unfold a_words; (first | rfl | (repeat (first | rw [if_pos (by omega)] | rw [if_neg (by omega)])))))
                · simp only [fa_lt, fa_le, fa_eq, Int32.toInt_toInt64, li_6] at hc_22
                  refine lv_aload_n hx hb d_Model_words_87 rfl (lv_at hl 1 rfl) ?_
                  refine va_get (D := G.1) (ci := 12) (v := .int 0) (C := R_Model) (T := F_Model) (N := 54) hx hb hts i_Model hown hK hP 9 rfl rfl 41 (by decide) (hts _ q1154) (fun _ h9 => h9) rfl d_Model_words_88 ?_
                  refine lv_bipush (v := 100) hx hb d_Model_words_91 (by decide) ?_
                  refine lv_icmp_le (tgt := 99) hx hb d_Model_words_93 (by decide) (fun _ => ?_) (fun hc => absurd hc (by decide +kernel))
                  refine lv_aload_n hx hb d_Model_words_99 rfl (lv_at hl 1 rfl) ?_
                  refine z_callV (index := 335) (As := []) (rest := []) (wr := [(b30, .inl (G.2 0, 1001, .inl (upd (fun _ => 0) 0 1))), (b29, .inl (G.2 1, 4004, .inr (.inl (vp_updL (vp_updL (vp_updL (vp_updL (fun _ => 0) 0 0) 1 0) 2 0) 3 0)))), (b20, .inl (G.2 0, 2, .inl (upd (fun _ => 0) 0 0))), (b11, .inl (G.2 0, 4820, .inl (upd (upd (upd (upd (upd (upd (upd (upd (upd (upd (fun _ => 0) 0 (-1)) 1 (-1)) 2 (-1)) 3 (-1)) 4 (-1)) 5 (-1)) 6 (-1)) 7 (-1)) 8 (-1)) 9 (-1)))), (b14, .inl (G.2 0, 482, .inl (upd (upd (fun _ => 0) 0 0) 0 0))), (b10, .inl (G.2 0, 2, .inl (upd (upd (fun _ => 0) 0 0) 0 1))), (b2, .inl (G.2 0, 503, .inl (upd (fun _ => 0) 501 1))), (b16, .inl (G.2 0, 2, .inl (upd (fun _ => 0) 0 0))), (b22, .inl (G.2 1, 4, .inr (.inl (vp_updL (vp_updL (vp_updL (vp_updL (vp_updL (fun _ => 0) 0 0) 1 0) 2 0) 3 0) 0 0))))]) Z (c1_Model_nextLevel l G (b0) (b2) (b3) (b4) (b5) (b6) (b7) (b8) (b9) (b10) (b11) (b12) (b13) (b14) (b15) (b16) (b17) (b18) (b19) (b20) (b21) (b22) (b23) (b24) (b25) (b26) (b27) (b28) (b29) (b30) (b31) (b32) (b33) (b34) (b35) (b36) (b37) (b38) (b39) (b40)) hl.1 q1509 q1511 qs81 q14 q1512 ⟨by decide, by decide, by show _ = some 0; decide +kernel⟩ ⟨Nat.le_of_ble_eq_true rfl, Nat.le_of_ble_eq_true rfl⟩ ⟨Nat.le_of_ble_eq_true rfl, Nat.le_of_ble_eq_true rfl⟩ rfl (Nat.le_of_ble_eq_true rfl) d_Model_words_100 hP hD hS hA 9 12 rfl rfl rfl [9] [0, 1, 2, 3, 4, 5, 6, 7, 8] rfl rfl rfl rfl (by decide) (fun v w1 H locs hw_23 hP hD hS => ?_)
                  obtain ⟨rfl, rfl⟩ := hw_23
                  have hP : va_P G.1 classes [(b30, .inl (G.2 0, 1001, .inl (upd (fun _ => 0) 0 1))), (b29, .inl (G.2 1, 4004, .inr (.inl (vp_updL (vp_updL (vp_updL (vp_updL (fun _ => 0) 0 0) 1 0) 2 0) 3 0)))), (b20, .inl (G.2 0, 2, .inl (upd (fun _ => 0) 0 0))), (b11, .inl (G.2 0, 4820, .inl (upd (upd (upd (upd (upd (upd (upd (upd (upd (upd (fun _ => 0) 0 (-1)) 1 (-1)) 2 (-1)) 3 (-1)) 4 (-1)) 5 (-1)) 6 (-1)) 7 (-1)) 8 (-1)) 9 (-1)))), (b14, .inl (G.2 0, 482, .inl (upd (upd (fun _ => 0) 0 0) 0 0))), (b10, .inl (G.2 0, 2, .inl (upd (upd (fun _ => 0) 0 0) 0 1))), (b2, .inl (G.2 0, 503, .inl (upd (fun _ => 0) 501 1))), (b16, .inl (G.2 0, 2, .inl (upd (fun _ => 0) 0 0))), (b22, .inl (G.2 1, 4, .inr (.inl (vp_updL (vp_updL (vp_updL (vp_updL (vp_updL (fun _ => 0) 0 0) 1 0) 2 0) 3 0) 0 0)))), (b0, .inr (12, [.int 0, .ref b2, .ref b3, .ref b4, .ref b5, .int 0, .ref b6, .int 0, .int 0, .int 0, .int 0, .ref b7, .ref b8, .ref b9, .int 0, .ref b10, .ref b11, .ref b12, .ref b13, .ref b14, .ref b15, .ref b16, .ref b17, .ref b18, .ref b19, .ref b20, .ref b21, .int 0, .ref b22, .ref b23, .int 0, .int 0, .int 0, .int 0, .ref b24, .ref b25, .ref b26, .ref b27, .ref b28, .ref b29, .ref b30, .int 0, .ref b31, .ref b32, .int 0, .ref b33, .ref b34, .ref b35, .ref b36, .ref b37, .int 0, .ref b38, .ref b39, .ref b40]))] H := hP
                  have hD := z_tie hP hD rfl
                  refine W.widen (k := 0) (n := 0) (Nat.le_of_ble_eq_true rfl) (Nat.le_of_ble_eq_true rfl) ?_
                  refine lv_iinc (v := 7) (lv' := [(2, .int 7), (0, .ref b0), (1, .int p0)]) hx hb d_Model_words_103 hl (k := 0) rfl (by decide +kernel) (by decide) rfl (fun ls hl => ?_)
                  refine lv_goto (tgt := 82) hx hb d_Model_words_106 (by decide) ?_
                  refine lv_iload_n hx hb d_Model_words_82 rfl (lv_at hl 0 rfl) ?_
                  refine lv_iload_n hx hb d_Model_words_83 rfl (lv_at hl 2 rfl) ?_
                  refine lv_icmp_ge (tgt := 109) hx hb d_Model_words_84 (by decide) (fun hc_24 => ?_) (fun hc_24 => ?_)
                  · simp only [fa_lt, fa_le, fa_eq, Int32.toInt_toInt64, li_7] at hc_24
                    refine lv_iconst (v := 0) hx hb d_Model_words_109 (by decide) ?_
                    refine lv_istore_n (lv' := [(2, .int 0), (0, .ref b0), (1, .int p0)]) hx hb d_Model_words_110 rfl hl (by decide) rfl (fun ls hl => ?_)
                    refine lv_iconst (v := 0) hx hb d_Model_words_111 (by decide) ?_
                    refine lv_istore_n (lv' := [(3, .int 0), (2, .int 0), (0, .ref b0), (1, .int p0)]) hx hb d_Model_words_112 rfl hl (by decide) rfl (fun ls hl => ?_)
                    refine lv_iload_n hx hb d_Model_words_113 rfl (lv_at hl 0 rfl) ?_
                    refine lv_aload_n hx hb d_Model_words_114 rfl (lv_at hl 2 rfl) ?_
                    refine va_get (D := G.1) (ci := 12) (v := .int 0) (C := R_Model) (T := F_Model) (N := 54) hx hb hts i_Model hown hK hP 9 rfl rfl 41 (by decide) (hts _ q1154) (fun _ h9 => h9) rfl d_Model_words_115 ?_
                    refine lv_icmp_ge (tgt := 155) hx hb d_Model_words_118 (by decide) (fun _ => ?_) (fun hc => absurd hc (by decide +kernel))
                    refine lv_iload_n hx hb d_Model_words_155 rfl (lv_at hl 1 rfl) ?_
                    exact z_iret hx hb hr hlocks hP hD hS (Nat.le_of_ble_eq_true rfl) (Nat.le_of_ble_eq_true rfl) d_Model_words_156 (congrArg (fun z => some (Value.int z)) (by unfold a_words; (first | rfl | (repeat (first | rw [if_pos (by omega)] | rw [if_neg (by omega)])))))
                  · simp only [fa_lt, fa_le, fa_eq, Int32.toInt_toInt64, li_7] at hc_24
                    refine lv_aload_n hx hb d_Model_words_87 rfl (lv_at hl 1 rfl) ?_
                    refine va_get (D := G.1) (ci := 12) (v := .int 0) (C := R_Model) (T := F_Model) (N := 54) hx hb hts i_Model hown hK hP 9 rfl rfl 41 (by decide) (hts _ q1154) (fun _ h9 => h9) rfl d_Model_words_88 ?_
                    refine lv_bipush (v := 100) hx hb d_Model_words_91 (by decide) ?_
                    refine lv_icmp_le (tgt := 99) hx hb d_Model_words_93 (by decide) (fun _ => ?_) (fun hc => absurd hc (by decide +kernel))
                    refine lv_aload_n hx hb d_Model_words_99 rfl (lv_at hl 1 rfl) ?_
                    refine z_callV (index := 335) (As := []) (rest := []) (wr := [(b30, .inl (G.2 0, 1001, .inl (upd (fun _ => 0) 0 1))), (b29, .inl (G.2 1, 4004, .inr (.inl (vp_updL (vp_updL (vp_updL (vp_updL (fun _ => 0) 0 0) 1 0) 2 0) 3 0)))), (b20, .inl (G.2 0, 2, .inl (upd (fun _ => 0) 0 0))), (b11, .inl (G.2 0, 4820, .inl (upd (upd (upd (upd (upd (upd (upd (upd (upd (upd (fun _ => 0) 0 (-1)) 1 (-1)) 2 (-1)) 3 (-1)) 4 (-1)) 5 (-1)) 6 (-1)) 7 (-1)) 8 (-1)) 9 (-1)))), (b14, .inl (G.2 0, 482, .inl (upd (upd (fun _ => 0) 0 0) 0 0))), (b10, .inl (G.2 0, 2, .inl (upd (upd (fun _ => 0) 0 0) 0 1))), (b2, .inl (G.2 0, 503, .inl (upd (fun _ => 0) 501 1))), (b16, .inl (G.2 0, 2, .inl (upd (fun _ => 0) 0 0))), (b22, .inl (G.2 1, 4, .inr (.inl (vp_updL (vp_updL (vp_updL (vp_updL (vp_updL (fun _ => 0) 0 0) 1 0) 2 0) 3 0) 0 0))))]) Z (c1_Model_nextLevel l G (b0) (b2) (b3) (b4) (b5) (b6) (b7) (b8) (b9) (b10) (b11) (b12) (b13) (b14) (b15) (b16) (b17) (b18) (b19) (b20) (b21) (b22) (b23) (b24) (b25) (b26) (b27) (b28) (b29) (b30) (b31) (b32) (b33) (b34) (b35) (b36) (b37) (b38) (b39) (b40)) hl.1 q1509 q1511 qs81 q14 q1512 ⟨by decide, by decide, by show _ = some 0; decide +kernel⟩ ⟨Nat.le_of_ble_eq_true rfl, Nat.le_of_ble_eq_true rfl⟩ ⟨Nat.le_of_ble_eq_true rfl, Nat.le_of_ble_eq_true rfl⟩ rfl (Nat.le_of_ble_eq_true rfl) d_Model_words_100 hP hD hS hA 9 12 rfl rfl rfl [9] [0, 1, 2, 3, 4, 5, 6, 7, 8] rfl rfl rfl rfl (by decide) (fun v w1 H locs hw_25 hP hD hS => ?_)
                    obtain ⟨rfl, rfl⟩ := hw_25
                    have hP : va_P G.1 classes [(b30, .inl (G.2 0, 1001, .inl (upd (fun _ => 0) 0 1))), (b29, .inl (G.2 1, 4004, .inr (.inl (vp_updL (vp_updL (vp_updL (vp_updL (fun _ => 0) 0 0) 1 0) 2 0) 3 0)))), (b20, .inl (G.2 0, 2, .inl (upd (fun _ => 0) 0 0))), (b11, .inl (G.2 0, 4820, .inl (upd (upd (upd (upd (upd (upd (upd (upd (upd (upd (fun _ => 0) 0 (-1)) 1 (-1)) 2 (-1)) 3 (-1)) 4 (-1)) 5 (-1)) 6 (-1)) 7 (-1)) 8 (-1)) 9 (-1)))), (b14, .inl (G.2 0, 482, .inl (upd (upd (fun _ => 0) 0 0) 0 0))), (b10, .inl (G.2 0, 2, .inl (upd (upd (fun _ => 0) 0 0) 0 1))), (b2, .inl (G.2 0, 503, .inl (upd (fun _ => 0) 501 1))), (b16, .inl (G.2 0, 2, .inl (upd (fun _ => 0) 0 0))), (b22, .inl (G.2 1, 4, .inr (.inl (vp_updL (vp_updL (vp_updL (vp_updL (vp_updL (fun _ => 0) 0 0) 1 0) 2 0) 3 0) 0 0)))), (b0, .inr (12, [.int 0, .ref b2, .ref b3, .ref b4, .ref b5, .int 0, .ref b6, .int 0, .int 0, .int 0, .int 0, .ref b7, .ref b8, .ref b9, .int 0, .ref b10, .ref b11, .ref b12, .ref b13, .ref b14, .ref b15, .ref b16, .ref b17, .ref b18, .ref b19, .ref b20, .ref b21, .int 0, .ref b22, .ref b23, .int 0, .int 0, .int 0, .int 0, .ref b24, .ref b25, .ref b26, .ref b27, .ref b28, .ref b29, .ref b30, .int 0, .ref b31, .ref b32, .int 0, .ref b33, .ref b34, .ref b35, .ref b36, .ref b37, .int 0, .ref b38, .ref b39, .ref b40]))] H := hP
                    have hD := z_tie hP hD rfl
                    refine W.widen (k := 0) (n := 0) (Nat.le_of_ble_eq_true rfl) (Nat.le_of_ble_eq_true rfl) ?_
                    refine lv_iinc (v := 8) (lv' := [(2, .int 8), (0, .ref b0), (1, .int p0)]) hx hb d_Model_words_103 hl (k := 0) rfl (by decide +kernel) (by decide) rfl (fun ls hl => ?_)
                    refine lv_goto (tgt := 82) hx hb d_Model_words_106 (by decide) ?_
                    refine lv_iload_n hx hb d_Model_words_82 rfl (lv_at hl 0 rfl) ?_
                    refine lv_iload_n hx hb d_Model_words_83 rfl (lv_at hl 2 rfl) ?_
                    refine lv_icmp_ge (tgt := 109) hx hb d_Model_words_84 (by decide) (fun _ => ?_) (fun hc => absurd hc (by intro hc; simp only [fa_lt, fa_le, fa_eq, Int32.toInt_toInt64, li_8] at hc; omega))
                    refine lv_iconst (v := 0) hx hb d_Model_words_109 (by decide) ?_
                    refine lv_istore_n (lv' := [(2, .int 0), (0, .ref b0), (1, .int p0)]) hx hb d_Model_words_110 rfl hl (by decide) rfl (fun ls hl => ?_)
                    refine lv_iconst (v := 0) hx hb d_Model_words_111 (by decide) ?_
                    refine lv_istore_n (lv' := [(3, .int 0), (2, .int 0), (0, .ref b0), (1, .int p0)]) hx hb d_Model_words_112 rfl hl (by decide) rfl (fun ls hl => ?_)
                    refine lv_iload_n hx hb d_Model_words_113 rfl (lv_at hl 0 rfl) ?_
                    refine lv_aload_n hx hb d_Model_words_114 rfl (lv_at hl 2 rfl) ?_
                    refine va_get (D := G.1) (ci := 12) (v := .int 0) (C := R_Model) (T := F_Model) (N := 54) hx hb hts i_Model hown hK hP 9 rfl rfl 41 (by decide) (hts _ q1154) (fun _ h9 => h9) rfl d_Model_words_115 ?_
                    refine lv_icmp_ge (tgt := 155) hx hb d_Model_words_118 (by decide) (fun _ => ?_) (fun hc => absurd hc (by decide +kernel))
                    refine lv_iload_n hx hb d_Model_words_155 rfl (lv_at hl 1 rfl) ?_
                    exact z_iret hx hb hr hlocks hP hD hS (Nat.le_of_ble_eq_true rfl) (Nat.le_of_ble_eq_true rfl) d_Model_words_156 (congrArg (fun z => some (Value.int z)) (by unfold a_words; (first | rfl | (repeat (first | rw [if_pos (by omega)] | rw [if_neg (by omega)])))))
theorem d_Model_walk_0 : decode prog_14_method_69_code 0 = .ok (.aload_n 0, 1) := by decide +kernel
theorem d_Model_walk_1 : decode prog_14_method_69_code 1 = .ok (.iconst 0, 1) := by decide +kernel
theorem d_Model_walk_2 : decode prog_14_method_69_code 2 = .ok (.putfield 1, 3) := by decide +kernel
theorem d_Model_walk_5 : decode prog_14_method_69_code 5 = .ok (.iload_n 1, 1) := by decide +kernel
theorem d_Model_walk_6 : decode prog_14_method_69_code 6 = .ok (.i2l, 1) := by decide +kernel
theorem d_Model_walk_7 : decode prog_14_method_69_code 7 = .ok (.lconst 0, 1) := by decide +kernel
theorem d_Model_walk_8 : decode prog_14_method_69_code 8 = .ok (.ldc2_w 355, 3) := by decide +kernel
theorem d_Model_walk_11 : decode prog_14_method_69_code 11 = .ok (.invokestatic 138, 3) := by decide +kernel
theorem ll_999999 : (999999 : Int64).toInt = 999999 := by decide +kernel
abbrev m_c8_Model_in : Room := { frames := 0, cells := 0, slots := 0, locals := 0 }
set_option maxHeartbeats 4000000 in
set_option maxRecDepth 100000 in
theorem c8_Model_in (l : Launch) (G : zG) (b0 : Int64)  : zM l G y_Model_in prog_14_method_3_code 6 (Option.some Jvm.ClassFile.FieldType.boolean) m_c8_Model_in [.long b0, .long 0, .long 999999] [] (fun v w => (v = some (.int 0) ∧ w = [] ∧ b0.toInt < 0) ∨ (v = some (.int 0) ∧ w = [] ∧ 0 ≤ b0.toInt ∧ 999999 < b0.toInt) ∨ (v = some (.int 1) ∧ w = [] ∧ 0 ≤ b0.toInt ∧ b0.toInt ≤ 999999)) := by
  refine z_start (by decide +kernel) (Nat.le_of_ble_eq_true rfl) ?_
  intro p e s m below meth c A Z hr hnm hA hP hD hS ls hl
  have Z : zC p s m _ meth c prog_14_method_3_code 6 "TraceMachinesModel" G := Z
  obtain ⟨hx, hb, hml, hown, hts, hK, hN, hlocks⟩ := id Z
  have hl : lv_has ls 6 [(0, .long b0), (2, .long 0), (4, .long 999999)] := hl
  refine lv_lload_n hx hb d_Model_in_0 rfl (lv_at hl 0 rfl) ?_
  refine lv_lload_n hx hb d_Model_in_1 rfl (lv_at hl 1 rfl) ?_
  refine W.lcmp hx hb d_Model_in_2 ?_
  refine lv_topi (fun v_1 ev_1 => ?_)
  refine lv_if_lt (tgt := 17) hx hb d_Model_in_3 (by decide) (fun hc_2 => ?_) (fun hc_2 => ?_)
  · rw [ev_1] at hc_2; simp only [lg_cmp_lt, lg_cmp_le, lg_cmp_gt, lg_cmp_ge, lg_cmp_eq] at hc_2; simp only [fa_lt64, fa_le64, fa_eq64, Int32.toInt_toInt64, ll_0] at hc_2
    refine lv_iconst (v := 0) hx hb d_Model_in_17 (by decide) ?_
    exact z_zret hx hb hr hlocks rfl hP hD hS (Nat.le_of_ble_eq_true rfl) (Nat.le_of_ble_eq_true rfl) d_Model_in_18 (Or.inl ⟨rfl, rfl, by omega⟩)
  · rw [ev_1] at hc_2; simp only [lg_cmp_lt, lg_cmp_le, lg_cmp_gt, lg_cmp_ge, lg_cmp_eq] at hc_2; simp only [fa_lt64, fa_le64, fa_eq64, Int32.toInt_toInt64, ll_0] at hc_2
    refine lv_lload_n hx hb d_Model_in_6 rfl (lv_at hl 0 rfl) ?_
    refine lv_lload hx hb d_Model_in_7 (lv_at hl 2 rfl) ?_
    refine W.lcmp hx hb d_Model_in_9 ?_
    refine lv_topi (fun v_3 ev_3 => ?_)
    refine lv_if_gt (tgt := 17) hx hb d_Model_in_10 (by decide) (fun hc_4 => ?_) (fun hc_4 => ?_)
    · rw [ev_3] at hc_4; simp only [lg_cmp_lt, lg_cmp_le, lg_cmp_gt, lg_cmp_ge, lg_cmp_eq] at hc_4; simp only [fa_lt64, fa_le64, fa_eq64, Int32.toInt_toInt64, ll_999999] at hc_4
      refine lv_iconst (v := 0) hx hb d_Model_in_17 (by decide) ?_
      exact z_zret hx hb hr hlocks rfl hP hD hS (Nat.le_of_ble_eq_true rfl) (Nat.le_of_ble_eq_true rfl) d_Model_in_18 (Or.inr (Or.inl ⟨rfl, rfl, by omega, by omega⟩))
    · rw [ev_3] at hc_4; simp only [lg_cmp_lt, lg_cmp_le, lg_cmp_gt, lg_cmp_ge, lg_cmp_eq] at hc_4; simp only [fa_lt64, fa_le64, fa_eq64, Int32.toInt_toInt64, ll_999999] at hc_4
      refine lv_iconst (v := 1) hx hb d_Model_in_13 (by decide) ?_
      refine lv_goto (tgt := 18) hx hb d_Model_in_14 (by decide) ?_
      exact z_zret hx hb hr hlocks rfl hP hD hS (Nat.le_of_ble_eq_true rfl) (Nat.le_of_ble_eq_true rfl) d_Model_in_18 (Or.inr (Or.inr (⟨rfl, rfl, by omega, by omega⟩)))
theorem d_Model_walk_14 : decode prog_14_method_69_code 14 = .ok (.ifCond .eq 15, 3) := by decide +kernel
theorem d_Model_walk_17 : decode prog_14_method_69_code 17 = .ok (.aload_n 0, 1) := by decide +kernel
theorem d_Model_walk_18 : decode prog_14_method_69_code 18 = .ok (.invokevirtual 134, 3) := by decide +kernel
theorem d_Model_walk_21 : decode prog_14_method_69_code 21 = .ok (.ifCond .eq 8, 3) := by decide +kernel
theorem d_Model_walk_29 : decode prog_14_method_69_code 29 = .ok (.iconst (-1), 1) := by decide +kernel
theorem d_Model_walk_30 : decode prog_14_method_69_code 30 = .ok (.ireturn, 1) := by decide +kernel
abbrev m_t_Model_walk : Room := { frames := 1, cells := 0, slots := 0, locals := 25 }
set_option maxHeartbeats 4000000 in
set_option maxRecDepth 100000 in
theorem t_Model_walk (l : Launch) (G : zG) (b0 : Nat) (p0 : Int32) (p1 : Int32) (b3 : Nat) (b4 : Nat) (b5 : Nat) (b6 : Nat) (b7 : Nat) (b8 : Nat) (b9 : Nat) (b10 : Nat) (b11 : Nat) (b12 : Nat) (b13 : Nat) (b14 : Nat) (b15 : Nat) (b16 : Nat) (b17 : Nat) (b18 : Nat) (b19 : Nat) (b20 : Nat) (b21 : Nat) (b22 : Nat) (b23 : Nat) (b24 : Nat) (b25 : Nat) (b26 : Nat) (b27 : Nat) (b28 : Nat) (b29 : Nat) (b30 : Nat) (b31 : Nat) (b32 : Nat) (b33 : Nat) (b34 : Nat) (b35 : Nat) (b36 : Nat) (b37 : Nat) (b38 : Nat) (b39 : Nat) (b40 : Nat) (b41 : Nat)  : zM l G y_Model_walk prog_14_method_69_code 11 (Option.some Jvm.ClassFile.FieldType.int) m_t_Model_walk [.ref b0, .int p0, .int p1] [(b0, .inr (12, [.int 0, .ref b3, .ref b4, .ref b5, .ref b6, .int 0, .ref b7, .int 0, .int 0, .int 0, .int 0, .ref b8, .ref b9, .ref b10, .int 0, .ref b11, .ref b12, .ref b13, .ref b14, .ref b15, .ref b16, .ref b17, .ref b18, .ref b19, .ref b20, .ref b21, .ref b22, .int 0, .ref b23, .ref b24, .int 0, .int 0, .int 0, .int 0, .ref b25, .ref b26, .ref b27, .ref b28, .ref b29, .ref b30, .ref b31, .int 0, .ref b32, .ref b33, .int 0, .ref b34, .ref b35, .ref b36, .ref b37, .ref b38, .int 0, .ref b39, .ref b40, .ref b41])), (b3, .inl (G.2 0, 503, .inl (upd (fun _ => 0) 501 1)))] (fun v _ => v = some (.int (a_walk p0 p1))) := by
  refine z_start (by decide +kernel) (Nat.le_of_ble_eq_true rfl) ?_
  intro p e s m below meth c A Z hr hnm hA hP hD hS ls hl
  have Z : zC p s m _ meth c prog_14_method_69_code 11 "TraceMachinesModel" G := Z
  obtain ⟨hx, hb, hml, hown, hts, hK, hN, hlocks⟩ := id Z
  have hl : lv_has ls 11 [(0, .ref b0), (1, .int p0), (2, .int p1)] := hl
  refine lv_aload_n hx hb d_Model_walk_0 rfl (lv_at hl 0 rfl) ?_
  refine lv_iconst (v := 0) hx hb d_Model_walk_1 (by decide) ?_
  refine va_put (D := G.1) (ci := 12) (v := .int 0) (ty := .int) (C := R_Model) (T := F_Model) (N := 54) hx hb hts i_Model t_Model t_Model_ok n_Model hown hK hP hD hS 0 rfl rfl 0 (by decide) (hts _ q1113) (fun _ h9 => h9) rfl (by decide +kernel) rfl rfl (Nat.le_of_ble_eq_true rfl) d_Model_walk_2 (fun H locs hP hD hS => ?_)
  have hP : va_P G.1 classes [(b0, .inr (12, [.int 0, .ref b3, .ref b4, .ref b5, .ref b6, .int 0, .ref b7, .int 0, .int 0, .int 0, .int 0, .ref b8, .ref b9, .ref b10, .int 0, .ref b11, .ref b12, .ref b13, .ref b14, .ref b15, .ref b16, .ref b17, .ref b18, .ref b19, .ref b20, .ref b21, .ref b22, .int 0, .ref b23, .ref b24, .int 0, .int 0, .int 0, .int 0, .ref b25, .ref b26, .ref b27, .ref b28, .ref b29, .ref b30, .ref b31, .int 0, .ref b32, .ref b33, .int 0, .ref b34, .ref b35, .ref b36, .ref b37, .ref b38, .int 0, .ref b39, .ref b40, .ref b41])), (b3, .inl (G.2 0, 503, .inl (upd (fun _ => 0) 501 1)))] H := hP
  have hD := z_tie hP hD rfl
  refine lv_iload_n hx hb d_Model_walk_5 rfl (lv_at hl 1 rfl) ?_
  refine lv_i2l (v := p0.toInt64) hx hb d_Model_walk_6 rfl ?_
  refine lv_lconst (v := 0) hx hb d_Model_walk_7 (by decide) ?_
  refine lv_ldc2 hx hb hown (hts _ q1545) d_Model_walk_8 ?_
  refine z_callS (index := 138) (As := [.long p0.toInt64, .long 0, .long 999999]) (rest := []) (wr := [(b0, .inr (12, [.int 0, .ref b3, .ref b4, .ref b5, .ref b6, .int 0, .ref b7, .int 0, .int 0, .int 0, .int 0, .ref b8, .ref b9, .ref b10, .int 0, .ref b11, .ref b12, .ref b13, .ref b14, .ref b15, .ref b16, .ref b17, .ref b18, .ref b19, .ref b20, .ref b21, .ref b22, .int 0, .ref b23, .ref b24, .int 0, .int 0, .int 0, .int 0, .ref b25, .ref b26, .ref b27, .ref b28, .ref b29, .ref b30, .ref b31, .int 0, .ref b32, .ref b33, .int 0, .ref b34, .ref b35, .ref b36, .ref b37, .ref b38, .int 0, .ref b39, .ref b40, .ref b41])), (b3, .inl (G.2 0, 503, .inl (upd (fun _ => 0) 501 1)))]) Z (c8_Model_in l G (p0.toInt64)) hl.1 q1285 q1286 q14 q1287 ⟨by decide, by decide, by show _ = some 3; decide +kernel⟩ ⟨Nat.le_of_ble_eq_true rfl, Nat.le_of_ble_eq_true rfl⟩ ⟨Nat.le_of_ble_eq_true rfl, Nat.le_of_ble_eq_true rfl⟩ rfl (Nat.le_of_ble_eq_true rfl) d_Model_walk_11 hP hD hS hA [] [0, 1] rfl rfl rfl rfl (by decide) (fun v w1 H locs hw_1 hP hD hS => ?_)
  rcases hw_1 with ⟨rfl, rfl, hq_2⟩ | ⟨rfl, rfl, hq_3, hq_4⟩ | ⟨rfl, rfl, hq_5, hq_6⟩
  · try simp only [Int32.toInt_toInt64, ll_0] at hq_2
    have hP : va_P G.1 classes [(b0, .inr (12, [.int 0, .ref b3, .ref b4, .ref b5, .ref b6, .int 0, .ref b7, .int 0, .int 0, .int 0, .int 0, .ref b8, .ref b9, .ref b10, .int 0, .ref b11, .ref b12, .ref b13, .ref b14, .ref b15, .ref b16, .ref b17, .ref b18, .ref b19, .ref b20, .ref b21, .ref b22, .int 0, .ref b23, .ref b24, .int 0, .int 0, .int 0, .int 0, .ref b25, .ref b26, .ref b27, .ref b28, .ref b29, .ref b30, .ref b31, .int 0, .ref b32, .ref b33, .int 0, .ref b34, .ref b35, .ref b36, .ref b37, .ref b38, .int 0, .ref b39, .ref b40, .ref b41])), (b3, .inl (G.2 0, 503, .inl (upd (fun _ => 0) 501 1)))] H := hP
    have hD := z_tie hP hD rfl
    refine W.widen (k := 0) (n := 0) (Nat.le_of_ble_eq_true rfl) (Nat.le_of_ble_eq_true rfl) ?_
    refine lv_if_eq (tgt := 29) hx hb d_Model_walk_14 (by decide) (fun _ => ?_) (fun hc => absurd hc (by decide +kernel))
    refine lv_iconst (v := (-1)) hx hb d_Model_walk_29 (by decide) ?_
    exact z_iret hx hb hr hlocks hP hD hS (Nat.le_of_ble_eq_true rfl) (Nat.le_of_ble_eq_true rfl) d_Model_walk_30 (congrArg (fun z => some (Value.int z)) (by unfold a_walk; (first | rfl | (repeat (first | rw [if_pos (by omega)] | rw [if_neg (by omega)])))))
  · try simp only [Int32.toInt_toInt64, ll_0] at hq_3
    try simp only [Int32.toInt_toInt64, ll_999999] at hq_4
    have hP : va_P G.1 classes [(b0, .inr (12, [.int 0, .ref b3, .ref b4, .ref b5, .ref b6, .int 0, .ref b7, .int 0, .int 0, .int 0, .int 0, .ref b8, .ref b9, .ref b10, .int 0, .ref b11, .ref b12, .ref b13, .ref b14, .ref b15, .ref b16, .ref b17, .ref b18, .ref b19, .ref b20, .ref b21, .ref b22, .int 0, .ref b23, .ref b24, .int 0, .int 0, .int 0, .int 0, .ref b25, .ref b26, .ref b27, .ref b28, .ref b29, .ref b30, .ref b31, .int 0, .ref b32, .ref b33, .int 0, .ref b34, .ref b35, .ref b36, .ref b37, .ref b38, .int 0, .ref b39, .ref b40, .ref b41])), (b3, .inl (G.2 0, 503, .inl (upd (fun _ => 0) 501 1)))] H := hP
    have hD := z_tie hP hD rfl
    refine W.widen (k := 0) (n := 0) (Nat.le_of_ble_eq_true rfl) (Nat.le_of_ble_eq_true rfl) ?_
    refine lv_if_eq (tgt := 29) hx hb d_Model_walk_14 (by decide) (fun _ => ?_) (fun hc => absurd hc (by decide +kernel))
    refine lv_iconst (v := (-1)) hx hb d_Model_walk_29 (by decide) ?_
    exact z_iret hx hb hr hlocks hP hD hS (Nat.le_of_ble_eq_true rfl) (Nat.le_of_ble_eq_true rfl) d_Model_walk_30 (congrArg (fun z => some (Value.int z)) (by unfold a_walk; (first | rfl | (repeat (first | rw [if_pos (by omega)] | rw [if_neg (by omega)])))))
  · try simp only [Int32.toInt_toInt64, ll_0] at hq_5
    try simp only [Int32.toInt_toInt64, ll_999999] at hq_6
    have hP : va_P G.1 classes [(b0, .inr (12, [.int 0, .ref b3, .ref b4, .ref b5, .ref b6, .int 0, .ref b7, .int 0, .int 0, .int 0, .int 0, .ref b8, .ref b9, .ref b10, .int 0, .ref b11, .ref b12, .ref b13, .ref b14, .ref b15, .ref b16, .ref b17, .ref b18, .ref b19, .ref b20, .ref b21, .ref b22, .int 0, .ref b23, .ref b24, .int 0, .int 0, .int 0, .int 0, .ref b25, .ref b26, .ref b27, .ref b28, .ref b29, .ref b30, .ref b31, .int 0, .ref b32, .ref b33, .int 0, .ref b34, .ref b35, .ref b36, .ref b37, .ref b38, .int 0, .ref b39, .ref b40, .ref b41])), (b3, .inl (G.2 0, 503, .inl (upd (fun _ => 0) 501 1)))] H := hP
    have hD := z_tie hP hD rfl
    refine W.widen (k := 0) (n := 0) (Nat.le_of_ble_eq_true rfl) (Nat.le_of_ble_eq_true rfl) ?_
    refine lv_if_eq (tgt := 29) hx hb d_Model_walk_14 (by decide) (fun hc => absurd hc (by decide +kernel)) (fun _ => ?_)
    refine lv_aload_n hx hb d_Model_walk_17 rfl (lv_at hl 0 rfl) ?_
    refine z_callV (index := 134) (As := []) (rest := []) (wr := []) Z (c2_Model_many l G (b0) (b3) (b4) (b5) (b6) (b7) (b8) (b9) (b10) (b11) (b12) (b13) (b14) (b15) (b16) (b17) (b18) (b19) (b20) (b21) (b22) (b23) (b24) (b25) (b26) (b27) (b28) (b29) (b30) (b31) (b32) (b33) (b34) (b35) (b36) (b37) (b38) (b39) (b40) (b41)) hl.1 q1324 q1326 qs51 q14 q1327 ⟨by decide, by decide, by show _ = some 0; decide +kernel⟩ ⟨Nat.le_of_ble_eq_true rfl, Nat.le_of_ble_eq_true rfl⟩ ⟨Nat.le_of_ble_eq_true rfl, Nat.le_of_ble_eq_true rfl⟩ rfl (Nat.le_of_ble_eq_true rfl) d_Model_walk_18 hP hD hS hA 0 12 rfl rfl rfl [0, 1] [] rfl rfl rfl rfl (by decide) (fun v w1 H locs hw_7 hP hD hS => ?_)
    obtain ⟨rfl, rfl⟩ := hw_7
    have hP : va_P G.1 classes [(b0, .inr (12, [.int 0, .ref b3, .ref b4, .ref b5, .ref b6, .int 0, .ref b7, .int 0, .int 0, .int 0, .int 0, .ref b8, .ref b9, .ref b10, .int 0, .ref b11, .ref b12, .ref b13, .ref b14, .ref b15, .ref b16, .ref b17, .ref b18, .ref b19, .ref b20, .ref b21, .ref b22, .int 0, .ref b23, .ref b24, .int 0, .int 0, .int 0, .int 0, .ref b25, .ref b26, .ref b27, .ref b28, .ref b29, .ref b30, .ref b31, .int 0, .ref b32, .ref b33, .int 0, .ref b34, .ref b35, .ref b36, .ref b37, .ref b38, .int 0, .ref b39, .ref b40, .ref b41])), (b3, .inl (G.2 0, 503, .inl (upd (fun _ => 0) 501 1)))] H := hP
    have hD := z_tie hP hD rfl
    refine W.widen (k := 0) (n := 0) (Nat.le_of_ble_eq_true rfl) (Nat.le_of_ble_eq_true rfl) ?_
    refine lv_if_eq (tgt := 29) hx hb d_Model_walk_21 (by decide) (fun _ => ?_) (fun hc => absurd hc (by decide +kernel))
    refine lv_iconst (v := (-1)) hx hb d_Model_walk_29 (by decide) ?_
    exact z_iret hx hb hr hlocks hP hD hS (Nat.le_of_ble_eq_true rfl) (Nat.le_of_ble_eq_true rfl) d_Model_walk_30 (congrArg (fun z => some (Value.int z)) (by unfold a_walk; (first | rfl | (repeat (first | rw [if_pos (by omega)] | rw [if_neg (by omega)])))))
theorem d_Model_rule_0 : decode prog_14_method_80_code 0 = .ok (.aload_n 0, 1) := by decide +kernel
theorem d_Model_rule_1 : decode prog_14_method_80_code 1 = .ok (.iconst 0, 1) := by decide +kernel
theorem d_Model_rule_2 : decode prog_14_method_80_code 2 = .ok (.putfield 1, 3) := by decide +kernel
theorem d_Model_rule_5 : decode prog_14_method_80_code 5 = .ok (.iload_n 1, 1) := by decide +kernel
theorem d_Model_rule_6 : decode prog_14_method_80_code 6 = .ok (.i2l, 1) := by decide +kernel
theorem d_Model_rule_7 : decode prog_14_method_80_code 7 = .ok (.lconst 0, 1) := by decide +kernel
theorem d_Model_rule_8 : decode prog_14_method_80_code 8 = .ok (.ldc2_w 263, 3) := by decide +kernel
theorem d_Model_rule_11 : decode prog_14_method_80_code 11 = .ok (.invokestatic 138, 3) := by decide +kernel
theorem ll_5 : (5 : Int64).toInt = 5 := by decide +kernel
abbrev m_c9_Model_in : Room := { frames := 0, cells := 0, slots := 0, locals := 0 }
set_option maxHeartbeats 4000000 in
set_option maxRecDepth 100000 in
theorem c9_Model_in (l : Launch) (G : zG) (b0 : Int64)  : zM l G y_Model_in prog_14_method_3_code 6 (Option.some Jvm.ClassFile.FieldType.boolean) m_c9_Model_in [.long b0, .long 0, .long 5] [] (fun v w => (v = some (.int 0) ∧ w = [] ∧ b0.toInt < 0) ∨ (v = some (.int 0) ∧ w = [] ∧ 0 ≤ b0.toInt ∧ 5 < b0.toInt) ∨ (v = some (.int 1) ∧ w = [] ∧ 0 ≤ b0.toInt ∧ b0.toInt ≤ 5)) := by
  refine z_start (by decide +kernel) (Nat.le_of_ble_eq_true rfl) ?_
  intro p e s m below meth c A Z hr hnm hA hP hD hS ls hl
  have Z : zC p s m _ meth c prog_14_method_3_code 6 "TraceMachinesModel" G := Z
  obtain ⟨hx, hb, hml, hown, hts, hK, hN, hlocks⟩ := id Z
  have hl : lv_has ls 6 [(0, .long b0), (2, .long 0), (4, .long 5)] := hl
  refine lv_lload_n hx hb d_Model_in_0 rfl (lv_at hl 0 rfl) ?_
  refine lv_lload_n hx hb d_Model_in_1 rfl (lv_at hl 1 rfl) ?_
  refine W.lcmp hx hb d_Model_in_2 ?_
  refine lv_topi (fun v_1 ev_1 => ?_)
  refine lv_if_lt (tgt := 17) hx hb d_Model_in_3 (by decide) (fun hc_2 => ?_) (fun hc_2 => ?_)
  · rw [ev_1] at hc_2; simp only [lg_cmp_lt, lg_cmp_le, lg_cmp_gt, lg_cmp_ge, lg_cmp_eq] at hc_2; simp only [fa_lt64, fa_le64, fa_eq64, Int32.toInt_toInt64, ll_0] at hc_2
    refine lv_iconst (v := 0) hx hb d_Model_in_17 (by decide) ?_
    exact z_zret hx hb hr hlocks rfl hP hD hS (Nat.le_of_ble_eq_true rfl) (Nat.le_of_ble_eq_true rfl) d_Model_in_18 (Or.inl ⟨rfl, rfl, by omega⟩)
  · rw [ev_1] at hc_2; simp only [lg_cmp_lt, lg_cmp_le, lg_cmp_gt, lg_cmp_ge, lg_cmp_eq] at hc_2; simp only [fa_lt64, fa_le64, fa_eq64, Int32.toInt_toInt64, ll_0] at hc_2
    refine lv_lload_n hx hb d_Model_in_6 rfl (lv_at hl 0 rfl) ?_
    refine lv_lload hx hb d_Model_in_7 (lv_at hl 2 rfl) ?_
    refine W.lcmp hx hb d_Model_in_9 ?_
    refine lv_topi (fun v_3 ev_3 => ?_)
    refine lv_if_gt (tgt := 17) hx hb d_Model_in_10 (by decide) (fun hc_4 => ?_) (fun hc_4 => ?_)
    · rw [ev_3] at hc_4; simp only [lg_cmp_lt, lg_cmp_le, lg_cmp_gt, lg_cmp_ge, lg_cmp_eq] at hc_4; simp only [fa_lt64, fa_le64, fa_eq64, Int32.toInt_toInt64, ll_5] at hc_4
      refine lv_iconst (v := 0) hx hb d_Model_in_17 (by decide) ?_
      exact z_zret hx hb hr hlocks rfl hP hD hS (Nat.le_of_ble_eq_true rfl) (Nat.le_of_ble_eq_true rfl) d_Model_in_18 (Or.inr (Or.inl ⟨rfl, rfl, by omega, by omega⟩))
    · rw [ev_3] at hc_4; simp only [lg_cmp_lt, lg_cmp_le, lg_cmp_gt, lg_cmp_ge, lg_cmp_eq] at hc_4; simp only [fa_lt64, fa_le64, fa_eq64, Int32.toInt_toInt64, ll_5] at hc_4
      refine lv_iconst (v := 1) hx hb d_Model_in_13 (by decide) ?_
      refine lv_goto (tgt := 18) hx hb d_Model_in_14 (by decide) ?_
      exact z_zret hx hb hr hlocks rfl hP hD hS (Nat.le_of_ble_eq_true rfl) (Nat.le_of_ble_eq_true rfl) d_Model_in_18 (Or.inr (Or.inr (⟨rfl, rfl, by omega, by omega⟩)))
theorem d_Model_rule_14 : decode prog_14_method_80_code 14 = .ok (.ifCond .eq 33, 3) := by decide +kernel
theorem d_Model_rule_17 : decode prog_14_method_80_code 17 = .ok (.iload_n 2, 1) := by decide +kernel
theorem d_Model_rule_18 : decode prog_14_method_80_code 18 = .ok (.invokestatic 391, 3) := by decide +kernel
theorem d_Model_rule_47 : decode prog_14_method_80_code 47 = .ok (.iconst (-1), 1) := by decide +kernel
theorem d_Model_rule_48 : decode prog_14_method_80_code 48 = .ok (.ireturn, 1) := by decide +kernel
theorem d_Model_isLetter_0 : decode prog_14_method_79_code 0 = .ok (.iload_n 0, 1) := by decide +kernel
theorem d_Model_isLetter_1 : decode prog_14_method_79_code 1 = .ok (.i2l, 1) := by decide +kernel
theorem d_Model_isLetter_2 : decode prog_14_method_79_code 2 = .ok (.lconst 0, 1) := by decide +kernel
theorem d_Model_isLetter_3 : decode prog_14_method_79_code 3 = .ok (.ldc2_w 389, 3) := by decide +kernel
theorem d_Model_isLetter_6 : decode prog_14_method_79_code 6 = .ok (.invokestatic 138, 3) := by decide +kernel
theorem ll_9 : (9 : Int64).toInt = 9 := by decide +kernel
abbrev m_c10_Model_in : Room := { frames := 0, cells := 0, slots := 0, locals := 0 }
set_option maxHeartbeats 4000000 in
set_option maxRecDepth 100000 in
theorem c10_Model_in (l : Launch) (G : zG) (b0 : Int64)  : zM l G y_Model_in prog_14_method_3_code 6 (Option.some Jvm.ClassFile.FieldType.boolean) m_c10_Model_in [.long b0, .long 0, .long 9] [] (fun v w => (v = some (.int 0) ∧ w = [] ∧ b0.toInt < 0) ∨ (v = some (.int 0) ∧ w = [] ∧ 0 ≤ b0.toInt ∧ 9 < b0.toInt) ∨ (v = some (.int 1) ∧ w = [] ∧ 0 ≤ b0.toInt ∧ b0.toInt ≤ 9)) := by
  refine z_start (by decide +kernel) (Nat.le_of_ble_eq_true rfl) ?_
  intro p e s m below meth c A Z hr hnm hA hP hD hS ls hl
  have Z : zC p s m _ meth c prog_14_method_3_code 6 "TraceMachinesModel" G := Z
  obtain ⟨hx, hb, hml, hown, hts, hK, hN, hlocks⟩ := id Z
  have hl : lv_has ls 6 [(0, .long b0), (2, .long 0), (4, .long 9)] := hl
  refine lv_lload_n hx hb d_Model_in_0 rfl (lv_at hl 0 rfl) ?_
  refine lv_lload_n hx hb d_Model_in_1 rfl (lv_at hl 1 rfl) ?_
  refine W.lcmp hx hb d_Model_in_2 ?_
  refine lv_topi (fun v_1 ev_1 => ?_)
  refine lv_if_lt (tgt := 17) hx hb d_Model_in_3 (by decide) (fun hc_2 => ?_) (fun hc_2 => ?_)
  · rw [ev_1] at hc_2; simp only [lg_cmp_lt, lg_cmp_le, lg_cmp_gt, lg_cmp_ge, lg_cmp_eq] at hc_2; simp only [fa_lt64, fa_le64, fa_eq64, Int32.toInt_toInt64, ll_0] at hc_2
    refine lv_iconst (v := 0) hx hb d_Model_in_17 (by decide) ?_
    exact z_zret hx hb hr hlocks rfl hP hD hS (Nat.le_of_ble_eq_true rfl) (Nat.le_of_ble_eq_true rfl) d_Model_in_18 (Or.inl ⟨rfl, rfl, by omega⟩)
  · rw [ev_1] at hc_2; simp only [lg_cmp_lt, lg_cmp_le, lg_cmp_gt, lg_cmp_ge, lg_cmp_eq] at hc_2; simp only [fa_lt64, fa_le64, fa_eq64, Int32.toInt_toInt64, ll_0] at hc_2
    refine lv_lload_n hx hb d_Model_in_6 rfl (lv_at hl 0 rfl) ?_
    refine lv_lload hx hb d_Model_in_7 (lv_at hl 2 rfl) ?_
    refine W.lcmp hx hb d_Model_in_9 ?_
    refine lv_topi (fun v_3 ev_3 => ?_)
    refine lv_if_gt (tgt := 17) hx hb d_Model_in_10 (by decide) (fun hc_4 => ?_) (fun hc_4 => ?_)
    · rw [ev_3] at hc_4; simp only [lg_cmp_lt, lg_cmp_le, lg_cmp_gt, lg_cmp_ge, lg_cmp_eq] at hc_4; simp only [fa_lt64, fa_le64, fa_eq64, Int32.toInt_toInt64, ll_9] at hc_4
      refine lv_iconst (v := 0) hx hb d_Model_in_17 (by decide) ?_
      exact z_zret hx hb hr hlocks rfl hP hD hS (Nat.le_of_ble_eq_true rfl) (Nat.le_of_ble_eq_true rfl) d_Model_in_18 (Or.inr (Or.inl ⟨rfl, rfl, by omega, by omega⟩))
    · rw [ev_3] at hc_4; simp only [lg_cmp_lt, lg_cmp_le, lg_cmp_gt, lg_cmp_ge, lg_cmp_eq] at hc_4; simp only [fa_lt64, fa_le64, fa_eq64, Int32.toInt_toInt64, ll_9] at hc_4
      refine lv_iconst (v := 1) hx hb d_Model_in_13 (by decide) ?_
      refine lv_goto (tgt := 18) hx hb d_Model_in_14 (by decide) ?_
      exact z_zret hx hb hr hlocks rfl hP hD hS (Nat.le_of_ble_eq_true rfl) (Nat.le_of_ble_eq_true rfl) d_Model_in_18 (Or.inr (Or.inr (⟨rfl, rfl, by omega, by omega⟩)))
theorem d_Model_isLetter_9 : decode prog_14_method_79_code 9 = .ok (.ireturn, 1) := by decide +kernel
abbrev m_c1_Model_isLetter : Room := { frames := 1, cells := 0, slots := 0, locals := 25 }
set_option maxHeartbeats 4000000 in
set_option maxRecDepth 100000 in
theorem c1_Model_isLetter (l : Launch) (G : zG) (b0 : Int32)  : zM l G y_Model_isLetter prog_14_method_79_code 1 (Option.some Jvm.ClassFile.FieldType.boolean) m_c1_Model_isLetter [.int b0] [] (fun v w => (v = some (.int 0) ∧ w = [] ∧ b0.toInt < 0) ∨ (v = some (.int 0) ∧ w = [] ∧ 0 ≤ b0.toInt ∧ 9 < b0.toInt) ∨ (v = some (.int 1) ∧ w = [] ∧ 0 ≤ b0.toInt ∧ b0.toInt ≤ 9)) := by
  refine z_start (by decide +kernel) (Nat.le_of_ble_eq_true rfl) ?_
  intro p e s m below meth c A Z hr hnm hA hP hD hS ls hl
  have Z : zC p s m _ meth c prog_14_method_79_code 1 "TraceMachinesModel" G := Z
  obtain ⟨hx, hb, hml, hown, hts, hK, hN, hlocks⟩ := id Z
  have hl : lv_has ls 1 [(0, .int b0)] := hl
  refine lv_iload_n hx hb d_Model_isLetter_0 rfl (lv_at hl 0 rfl) ?_
  refine lv_i2l (v := b0.toInt64) hx hb d_Model_isLetter_1 rfl ?_
  refine lv_lconst (v := 0) hx hb d_Model_isLetter_2 (by decide) ?_
  refine lv_ldc2 hx hb hown (hts _ q1556) d_Model_isLetter_3 ?_
  refine z_callS (index := 138) (As := [.long b0.toInt64, .long 0, .long 9]) (rest := []) (wr := []) Z (c10_Model_in l G (b0.toInt64)) hl.1 q1285 q1286 q14 q1287 ⟨by decide, by decide, by show _ = some 3; decide +kernel⟩ ⟨Nat.le_of_ble_eq_true rfl, Nat.le_of_ble_eq_true rfl⟩ ⟨Nat.le_of_ble_eq_true rfl, Nat.le_of_ble_eq_true rfl⟩ rfl (Nat.le_of_ble_eq_true rfl) d_Model_isLetter_6 hP hD hS hA [] [] rfl rfl rfl rfl (by decide) (fun v w1 H locs hw_1 hP hD hS => ?_)
  rcases hw_1 with ⟨rfl, rfl, hq_2⟩ | ⟨rfl, rfl, hq_3, hq_4⟩ | ⟨rfl, rfl, hq_5, hq_6⟩
  · try simp only [Int32.toInt_toInt64, ll_0] at hq_2
    have hP : va_P G.1 classes [] H := hP
    have hD := z_tie hP hD rfl
    refine W.widen (k := 0) (n := 0) (Nat.le_of_ble_eq_true rfl) (Nat.le_of_ble_eq_true rfl) ?_
    exact z_zret hx hb hr hlocks rfl hP hD hS (Nat.le_of_ble_eq_true rfl) (Nat.le_of_ble_eq_true rfl) d_Model_isLetter_9 (Or.inl ⟨rfl, rfl, by omega⟩)
  · try simp only [Int32.toInt_toInt64, ll_0] at hq_3
    try simp only [Int32.toInt_toInt64, ll_9] at hq_4
    have hP : va_P G.1 classes [] H := hP
    have hD := z_tie hP hD rfl
    refine W.widen (k := 0) (n := 0) (Nat.le_of_ble_eq_true rfl) (Nat.le_of_ble_eq_true rfl) ?_
    exact z_zret hx hb hr hlocks rfl hP hD hS (Nat.le_of_ble_eq_true rfl) (Nat.le_of_ble_eq_true rfl) d_Model_isLetter_9 (Or.inr (Or.inl ⟨rfl, rfl, by omega, by omega⟩))
  · try simp only [Int32.toInt_toInt64, ll_0] at hq_5
    try simp only [Int32.toInt_toInt64, ll_9] at hq_6
    have hP : va_P G.1 classes [] H := hP
    have hD := z_tie hP hD rfl
    refine W.widen (k := 0) (n := 0) (Nat.le_of_ble_eq_true rfl) (Nat.le_of_ble_eq_true rfl) ?_
    exact z_zret hx hb hr hlocks rfl hP hD hS (Nat.le_of_ble_eq_true rfl) (Nat.le_of_ble_eq_true rfl) d_Model_isLetter_9 (Or.inr (Or.inr (⟨rfl, rfl, by omega, by omega⟩)))
theorem d_Model_rule_21 : decode prog_14_method_80_code 21 = .ok (.ifCond .eq 26, 3) := by decide +kernel
theorem d_Model_rule_24 : decode prog_14_method_80_code 24 = .ok (.iload_n 3, 1) := by decide +kernel
theorem d_Model_rule_25 : decode prog_14_method_80_code 25 = .ok (.invokestatic 391, 3) := by decide +kernel
theorem d_Model_rule_28 : decode prog_14_method_80_code 28 = .ok (.ifCond .eq 19, 3) := by decide +kernel
theorem d_Model_rule_31 : decode prog_14_method_80_code 31 = .ok (.iload_n 2, 1) := by decide +kernel
theorem d_Model_rule_32 : decode prog_14_method_80_code 32 = .ok (.iload_n 3, 1) := by decide +kernel
theorem d_Model_rule_33 : decode prog_14_method_80_code 33 = .ok (.if_icmp .eq 14, 3) := by decide +kernel
theorem d_Model_rule_36 : decode prog_14_method_80_code 36 = .ok (.iload 4, 2) := by decide +kernel
theorem d_Model_rule_38 : decode prog_14_method_80_code 38 = .ok (.i2l, 1) := by decide +kernel
theorem d_Model_rule_39 : decode prog_14_method_80_code 39 = .ok (.lconst 0, 1) := by decide +kernel
theorem d_Model_rule_40 : decode prog_14_method_80_code 40 = .ok (.lconst 1, 1) := by decide +kernel
theorem d_Model_rule_41 : decode prog_14_method_80_code 41 = .ok (.invokestatic 138, 3) := by decide +kernel
theorem d_Model_rule_44 : decode prog_14_method_80_code 44 = .ok (.ifCond .ne 5, 3) := by decide +kernel
theorem d_Model_rule_49 : decode prog_14_method_80_code 49 = .ok (.aload_n 0, 1) := by decide +kernel
theorem d_Model_rule_50 : decode prog_14_method_80_code 50 = .ok (.iload_n 1, 1) := by decide +kernel
theorem d_Model_rule_51 : decode prog_14_method_80_code 51 = .ok (.iload_n 2, 1) := by decide +kernel
theorem d_Model_rule_52 : decode prog_14_method_80_code 52 = .ok (.iload_n 3, 1) := by decide +kernel
theorem d_Model_rule_53 : decode prog_14_method_80_code 53 = .ok (.iload 4, 2) := by decide +kernel
theorem d_Model_rule_55 : decode prog_14_method_80_code 55 = .ok (.iconst 1, 1) := by decide +kernel
theorem d_Model_rule_56 : decode prog_14_method_80_code 56 = .ok (.if_icmp .ne 7, 3) := by decide +kernel
theorem d_Model_rule_63 : decode prog_14_method_80_code 63 = .ok (.iconst 0, 1) := by decide +kernel
theorem d_Model_rule_64 : decode prog_14_method_80_code 64 = .ok (.invokevirtual 394, 3) := by decide +kernel
theorem d_Model_asked_0 : decode prog_14_method_78_code 0 = .ok (.iconst 0, 1) := by decide +kernel
theorem d_Model_asked_1 : decode prog_14_method_78_code 1 = .ok (.istore 5, 2) := by decide +kernel
theorem d_Model_asked_3 : decode prog_14_method_78_code 3 = .ok (.iconst 0, 1) := by decide +kernel
theorem d_Model_asked_4 : decode prog_14_method_78_code 4 = .ok (.istore 6, 2) := by decide +kernel
theorem d_Model_asked_6 : decode prog_14_method_78_code 6 = .ok (.iload 6, 2) := by decide +kernel
theorem d_Model_asked_8 : decode prog_14_method_78_code 8 = .ok (.aload_n 0, 1) := by decide +kernel
theorem d_Model_asked_9 : decode prog_14_method_78_code 9 = .ok (.invokevirtual 134, 3) := by decide +kernel
theorem d_Model_asked_12 : decode prog_14_method_78_code 12 = .ok (.if_icmp .ge 48, 3) := by decide +kernel
theorem d_Model_asked_60 : decode prog_14_method_78_code 60 = .ok (.iload 5, 2) := by decide +kernel
theorem d_Model_asked_62 : decode prog_14_method_78_code 62 = .ok (.ireturn, 1) := by decide +kernel
abbrev m_c1_Model_asked : Room := { frames := 1, cells := 0, slots := 0, locals := 20 }
set_option maxHeartbeats 4000000 in
set_option maxRecDepth 100000 in
theorem c1_Model_asked (l : Launch) (G : zG) (b0 : Nat) (b1 : Int32) (b2 : Int32) (b3 : Int32) (b4 : Nat) (b5 : Nat) (b6 : Nat) (b7 : Nat) (b8 : Nat) (b9 : Nat) (b10 : Nat) (b11 : Nat) (b12 : Nat) (b13 : Nat) (b14 : Nat) (b15 : Nat) (b16 : Nat) (b17 : Nat) (b18 : Nat) (b19 : Nat) (b20 : Nat) (b21 : Nat) (b22 : Nat) (b23 : Nat) (b24 : Nat) (b25 : Nat) (b26 : Nat) (b27 : Nat) (b28 : Nat) (b29 : Nat) (b30 : Nat) (b31 : Nat) (b32 : Nat) (b33 : Nat) (b34 : Nat) (b35 : Nat) (b36 : Nat) (b37 : Nat) (b38 : Nat) (b39 : Nat) (b40 : Nat) (b41 : Nat) (b42 : Nat) (hlo_b1 : 0 ≤ b1.toInt) (hhi_b1 : b1.toInt ≤ 5) (hlo_b2 : 0 ≤ b2.toInt) (hhi_b2 : b2.toInt ≤ 9) (hlo_b3 : 0 ≤ b3.toInt) (hhi_b3 : b3.toInt ≤ 9) : zM l G y_Model_asked prog_14_method_78_code 7 (Option.some Jvm.ClassFile.FieldType.int) m_c1_Model_asked [.ref b0, .int b1, .int b2, .int b3, .int 0] [(b0, .inr (12, [.int 0, .ref b4, .ref b5, .ref b6, .ref b7, .int 0, .ref b8, .int 0, .int 0, .int 0, .int 0, .ref b9, .ref b10, .ref b11, .int 0, .ref b12, .ref b13, .ref b14, .ref b15, .ref b16, .ref b17, .ref b18, .ref b19, .ref b20, .ref b21, .ref b22, .ref b23, .int 0, .ref b24, .ref b25, .int 0, .int 0, .int 0, .int 0, .ref b26, .ref b27, .ref b28, .ref b29, .ref b30, .ref b31, .ref b32, .int 0, .ref b33, .ref b34, .int 0, .ref b35, .ref b36, .ref b37, .ref b38, .ref b39, .int 0, .ref b40, .ref b41, .ref b42])), (b4, .inl (G.2 0, 503, .inl (upd (fun _ => 0) 501 1)))] (fun v w => (v = some (.int 0) ∧ w = [(b0, .inr (12, [.int 0, .ref b4, .ref b5, .ref b6, .ref b7, .int 0, .ref b8, .int 0, .int 0, .int 0, .int 0, .ref b9, .ref b10, .ref b11, .int 0, .ref b12, .ref b13, .ref b14, .ref b15, .ref b16, .ref b17, .ref b18, .ref b19, .ref b20, .ref b21, .ref b22, .ref b23, .int 0, .ref b24, .ref b25, .int 0, .int 0, .int 0, .int 0, .ref b26, .ref b27, .ref b28, .ref b29, .ref b30, .ref b31, .ref b32, .int 0, .ref b33, .ref b34, .int 0, .ref b35, .ref b36, .ref b37, .ref b38, .ref b39, .int 0, .ref b40, .ref b41, .ref b42])), (b4, .inl (G.2 0, 503, .inl (upd (fun _ => 0) 501 1)))])) := by
  refine z_start (by decide +kernel) (Nat.le_of_ble_eq_true rfl) ?_
  intro p e s m below meth c A Z hr hnm hA hP hD hS ls hl
  have Z : zC p s m _ meth c prog_14_method_78_code 7 "TraceMachinesModel" G := Z
  obtain ⟨hx, hb, hml, hown, hts, hK, hN, hlocks⟩ := id Z
  have hl : lv_has ls 7 [(0, .ref b0), (1, .int b1), (2, .int b2), (3, .int b3), (4, .int 0)] := hl
  refine lv_iconst (v := 0) hx hb d_Model_asked_0 (by decide) ?_
  refine lv_istore (lv' := [(5, .int 0), (0, .ref b0), (1, .int b1), (2, .int b2), (3, .int b3), (4, .int 0)]) hx hb d_Model_asked_1 hl (by decide) rfl (fun ls hl => ?_)
  refine lv_iconst (v := 0) hx hb d_Model_asked_3 (by decide) ?_
  refine lv_istore (lv' := [(6, .int 0), (5, .int 0), (0, .ref b0), (1, .int b1), (2, .int b2), (3, .int b3), (4, .int 0)]) hx hb d_Model_asked_4 hl (by decide) rfl (fun ls hl => ?_)
  refine lv_iload hx hb d_Model_asked_6 (lv_at hl 0 rfl) ?_
  refine lv_aload_n hx hb d_Model_asked_8 rfl (lv_at hl 2 rfl) ?_
  refine z_callV (index := 134) (As := []) (rest := [.int 0]) (wr := []) Z (c2_Model_many l G (b0) (b4) (b5) (b6) (b7) (b8) (b9) (b10) (b11) (b12) (b13) (b14) (b15) (b16) (b17) (b18) (b19) (b20) (b21) (b22) (b23) (b24) (b25) (b26) (b27) (b28) (b29) (b30) (b31) (b32) (b33) (b34) (b35) (b36) (b37) (b38) (b39) (b40) (b41) (b42)) hl.1 q1324 q1326 qs51 q14 q1327 ⟨by decide, by decide, by show _ = some 0; decide +kernel⟩ ⟨Nat.le_of_ble_eq_true rfl, Nat.le_of_ble_eq_true rfl⟩ ⟨Nat.le_of_ble_eq_true rfl, Nat.le_of_ble_eq_true rfl⟩ rfl (Nat.le_of_ble_eq_true rfl) d_Model_asked_9 hP hD hS hA 0 12 rfl rfl rfl [0, 1] [] rfl rfl rfl rfl (by decide) (fun v w1 H locs hw_1 hP hD hS => ?_)
  obtain ⟨rfl, rfl⟩ := hw_1
  have hP : va_P G.1 classes [(b0, .inr (12, [.int 0, .ref b4, .ref b5, .ref b6, .ref b7, .int 0, .ref b8, .int 0, .int 0, .int 0, .int 0, .ref b9, .ref b10, .ref b11, .int 0, .ref b12, .ref b13, .ref b14, .ref b15, .ref b16, .ref b17, .ref b18, .ref b19, .ref b20, .ref b21, .ref b22, .ref b23, .int 0, .ref b24, .ref b25, .int 0, .int 0, .int 0, .int 0, .ref b26, .ref b27, .ref b28, .ref b29, .ref b30, .ref b31, .ref b32, .int 0, .ref b33, .ref b34, .int 0, .ref b35, .ref b36, .ref b37, .ref b38, .ref b39, .int 0, .ref b40, .ref b41, .ref b42])), (b4, .inl (G.2 0, 503, .inl (upd (fun _ => 0) 501 1)))] H := hP
  have hD := z_tie hP hD rfl
  refine W.widen (k := 0) (n := 0) (Nat.le_of_ble_eq_true rfl) (Nat.le_of_ble_eq_true rfl) ?_
  refine lv_icmp_ge (tgt := 60) hx hb d_Model_asked_12 (by decide) (fun _ => ?_) (fun hc => absurd hc (by decide +kernel))
  refine lv_iload hx hb d_Model_asked_60 (lv_at hl 1 rfl) ?_
  exact z_iret hx hb hr hlocks hP hD hS (Nat.le_of_ble_eq_true rfl) (Nat.le_of_ble_eq_true rfl) d_Model_asked_62 ⟨rfl, rfl⟩
theorem d_Model_rule_59 : decode prog_14_method_80_code 59 = .ok (.iconst 1, 1) := by decide +kernel
theorem d_Model_rule_60 : decode prog_14_method_80_code 60 = .ok (.goto 4, 3) := by decide +kernel
theorem d_Model_rule_67 : decode prog_14_method_80_code 67 = .ok (.ireturn, 1) := by decide +kernel
abbrev m_c2_Model_asked : Room := { frames := 1, cells := 0, slots := 0, locals := 20 }
set_option maxHeartbeats 4000000 in
set_option maxRecDepth 100000 in
theorem c2_Model_asked (l : Launch) (G : zG) (b0 : Nat) (b1 : Int32) (b2 : Int32) (b3 : Int32) (b4 : Nat) (b5 : Nat) (b6 : Nat) (b7 : Nat) (b8 : Nat) (b9 : Nat) (b10 : Nat) (b11 : Nat) (b12 : Nat) (b13 : Nat) (b14 : Nat) (b15 : Nat) (b16 : Nat) (b17 : Nat) (b18 : Nat) (b19 : Nat) (b20 : Nat) (b21 : Nat) (b22 : Nat) (b23 : Nat) (b24 : Nat) (b25 : Nat) (b26 : Nat) (b27 : Nat) (b28 : Nat) (b29 : Nat) (b30 : Nat) (b31 : Nat) (b32 : Nat) (b33 : Nat) (b34 : Nat) (b35 : Nat) (b36 : Nat) (b37 : Nat) (b38 : Nat) (b39 : Nat) (b40 : Nat) (b41 : Nat) (b42 : Nat) (hlo_b1 : 0 ≤ b1.toInt) (hhi_b1 : b1.toInt ≤ 5) (hlo_b2 : 0 ≤ b2.toInt) (hhi_b2 : b2.toInt ≤ 9) (hlo_b3 : 0 ≤ b3.toInt) (hhi_b3 : b3.toInt ≤ 9) : zM l G y_Model_asked prog_14_method_78_code 7 (Option.some Jvm.ClassFile.FieldType.int) m_c2_Model_asked [.ref b0, .int b1, .int b2, .int b3, .int 1] [(b0, .inr (12, [.int 0, .ref b4, .ref b5, .ref b6, .ref b7, .int 0, .ref b8, .int 0, .int 0, .int 0, .int 0, .ref b9, .ref b10, .ref b11, .int 0, .ref b12, .ref b13, .ref b14, .ref b15, .ref b16, .ref b17, .ref b18, .ref b19, .ref b20, .ref b21, .ref b22, .ref b23, .int 0, .ref b24, .ref b25, .int 0, .int 0, .int 0, .int 0, .ref b26, .ref b27, .ref b28, .ref b29, .ref b30, .ref b31, .ref b32, .int 0, .ref b33, .ref b34, .int 0, .ref b35, .ref b36, .ref b37, .ref b38, .ref b39, .int 0, .ref b40, .ref b41, .ref b42])), (b4, .inl (G.2 0, 503, .inl (upd (fun _ => 0) 501 1)))] (fun v w => (v = some (.int 0) ∧ w = [(b0, .inr (12, [.int 0, .ref b4, .ref b5, .ref b6, .ref b7, .int 0, .ref b8, .int 0, .int 0, .int 0, .int 0, .ref b9, .ref b10, .ref b11, .int 0, .ref b12, .ref b13, .ref b14, .ref b15, .ref b16, .ref b17, .ref b18, .ref b19, .ref b20, .ref b21, .ref b22, .ref b23, .int 0, .ref b24, .ref b25, .int 0, .int 0, .int 0, .int 0, .ref b26, .ref b27, .ref b28, .ref b29, .ref b30, .ref b31, .ref b32, .int 0, .ref b33, .ref b34, .int 0, .ref b35, .ref b36, .ref b37, .ref b38, .ref b39, .int 0, .ref b40, .ref b41, .ref b42])), (b4, .inl (G.2 0, 503, .inl (upd (fun _ => 0) 501 1)))])) := by
  refine z_start (by decide +kernel) (Nat.le_of_ble_eq_true rfl) ?_
  intro p e s m below meth c A Z hr hnm hA hP hD hS ls hl
  have Z : zC p s m _ meth c prog_14_method_78_code 7 "TraceMachinesModel" G := Z
  obtain ⟨hx, hb, hml, hown, hts, hK, hN, hlocks⟩ := id Z
  have hl : lv_has ls 7 [(0, .ref b0), (1, .int b1), (2, .int b2), (3, .int b3), (4, .int 1)] := hl
  refine lv_iconst (v := 0) hx hb d_Model_asked_0 (by decide) ?_
  refine lv_istore (lv' := [(5, .int 0), (0, .ref b0), (1, .int b1), (2, .int b2), (3, .int b3), (4, .int 1)]) hx hb d_Model_asked_1 hl (by decide) rfl (fun ls hl => ?_)
  refine lv_iconst (v := 0) hx hb d_Model_asked_3 (by decide) ?_
  refine lv_istore (lv' := [(6, .int 0), (5, .int 0), (0, .ref b0), (1, .int b1), (2, .int b2), (3, .int b3), (4, .int 1)]) hx hb d_Model_asked_4 hl (by decide) rfl (fun ls hl => ?_)
  refine lv_iload hx hb d_Model_asked_6 (lv_at hl 0 rfl) ?_
  refine lv_aload_n hx hb d_Model_asked_8 rfl (lv_at hl 2 rfl) ?_
  refine z_callV (index := 134) (As := []) (rest := [.int 0]) (wr := []) Z (c2_Model_many l G (b0) (b4) (b5) (b6) (b7) (b8) (b9) (b10) (b11) (b12) (b13) (b14) (b15) (b16) (b17) (b18) (b19) (b20) (b21) (b22) (b23) (b24) (b25) (b26) (b27) (b28) (b29) (b30) (b31) (b32) (b33) (b34) (b35) (b36) (b37) (b38) (b39) (b40) (b41) (b42)) hl.1 q1324 q1326 qs51 q14 q1327 ⟨by decide, by decide, by show _ = some 0; decide +kernel⟩ ⟨Nat.le_of_ble_eq_true rfl, Nat.le_of_ble_eq_true rfl⟩ ⟨Nat.le_of_ble_eq_true rfl, Nat.le_of_ble_eq_true rfl⟩ rfl (Nat.le_of_ble_eq_true rfl) d_Model_asked_9 hP hD hS hA 0 12 rfl rfl rfl [0, 1] [] rfl rfl rfl rfl (by decide) (fun v w1 H locs hw_1 hP hD hS => ?_)
  obtain ⟨rfl, rfl⟩ := hw_1
  have hP : va_P G.1 classes [(b0, .inr (12, [.int 0, .ref b4, .ref b5, .ref b6, .ref b7, .int 0, .ref b8, .int 0, .int 0, .int 0, .int 0, .ref b9, .ref b10, .ref b11, .int 0, .ref b12, .ref b13, .ref b14, .ref b15, .ref b16, .ref b17, .ref b18, .ref b19, .ref b20, .ref b21, .ref b22, .ref b23, .int 0, .ref b24, .ref b25, .int 0, .int 0, .int 0, .int 0, .ref b26, .ref b27, .ref b28, .ref b29, .ref b30, .ref b31, .ref b32, .int 0, .ref b33, .ref b34, .int 0, .ref b35, .ref b36, .ref b37, .ref b38, .ref b39, .int 0, .ref b40, .ref b41, .ref b42])), (b4, .inl (G.2 0, 503, .inl (upd (fun _ => 0) 501 1)))] H := hP
  have hD := z_tie hP hD rfl
  refine W.widen (k := 0) (n := 0) (Nat.le_of_ble_eq_true rfl) (Nat.le_of_ble_eq_true rfl) ?_
  refine lv_icmp_ge (tgt := 60) hx hb d_Model_asked_12 (by decide) (fun _ => ?_) (fun hc => absurd hc (by decide +kernel))
  refine lv_iload hx hb d_Model_asked_60 (lv_at hl 1 rfl) ?_
  exact z_iret hx hb hr hlocks hP hD hS (Nat.le_of_ble_eq_true rfl) (Nat.le_of_ble_eq_true rfl) d_Model_asked_62 ⟨rfl, rfl⟩
abbrev m_t_Model_rule : Room := { frames := 2, cells := 0, slots := 0, locals := 46 }
set_option maxHeartbeats 4000000 in
set_option maxRecDepth 100000 in
theorem t_Model_rule (l : Launch) (G : zG) (b0 : Nat) (p0 : Int32) (p1 : Int32) (p2 : Int32) (p3 : Int32) (b5 : Nat) (b6 : Nat) (b7 : Nat) (b8 : Nat) (b9 : Nat) (b10 : Nat) (b11 : Nat) (b12 : Nat) (b13 : Nat) (b14 : Nat) (b15 : Nat) (b16 : Nat) (b17 : Nat) (b18 : Nat) (b19 : Nat) (b20 : Nat) (b21 : Nat) (b22 : Nat) (b23 : Nat) (b24 : Nat) (b25 : Nat) (b26 : Nat) (b27 : Nat) (b28 : Nat) (b29 : Nat) (b30 : Nat) (b31 : Nat) (b32 : Nat) (b33 : Nat) (b34 : Nat) (b35 : Nat) (b36 : Nat) (b37 : Nat) (b38 : Nat) (b39 : Nat) (b40 : Nat) (b41 : Nat) (b42 : Nat) (b43 : Nat)  : zM l G y_Model_rule prog_14_method_80_code 5 (Option.some Jvm.ClassFile.FieldType.int) m_t_Model_rule [.ref b0, .int p0, .int p1, .int p2, .int p3] [(b0, .inr (12, [.int 0, .ref b5, .ref b6, .ref b7, .ref b8, .int 0, .ref b9, .int 0, .int 0, .int 0, .int 0, .ref b10, .ref b11, .ref b12, .int 0, .ref b13, .ref b14, .ref b15, .ref b16, .ref b17, .ref b18, .ref b19, .ref b20, .ref b21, .ref b22, .ref b23, .ref b24, .int 0, .ref b25, .ref b26, .int 0, .int 0, .int 0, .int 0, .ref b27, .ref b28, .ref b29, .ref b30, .ref b31, .ref b32, .ref b33, .int 0, .ref b34, .ref b35, .int 0, .ref b36, .ref b37, .ref b38, .ref b39, .ref b40, .int 0, .ref b41, .ref b42, .ref b43])), (b5, .inl (G.2 0, 503, .inl (upd (fun _ => 0) 501 1)))] (fun v _ => v = some (.int (a_rule p0 p1 p2 p3))) := by
  refine z_start (by decide +kernel) (Nat.le_of_ble_eq_true rfl) ?_
  intro p e s m below meth c A Z hr hnm hA hP hD hS ls hl
  have Z : zC p s m _ meth c prog_14_method_80_code 5 "TraceMachinesModel" G := Z
  obtain ⟨hx, hb, hml, hown, hts, hK, hN, hlocks⟩ := id Z
  have hl : lv_has ls 5 [(0, .ref b0), (1, .int p0), (2, .int p1), (3, .int p2), (4, .int p3)] := hl
  refine lv_aload_n hx hb d_Model_rule_0 rfl (lv_at hl 0 rfl) ?_
  refine lv_iconst (v := 0) hx hb d_Model_rule_1 (by decide) ?_
  refine va_put (D := G.1) (ci := 12) (v := .int 0) (ty := .int) (C := R_Model) (T := F_Model) (N := 54) hx hb hts i_Model t_Model t_Model_ok n_Model hown hK hP hD hS 0 rfl rfl 0 (by decide) (hts _ q1113) (fun _ h9 => h9) rfl (by decide +kernel) rfl rfl (Nat.le_of_ble_eq_true rfl) d_Model_rule_2 (fun H locs hP hD hS => ?_)
  have hP : va_P G.1 classes [(b0, .inr (12, [.int 0, .ref b5, .ref b6, .ref b7, .ref b8, .int 0, .ref b9, .int 0, .int 0, .int 0, .int 0, .ref b10, .ref b11, .ref b12, .int 0, .ref b13, .ref b14, .ref b15, .ref b16, .ref b17, .ref b18, .ref b19, .ref b20, .ref b21, .ref b22, .ref b23, .ref b24, .int 0, .ref b25, .ref b26, .int 0, .int 0, .int 0, .int 0, .ref b27, .ref b28, .ref b29, .ref b30, .ref b31, .ref b32, .ref b33, .int 0, .ref b34, .ref b35, .int 0, .ref b36, .ref b37, .ref b38, .ref b39, .ref b40, .int 0, .ref b41, .ref b42, .ref b43])), (b5, .inl (G.2 0, 503, .inl (upd (fun _ => 0) 501 1)))] H := hP
  have hD := z_tie hP hD rfl
  refine lv_iload_n hx hb d_Model_rule_5 rfl (lv_at hl 1 rfl) ?_
  refine lv_i2l (v := p0.toInt64) hx hb d_Model_rule_6 rfl ?_
  refine lv_lconst (v := 0) hx hb d_Model_rule_7 (by decide) ?_
  refine lv_ldc2 hx hb hown (hts _ q1436) d_Model_rule_8 ?_
  refine z_callS (index := 138) (As := [.long p0.toInt64, .long 0, .long 5]) (rest := []) (wr := [(b0, .inr (12, [.int 0, .ref b5, .ref b6, .ref b7, .ref b8, .int 0, .ref b9, .int 0, .int 0, .int 0, .int 0, .ref b10, .ref b11, .ref b12, .int 0, .ref b13, .ref b14, .ref b15, .ref b16, .ref b17, .ref b18, .ref b19, .ref b20, .ref b21, .ref b22, .ref b23, .ref b24, .int 0, .ref b25, .ref b26, .int 0, .int 0, .int 0, .int 0, .ref b27, .ref b28, .ref b29, .ref b30, .ref b31, .ref b32, .ref b33, .int 0, .ref b34, .ref b35, .int 0, .ref b36, .ref b37, .ref b38, .ref b39, .ref b40, .int 0, .ref b41, .ref b42, .ref b43])), (b5, .inl (G.2 0, 503, .inl (upd (fun _ => 0) 501 1)))]) Z (c9_Model_in l G (p0.toInt64)) hl.1 q1285 q1286 q14 q1287 ⟨by decide, by decide, by show _ = some 3; decide +kernel⟩ ⟨Nat.le_of_ble_eq_true rfl, Nat.le_of_ble_eq_true rfl⟩ ⟨Nat.le_of_ble_eq_true rfl, Nat.le_of_ble_eq_true rfl⟩ rfl (Nat.le_of_ble_eq_true rfl) d_Model_rule_11 hP hD hS hA [] [0, 1] rfl rfl rfl rfl (by decide) (fun v w1 H locs hw_1 hP hD hS => ?_)
  rcases hw_1 with ⟨rfl, rfl, hq_2⟩ | ⟨rfl, rfl, hq_3, hq_4⟩ | ⟨rfl, rfl, hq_5, hq_6⟩
  · try simp only [Int32.toInt_toInt64, ll_0] at hq_2
    have hP : va_P G.1 classes [(b0, .inr (12, [.int 0, .ref b5, .ref b6, .ref b7, .ref b8, .int 0, .ref b9, .int 0, .int 0, .int 0, .int 0, .ref b10, .ref b11, .ref b12, .int 0, .ref b13, .ref b14, .ref b15, .ref b16, .ref b17, .ref b18, .ref b19, .ref b20, .ref b21, .ref b22, .ref b23, .ref b24, .int 0, .ref b25, .ref b26, .int 0, .int 0, .int 0, .int 0, .ref b27, .ref b28, .ref b29, .ref b30, .ref b31, .ref b32, .ref b33, .int 0, .ref b34, .ref b35, .int 0, .ref b36, .ref b37, .ref b38, .ref b39, .ref b40, .int 0, .ref b41, .ref b42, .ref b43])), (b5, .inl (G.2 0, 503, .inl (upd (fun _ => 0) 501 1)))] H := hP
    have hD := z_tie hP hD rfl
    refine W.widen (k := 0) (n := 0) (Nat.le_of_ble_eq_true rfl) (Nat.le_of_ble_eq_true rfl) ?_
    refine lv_if_eq (tgt := 47) hx hb d_Model_rule_14 (by decide) (fun _ => ?_) (fun hc => absurd hc (by decide +kernel))
    refine lv_iconst (v := (-1)) hx hb d_Model_rule_47 (by decide) ?_
    exact z_iret hx hb hr hlocks hP hD hS (Nat.le_of_ble_eq_true rfl) (Nat.le_of_ble_eq_true rfl) d_Model_rule_48 (congrArg (fun z => some (Value.int z)) (by unfold a_rule; (first | rfl | (repeat (first | rw [if_pos (by omega)] | rw [if_neg (by omega)])))))
  · try simp only [Int32.toInt_toInt64, ll_0] at hq_3
    try simp only [Int32.toInt_toInt64, ll_5] at hq_4
    have hP : va_P G.1 classes [(b0, .inr (12, [.int 0, .ref b5, .ref b6, .ref b7, .ref b8, .int 0, .ref b9, .int 0, .int 0, .int 0, .int 0, .ref b10, .ref b11, .ref b12, .int 0, .ref b13, .ref b14, .ref b15, .ref b16, .ref b17, .ref b18, .ref b19, .ref b20, .ref b21, .ref b22, .ref b23, .ref b24, .int 0, .ref b25, .ref b26, .int 0, .int 0, .int 0, .int 0, .ref b27, .ref b28, .ref b29, .ref b30, .ref b31, .ref b32, .ref b33, .int 0, .ref b34, .ref b35, .int 0, .ref b36, .ref b37, .ref b38, .ref b39, .ref b40, .int 0, .ref b41, .ref b42, .ref b43])), (b5, .inl (G.2 0, 503, .inl (upd (fun _ => 0) 501 1)))] H := hP
    have hD := z_tie hP hD rfl
    refine W.widen (k := 0) (n := 0) (Nat.le_of_ble_eq_true rfl) (Nat.le_of_ble_eq_true rfl) ?_
    refine lv_if_eq (tgt := 47) hx hb d_Model_rule_14 (by decide) (fun _ => ?_) (fun hc => absurd hc (by decide +kernel))
    refine lv_iconst (v := (-1)) hx hb d_Model_rule_47 (by decide) ?_
    exact z_iret hx hb hr hlocks hP hD hS (Nat.le_of_ble_eq_true rfl) (Nat.le_of_ble_eq_true rfl) d_Model_rule_48 (congrArg (fun z => some (Value.int z)) (by unfold a_rule; (first | rfl | (repeat (first | rw [if_pos (by omega)] | rw [if_neg (by omega)])))))
  · try simp only [Int32.toInt_toInt64, ll_0] at hq_5
    try simp only [Int32.toInt_toInt64, ll_5] at hq_6
    have hP : va_P G.1 classes [(b0, .inr (12, [.int 0, .ref b5, .ref b6, .ref b7, .ref b8, .int 0, .ref b9, .int 0, .int 0, .int 0, .int 0, .ref b10, .ref b11, .ref b12, .int 0, .ref b13, .ref b14, .ref b15, .ref b16, .ref b17, .ref b18, .ref b19, .ref b20, .ref b21, .ref b22, .ref b23, .ref b24, .int 0, .ref b25, .ref b26, .int 0, .int 0, .int 0, .int 0, .ref b27, .ref b28, .ref b29, .ref b30, .ref b31, .ref b32, .ref b33, .int 0, .ref b34, .ref b35, .int 0, .ref b36, .ref b37, .ref b38, .ref b39, .ref b40, .int 0, .ref b41, .ref b42, .ref b43])), (b5, .inl (G.2 0, 503, .inl (upd (fun _ => 0) 501 1)))] H := hP
    have hD := z_tie hP hD rfl
    refine W.widen (k := 0) (n := 0) (Nat.le_of_ble_eq_true rfl) (Nat.le_of_ble_eq_true rfl) ?_
    refine lv_if_eq (tgt := 47) hx hb d_Model_rule_14 (by decide) (fun hc => absurd hc (by decide +kernel)) (fun _ => ?_)
    refine lv_iload_n hx hb d_Model_rule_17 rfl (lv_at hl 2 rfl) ?_
    refine z_callS (index := 391) (As := [.int p1]) (rest := []) (wr := [(b0, .inr (12, [.int 0, .ref b5, .ref b6, .ref b7, .ref b8, .int 0, .ref b9, .int 0, .int 0, .int 0, .int 0, .ref b10, .ref b11, .ref b12, .int 0, .ref b13, .ref b14, .ref b15, .ref b16, .ref b17, .ref b18, .ref b19, .ref b20, .ref b21, .ref b22, .ref b23, .ref b24, .int 0, .ref b25, .ref b26, .int 0, .int 0, .int 0, .int 0, .ref b27, .ref b28, .ref b29, .ref b30, .ref b31, .ref b32, .ref b33, .int 0, .ref b34, .ref b35, .int 0, .ref b36, .ref b37, .ref b38, .ref b39, .ref b40, .int 0, .ref b41, .ref b42, .ref b43])), (b5, .inl (G.2 0, 503, .inl (upd (fun _ => 0) 501 1)))]) Z (c1_Model_isLetter l G (p1)) hl.1 q1553 q1554 q14 q1555 ⟨by decide, by decide, by show _ = some 1; decide +kernel⟩ ⟨Nat.le_of_ble_eq_true rfl, Nat.le_of_ble_eq_true rfl⟩ ⟨Nat.le_of_ble_eq_true rfl, Nat.le_of_ble_eq_true rfl⟩ rfl (Nat.le_of_ble_eq_true rfl) d_Model_rule_18 hP hD hS hA [] [0, 1] rfl rfl rfl rfl (by decide) (fun v w1 H locs hw_7 hP hD hS => ?_)
    rcases hw_7 with ⟨rfl, rfl, hq_8⟩ | ⟨rfl, rfl, hq_9, hq_10⟩ | ⟨rfl, rfl, hq_11, hq_12⟩
    · try simp only [Int32.toInt_toInt64, ll_0] at hq_8
      have hP : va_P G.1 classes [(b0, .inr (12, [.int 0, .ref b5, .ref b6, .ref b7, .ref b8, .int 0, .ref b9, .int 0, .int 0, .int 0, .int 0, .ref b10, .ref b11, .ref b12, .int 0, .ref b13, .ref b14, .ref b15, .ref b16, .ref b17, .ref b18, .ref b19, .ref b20, .ref b21, .ref b22, .ref b23, .ref b24, .int 0, .ref b25, .ref b26, .int 0, .int 0, .int 0, .int 0, .ref b27, .ref b28, .ref b29, .ref b30, .ref b31, .ref b32, .ref b33, .int 0, .ref b34, .ref b35, .int 0, .ref b36, .ref b37, .ref b38, .ref b39, .ref b40, .int 0, .ref b41, .ref b42, .ref b43])), (b5, .inl (G.2 0, 503, .inl (upd (fun _ => 0) 501 1)))] H := hP
      have hD := z_tie hP hD rfl
      refine W.widen (k := 0) (n := 0) (Nat.le_of_ble_eq_true rfl) (Nat.le_of_ble_eq_true rfl) ?_
      refine lv_if_eq (tgt := 47) hx hb d_Model_rule_21 (by decide) (fun _ => ?_) (fun hc => absurd hc (by decide +kernel))
      refine lv_iconst (v := (-1)) hx hb d_Model_rule_47 (by decide) ?_
      exact z_iret hx hb hr hlocks hP hD hS (Nat.le_of_ble_eq_true rfl) (Nat.le_of_ble_eq_true rfl) d_Model_rule_48 (congrArg (fun z => some (Value.int z)) (by unfold a_rule; (first | rfl | (repeat (first | rw [if_pos (by omega)] | rw [if_neg (by omega)])))))
    · try simp only [Int32.toInt_toInt64, ll_0] at hq_9
      try simp only [Int32.toInt_toInt64, ll_9] at hq_10
      have hP : va_P G.1 classes [(b0, .inr (12, [.int 0, .ref b5, .ref b6, .ref b7, .ref b8, .int 0, .ref b9, .int 0, .int 0, .int 0, .int 0, .ref b10, .ref b11, .ref b12, .int 0, .ref b13, .ref b14, .ref b15, .ref b16, .ref b17, .ref b18, .ref b19, .ref b20, .ref b21, .ref b22, .ref b23, .ref b24, .int 0, .ref b25, .ref b26, .int 0, .int 0, .int 0, .int 0, .ref b27, .ref b28, .ref b29, .ref b30, .ref b31, .ref b32, .ref b33, .int 0, .ref b34, .ref b35, .int 0, .ref b36, .ref b37, .ref b38, .ref b39, .ref b40, .int 0, .ref b41, .ref b42, .ref b43])), (b5, .inl (G.2 0, 503, .inl (upd (fun _ => 0) 501 1)))] H := hP
      have hD := z_tie hP hD rfl
      refine W.widen (k := 0) (n := 0) (Nat.le_of_ble_eq_true rfl) (Nat.le_of_ble_eq_true rfl) ?_
      refine lv_if_eq (tgt := 47) hx hb d_Model_rule_21 (by decide) (fun _ => ?_) (fun hc => absurd hc (by decide +kernel))
      refine lv_iconst (v := (-1)) hx hb d_Model_rule_47 (by decide) ?_
      exact z_iret hx hb hr hlocks hP hD hS (Nat.le_of_ble_eq_true rfl) (Nat.le_of_ble_eq_true rfl) d_Model_rule_48 (congrArg (fun z => some (Value.int z)) (by unfold a_rule; (first | rfl | (repeat (first | rw [if_pos (by omega)] | rw [if_neg (by omega)])))))
    · try simp only [Int32.toInt_toInt64, ll_0] at hq_11
      try simp only [Int32.toInt_toInt64, ll_9] at hq_12
      have hP : va_P G.1 classes [(b0, .inr (12, [.int 0, .ref b5, .ref b6, .ref b7, .ref b8, .int 0, .ref b9, .int 0, .int 0, .int 0, .int 0, .ref b10, .ref b11, .ref b12, .int 0, .ref b13, .ref b14, .ref b15, .ref b16, .ref b17, .ref b18, .ref b19, .ref b20, .ref b21, .ref b22, .ref b23, .ref b24, .int 0, .ref b25, .ref b26, .int 0, .int 0, .int 0, .int 0, .ref b27, .ref b28, .ref b29, .ref b30, .ref b31, .ref b32, .ref b33, .int 0, .ref b34, .ref b35, .int 0, .ref b36, .ref b37, .ref b38, .ref b39, .ref b40, .int 0, .ref b41, .ref b42, .ref b43])), (b5, .inl (G.2 0, 503, .inl (upd (fun _ => 0) 501 1)))] H := hP
      have hD := z_tie hP hD rfl
      refine W.widen (k := 0) (n := 0) (Nat.le_of_ble_eq_true rfl) (Nat.le_of_ble_eq_true rfl) ?_
      refine lv_if_eq (tgt := 47) hx hb d_Model_rule_21 (by decide) (fun hc => absurd hc (by decide +kernel)) (fun _ => ?_)
      refine lv_iload_n hx hb d_Model_rule_24 rfl (lv_at hl 3 rfl) ?_
      refine z_callS (index := 391) (As := [.int p2]) (rest := []) (wr := [(b0, .inr (12, [.int 0, .ref b5, .ref b6, .ref b7, .ref b8, .int 0, .ref b9, .int 0, .int 0, .int 0, .int 0, .ref b10, .ref b11, .ref b12, .int 0, .ref b13, .ref b14, .ref b15, .ref b16, .ref b17, .ref b18, .ref b19, .ref b20, .ref b21, .ref b22, .ref b23, .ref b24, .int 0, .ref b25, .ref b26, .int 0, .int 0, .int 0, .int 0, .ref b27, .ref b28, .ref b29, .ref b30, .ref b31, .ref b32, .ref b33, .int 0, .ref b34, .ref b35, .int 0, .ref b36, .ref b37, .ref b38, .ref b39, .ref b40, .int 0, .ref b41, .ref b42, .ref b43])), (b5, .inl (G.2 0, 503, .inl (upd (fun _ => 0) 501 1)))]) Z (c1_Model_isLetter l G (p2)) hl.1 q1553 q1554 q14 q1555 ⟨by decide, by decide, by show _ = some 1; decide +kernel⟩ ⟨Nat.le_of_ble_eq_true rfl, Nat.le_of_ble_eq_true rfl⟩ ⟨Nat.le_of_ble_eq_true rfl, Nat.le_of_ble_eq_true rfl⟩ rfl (Nat.le_of_ble_eq_true rfl) d_Model_rule_25 hP hD hS hA [] [0, 1] rfl rfl rfl rfl (by decide) (fun v w1 H locs hw_13 hP hD hS => ?_)
      rcases hw_13 with ⟨rfl, rfl, hq_14⟩ | ⟨rfl, rfl, hq_15, hq_16⟩ | ⟨rfl, rfl, hq_17, hq_18⟩
      · try simp only [Int32.toInt_toInt64, ll_0] at hq_14
        have hP : va_P G.1 classes [(b0, .inr (12, [.int 0, .ref b5, .ref b6, .ref b7, .ref b8, .int 0, .ref b9, .int 0, .int 0, .int 0, .int 0, .ref b10, .ref b11, .ref b12, .int 0, .ref b13, .ref b14, .ref b15, .ref b16, .ref b17, .ref b18, .ref b19, .ref b20, .ref b21, .ref b22, .ref b23, .ref b24, .int 0, .ref b25, .ref b26, .int 0, .int 0, .int 0, .int 0, .ref b27, .ref b28, .ref b29, .ref b30, .ref b31, .ref b32, .ref b33, .int 0, .ref b34, .ref b35, .int 0, .ref b36, .ref b37, .ref b38, .ref b39, .ref b40, .int 0, .ref b41, .ref b42, .ref b43])), (b5, .inl (G.2 0, 503, .inl (upd (fun _ => 0) 501 1)))] H := hP
        have hD := z_tie hP hD rfl
        refine W.widen (k := 0) (n := 0) (Nat.le_of_ble_eq_true rfl) (Nat.le_of_ble_eq_true rfl) ?_
        refine lv_if_eq (tgt := 47) hx hb d_Model_rule_28 (by decide) (fun _ => ?_) (fun hc => absurd hc (by decide +kernel))
        refine lv_iconst (v := (-1)) hx hb d_Model_rule_47 (by decide) ?_
        exact z_iret hx hb hr hlocks hP hD hS (Nat.le_of_ble_eq_true rfl) (Nat.le_of_ble_eq_true rfl) d_Model_rule_48 (congrArg (fun z => some (Value.int z)) (by unfold a_rule; (first | rfl | (repeat (first | rw [if_pos (by omega)] | rw [if_neg (by omega)])))))
      · try simp only [Int32.toInt_toInt64, ll_0] at hq_15
        try simp only [Int32.toInt_toInt64, ll_9] at hq_16
        have hP : va_P G.1 classes [(b0, .inr (12, [.int 0, .ref b5, .ref b6, .ref b7, .ref b8, .int 0, .ref b9, .int 0, .int 0, .int 0, .int 0, .ref b10, .ref b11, .ref b12, .int 0, .ref b13, .ref b14, .ref b15, .ref b16, .ref b17, .ref b18, .ref b19, .ref b20, .ref b21, .ref b22, .ref b23, .ref b24, .int 0, .ref b25, .ref b26, .int 0, .int 0, .int 0, .int 0, .ref b27, .ref b28, .ref b29, .ref b30, .ref b31, .ref b32, .ref b33, .int 0, .ref b34, .ref b35, .int 0, .ref b36, .ref b37, .ref b38, .ref b39, .ref b40, .int 0, .ref b41, .ref b42, .ref b43])), (b5, .inl (G.2 0, 503, .inl (upd (fun _ => 0) 501 1)))] H := hP
        have hD := z_tie hP hD rfl
        refine W.widen (k := 0) (n := 0) (Nat.le_of_ble_eq_true rfl) (Nat.le_of_ble_eq_true rfl) ?_
        refine lv_if_eq (tgt := 47) hx hb d_Model_rule_28 (by decide) (fun _ => ?_) (fun hc => absurd hc (by decide +kernel))
        refine lv_iconst (v := (-1)) hx hb d_Model_rule_47 (by decide) ?_
        exact z_iret hx hb hr hlocks hP hD hS (Nat.le_of_ble_eq_true rfl) (Nat.le_of_ble_eq_true rfl) d_Model_rule_48 (congrArg (fun z => some (Value.int z)) (by unfold a_rule; (first | rfl | (repeat (first | rw [if_pos (by omega)] | rw [if_neg (by omega)])))))
      · try simp only [Int32.toInt_toInt64, ll_0] at hq_17
        try simp only [Int32.toInt_toInt64, ll_9] at hq_18
        have hP : va_P G.1 classes [(b0, .inr (12, [.int 0, .ref b5, .ref b6, .ref b7, .ref b8, .int 0, .ref b9, .int 0, .int 0, .int 0, .int 0, .ref b10, .ref b11, .ref b12, .int 0, .ref b13, .ref b14, .ref b15, .ref b16, .ref b17, .ref b18, .ref b19, .ref b20, .ref b21, .ref b22, .ref b23, .ref b24, .int 0, .ref b25, .ref b26, .int 0, .int 0, .int 0, .int 0, .ref b27, .ref b28, .ref b29, .ref b30, .ref b31, .ref b32, .ref b33, .int 0, .ref b34, .ref b35, .int 0, .ref b36, .ref b37, .ref b38, .ref b39, .ref b40, .int 0, .ref b41, .ref b42, .ref b43])), (b5, .inl (G.2 0, 503, .inl (upd (fun _ => 0) 501 1)))] H := hP
        have hD := z_tie hP hD rfl
        refine W.widen (k := 0) (n := 0) (Nat.le_of_ble_eq_true rfl) (Nat.le_of_ble_eq_true rfl) ?_
        refine lv_if_eq (tgt := 47) hx hb d_Model_rule_28 (by decide) (fun hc => absurd hc (by decide +kernel)) (fun _ => ?_)
        refine lv_iload_n hx hb d_Model_rule_31 rfl (lv_at hl 2 rfl) ?_
        refine lv_iload_n hx hb d_Model_rule_32 rfl (lv_at hl 3 rfl) ?_
        refine lv_icmp_eq (tgt := 47) hx hb d_Model_rule_33 (by decide) (fun hc_19 => ?_) (fun hc_19 => ?_)
        · simp only [fa_lt, fa_le, fa_eq, Int32.toInt_toInt64] at hc_19
          refine lv_iconst (v := (-1)) hx hb d_Model_rule_47 (by decide) ?_
          exact z_iret hx hb hr hlocks hP hD hS (Nat.le_of_ble_eq_true rfl) (Nat.le_of_ble_eq_true rfl) d_Model_rule_48 (congrArg (fun z => some (Value.int z)) (by unfold a_rule; (first | rfl | (repeat (first | rw [if_pos (by omega)] | rw [if_neg (by omega)])))))
        · simp only [fa_lt, fa_le, fa_eq, Int32.toInt_toInt64] at hc_19
          refine lv_iload hx hb d_Model_rule_36 (lv_at hl 4 rfl) ?_
          refine lv_i2l (v := p3.toInt64) hx hb d_Model_rule_38 rfl ?_
          refine lv_lconst (v := 0) hx hb d_Model_rule_39 (by decide) ?_
          refine lv_lconst (v := 1) hx hb d_Model_rule_40 (by decide) ?_
          refine z_callS (index := 138) (As := [.long p3.toInt64, .long 0, .long 1]) (rest := []) (wr := [(b0, .inr (12, [.int 0, .ref b5, .ref b6, .ref b7, .ref b8, .int 0, .ref b9, .int 0, .int 0, .int 0, .int 0, .ref b10, .ref b11, .ref b12, .int 0, .ref b13, .ref b14, .ref b15, .ref b16, .ref b17, .ref b18, .ref b19, .ref b20, .ref b21, .ref b22, .ref b23, .ref b24, .int 0, .ref b25, .ref b26, .int 0, .int 0, .int 0, .int 0, .ref b27, .ref b28, .ref b29, .ref b30, .ref b31, .ref b32, .ref b33, .int 0, .ref b34, .ref b35, .int 0, .ref b36, .ref b37, .ref b38, .ref b39, .ref b40, .int 0, .ref b41, .ref b42, .ref b43])), (b5, .inl (G.2 0, 503, .inl (upd (fun _ => 0) 501 1)))]) Z (c6_Model_in l G (p3.toInt64)) hl.1 q1285 q1286 q14 q1287 ⟨by decide, by decide, by show _ = some 3; decide +kernel⟩ ⟨Nat.le_of_ble_eq_true rfl, Nat.le_of_ble_eq_true rfl⟩ ⟨Nat.le_of_ble_eq_true rfl, Nat.le_of_ble_eq_true rfl⟩ rfl (Nat.le_of_ble_eq_true rfl) d_Model_rule_41 hP hD hS hA [] [0, 1] rfl rfl rfl rfl (by decide) (fun v w1 H locs hw_20 hP hD hS => ?_)
          rcases hw_20 with ⟨rfl, rfl, hq_21⟩ | ⟨rfl, rfl, hq_22, hq_23⟩ | ⟨rfl, rfl, hq_24, hq_25⟩
          · try simp only [Int32.toInt_toInt64, ll_0] at hq_21
            have hP : va_P G.1 classes [(b0, .inr (12, [.int 0, .ref b5, .ref b6, .ref b7, .ref b8, .int 0, .ref b9, .int 0, .int 0, .int 0, .int 0, .ref b10, .ref b11, .ref b12, .int 0, .ref b13, .ref b14, .ref b15, .ref b16, .ref b17, .ref b18, .ref b19, .ref b20, .ref b21, .ref b22, .ref b23, .ref b24, .int 0, .ref b25, .ref b26, .int 0, .int 0, .int 0, .int 0, .ref b27, .ref b28, .ref b29, .ref b30, .ref b31, .ref b32, .ref b33, .int 0, .ref b34, .ref b35, .int 0, .ref b36, .ref b37, .ref b38, .ref b39, .ref b40, .int 0, .ref b41, .ref b42, .ref b43])), (b5, .inl (G.2 0, 503, .inl (upd (fun _ => 0) 501 1)))] H := hP
            have hD := z_tie hP hD rfl
            refine W.widen (k := 0) (n := 0) (Nat.le_of_ble_eq_true rfl) (Nat.le_of_ble_eq_true rfl) ?_
            refine lv_if_ne (tgt := 49) hx hb d_Model_rule_44 (by decide) (fun hc => absurd hc (by decide +kernel)) (fun _ => ?_)
            refine lv_iconst (v := (-1)) hx hb d_Model_rule_47 (by decide) ?_
            exact z_iret hx hb hr hlocks hP hD hS (Nat.le_of_ble_eq_true rfl) (Nat.le_of_ble_eq_true rfl) d_Model_rule_48 (congrArg (fun z => some (Value.int z)) (by unfold a_rule; (first | rfl | (repeat (first | rw [if_pos (by omega)] | rw [if_neg (by omega)])))))
          · try simp only [Int32.toInt_toInt64, ll_0] at hq_22
            try simp only [Int32.toInt_toInt64, ll_1] at hq_23
            have hP : va_P G.1 classes [(b0, .inr (12, [.int 0, .ref b5, .ref b6, .ref b7, .ref b8, .int 0, .ref b9, .int 0, .int 0, .int 0, .int 0, .ref b10, .ref b11, .ref b12, .int 0, .ref b13, .ref b14, .ref b15, .ref b16, .ref b17, .ref b18, .ref b19, .ref b20, .ref b21, .ref b22, .ref b23, .ref b24, .int 0, .ref b25, .ref b26, .int 0, .int 0, .int 0, .int 0, .ref b27, .ref b28, .ref b29, .ref b30, .ref b31, .ref b32, .ref b33, .int 0, .ref b34, .ref b35, .int 0, .ref b36, .ref b37, .ref b38, .ref b39, .ref b40, .int 0, .ref b41, .ref b42, .ref b43])), (b5, .inl (G.2 0, 503, .inl (upd (fun _ => 0) 501 1)))] H := hP
            have hD := z_tie hP hD rfl
            refine W.widen (k := 0) (n := 0) (Nat.le_of_ble_eq_true rfl) (Nat.le_of_ble_eq_true rfl) ?_
            refine lv_if_ne (tgt := 49) hx hb d_Model_rule_44 (by decide) (fun hc => absurd hc (by decide +kernel)) (fun _ => ?_)
            refine lv_iconst (v := (-1)) hx hb d_Model_rule_47 (by decide) ?_
            exact z_iret hx hb hr hlocks hP hD hS (Nat.le_of_ble_eq_true rfl) (Nat.le_of_ble_eq_true rfl) d_Model_rule_48 (congrArg (fun z => some (Value.int z)) (by unfold a_rule; (first | rfl | (repeat (first | rw [if_pos (by omega)] | rw [if_neg (by omega)])))))
          · try simp only [Int32.toInt_toInt64, ll_0] at hq_24
            try simp only [Int32.toInt_toInt64, ll_1] at hq_25
            have hP : va_P G.1 classes [(b0, .inr (12, [.int 0, .ref b5, .ref b6, .ref b7, .ref b8, .int 0, .ref b9, .int 0, .int 0, .int 0, .int 0, .ref b10, .ref b11, .ref b12, .int 0, .ref b13, .ref b14, .ref b15, .ref b16, .ref b17, .ref b18, .ref b19, .ref b20, .ref b21, .ref b22, .ref b23, .ref b24, .int 0, .ref b25, .ref b26, .int 0, .int 0, .int 0, .int 0, .ref b27, .ref b28, .ref b29, .ref b30, .ref b31, .ref b32, .ref b33, .int 0, .ref b34, .ref b35, .int 0, .ref b36, .ref b37, .ref b38, .ref b39, .ref b40, .int 0, .ref b41, .ref b42, .ref b43])), (b5, .inl (G.2 0, 503, .inl (upd (fun _ => 0) 501 1)))] H := hP
            have hD := z_tie hP hD rfl
            refine W.widen (k := 0) (n := 0) (Nat.le_of_ble_eq_true rfl) (Nat.le_of_ble_eq_true rfl) ?_
            refine lv_if_ne (tgt := 49) hx hb d_Model_rule_44 (by decide) (fun _ => ?_) (fun hc => absurd hc (by decide +kernel))
            refine lv_aload_n hx hb d_Model_rule_49 rfl (lv_at hl 0 rfl) ?_
            refine lv_iload_n hx hb d_Model_rule_50 rfl (lv_at hl 1 rfl) ?_
            refine lv_iload_n hx hb d_Model_rule_51 rfl (lv_at hl 2 rfl) ?_
            refine lv_iload_n hx hb d_Model_rule_52 rfl (lv_at hl 3 rfl) ?_
            refine lv_iload hx hb d_Model_rule_53 (lv_at hl 4 rfl) ?_
            refine lv_iconst (v := 1) hx hb d_Model_rule_55 (by decide) ?_
            refine lv_icmp_ne (tgt := 63) hx hb d_Model_rule_56 (by decide) (fun hc_26 => ?_) (fun hc_26 => ?_)
            · simp only [fa_lt, fa_le, fa_eq, Int32.toInt_toInt64, li_1] at hc_26
              refine lv_iconst (v := 0) hx hb d_Model_rule_63 (by decide) ?_
              refine z_callV (index := 394) (As := [.int p0, .int p1, .int p2, .int 0]) (rest := []) (wr := []) Z (c1_Model_asked l G (b0) (p0) (p1) (p2) (b5) (b6) (b7) (b8) (b9) (b10) (b11) (b12) (b13) (b14) (b15) (b16) (b17) (b18) (b19) (b20) (b21) (b22) (b23) (b24) (b25) (b26) (b27) (b28) (b29) (b30) (b31) (b32) (b33) (b34) (b35) (b36) (b37) (b38) (b39) (b40) (b41) (b42) (b43) (by first | assumption | decide +kernel | omega) (by first | assumption | decide +kernel | omega) (by first | assumption | decide +kernel | omega) (by first | assumption | decide +kernel | omega) (by first | assumption | decide +kernel | omega) (by first | assumption | decide +kernel | omega)) hl.1 q1557 q1559 qs87 q14 q1560 ⟨by decide, by decide, by show _ = some 4; decide +kernel⟩ ⟨Nat.le_of_ble_eq_true rfl, Nat.le_of_ble_eq_true rfl⟩ ⟨Nat.le_of_ble_eq_true rfl, Nat.le_of_ble_eq_true rfl⟩ rfl (Nat.le_of_ble_eq_true rfl) d_Model_rule_64 hP hD hS hA 0 12 rfl rfl rfl [0, 1] [] rfl rfl rfl rfl (by decide) (fun v w1 H locs hw_27 hP hD hS => ?_)
              obtain ⟨rfl, rfl⟩ := hw_27
              have hP : va_P G.1 classes [(b0, .inr (12, [.int 0, .ref b5, .ref b6, .ref b7, .ref b8, .int 0, .ref b9, .int 0, .int 0, .int 0, .int 0, .ref b10, .ref b11, .ref b12, .int 0, .ref b13, .ref b14, .ref b15, .ref b16, .ref b17, .ref b18, .ref b19, .ref b20, .ref b21, .ref b22, .ref b23, .ref b24, .int 0, .ref b25, .ref b26, .int 0, .int 0, .int 0, .int 0, .ref b27, .ref b28, .ref b29, .ref b30, .ref b31, .ref b32, .ref b33, .int 0, .ref b34, .ref b35, .int 0, .ref b36, .ref b37, .ref b38, .ref b39, .ref b40, .int 0, .ref b41, .ref b42, .ref b43])), (b5, .inl (G.2 0, 503, .inl (upd (fun _ => 0) 501 1)))] H := hP
              have hD := z_tie hP hD rfl
              refine W.widen (k := 0) (n := 0) (Nat.le_of_ble_eq_true rfl) (Nat.le_of_ble_eq_true rfl) ?_
              exact z_iret hx hb hr hlocks hP hD hS (Nat.le_of_ble_eq_true rfl) (Nat.le_of_ble_eq_true rfl) d_Model_rule_67 (congrArg (fun z => some (Value.int z)) (by unfold a_rule; (first | rfl | (repeat (first | rw [if_pos (by omega)] | rw [if_neg (by omega)])))))
            · simp only [fa_lt, fa_le, fa_eq, Int32.toInt_toInt64, li_1] at hc_26
              refine lv_iconst (v := 1) hx hb d_Model_rule_59 (by decide) ?_
              refine lv_goto (tgt := 64) hx hb d_Model_rule_60 (by decide) ?_
              refine z_callV (index := 394) (As := [.int p0, .int p1, .int p2, .int 1]) (rest := []) (wr := []) Z (c2_Model_asked l G (b0) (p0) (p1) (p2) (b5) (b6) (b7) (b8) (b9) (b10) (b11) (b12) (b13) (b14) (b15) (b16) (b17) (b18) (b19) (b20) (b21) (b22) (b23) (b24) (b25) (b26) (b27) (b28) (b29) (b30) (b31) (b32) (b33) (b34) (b35) (b36) (b37) (b38) (b39) (b40) (b41) (b42) (b43) (by first | assumption | decide +kernel | omega) (by first | assumption | decide +kernel | omega) (by first | assumption | decide +kernel | omega) (by first | assumption | decide +kernel | omega) (by first | assumption | decide +kernel | omega) (by first | assumption | decide +kernel | omega)) hl.1 q1557 q1559 qs87 q14 q1560 ⟨by decide, by decide, by show _ = some 4; decide +kernel⟩ ⟨Nat.le_of_ble_eq_true rfl, Nat.le_of_ble_eq_true rfl⟩ ⟨Nat.le_of_ble_eq_true rfl, Nat.le_of_ble_eq_true rfl⟩ rfl (Nat.le_of_ble_eq_true rfl) d_Model_rule_64 hP hD hS hA 0 12 rfl rfl rfl [0, 1] [] rfl rfl rfl rfl (by decide) (fun v w1 H locs hw_28 hP hD hS => ?_)
              obtain ⟨rfl, rfl⟩ := hw_28
              have hP : va_P G.1 classes [(b0, .inr (12, [.int 0, .ref b5, .ref b6, .ref b7, .ref b8, .int 0, .ref b9, .int 0, .int 0, .int 0, .int 0, .ref b10, .ref b11, .ref b12, .int 0, .ref b13, .ref b14, .ref b15, .ref b16, .ref b17, .ref b18, .ref b19, .ref b20, .ref b21, .ref b22, .ref b23, .ref b24, .int 0, .ref b25, .ref b26, .int 0, .int 0, .int 0, .int 0, .ref b27, .ref b28, .ref b29, .ref b30, .ref b31, .ref b32, .ref b33, .int 0, .ref b34, .ref b35, .int 0, .ref b36, .ref b37, .ref b38, .ref b39, .ref b40, .int 0, .ref b41, .ref b42, .ref b43])), (b5, .inl (G.2 0, 503, .inl (upd (fun _ => 0) 501 1)))] H := hP
              have hD := z_tie hP hD rfl
              refine W.widen (k := 0) (n := 0) (Nat.le_of_ble_eq_true rfl) (Nat.le_of_ble_eq_true rfl) ?_
              exact z_iret hx hb hr hlocks hP hD hS (Nat.le_of_ble_eq_true rfl) (Nat.le_of_ble_eq_true rfl) d_Model_rule_67 (congrArg (fun z => some (Value.int z)) (by unfold a_rule; (first | rfl | (repeat (first | rw [if_pos (by omega)] | rw [if_neg (by omega)])))))
