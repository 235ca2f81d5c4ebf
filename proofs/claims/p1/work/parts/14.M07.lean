theorem d_Model_drop_0 : decode prog_14_method_19_code 0 = .ok (.aload_n 0, 1) := by decide +kernel
theorem d_Model_drop_1 : decode prog_14_method_19_code 1 = .ok (.iconst 0, 1) := by decide +kernel
theorem d_Model_drop_2 : decode prog_14_method_19_code 2 = .ok (.putfield 1, 3) := by decide +kernel
theorem d_Model_drop_5 : decode prog_14_method_19_code 5 = .ok (.aload_n 0, 1) := by decide +kernel
theorem d_Model_drop_6 : decode prog_14_method_19_code 6 = .ok (.iload_n 1, 1) := by decide +kernel
theorem d_Model_drop_7 : decode prog_14_method_19_code 7 = .ok (.invokevirtual 191, 3) := by decide +kernel
theorem d_Model_isTrace_0 : decode prog_14_method_5_code 0 = .ok (.iload_n 1, 1) := by decide +kernel
theorem d_Model_isTrace_1 : decode prog_14_method_5_code 1 = .ok (.i2l, 1) := by decide +kernel
theorem d_Model_isTrace_2 : decode prog_14_method_5_code 2 = .ok (.lconst 0, 1) := by decide +kernel
theorem d_Model_isTrace_3 : decode prog_14_method_5_code 3 = .ok (.aload_n 0, 1) := by decide +kernel
theorem d_Model_isTrace_4 : decode prog_14_method_5_code 4 = .ok (.invokevirtual 134, 3) := by decide +kernel
abbrev m_c2_Model_many : Room := { frames := 0, cells := 0, slots := 0, locals := 0 }
set_option maxHeartbeats 4000000 in
set_option maxRecDepth 100000 in
theorem c2_Model_many (l : Launch) (G : zG) (b0 : Nat) (b1 : Nat) (b2 : Nat) (b3 : Nat) (b4 : Nat) (b5 : Nat) (b6 : Nat) (b7 : Nat) (b8 : Nat) (b9 : Nat) (b10 : Nat) (b11 : Nat) (b12 : Nat) (b13 : Nat) (b14 : Nat) (b15 : Nat) (b16 : Nat) (b17 : Nat) (b18 : Nat) (b19 : Nat) (b20 : Nat) (b21 : Nat) (b22 : Nat) (b23 : Nat) (b24 : Nat) (b25 : Nat) (b26 : Nat) (b27 : Nat) (b28 : Nat) (b29 : Nat) (b30 : Nat) (b31 : Nat) (b32 : Nat) (b33 : Nat) (b34 : Nat) (b35 : Nat) (b36 : Nat) (b37 : Nat) (b38 : Nat) (b39 : Nat)  : zM l G y_Model_many prog_14_method_4_code 1 (Option.some Jvm.ClassFile.FieldType.int) m_c2_Model_many [.ref b0] [(b0, .inr (12, [.int 0, .ref b1, .ref b2, .ref b3, .ref b4, .int 0, .ref b5, .int 0, .int 0, .int 0, .int 0, .ref b6, .ref b7, .ref b8, .int 0, .ref b9, .ref b10, .ref b11, .ref b12, .ref b13, .ref b14, .ref b15, .ref b16, .ref b17, .ref b18, .ref b19, .ref b20, .int 0, .ref b21, .ref b22, .int 0, .int 0, .int 0, .int 0, .ref b23, .ref b24, .ref b25, .ref b26, .ref b27, .ref b28, .ref b29, .int 0, .ref b30, .ref b31, .int 0, .ref b32, .ref b33, .ref b34, .ref b35, .ref b36, .int 0, .ref b37, .ref b38, .ref b39])), (b1, .inl (G.2 0, 503, .inl (upd (fun _ => 0) 501 1)))] (fun v w => (v = some (.int 0) ∧ w = [(b0, .inr (12, [.int 0, .ref b1, .ref b2, .ref b3, .ref b4, .int 0, .ref b5, .int 0, .int 0, .int 0, .int 0, .ref b6, .ref b7, .ref b8, .int 0, .ref b9, .ref b10, .ref b11, .ref b12, .ref b13, .ref b14, .ref b15, .ref b16, .ref b17, .ref b18, .ref b19, .ref b20, .int 0, .ref b21, .ref b22, .int 0, .int 0, .int 0, .int 0, .ref b23, .ref b24, .ref b25, .ref b26, .ref b27, .ref b28, .ref b29, .int 0, .ref b30, .ref b31, .int 0, .ref b32, .ref b33, .ref b34, .ref b35, .ref b36, .int 0, .ref b37, .ref b38, .ref b39])), (b1, .inl (G.2 0, 503, .inl (upd (fun _ => 0) 501 1)))])) := by
  refine z_start (by decide +kernel) (Nat.le_of_ble_eq_true rfl) ?_
  intro p e s m below meth c A Z hr hnm hA hP hD hS ls hl
  have Z : zC p s m _ meth c prog_14_method_4_code 1 "TraceMachinesModel" G := Z
  obtain ⟨hx, hb, hml, hown, hts, hK, hN, hlocks⟩ := id Z
  have hl : lv_has ls 1 [(0, .ref b0)] := hl
  refine lv_aload_n hx hb d_Model_many_0 rfl (lv_at hl 0 rfl) ?_
  refine va_get (D := G.1) (ci := 12) (v := .ref b1) (C := R_Model) (T := F_Model) (N := 54) hx hb hts i_Model hown hK hP 0 rfl rfl 1 (by decide) (hts _ q1114) (fun _ h9 => h9) rfl d_Model_many_1 ?_
  refine lv_iconst (v := 0) hx hb d_Model_many_4 (by decide) ?_
  refine va_iald hx hb hK hP 1 0 rfl rfl (i := 0) (z_in rfl) d_Model_many_5 ?_
  refine z_topi (y := 0) rfl ?_
  exact z_iret hx hb hr hlocks hP hD hS (Nat.le_of_ble_eq_true rfl) (Nat.le_of_ble_eq_true rfl) d_Model_many_6 ⟨rfl, rfl⟩
theorem d_Model_isTrace_7 : decode prog_14_method_5_code 7 = .ok (.i2l, 1) := by decide +kernel
theorem d_Model_isTrace_8 : decode prog_14_method_5_code 8 = .ok (.lconst 1, 1) := by decide +kernel
theorem d_Model_isTrace_9 : decode prog_14_method_5_code 9 = .ok (.lsub, 1) := by decide +kernel
theorem d_Model_isTrace_10 : decode prog_14_method_5_code 10 = .ok (.invokestatic 138, 3) := by decide +kernel
theorem ll_m1 : ((-1) : Int64).toInt = (-1) := by decide +kernel
abbrev m_c3_Model_in : Room := { frames := 0, cells := 0, slots := 0, locals := 0 }
set_option maxHeartbeats 4000000 in
set_option maxRecDepth 100000 in
theorem c3_Model_in (l : Launch) (G : zG) (b0 : Int64)  : zM l G y_Model_in prog_14_method_3_code 6 (Option.some Jvm.ClassFile.FieldType.boolean) m_c3_Model_in [.long b0, .long 0, .long (-1)] [] (fun v w => (v = some (.int 0) ∧ w = [])) := by
  refine z_start (by decide +kernel) (Nat.le_of_ble_eq_true rfl) ?_
  intro p e s m below meth c A Z hr hnm hA hP hD hS ls hl
  have Z : zC p s m _ meth c prog_14_method_3_code 6 "TraceMachinesModel" G := Z
  obtain ⟨hx, hb, hml, hown, hts, hK, hN, hlocks⟩ := id Z
  have hl : lv_has ls 6 [(0, .long b0), (2, .long 0), (4, .long (-1))] := hl
  refine lv_lload_n hx hb d_Model_in_0 rfl (lv_at hl 0 rfl) ?_
  refine lv_lload_n hx hb d_Model_in_1 rfl (lv_at hl 1 rfl) ?_
  refine W.lcmp hx hb d_Model_in_2 ?_
  refine lv_topi (fun v_1 ev_1 => ?_)
  refine lv_if_lt (tgt := 17) hx hb d_Model_in_3 (by decide) (fun hc_2 => ?_) (fun hc_2 => ?_)
  · rw [ev_1] at hc_2; simp only [lg_cmp_lt, lg_cmp_le, lg_cmp_gt, lg_cmp_ge, lg_cmp_eq] at hc_2; simp only [fa_lt64, fa_le64, fa_eq64, Int32.toInt_toInt64, ll_0] at hc_2
    refine lv_iconst (v := 0) hx hb d_Model_in_17 (by decide) ?_
    exact z_zret hx hb hr hlocks rfl hP hD hS (Nat.le_of_ble_eq_true rfl) (Nat.le_of_ble_eq_true rfl) d_Model_in_18 ⟨rfl, rfl⟩
  · rw [ev_1] at hc_2; simp only [lg_cmp_lt, lg_cmp_le, lg_cmp_gt, lg_cmp_ge, lg_cmp_eq] at hc_2; simp only [fa_lt64, fa_le64, fa_eq64, Int32.toInt_toInt64, ll_0] at hc_2
    refine lv_lload_n hx hb d_Model_in_6 rfl (lv_at hl 0 rfl) ?_
    refine lv_lload hx hb d_Model_in_7 (lv_at hl 2 rfl) ?_
    refine W.lcmp hx hb d_Model_in_9 ?_
    refine lv_topi (fun v_3 ev_3 => ?_)
    refine lv_if_gt (tgt := 17) hx hb d_Model_in_10 (by decide) (fun _ => ?_) (fun hc => absurd hc (by intro hc; rw [ev_3] at hc; simp only [lg_cmp_lt, lg_cmp_le, lg_cmp_gt, lg_cmp_ge, lg_cmp_eq] at hc; simp only [fa_lt64, fa_le64, fa_eq64, Int32.toInt_toInt64, ll_m1] at hc; omega))
    refine lv_iconst (v := 0) hx hb d_Model_in_17 (by decide) ?_
    exact z_zret hx hb hr hlocks rfl hP hD hS (Nat.le_of_ble_eq_true rfl) (Nat.le_of_ble_eq_true rfl) d_Model_in_18 ⟨rfl, rfl⟩
theorem d_Model_isTrace_13 : decode prog_14_method_5_code 13 = .ok (.ireturn, 1) := by decide +kernel
abbrev m_c1_Model_isTrace : Room := { frames := 1, cells := 0, slots := 0, locals := 25 }
set_option maxHeartbeats 4000000 in
set_option maxRecDepth 100000 in
theorem c1_Model_isTrace (l : Launch) (G : zG) (b0 : Nat) (b1 : Int32) (b2 : Nat) (b3 : Nat) (b4 : Nat) (b5 : Nat) (b6 : Nat) (b7 : Nat) (b8 : Nat) (b9 : Nat) (b10 : Nat) (b11 : Nat) (b12 : Nat) (b13 : Nat) (b14 : Nat) (b15 : Nat) (b16 : Nat) (b17 : Nat) (b18 : Nat) (b19 : Nat) (b20 : Nat) (b21 : Nat) (b22 : Nat) (b23 : Nat) (b24 : Nat) (b25 : Nat) (b26 : Nat) (b27 : Nat) (b28 : Nat) (b29 : Nat) (b30 : Nat) (b31 : Nat) (b32 : Nat) (b33 : Nat) (b34 : Nat) (b35 : Nat) (b36 : Nat) (b37 : Nat) (b38 : Nat) (b39 : Nat) (b40 : Nat)  : zM l G y_Model_isTrace prog_14_method_5_code 2 (Option.some Jvm.ClassFile.FieldType.boolean) m_c1_Model_isTrace [.ref b0, .int b1] [(b0, .inr (12, [.int 0, .ref b2, .ref b3, .ref b4, .ref b5, .int 0, .ref b6, .int 0, .int 0, .int 0, .int 0, .ref b7, .ref b8, .ref b9, .int 0, .ref b10, .ref b11, .ref b12, .ref b13, .ref b14, .ref b15, .ref b16, .ref b17, .ref b18, .ref b19, .ref b20, .ref b21, .int 0, .ref b22, .ref b23, .int 0, .int 0, .int 0, .int 0, .ref b24, .ref b25, .ref b26, .ref b27, .ref b28, .ref b29, .ref b30, .int 0, .ref b31, .ref b32, .int 0, .ref b33, .ref b34, .ref b35, .ref b36, .ref b37, .int 0, .ref b38, .ref b39, .ref b40])), (b2, .inl (G.2 0, 503, .inl (upd (fun _ => 0) 501 1)))] (fun v w => (v = some (.int 0) ∧ w = [(b0, .inr (12, [.int 0, .ref b2, .ref b3, .ref b4, .ref b5, .int 0, .ref b6, .int 0, .int 0, .int 0, .int 0, .ref b7, .ref b8, .ref b9, .int 0, .ref b10, .ref b11, .ref b12, .ref b13, .ref b14, .ref b15, .ref b16, .ref b17, .ref b18, .ref b19, .ref b20, .ref b21, .int 0, .ref b22, .ref b23, .int 0, .int 0, .int 0, .int 0, .ref b24, .ref b25, .ref b26, .ref b27, .ref b28, .ref b29, .ref b30, .int 0, .ref b31, .ref b32, .int 0, .ref b33, .ref b34, .ref b35, .ref b36, .ref b37, .int 0, .ref b38, .ref b39, .ref b40])), (b2, .inl (G.2 0, 503, .inl (upd (fun _ => 0) 501 1)))])) := by
  refine z_start (by decide +kernel) (Nat.le_of_ble_eq_true rfl) ?_
  intro p e s m below meth c A Z hr hnm hA hP hD hS ls hl
  have Z : zC p s m _ meth c prog_14_method_5_code 2 "TraceMachinesModel" G := Z
  obtain ⟨hx, hb, hml, hown, hts, hK, hN, hlocks⟩ := id Z
  have hl : lv_has ls 2 [(0, .ref b0), (1, .int b1)] := hl
  refine lv_iload_n hx hb d_Model_isTrace_0 rfl (lv_at hl 1 rfl) ?_
  refine lv_i2l (v := b1.toInt64) hx hb d_Model_isTrace_1 rfl ?_
  refine lv_lconst (v := 0) hx hb d_Model_isTrace_2 (by decide) ?_
  refine lv_aload_n hx hb d_Model_isTrace_3 rfl (lv_at hl 0 rfl) ?_
  refine z_callV (index := 134) (As := []) (rest := [.long 0, .long b1.toInt64]) (wr := []) Z (c2_Model_many l G (b0) (b2) (b3) (b4) (b5) (b6) (b7) (b8) (b9) (b10) (b11) (b12) (b13) (b14) (b15) (b16) (b17) (b18) (b19) (b20) (b21) (b22) (b23) (b24) (b25) (b26) (b27) (b28) (b29) (b30) (b31) (b32) (b33) (b34) (b35) (b36) (b37) (b38) (b39) (b40)) hl.1 q1324 q1326 qs51 q14 q1327 ⟨by decide, by decide, by show _ = some 0; decide +kernel⟩ ⟨Nat.le_of_ble_eq_true rfl, Nat.le_of_ble_eq_true rfl⟩ ⟨Nat.le_of_ble_eq_true rfl, Nat.le_of_ble_eq_true rfl⟩ rfl (Nat.le_of_ble_eq_true rfl) d_Model_isTrace_4 hP hD hS hA 0 12 rfl rfl rfl [0, 1] [] rfl rfl rfl rfl (by decide) (fun v w1 H locs hw_1 hP hD hS => ?_)
  obtain ⟨rfl, rfl⟩ := hw_1
  have hP : va_P G.1 classes [(b0, .inr (12, [.int 0, .ref b2, .ref b3, .ref b4, .ref b5, .int 0, .ref b6, .int 0, .int 0, .int 0, .int 0, .ref b7, .ref b8, .ref b9, .int 0, .ref b10, .ref b11, .ref b12, .ref b13, .ref b14, .ref b15, .ref b16, .ref b17, .ref b18, .ref b19, .ref b20, .ref b21, .int 0, .ref b22, .ref b23, .int 0, .int 0, .int 0, .int 0, .ref b24, .ref b25, .ref b26, .ref b27, .ref b28, .ref b29, .ref b30, .int 0, .ref b31, .ref b32, .int 0, .ref b33, .ref b34, .ref b35, .ref b36, .ref b37, .int 0, .ref b38, .ref b39, .ref b40])), (b2, .inl (G.2 0, 503, .inl (upd (fun _ => 0) 501 1)))] H := hP
  have hD := z_tie hP hD rfl
  refine W.widen (k := 0) (n := 0) (Nat.le_of_ble_eq_true rfl) (Nat.le_of_ble_eq_true rfl) ?_
  refine lv_i2l (v := 0) hx hb d_Model_isTrace_7 (by decide +kernel) ?_
  refine lv_lconst (v := 1) hx hb d_Model_isTrace_8 (by decide) ?_
  refine lv_lsub hx hb d_Model_isTrace_9 ?_
  refine z_topl (y := (-1)) (by decide +kernel) ?_
  refine z_callS (index := 138) (As := [.long b1.toInt64, .long 0, .long (-1)]) (rest := []) (wr := [(b0, .inr (12, [.int 0, .ref b2, .ref b3, .ref b4, .ref b5, .int 0, .ref b6, .int 0, .int 0, .int 0, .int 0, .ref b7, .ref b8, .ref b9, .int 0, .ref b10, .ref b11, .ref b12, .ref b13, .ref b14, .ref b15, .ref b16, .ref b17, .ref b18, .ref b19, .ref b20, .ref b21, .int 0, .ref b22, .ref b23, .int 0, .int 0, .int 0, .int 0, .ref b24, .ref b25, .ref b26, .ref b27, .ref b28, .ref b29, .ref b30, .int 0, .ref b31, .ref b32, .int 0, .ref b33, .ref b34, .ref b35, .ref b36, .ref b37, .int 0, .ref b38, .ref b39, .ref b40])), (b2, .inl (G.2 0, 503, .inl (upd (fun _ => 0) 501 1)))]) Z (c3_Model_in l G (b1.toInt64)) hl.1 q1285 q1286 q14 q1287 ⟨by decide, by decide, by show _ = some 3; decide +kernel⟩ ⟨Nat.le_of_ble_eq_true rfl, Nat.le_of_ble_eq_true rfl⟩ ⟨Nat.le_of_ble_eq_true rfl, Nat.le_of_ble_eq_true rfl⟩ rfl (Nat.le_of_ble_eq_true rfl) d_Model_isTrace_10 hP hD hS hA [] [0, 1] rfl rfl rfl rfl (by decide) (fun v w1 H locs hw_2 hP hD hS => ?_)
  obtain ⟨rfl, rfl⟩ := hw_2
  have hP : va_P G.1 classes [(b0, .inr (12, [.int 0, .ref b2, .ref b3, .ref b4, .ref b5, .int 0, .ref b6, .int 0, .int 0, .int 0, .int 0, .ref b7, .ref b8, .ref b9, .int 0, .ref b10, .ref b11, .ref b12, .ref b13, .ref b14, .ref b15, .ref b16, .ref b17, .ref b18, .ref b19, .ref b20, .ref b21, .int 0, .ref b22, .ref b23, .int 0, .int 0, .int 0, .int 0, .ref b24, .ref b25, .ref b26, .ref b27, .ref b28, .ref b29, .ref b30, .int 0, .ref b31, .ref b32, .int 0, .ref b33, .ref b34, .ref b35, .ref b36, .ref b37, .int 0, .ref b38, .ref b39, .ref b40])), (b2, .inl (G.2 0, 503, .inl (upd (fun _ => 0) 501 1)))] H := hP
  have hD := z_tie hP hD rfl
  refine W.widen (k := 0) (n := 0) (Nat.le_of_ble_eq_true rfl) (Nat.le_of_ble_eq_true rfl) ?_
  exact z_zret hx hb hr hlocks rfl hP hD hS (Nat.le_of_ble_eq_true rfl) (Nat.le_of_ble_eq_true rfl) d_Model_isTrace_13 ⟨rfl, rfl⟩
theorem d_Model_drop_10 : decode prog_14_method_19_code 10 = .ok (.ifCond .ne 6, 3) := by decide +kernel
theorem d_Model_drop_13 : decode prog_14_method_19_code 13 = .ok (.bipush (-2), 2) := by decide +kernel
theorem d_Model_drop_15 : decode prog_14_method_19_code 15 = .ok (.ireturn, 1) := by decide +kernel
abbrev m_t_Model_drop : Room := { frames := 2, cells := 0, slots := 0, locals := 46 }
set_option maxHeartbeats 4000000 in
set_option maxRecDepth 100000 in
theorem t_Model_drop (l : Launch) (G : zG) (b0 : Nat) (p0 : Int32) (b2 : Nat) (b3 : Nat) (b4 : Nat) (b5 : Nat) (b6 : Nat) (b7 : Nat) (b8 : Nat) (b9 : Nat) (b10 : Nat) (b11 : Nat) (b12 : Nat) (b13 : Nat) (b14 : Nat) (b15 : Nat) (b16 : Nat) (b17 : Nat) (b18 : Nat) (b19 : Nat) (b20 : Nat) (b21 : Nat) (b22 : Nat) (b23 : Nat) (b24 : Nat) (b25 : Nat) (b26 : Nat) (b27 : Nat) (b28 : Nat) (b29 : Nat) (b30 : Nat) (b31 : Nat) (b32 : Nat) (b33 : Nat) (b34 : Nat) (b35 : Nat) (b36 : Nat) (b37 : Nat) (b38 : Nat) (b39 : Nat) (b40 : Nat)  : zM l G y_Model_drop prog_14_method_19_code 4 (Option.some Jvm.ClassFile.FieldType.int) m_t_Model_drop [.ref b0, .int p0] [(b0, .inr (12, [.int 0, .ref b2, .ref b3, .ref b4, .ref b5, .int 0, .ref b6, .int 0, .int 0, .int 0, .int 0, .ref b7, .ref b8, .ref b9, .int 0, .ref b10, .ref b11, .ref b12, .ref b13, .ref b14, .ref b15, .ref b16, .ref b17, .ref b18, .ref b19, .ref b20, .ref b21, .int 0, .ref b22, .ref b23, .int 0, .int 0, .int 0, .int 0, .ref b24, .ref b25, .ref b26, .ref b27, .ref b28, .ref b29, .ref b30, .int 0, .ref b31, .ref b32, .int 0, .ref b33, .ref b34, .ref b35, .ref b36, .ref b37, .int 0, .ref b38, .ref b39, .ref b40])), (b2, .inl (G.2 0, 503, .inl (upd (fun _ => 0) 501 1)))] (fun v _ => v = some (.int (a_drop p0))) := by
  refine z_start (by decide +kernel) (Nat.le_of_ble_eq_true rfl) ?_
  intro p e s m below meth c A Z hr hnm hA hP hD hS ls hl
  have Z : zC p s m _ meth c prog_14_method_19_code 4 "TraceMachinesModel" G := Z
  obtain ⟨hx, hb, hml, hown, hts, hK, hN, hlocks⟩ := id Z
  have hl : lv_has ls 4 [(0, .ref b0), (1, .int p0)] := hl
  refine lv_aload_n hx hb d_Model_drop_0 rfl (lv_at hl 0 rfl) ?_
  refine lv_iconst (v := 0) hx hb d_Model_drop_1 (by decide) ?_
  refine va_put (D := G.1) (ci := 12) (v := .int 0) (ty := .int) (C := R_Model) (T := F_Model) (N := 54) hx hb hts i_Model t_Model t_Model_ok n_Model hown hK hP hD hS 0 rfl rfl 0 (by decide) (hts _ q1113) (fun _ h9 => h9) rfl (by decide +kernel) rfl rfl (Nat.le_of_ble_eq_true rfl) d_Model_drop_2 (fun H locs hP hD hS => ?_)
  have hP : va_P G.1 classes [(b0, .inr (12, [.int 0, .ref b2, .ref b3, .ref b4, .ref b5, .int 0, .ref b6, .int 0, .int 0, .int 0, .int 0, .ref b7, .ref b8, .ref b9, .int 0, .ref b10, .ref b11, .ref b12, .ref b13, .ref b14, .ref b15, .ref b16, .ref b17, .ref b18, .ref b19, .ref b20, .ref b21, .int 0, .ref b22, .ref b23, .int 0, .int 0, .int 0, .int 0, .ref b24, .ref b25, .ref b26, .ref b27, .ref b28, .ref b29, .ref b30, .int 0, .ref b31, .ref b32, .int 0, .ref b33, .ref b34, .ref b35, .ref b36, .ref b37, .int 0, .ref b38, .ref b39, .ref b40])), (b2, .inl (G.2 0, 503, .inl (upd (fun _ => 0) 501 1)))] H := hP
  have hD := z_tie hP hD rfl
  refine lv_aload_n hx hb d_Model_drop_5 rfl (lv_at hl 0 rfl) ?_
  refine lv_iload_n hx hb d_Model_drop_6 rfl (lv_at hl 1 rfl) ?_
  refine z_callV (index := 191) (As := [.int p0]) (rest := []) (wr := []) Z (c1_Model_isTrace l G (b0) (p0) (b2) (b3) (b4) (b5) (b6) (b7) (b8) (b9) (b10) (b11) (b12) (b13) (b14) (b15) (b16) (b17) (b18) (b19) (b20) (b21) (b22) (b23) (b24) (b25) (b26) (b27) (b28) (b29) (b30) (b31) (b32) (b33) (b34) (b35) (b36) (b37) (b38) (b39) (b40)) hl.1 q1332 q1334 qs52 q14 q1335 ⟨by decide, by decide, by show _ = some 1; decide +kernel⟩ ⟨Nat.le_of_ble_eq_true rfl, Nat.le_of_ble_eq_true rfl⟩ ⟨Nat.le_of_ble_eq_true rfl, Nat.le_of_ble_eq_true rfl⟩ rfl (Nat.le_of_ble_eq_true rfl) d_Model_drop_7 hP hD hS hA 0 12 rfl rfl rfl [0, 1] [] rfl rfl rfl rfl (by decide) (fun v w1 H locs hw_1 hP hD hS => ?_)
  obtain ⟨rfl, rfl⟩ := hw_1
  have hP : va_P G.1 classes [(b0, .inr (12, [.int 0, .ref b2, .ref b3, .ref b4, .ref b5, .int 0, .ref b6, .int 0, .int 0, .int 0, .int 0, .ref b7, .ref b8, .ref b9, .int 0, .ref b10, .ref b11, .ref b12, .ref b13, .ref b14, .ref b15, .ref b16, .ref b17, .ref b18, .ref b19, .ref b20, .ref b21, .int 0, .ref b22, .ref b23, .int 0, .int 0, .int 0, .int 0, .ref b24, .ref b25, .ref b26, .ref b27, .ref b28, .ref b29, .ref b30, .int 0, .ref b31, .ref b32, .int 0, .ref b33, .ref b34, .ref b35, .ref b36, .ref b37, .int 0, .ref b38, .ref b39, .ref b40])), (b2, .inl (G.2 0, 503, .inl (upd (fun _ => 0) 501 1)))] H := hP
  have hD := z_tie hP hD rfl
  refine W.widen (k := 0) (n := 0) (Nat.le_of_ble_eq_true rfl) (Nat.le_of_ble_eq_true rfl) ?_
  refine lv_if_ne (tgt := 16) hx hb d_Model_drop_10 (by decide) (fun hc => absurd hc (by decide +kernel)) (fun _ => ?_)
  refine lv_bipush (v := (-2)) hx hb d_Model_drop_13 (by decide) ?_
  exact z_iret hx hb hr hlocks hP hD hS (Nat.le_of_ble_eq_true rfl) (Nat.le_of_ble_eq_true rfl) d_Model_drop_15 (congrArg (fun z => some (Value.int z)) (by unfold a_drop; (first | rfl | (repeat (first | rw [if_pos (by omega)] | rw [if_neg (by omega)])))))
theorem d_Model_depth_0 : decode prog_14_method_21_code 0 = .ok (.aload_n 0, 1) := by decide +kernel
theorem d_Model_depth_1 : decode prog_14_method_21_code 1 = .ok (.iconst 0, 1) := by decide +kernel
theorem d_Model_depth_2 : decode prog_14_method_21_code 2 = .ok (.putfield 1, 3) := by decide +kernel
theorem d_Model_depth_5 : decode prog_14_method_21_code 5 = .ok (.aload_n 0, 1) := by decide +kernel
theorem d_Model_depth_6 : decode prog_14_method_21_code 6 = .ok (.sipush 501, 3) := by decide +kernel
theorem d_Model_depth_9 : decode prog_14_method_21_code 9 = .ok (.iload_n 1, 1) := by decide +kernel
theorem d_Model_depth_10 : decode prog_14_method_21_code 10 = .ok (.iconst 3, 1) := by decide +kernel
theorem d_Model_depth_11 : decode prog_14_method_21_code 11 = .ok (.invokevirtual 195, 3) := by decide +kernel
theorem d_Model_change_0 : decode prog_14_method_20_code 0 = .ok (.iload_n 2, 1) := by decide +kernel
theorem d_Model_change_1 : decode prog_14_method_20_code 1 = .ok (.i2l, 1) := by decide +kernel
theorem d_Model_change_2 : decode prog_14_method_20_code 2 = .ok (.lconst 0, 1) := by decide +kernel
theorem d_Model_change_3 : decode prog_14_method_20_code 3 = .ok (.iload_n 3, 1) := by decide +kernel
theorem d_Model_change_4 : decode prog_14_method_20_code 4 = .ok (.i2l, 1) := by decide +kernel
theorem d_Model_change_5 : decode prog_14_method_20_code 5 = .ok (.invokestatic 138, 3) := by decide +kernel
theorem ll_3 : (3 : Int64).toInt = 3 := by decide +kernel
abbrev m_c4_Model_in : Room := { frames := 0, cells := 0, slots := 0, locals := 0 }
set_option maxHeartbeats 4000000 in
set_option maxRecDepth 100000 in
theorem c4_Model_in (l : Launch) (G : zG) (b0 : Int64)  : zM l G y_Model_in prog_14_method_3_code 6 (Option.some Jvm.ClassFile.FieldType.boolean) m_c4_Model_in [.long b0, .long 0, .long 3] [] (fun v w => (v = some (.int 0) ∧ w = [] ∧ b0.toInt < 0) ∨ (v = some (.int 0) ∧ w = [] ∧ 0 ≤ b0.toInt ∧ 3 < b0.toInt) ∨ (v = some (.int 1) ∧ w = [] ∧ 0 ≤ b0.toInt ∧ b0.toInt ≤ 3)) := by
  refine z_start (by decide +kernel) (Nat.le_of_ble_eq_true rfl) ?_
  intro p e s m below meth c A Z hr hnm hA hP hD hS ls hl
  have Z : zC p s m _ meth c prog_14_method_3_code 6 "TraceMachinesModel" G := Z
  obtain ⟨hx, hb, hml, hown, hts, hK, hN, hlocks⟩ := id Z
  have hl : lv_has ls 6 [(0, .long b0), (2, .long 0), (4, .long 3)] := hl
  refine lv_lload_n hx hb d_Model_in_0 rfl (lv_at hl 0 rfl) ?_
  refine lv_lload_n hx hb d_Model_in_1 rfl (lv_at hl 1 rfl) ?_
  refine W.lcmp hx hb d_Model_in_2 ?_
  refine lv_topi (fun v_1 ev_1 => ?_)
  refine lv_if_lt (tgt := 17) hx hb d_Model_in_3 (by decide) (fun hc_2 => ?_) (fun hc_2 => ?_)
  · rw [ev_1] at hc_2; simp only [lg_cmp_lt, lg_cmp_le, lg_cmp_gt, lg_cmp_ge, lg_cmp_eq] at hc_2; simp only [fa_lt64, fa_le64, fa_eq64, Int32.toInt_toInt64, ll_0] at hc_2
    refine lv_iconst (v := 0) hx hb d_Model_in_17 (by decide) ?_
    exact z_zret hx hb hr hlocks rfl hP hD hS (Nat.le_of_ble_eq_true rfl) (Nat.le_of_ble_eq_true rfl) d_Model_in_18 (Or.inl ⟨rfl, rfl, by omega⟩)
  · rw [ev_1] at hc_2; simp only [lg_cmp_lt, lg_cmp_le, lg_cmp_gt, lg_cmp_ge, lg_cmp_eq] at hc_2; simp only [fa_lt64, fa_le64, fa_eq64, Int32.toInt_toInt64, ll_0] at hc_2
    refine lv_lload_n hx hb d_Model_in_6 rfl (lv_at hl 0 rfl) ?_
    refine lv_lload hx hb d_Model_in_7 (lv_at hl 2 rfl) ?_
    refine W.lcmp hx hb d_Model_in_9 ?_
    refine lv_topi (fun v_3 ev_3 => ?_)
    refine lv_if_gt (tgt := 17) hx hb d_Model_in_10 (by decide) (fun hc_4 => ?_) (fun hc_4 => ?_)
    · rw [ev_3] at hc_4; simp only [lg_cmp_lt, lg_cmp_le, lg_cmp_gt, lg_cmp_ge, lg_cmp_eq] at hc_4; simp only [fa_lt64, fa_le64, fa_eq64, Int32.toInt_toInt64, ll_3] at hc_4
      refine lv_iconst (v := 0) hx hb d_Model_in_17 (by decide) ?_
      exact z_zret hx hb hr hlocks rfl hP hD hS (Nat.le_of_ble_eq_true rfl) (Nat.le_of_ble_eq_true rfl) d_Model_in_18 (Or.inr (Or.inl ⟨rfl, rfl, by omega, by omega⟩))
    · rw [ev_3] at hc_4; simp only [lg_cmp_lt, lg_cmp_le, lg_cmp_gt, lg_cmp_ge, lg_cmp_eq] at hc_4; simp only [fa_lt64, fa_le64, fa_eq64, Int32.toInt_toInt64, ll_3] at hc_4
      refine lv_iconst (v := 1) hx hb d_Model_in_13 (by decide) ?_
      refine lv_goto (tgt := 18) hx hb d_Model_in_14 (by decide) ?_
      exact z_zret hx hb hr hlocks rfl hP hD hS (Nat.le_of_ble_eq_true rfl) (Nat.le_of_ble_eq_true rfl) d_Model_in_18 (Or.inr (Or.inr (⟨rfl, rfl, by omega, by omega⟩)))
theorem d_Model_change_8 : decode prog_14_method_20_code 8 = .ok (.ifCond .ne 5, 3) := by decide +kernel
theorem d_Model_change_11 : decode prog_14_method_20_code 11 = .ok (.iconst (-1), 1) := by decide +kernel
theorem d_Model_change_12 : decode prog_14_method_20_code 12 = .ok (.ireturn, 1) := by decide +kernel
theorem d_Model_change_13 : decode prog_14_method_20_code 13 = .ok (.aload_n 0, 1) := by decide +kernel
theorem d_Model_change_14 : decode prog_14_method_20_code 14 = .ok (.getfield 13, 3) := by decide +kernel
theorem d_Model_change_17 : decode prog_14_method_20_code 17 = .ok (.iload_n 1, 1) := by decide +kernel
theorem d_Model_change_18 : decode prog_14_method_20_code 18 = .ok (.iaload, 1) := by decide +kernel
theorem d_Model_change_19 : decode prog_14_method_20_code 19 = .ok (.istore 4, 2) := by decide +kernel
theorem d_Model_change_21 : decode prog_14_method_20_code 21 = .ok (.iload 4, 2) := by decide +kernel
theorem d_Model_change_23 : decode prog_14_method_20_code 23 = .ok (.iload_n 2, 1) := by decide +kernel
theorem d_Model_change_24 : decode prog_14_method_20_code 24 = .ok (.if_icmp .ne 6, 3) := by decide +kernel
theorem d_Model_change_30 : decode prog_14_method_20_code 30 = .ok (.aload_n 0, 1) := by decide +kernel
theorem d_Model_change_31 : decode prog_14_method_20_code 31 = .ok (.invokevirtual 188, 3) := by decide +kernel
abbrev m_c2_Model_remember : Room := { frames := 0, cells := 0, slots := 0, locals := 0 }
set_option maxHeartbeats 4000000 in
set_option maxRecDepth 100000 in
theorem c2_Model_remember (l : Launch) (G : zG) (b0 : Nat) (b1 : Nat) (b2 : Nat) (b3 : Nat) (b4 : Nat) (b5 : Nat) (b6 : Nat) (b7 : Nat) (b8 : Nat) (b9 : Nat) (b10 : Nat) (b11 : Nat) (b12 : Nat) (b13 : Nat) (b14 : Nat) (b15 : Nat) (b16 : Nat) (b17 : Nat) (b18 : Nat) (b19 : Nat) (b20 : Nat) (b21 : Nat) (b22 : Nat) (b23 : Nat) (b24 : Nat) (b25 : Nat) (b26 : Nat) (b27 : Nat) (b28 : Nat) (b29 : Nat) (b30 : Nat) (b31 : Nat) (b32 : Nat) (b33 : Nat) (b34 : Nat) (b35 : Nat) (b36 : Nat) (b37 : Nat) (b38 : Nat) (b39 : Nat)  : zM l G y_Model_remember prog_14_method_16_code 2 (Option.none : Option Jvm.ClassFile.FieldType) m_c2_Model_remember [.ref b0] [(b0, .inr (12, [.int 0, .ref b1, .ref b2, .ref b3, .ref b4, .int 0, .ref b5, .int 0, .int 0, .int 0, .int 0, .ref b6, .ref b7, .ref b8, .int 0, .ref b9, .ref b10, .ref b11, .ref b12, .ref b13, .ref b14, .ref b15, .ref b16, .ref b17, .ref b18, .ref b19, .ref b20, .int 0, .ref b21, .ref b22, .int 0, .int 0, .int 0, .int 0, .ref b23, .ref b24, .ref b25, .ref b26, .ref b27, .ref b28, .ref b29, .int 0, .ref b30, .ref b31, .int 0, .ref b32, .ref b33, .ref b34, .ref b35, .ref b36, .int 0, .ref b37, .ref b38, .ref b39])), (b1, .inl (G.2 0, 503, .inl (upd (fun _ => 0) 501 1))), (b4, .inl (G.2 0, 4024, .inl (fun _ => 0)))] (fun v w => (∃ (e0 : Nat → Int32), v = none ∧ w = [(b0, .inr (12, [.int 0, .ref b1, .ref b2, .ref b3, .ref b4, .int 1, .ref b5, .int 0, .int 0, .int 0, .int 0, .ref b6, .ref b7, .ref b8, .int 0, .ref b9, .ref b10, .ref b11, .ref b12, .ref b13, .ref b14, .ref b15, .ref b16, .ref b17, .ref b18, .ref b19, .ref b20, .int 0, .ref b21, .ref b22, .int 0, .int 0, .int 0, .int 0, .ref b23, .ref b24, .ref b25, .ref b26, .ref b27, .ref b28, .ref b29, .int 0, .ref b30, .ref b31, .int 0, .ref b32, .ref b33, .ref b34, .ref b35, .ref b36, .int 0, .ref b37, .ref b38, .ref b39])), (b1, .inl (G.2 0, 503, .inl (upd (fun _ => 0) 501 1))), (b4, .inl (G.2 0, 4024, .inl e0))])) := by
  refine z_start (by decide +kernel) (Nat.le_of_ble_eq_true rfl) ?_
  intro p e s m below meth c A Z hr hnm hA hP hD hS ls hl
  have Z : zC p s m _ meth c prog_14_method_16_code 2 "TraceMachinesModel" G := Z
  obtain ⟨hx, hb, hml, hown, hts, hK, hN, hlocks⟩ := id Z
  have hl : lv_has ls 2 [(0, .ref b0)] := hl
  refine lv_aload_n hx hb d_Model_remember_0 rfl (lv_at hl 0 rfl) ?_
  refine va_get (D := G.1) (ci := 12) (v := .int 0) (C := R_Model) (T := F_Model) (N := 54) hx hb hts i_Model hown hK hP 0 rfl rfl 5 (by decide) (hts _ q1118) (fun _ h9 => h9) rfl d_Model_remember_1 ?_
  refine lv_bipush (v := 8) hx hb d_Model_remember_4 (by decide) ?_
  refine lv_icmp_ne (tgt := 55) hx hb d_Model_remember_6 (by decide) (fun _ => ?_) (fun hc => absurd hc (by decide +kernel))
  refine lv_iconst (v := 0) hx hb d_Model_remember_55 (by decide) ?_
  refine lv_istore_n (lv' := [(1, .int 0), (0, .ref b0)]) hx hb d_Model_remember_56 rfl hl (by decide) rfl (fun ls hl => ?_)
  suffices key : ∀ (k_2 i_1 : Nat) (g_3 : Nat → Int32) (H : Heap) (locs : List Loc) (ls : Array Slot), i_1 + k_2 = 503 → va_P G.1 classes [(b0, .inr (12, [.int 0, .ref b1, .ref b2, .ref b3, .ref b4, .int 0, .ref b5, .int 0, .int 0, .int 0, .int 0, .ref b6, .ref b7, .ref b8, .int 0, .ref b9, .ref b10, .ref b11, .ref b12, .ref b13, .ref b14, .ref b15, .ref b16, .ref b17, .ref b18, .ref b19, .ref b20, .int 0, .ref b21, .ref b22, .int 0, .int 0, .int 0, .int 0, .ref b23, .ref b24, .ref b25, .ref b26, .ref b27, .ref b28, .ref b29, .int 0, .ref b30, .ref b31, .int 0, .ref b32, .ref b33, .ref b34, .ref b35, .ref b36, .int 0, .ref b37, .ref b38, .ref b39])), (b1, .inl (G.2 0, 503, .inl (upd (fun _ => 0) 501 1))), (b4, .inl (G.2 0, 4024, .inl g_3))] H → va_D A [(b0, .inr (12, [.int 0, .ref b1, .ref b2, .ref b3, .ref b4, .int 0, .ref b5, .int 0, .int 0, .int 0, .int 0, .ref b6, .ref b7, .ref b8, .int 0, .ref b9, .ref b10, .ref b11, .ref b12, .ref b13, .ref b14, .ref b15, .ref b16, .ref b17, .ref b18, .ref b19, .ref b20, .int 0, .ref b21, .ref b22, .int 0, .int 0, .int 0, .int 0, .ref b23, .ref b24, .ref b25, .ref b26, .ref b27, .ref b28, .ref b29, .int 0, .ref b30, .ref b31, .int 0, .ref b32, .ref b33, .ref b34, .ref b35, .ref b36, .int 0, .ref b37, .ref b38, .ref b39])), (b1, .inl (G.2 0, 503, .inl (upd (fun _ => 0) 501 1))), (b4, .inl (G.2 0, 4024, .inl g_3))] → va_S A s.heap H locs → lv_has ls 2 [(1, .int (nI i_1)), (0, .ref b0)] → W p l e m_c2_Model_remember s m ([.ref b0] : List Value).toArray below meth c H locs 0 0 (MQ below (zQ G (fun v w => (∃ (e0 : Nat → Int32), v = none ∧ w = [(b0, .inr (12, [.int 0, .ref b1, .ref b2, .ref b3, .ref b4, .int 1, .ref b5, .int 0, .int 0, .int 0, .int 0, .ref b6, .ref b7, .ref b8, .int 0, .ref b9, .ref b10, .ref b11, .ref b12, .ref b13, .ref b14, .ref b15, .ref b16, .ref b17, .ref b18, .ref b19, .ref b20, .int 0, .ref b21, .ref b22, .int 0, .int 0, .int 0, .int 0, .ref b23, .ref b24, .ref b25, .ref b26, .ref b27, .ref b28, .ref b29, .int 0, .ref b30, .ref b31, .int 0, .ref b32, .ref b33, .ref b34, .ref b35, .ref b36, .int 0, .ref b37, .ref b38, .ref b39])), (b1, .inl (G.2 0, 503, .inl (upd (fun _ => 0) 501 1))), (b4, .inl (G.2 0, 4024, .inl e0))])) A) ([.ref b0] : List Value).toArray s m_c2_Model_remember.cells m_c2_Model_remember.slots A) (F0 m 57 ls []) by
    exact key (503) 0 ((fun _ => 0)) _ _ _ (by omega) hP hD hS (lv_sub hl [0, 1] rfl)
  intro k_2
  induction k_2 with
  | zero =>
    intro i_1 g_3 H locs ls hik hP hD hS hl
    obtain rfl : i_1 = 503 := by omega
    have hl : lv_has ls 2 [(1, .int (nI 503)), (0, .ref b0)] := hl
    refine lv_iload_n hx hb d_Model_remember_57 rfl (lv_at hl 0 rfl) ?_
    refine lv_sipush (v := 503) hx hb d_Model_remember_58 (by decide) ?_
    refine lv_icmp_ge (tgt := 91) hx hb d_Model_remember_61 (by decide) (fun _ => ?_) (fun hc => absurd hc (by decide +kernel))
    refine lv_aload_n hx hb d_Model_remember_91 rfl (lv_at hl 1 rfl) ?_
    refine lv_dup hx hb d_Model_remember_92 rfl ?_
    refine va_get (D := G.1) (ci := 12) (v := .int 0) (C := R_Model) (T := F_Model) (N := 54) hx hb hts i_Model hown hK hP 0 rfl rfl 5 (by decide) (hts _ q1118) (fun _ h9 => h9) rfl d_Model_remember_93 ?_
    refine lv_iconst (v := 1) hx hb d_Model_remember_96 (by decide) ?_
    refine lv_iadd hx hb d_Model_remember_97 ?_
    refine z_topi (y := 1) (by decide +kernel) ?_
    refine va_put (D := G.1) (ci := 12) (v := .int 1) (ty := .int) (C := R_Model) (T := F_Model) (N := 54) hx hb hts i_Model t_Model t_Model_ok n_Model hown hK hP hD hS 0 rfl rfl 5 (by decide) (hts _ q1118) (fun _ h9 => h9) rfl (by decide +kernel) rfl rfl (Nat.le_of_ble_eq_true rfl) d_Model_remember_98 (fun H locs hP hD hS => ?_)
    have hP : va_P G.1 classes [(b0, .inr (12, [.int 0, .ref b1, .ref b2, .ref b3, .ref b4, .int 1, .ref b5, .int 0, .int 0, .int 0, .int 0, .ref b6, .ref b7, .ref b8, .int 0, .ref b9, .ref b10, .ref b11, .ref b12, .ref b13, .ref b14, .ref b15, .ref b16, .ref b17, .ref b18, .ref b19, .ref b20, .int 0, .ref b21, .ref b22, .int 0, .int 0, .int 0, .int 0, .ref b23, .ref b24, .ref b25, .ref b26, .ref b27, .ref b28, .ref b29, .int 0, .ref b30, .ref b31, .int 0, .ref b32, .ref b33, .ref b34, .ref b35, .ref b36, .int 0, .ref b37, .ref b38, .ref b39])), (b1, .inl (G.2 0, 503, .inl (upd (fun _ => 0) 501 1))), (b4, .inl (G.2 0, 4024, .inl g_3))] H := hP
    have hD := z_tie hP hD rfl
    exact z_vret hx hb hr hlocks hP hD hS (Nat.le_of_ble_eq_true rfl) (Nat.le_of_ble_eq_true rfl) d_Model_remember_101 ⟨g_3, rfl, rfl⟩
  | succ k_2 ih =>
    intro i_1 g_3 H locs ls hik hP hD hS hl
    have hilt : i_1 < 503 := by omega
    refine lv_iload_n hx hb d_Model_remember_57 rfl (lv_at hl 0 rfl) ?_
    refine lv_sipush (v := 503) hx hb d_Model_remember_58 (by decide) ?_
    refine lv_icmp_ge (tgt := 91) hx hb d_Model_remember_61 (by decide) (fun hc => absurd hc (nI_ge hilt (by decide))) (fun _ => ?_)
    refine lv_aload_n hx hb d_Model_remember_64 rfl (lv_at hl 1 rfl) ?_
    refine va_get (D := G.1) (ci := 12) (v := .ref b4) (C := R_Model) (T := F_Model) (N := 54) hx hb hts i_Model hown hK hP 0 rfl rfl 4 (by decide) (hts _ q1117) (fun _ h9 => h9) rfl d_Model_remember_65 ?_
    refine lv_sipush (v := 503) hx hb d_Model_remember_68 (by decide) ?_
    refine lv_aload_n hx hb d_Model_remember_71 rfl (lv_at hl 1 rfl) ?_
    refine va_get (D := G.1) (ci := 12) (v := .int 0) (C := R_Model) (T := F_Model) (N := 54) hx hb hts i_Model hown hK hP 0 rfl rfl 5 (by decide) (hts _ q1118) (fun _ h9 => h9) rfl d_Model_remember_72 ?_
    refine lv_imul hx hb d_Model_remember_75 ?_
    refine z_topi (y := 0) (by decide +kernel) ?_
    refine lv_iload_n hx hb d_Model_remember_76 rfl (lv_at hl 0 rfl) ?_
    refine lv_iadd hx hb d_Model_remember_77 ?_
    refine lv_topi (fun v_4 ev_4 => ?_)
    obtain rfl : v_4 = (nI (0 + i_1)) := (by rw [ev_4]; exact nI_add (0) (i_1))
    refine lv_aload_n hx hb d_Model_remember_78 rfl (lv_at hl 1 rfl) ?_
    refine va_get (D := G.1) (ci := 12) (v := .ref b1) (C := R_Model) (T := F_Model) (N := 54) hx hb hts i_Model hown hK hP 0 rfl rfl 1 (by decide) (hts _ q1114) (fun _ h9 => h9) rfl d_Model_remember_79 ?_
    refine lv_iload_n hx hb d_Model_remember_82 rfl (lv_at hl 0 rfl) ?_
    refine va_iald hx hb hK hP 1 0 rfl rfl (z_inN (by omega) (by decide)) d_Model_remember_83 ?_
    refine z_topi (y := ((upd (fun _ => 0) 501 1) (i_1))) (by rw [nI_clamp (by omega)]) ?_
    refine va_iast hx hb hK hP hD hS 2 0 rfl rfl (z_inN (by omega) (by decide)) d_Model_remember_84 (fun H locs hP hD hS => ?_)
    rw [nI_clamp (by omega)] at hP hD
    have hP : va_P G.1 classes [(b0, .inr (12, [.int 0, .ref b1, .ref b2, .ref b3, .ref b4, .int 0, .ref b5, .int 0, .int 0, .int 0, .int 0, .ref b6, .ref b7, .ref b8, .int 0, .ref b9, .ref b10, .ref b11, .ref b12, .ref b13, .ref b14, .ref b15, .ref b16, .ref b17, .ref b18, .ref b19, .ref b20, .int 0, .ref b21, .ref b22, .int 0, .int 0, .int 0, .int 0, .ref b23, .ref b24, .ref b25, .ref b26, .ref b27, .ref b28, .ref b29, .int 0, .ref b30, .ref b31, .int 0, .ref b32, .ref b33, .ref b34, .ref b35, .ref b36, .int 0, .ref b37, .ref b38, .ref b39])), (b1, .inl (G.2 0, 503, .inl (upd (fun _ => 0) 501 1))), (b4, .inl (G.2 0, 4024, .inl (upd g_3 ((0 + i_1)) ((upd (fun _ => 0) 501 1) (i_1)))))] H := hP
    have hD := z_tie hP hD rfl
    refine lv_iinc (v := (nI (i_1 + 1))) (lv' := [(1, .int (nI (i_1 + 1))), (0, .ref b0)]) hx hb d_Model_remember_85 hl (k := 0) rfl (nI_1 i_1) (by decide) rfl (fun ls hl => ?_)
    refine lv_goto (tgt := 57) hx hb d_Model_remember_88 (by decide) ?_
    exact ih (i_1 + 1) ((upd g_3 ((0 + i_1)) ((upd (fun _ => 0) 501 1) (i_1)))) _ _ _ (by omega)  hP hD hS (lv_sub hl [0, 1] rfl)
theorem d_Model_change_27 : decode prog_14_method_20_code 27 = .ok (.bipush (-3), 2) := by decide +kernel
theorem d_Model_change_29 : decode prog_14_method_20_code 29 = .ok (.ireturn, 1) := by decide +kernel
theorem d_Model_change_34 : decode prog_14_method_20_code 34 = .ok (.aload_n 0, 1) := by decide +kernel
theorem d_Model_change_35 : decode prog_14_method_20_code 35 = .ok (.getfield 13, 3) := by decide +kernel
theorem d_Model_change_38 : decode prog_14_method_20_code 38 = .ok (.iload_n 1, 1) := by decide +kernel
theorem d_Model_change_39 : decode prog_14_method_20_code 39 = .ok (.iload_n 2, 1) := by decide +kernel
theorem d_Model_change_40 : decode prog_14_method_20_code 40 = .ok (.iastore, 1) := by decide +kernel
theorem d_Model_change_41 : decode prog_14_method_20_code 41 = .ok (.iload 4, 2) := by decide +kernel
theorem d_Model_change_43 : decode prog_14_method_20_code 43 = .ok (.ireturn, 1) := by decide +kernel
abbrev m_c1_Model_change : Room := { frames := 1, cells := 0, slots := 0, locals := 25 }
set_option maxHeartbeats 4000000 in
set_option maxRecDepth 100000 in
theorem c1_Model_change (l : Launch) (G : zG) (b0 : Nat) (b1 : Int32) (b2 : Nat) (b3 : Nat) (b4 : Nat) (b5 : Nat) (b6 : Nat) (b7 : Nat) (b8 : Nat) (b9 : Nat) (b10 : Nat) (b11 : Nat) (b12 : Nat) (b13 : Nat) (b14 : Nat) (b15 : Nat) (b16 : Nat) (b17 : Nat) (b18 : Nat) (b19 : Nat) (b20 : Nat) (b21 : Nat) (b22 : Nat) (b23 : Nat) (b24 : Nat) (b25 : Nat) (b26 : Nat) (b27 : Nat) (b28 : Nat) (b29 : Nat) (b30 : Nat) (b31 : Nat) (b32 : Nat) (b33 : Nat) (b34 : Nat) (b35 : Nat) (b36 : Nat) (b37 : Nat) (b38 : Nat) (b39 : Nat) (b40 : Nat)  : zM l G y_Model_change prog_14_method_20_code 5 (Option.some Jvm.ClassFile.FieldType.int) m_c1_Model_change [.ref b0, .int 501, .int b1, .int 3] [(b0, .inr (12, [.int 0, .ref b2, .ref b3, .ref b4, .ref b5, .int 0, .ref b6, .int 0, .int 0, .int 0, .int 0, .ref b7, .ref b8, .ref b9, .int 0, .ref b10, .ref b11, .ref b12, .ref b13, .ref b14, .ref b15, .ref b16, .ref b17, .ref b18, .ref b19, .ref b20, .ref b21, .int 0, .ref b22, .ref b23, .int 0, .int 0, .int 0, .int 0, .ref b24, .ref b25, .ref b26, .ref b27, .ref b28, .ref b29, .ref b30, .int 0, .ref b31, .ref b32, .int 0, .ref b33, .ref b34, .ref b35, .ref b36, .ref b37, .int 0, .ref b38, .ref b39, .ref b40])), (b2, .inl (G.2 0, 503, .inl (upd (fun _ => 0) 501 1))), (b5, .inl (G.2 0, 4024, .inl (fun _ => 0)))] (fun v w => (v = some (.int (-1)) ∧ w = [(b0, .inr (12, [.int 0, .ref b2, .ref b3, .ref b4, .ref b5, .int 0, .ref b6, .int 0, .int 0, .int 0, .int 0, .ref b7, .ref b8, .ref b9, .int 0, .ref b10, .ref b11, .ref b12, .ref b13, .ref b14, .ref b15, .ref b16, .ref b17, .ref b18, .ref b19, .ref b20, .ref b21, .int 0, .ref b22, .ref b23, .int 0, .int 0, .int 0, .int 0, .ref b24, .ref b25, .ref b26, .ref b27, .ref b28, .ref b29, .ref b30, .int 0, .ref b31, .ref b32, .int 0, .ref b33, .ref b34, .ref b35, .ref b36, .ref b37, .int 0, .ref b38, .ref b39, .ref b40])), (b2, .inl (G.2 0, 503, .inl (upd (fun _ => 0) 501 1))), (b5, .inl (G.2 0, 4024, .inl (fun _ => 0)))] ∧ b1.toInt < 0) ∨ (v = some (.int (-1)) ∧ w = [(b0, .inr (12, [.int 0, .ref b2, .ref b3, .ref b4, .ref b5, .int 0, .ref b6, .int 0, .int 0, .int 0, .int 0, .ref b7, .ref b8, .ref b9, .int 0, .ref b10, .ref b11, .ref b12, .ref b13, .ref b14, .ref b15, .ref b16, .ref b17, .ref b18, .ref b19, .ref b20, .ref b21, .int 0, .ref b22, .ref b23, .int 0, .int 0, .int 0, .int 0, .ref b24, .ref b25, .ref b26, .ref b27, .ref b28, .ref b29, .ref b30, .int 0, .ref b31, .ref b32, .int 0, .ref b33, .ref b34, .ref b35, .ref b36, .ref b37, .int 0, .ref b38, .ref b39, .ref b40])), (b2, .inl (G.2 0, 503, .inl (upd (fun _ => 0) 501 1))), (b5, .inl (G.2 0, 4024, .inl (fun _ => 0)))] ∧ 0 ≤ b1.toInt ∧ 3 < b1.toInt) ∨ (∃ (e0 : Nat → Int32), v = some (.int 1) ∧ w = [(b0, .inr (12, [.int 0, .ref b2, .ref b3, .ref b4, .ref b5, .int 1, .ref b6, .int 0, .int 0, .int 0, .int 0, .ref b7, .ref b8, .ref b9, .int 0, .ref b10, .ref b11, .ref b12, .ref b13, .ref b14, .ref b15, .ref b16, .ref b17, .ref b18, .ref b19, .ref b20, .ref b21, .int 0, .ref b22, .ref b23, .int 0, .int 0, .int 0, .int 0, .ref b24, .ref b25, .ref b26, .ref b27, .ref b28, .ref b29, .ref b30, .int 0, .ref b31, .ref b32, .int 0, .ref b33, .ref b34, .ref b35, .ref b36, .ref b37, .int 0, .ref b38, .ref b39, .ref b40])), (b2, .inl (G.2 0, 503, .inl (upd (upd (fun _ => 0) 501 1) 501 b1))), (b5, .inl (G.2 0, 4024, .inl e0))] ∧ 0 ≤ b1.toInt ∧ b1.toInt ≤ 3 ∧ ¬ 1 = b1.toInt) ∨ (v = some (.int (-3)) ∧ w = [(b0, .inr (12, [.int 0, .ref b2, .ref b3, .ref b4, .ref b5, .int 0, .ref b6, .int 0, .int 0, .int 0, .int 0, .ref b7, .ref b8, .ref b9, .int 0, .ref b10, .ref b11, .ref b12, .ref b13, .ref b14, .ref b15, .ref b16, .ref b17, .ref b18, .ref b19, .ref b20, .ref b21, .int 0, .ref b22, .ref b23, .int 0, .int 0, .int 0, .int 0, .ref b24, .ref b25, .ref b26, .ref b27, .ref b28, .ref b29, .ref b30, .int 0, .ref b31, .ref b32, .int 0, .ref b33, .ref b34, .ref b35, .ref b36, .ref b37, .int 0, .ref b38, .ref b39, .ref b40])), (b2, .inl (G.2 0, 503, .inl (upd (fun _ => 0) 501 1))), (b5, .inl (G.2 0, 4024, .inl (fun _ => 0)))] ∧ 0 ≤ b1.toInt ∧ b1.toInt ≤ 3 ∧ 1 = b1.toInt)) := by
  refine z_start (by decide +kernel) (Nat.le_of_ble_eq_true rfl) ?_
  intro p e s m below meth c A Z hr hnm hA hP hD hS ls hl
  have Z : zC p s m _ meth c prog_14_method_20_code 5 "TraceMachinesModel" G := Z
  obtain ⟨hx, hb, hml, hown, hts, hK, hN, hlocks⟩ := id Z
  have hl : lv_has ls 5 [(0, .ref b0), (1, .int 501), (2, .int b1), (3, .int 3)] := hl
  refine lv_iload_n hx hb d_Model_change_0 rfl (lv_at hl 2 rfl) ?_
  refine lv_i2l (v := b1.toInt64) hx hb d_Model_change_1 rfl ?_
  refine lv_lconst (v := 0) hx hb d_Model_change_2 (by decide) ?_
  refine lv_iload_n hx hb d_Model_change_3 rfl (lv_at hl 3 rfl) ?_
  refine lv_i2l (v := 3) hx hb d_Model_change_4 (by decide +kernel) ?_
  refine z_callS (index := 138) (As := [.long b1.toInt64, .long 0, .long 3]) (rest := []) (wr := [(b0, .inr (12, [.int 0, .ref b2, .ref b3, .ref b4, .ref b5, .int 0, .ref b6, .int 0, .int 0, .int 0, .int 0, .ref b7, .ref b8, .ref b9, .int 0, .ref b10, .ref b11, .ref b12, .ref b13, .ref b14, .ref b15, .ref b16, .ref b17, .ref b18, .ref b19, .ref b20, .ref b21, .int 0, .ref b22, .ref b23, .int 0, .int 0, .int 0, .int 0, .ref b24, .ref b25, .ref b26, .ref b27, .ref b28, .ref b29, .ref b30, .int 0, .ref b31, .ref b32, .int 0, .ref b33, .ref b34, .ref b35, .ref b36, .ref b37, .int 0, .ref b38, .ref b39, .ref b40])), (b2, .inl (G.2 0, 503, .inl (upd (fun _ => 0) 501 1))), (b5, .inl (G.2 0, 4024, .inl (fun _ => 0)))]) Z (c4_Model_in l G (b1.toInt64)) hl.1 q1285 q1286 q14 q1287 ⟨by decide, by decide, by show _ = some 3; decide +kernel⟩ ⟨Nat.le_of_ble_eq_true rfl, Nat.le_of_ble_eq_true rfl⟩ ⟨Nat.le_of_ble_eq_true rfl, Nat.le_of_ble_eq_true rfl⟩ rfl (Nat.le_of_ble_eq_true rfl) d_Model_change_5 hP hD hS hA [] [0, 1, 2] rfl rfl rfl rfl (by decide) (fun v w1 H locs hw_1 hP hD hS => ?_)
  rcases hw_1 with ⟨rfl, rfl, hq_2⟩ | ⟨rfl, rfl, hq_3, hq_4⟩ | ⟨rfl, rfl, hq_5, hq_6⟩
  · try simp only [Int32.toInt_toInt64, ll_0] at hq_2
    have hP : va_P G.1 classes [(b0, .inr (12, [.int 0, .ref b2, .ref b3, .ref b4, .ref b5, .int 0, .ref b6, .int 0, .int 0, .int 0, .int 0, .ref b7, .ref b8, .ref b9, .int 0, .ref b10, .ref b11, .ref b12, .ref b13, .ref b14, .ref b15, .ref b16, .ref b17, .ref b18, .ref b19, .ref b20, .ref b21, .int 0, .ref b22, .ref b23, .int 0, .int 0, .int 0, .int 0, .ref b24, .ref b25, .ref b26, .ref b27, .ref b28, .ref b29, .ref b30, .int 0, .ref b31, .ref b32, .int 0, .ref b33, .ref b34, .ref b35, .ref b36, .ref b37, .int 0, .ref b38, .ref b39, .ref b40])), (b2, .inl (G.2 0, 503, .inl (upd (fun _ => 0) 501 1))), (b5, .inl (G.2 0, 4024, .inl (fun _ => 0)))] H := hP
    have hD := z_tie hP hD rfl
    refine W.widen (k := 0) (n := 0) (Nat.le_of_ble_eq_true rfl) (Nat.le_of_ble_eq_true rfl) ?_
    refine lv_if_ne (tgt := 13) hx hb d_Model_change_8 (by decide) (fun hc => absurd hc (by decide +kernel)) (fun _ => ?_)
    refine lv_iconst (v := (-1)) hx hb d_Model_change_11 (by decide) ?_
    exact z_iret hx hb hr hlocks hP hD hS (Nat.le_of_ble_eq_true rfl) (Nat.le_of_ble_eq_true rfl) d_Model_change_12 (Or.inl ⟨rfl, rfl, by omega⟩)
  · try simp only [Int32.toInt_toInt64, ll_0] at hq_3
    try simp only [Int32.toInt_toInt64, ll_3] at hq_4
    have hP : va_P G.1 classes [(b0, .inr (12, [.int 0, .ref b2, .ref b3, .ref b4, .ref b5, .int 0, .ref b6, .int 0, .int 0, .int 0, .int 0, .ref b7, .ref b8, .ref b9, .int 0, .ref b10, .ref b11, .ref b12, .ref b13, .ref b14, .ref b15, .ref b16, .ref b17, .ref b18, .ref b19, .ref b20, .ref b21, .int 0, .ref b22, .ref b23, .int 0, .int 0, .int 0, .int 0, .ref b24, .ref b25, .ref b26, .ref b27, .ref b28, .ref b29, .ref b30, .int 0, .ref b31, .ref b32, .int 0, .ref b33, .ref b34, .ref b35, .ref b36, .ref b37, .int 0, .ref b38, .ref b39, .ref b40])), (b2, .inl (G.2 0, 503, .inl (upd (fun _ => 0) 501 1))), (b5, .inl (G.2 0, 4024, .inl (fun _ => 0)))] H := hP
    have hD := z_tie hP hD rfl
    refine W.widen (k := 0) (n := 0) (Nat.le_of_ble_eq_true rfl) (Nat.le_of_ble_eq_true rfl) ?_
    refine lv_if_ne (tgt := 13) hx hb d_Model_change_8 (by decide) (fun hc => absurd hc (by decide +kernel)) (fun _ => ?_)
    refine lv_iconst (v := (-1)) hx hb d_Model_change_11 (by decide) ?_
    exact z_iret hx hb hr hlocks hP hD hS (Nat.le_of_ble_eq_true rfl) (Nat.le_of_ble_eq_true rfl) d_Model_change_12 (Or.inr (Or.inl ⟨rfl, rfl, by omega, by omega⟩))
  · try simp only [Int32.toInt_toInt64, ll_0] at hq_5
    try simp only [Int32.toInt_toInt64, ll_3] at hq_6
    have hP : va_P G.1 classes [(b0, .inr (12, [.int 0, .ref b2, .ref b3, .ref b4, .ref b5, .int 0, .ref b6, .int 0, .int 0, .int 0, .int 0, .ref b7, .ref b8, .ref b9, .int 0, .ref b10, .ref b11, .ref b12, .ref b13, .ref b14, .ref b15, .ref b16, .ref b17, .ref b18, .ref b19, .ref b20, .ref b21, .int 0, .ref b22, .ref b23, .int 0, .int 0, .int 0, .int 0, .ref b24, .ref b25, .ref b26, .ref b27, .ref b28, .ref b29, .ref b30, .int 0, .ref b31, .ref b32, .int 0, .ref b33, .ref b34, .ref b35, .ref b36, .ref b37, .int 0, .ref b38, .ref b39, .ref b40])), (b2, .inl (G.2 0, 503, .inl (upd (fun _ => 0) 501 1))), (b5, .inl (G.2 0, 4024, .inl (fun _ => 0)))] H := hP
    have hD := z_tie hP hD rfl
    refine W.widen (k := 0) (n := 0) (Nat.le_of_ble_eq_true rfl) (Nat.le_of_ble_eq_true rfl) ?_
    refine lv_if_ne (tgt := 13) hx hb d_Model_change_8 (by decide) (fun _ => ?_) (fun hc => absurd hc (by decide +kernel))
    refine lv_aload_n hx hb d_Model_change_13 rfl (lv_at hl 0 rfl) ?_
    refine va_get (D := G.1) (ci := 12) (v := .ref b2) (C := R_Model) (T := F_Model) (N := 54) hx hb hts i_Model hown hK hP 0 rfl rfl 1 (by decide) (hts _ q1114) (fun _ h9 => h9) rfl d_Model_change_14 ?_
    refine lv_iload_n hx hb d_Model_change_17 rfl (lv_at hl 1 rfl) ?_
    refine va_iald hx hb hK hP 1 0 rfl rfl (i := 501) (z_in rfl) d_Model_change_18 ?_
    refine z_topi (y := 1) rfl ?_
    refine lv_istore (lv' := [(4, .int 1), (0, .ref b0), (1, .int 501), (2, .int b1), (3, .int 3)]) hx hb d_Model_change_19 hl (by decide) rfl (fun ls hl => ?_)
    refine lv_iload hx hb d_Model_change_21 (lv_at hl 0 rfl) ?_
    refine lv_iload_n hx hb d_Model_change_23 rfl (lv_at hl 3 rfl) ?_
    refine lv_icmp_ne (tgt := 30) hx hb d_Model_change_24 (by decide) (fun hc_7 => ?_) (fun hc_7 => ?_)
    · simp only [fa_lt, fa_le, fa_eq, Int32.toInt_toInt64, li_1] at hc_7
      refine lv_aload_n hx hb d_Model_change_30 rfl (lv_at hl 1 rfl) ?_
      refine z_callV (index := 188) (As := []) (rest := []) (wr := []) Z (c2_Model_remember l G (b0) (b2) (b3) (b4) (b5) (b6) (b7) (b8) (b9) (b10) (b11) (b12) (b13) (b14) (b15) (b16) (b17) (b18) (b19) (b20) (b21) (b22) (b23) (b24) (b25) (b26) (b27) (b28) (b29) (b30) (b31) (b32) (b33) (b34) (b35) (b36) (b37) (b38) (b39) (b40)) hl.1 q1320 q1322 qs50 q14 q1323 ⟨by decide, by decide, by show _ = some 0; decide +kernel⟩ ⟨Nat.le_of_ble_eq_true rfl, Nat.le_of_ble_eq_true rfl⟩ ⟨Nat.le_of_ble_eq_true rfl, Nat.le_of_ble_eq_true rfl⟩ rfl (Nat.le_of_ble_eq_true rfl) d_Model_change_31 hP hD hS hA 0 12 rfl rfl rfl [0, 1, 2] [] rfl rfl rfl rfl (by decide) (fun v w1 H locs hw_8 hP hD hS => ?_)
      obtain ⟨x_9, rfl, rfl⟩ := hw_8
      have hP : va_P G.1 classes [(b0, .inr (12, [.int 0, .ref b2, .ref b3, .ref b4, .ref b5, .int 1, .ref b6, .int 0, .int 0, .int 0, .int 0, .ref b7, .ref b8, .ref b9, .int 0, .ref b10, .ref b11, .ref b12, .ref b13, .ref b14, .ref b15, .ref b16, .ref b17, .ref b18, .ref b19, .ref b20, .ref b21, .int 0, .ref b22, .ref b23, .int 0, .int 0, .int 0, .int 0, .ref b24, .ref b25, .ref b26, .ref b27, .ref b28, .ref b29, .ref b30, .int 0, .ref b31, .ref b32, .int 0, .ref b33, .ref b34, .ref b35, .ref b36, .ref b37, .int 0, .ref b38, .ref b39, .ref b40])), (b2, .inl (G.2 0, 503, .inl (upd (fun _ => 0) 501 1))), (b5, .inl (G.2 0, 4024, .inl x_9))] H := hP
      have hD := z_tie hP hD rfl
      refine W.widen (k := 0) (n := 0) (Nat.le_of_ble_eq_true rfl) (Nat.le_of_ble_eq_true rfl) ?_
      refine lv_aload_n hx hb d_Model_change_34 rfl (lv_at hl 1 rfl) ?_
      refine va_get (D := G.1) (ci := 12) (v := .ref b2) (C := R_Model) (T := F_Model) (N := 54) hx hb hts i_Model hown hK hP 0 rfl rfl 1 (by decide) (hts _ q1114) (fun _ h9 => h9) rfl d_Model_change_35 ?_
      refine lv_iload_n hx hb d_Model_change_38 rfl (lv_at hl 2 rfl) ?_
      refine lv_iload_n hx hb d_Model_change_39 rfl (lv_at hl 3 rfl) ?_
      refine va_iast hx hb hK hP hD hS 1 0 rfl rfl (i := 501) (z_in rfl) d_Model_change_40 (fun H locs hP hD hS => ?_)
      have hP : va_P G.1 classes [(b0, .inr (12, [.int 0, .ref b2, .ref b3, .ref b4, .ref b5, .int 1, .ref b6, .int 0, .int 0, .int 0, .int 0, .ref b7, .ref b8, .ref b9, .int 0, .ref b10, .ref b11, .ref b12, .ref b13, .ref b14, .ref b15, .ref b16, .ref b17, .ref b18, .ref b19, .ref b20, .ref b21, .int 0, .ref b22, .ref b23, .int 0, .int 0, .int 0, .int 0, .ref b24, .ref b25, .ref b26, .ref b27, .ref b28, .ref b29, .ref b30, .int 0, .ref b31, .ref b32, .int 0, .ref b33, .ref b34, .ref b35, .ref b36, .ref b37, .int 0, .ref b38, .ref b39, .ref b40])), (b2, .inl (G.2 0, 503, .inl (upd (upd (fun _ => 0) 501 1) 501 b1))), (b5, .inl (G.2 0, 4024, .inl x_9))] H := hP
      have hD := z_tie hP hD rfl
      refine lv_iload hx hb d_Model_change_41 (lv_at hl 0 rfl) ?_
      exact z_iret hx hb hr hlocks hP hD hS (Nat.le_of_ble_eq_true rfl) (Nat.le_of_ble_eq_true rfl) d_Model_change_43 (Or.inr (Or.inr (Or.inl ⟨x_9, rfl, rfl, by omega, by omega, by omega⟩)))
    · simp only [fa_lt, fa_le, fa_eq, Int32.toInt_toInt64, li_1] at hc_7
      refine lv_bipush (v := (-3)) hx hb d_Model_change_27 (by decide) ?_
      exact z_iret hx hb hr hlocks hP hD hS (Nat.le_of_ble_eq_true rfl) (Nat.le_of_ble_eq_true rfl) d_Model_change_29 (Or.inr (Or.inr (Or.inr (⟨rfl, rfl, by omega, by omega, by omega⟩))))
theorem d_Model_depth_14 : decode prog_14_method_21_code 14 = .ok (.ireturn, 1) := by decide +kernel
abbrev m_t_Model_depth : Room := { frames := 2, cells := 0, slots := 0, locals := 49 }
set_option maxHeartbeats 4000000 in
set_option maxRecDepth 100000 in
theorem t_Model_depth (l : Launch) (G : zG) (b0 : Nat) (p0 : Int32) (b2 : Nat) (b3 : Nat) (b4 : Nat) (b5 : Nat) (b6 : Nat) (b7 : Nat) (b8 : Nat) (b9 : Nat) (b10 : Nat) (b11 : Nat) (b12 : Nat) (b13 : Nat) (b14 : Nat) (b15 : Nat) (b16 : Nat) (b17 : Nat) (b18 : Nat) (b19 : Nat) (b20 : Nat) (b21 : Nat) (b22 : Nat) (b23 : Nat) (b24 : Nat) (b25 : Nat) (b26 : Nat) (b27 : Nat) (b28 : Nat) (b29 : Nat) (b30 : Nat) (b31 : Nat) (b32 : Nat) (b33 : Nat) (b34 : Nat) (b35 : Nat) (b36 : Nat) (b37 : Nat) (b38 : Nat) (b39 : Nat) (b40 : Nat)  : zM l G y_Model_depth prog_14_method_21_code 2 (Option.some Jvm.ClassFile.FieldType.int) m_t_Model_depth [.ref b0, .int p0] [(b0, .inr (12, [.int 0, .ref b2, .ref b3, .ref b4, .ref b5, .int 0, .ref b6, .int 0, .int 0, .int 0, .int 0, .ref b7, .ref b8, .ref b9, .int 0, .ref b10, .ref b11, .ref b12, .ref b13, .ref b14, .ref b15, .ref b16, .ref b17, .ref b18, .ref b19, .ref b20, .ref b21, .int 0, .ref b22, .ref b23, .int 0, .int 0, .int 0, .int 0, .ref b24, .ref b25, .ref b26, .ref b27, .ref b28, .ref b29, .ref b30, .int 0, .ref b31, .ref b32, .int 0, .ref b33, .ref b34, .ref b35, .ref b36, .ref b37, .int 0, .ref b38, .ref b39, .ref b40])), (b2, .inl (G.2 0, 503, .inl (upd (fun _ => 0) 501 1))), (b5, .inl (G.2 0, 4024, .inl (fun _ => 0)))] (fun v _ => v = some (.int (a_depth p0))) := by
  refine z_start (by decide +kernel) (Nat.le_of_ble_eq_true rfl) ?_
  intro p e s m below meth c A Z hr hnm hA hP hD hS ls hl
  have Z : zC p s m _ meth c prog_14_method_21_code 2 "TraceMachinesModel" G := Z
  obtain ⟨hx, hb, hml, hown, hts, hK, hN, hlocks⟩ := id Z
  have hl : lv_has ls 2 [(0, .ref b0), (1, .int p0)] := hl
  refine lv_aload_n hx hb d_Model_depth_0 rfl (lv_at hl 0 rfl) ?_
  refine lv_iconst (v := 0) hx hb d_Model_depth_1 (by decide) ?_
  refine va_put (D := G.1) (ci := 12) (v := .int 0) (ty := .int) (C := R_Model) (T := F_Model) (N := 54) hx hb hts i_Model t_Model t_Model_ok n_Model hown hK hP hD hS 0 rfl rfl 0 (by decide) (hts _ q1113) (fun _ h9 => h9) rfl (by decide +kernel) rfl rfl (Nat.le_of_ble_eq_true rfl) d_Model_depth_2 (fun H locs hP hD hS => ?_)
  have hP : va_P G.1 classes [(b0, .inr (12, [.int 0, .ref b2, .ref b3, .ref b4, .ref b5, .int 0, .ref b6, .int 0, .int 0, .int 0, .int 0, .ref b7, .ref b8, .ref b9, .int 0, .ref b10, .ref b11, .ref b12, .ref b13, .ref b14, .ref b15, .ref b16, .ref b17, .ref b18, .ref b19, .ref b20, .ref b21, .int 0, .ref b22, .ref b23, .int 0, .int 0, .int 0, .int 0, .ref b24, .ref b25, .ref b26, .ref b27, .ref b28, .ref b29, .ref b30, .int 0, .ref b31, .ref b32, .int 0, .ref b33, .ref b34, .ref b35, .ref b36, .ref b37, .int 0, .ref b38, .ref b39, .ref b40])), (b2, .inl (G.2 0, 503, .inl (upd (fun _ => 0) 501 1))), (b5, .inl (G.2 0, 4024, .inl (fun _ => 0)))] H := hP
  have hD := z_tie hP hD rfl
  refine lv_aload_n hx hb d_Model_depth_5 rfl (lv_at hl 0 rfl) ?_
  refine lv_sipush (v := 501) hx hb d_Model_depth_6 (by decide) ?_
  refine lv_iload_n hx hb d_Model_depth_9 rfl (lv_at hl 1 rfl) ?_
  refine lv_iconst (v := 3) hx hb d_Model_depth_10 (by decide) ?_
  refine z_callV (index := 195) (As := [.int 501, .int p0, .int 3]) (rest := []) (wr := []) Z (c1_Model_change l G (b0) (p0) (b2) (b3) (b4) (b5) (b6) (b7) (b8) (b9) (b10) (b11) (b12) (b13) (b14) (b15) (b16) (b17) (b18) (b19) (b20) (b21) (b22) (b23) (b24) (b25) (b26) (b27) (b28) (b29) (b30) (b31) (b32) (b33) (b34) (b35) (b36) (b37) (b38) (b39) (b40)) hl.1 q1340 q1342 qs53 q14 q1343 ⟨by decide, by decide, by show _ = some 3; decide +kernel⟩ ⟨Nat.le_of_ble_eq_true rfl, Nat.le_of_ble_eq_true rfl⟩ ⟨Nat.le_of_ble_eq_true rfl, Nat.le_of_ble_eq_true rfl⟩ rfl (Nat.le_of_ble_eq_true rfl) d_Model_depth_11 hP hD hS hA 0 12 rfl rfl rfl [0, 1, 2] [] rfl rfl rfl rfl (by decide) (fun v w1 H locs hw_1 hP hD hS => ?_)
  rcases hw_1 with ⟨rfl, rfl, hq_2⟩ | ⟨rfl, rfl, hq_3, hq_4⟩ | ⟨x_5, rfl, rfl, hq_6, hq_7, hq_8⟩ | ⟨rfl, rfl, hq_9, hq_10, hq_11⟩
  · try simp only [Int32.toInt_toInt64, ll_0] at hq_2
    have hP : va_P G.1 classes [(b0, .inr (12, [.int 0, .ref b2, .ref b3, .ref b4, .ref b5, .int 0, .ref b6, .int 0, .int 0, .int 0, .int 0, .ref b7, .ref b8, .ref b9, .int 0, .ref b10, .ref b11, .ref b12, .ref b13, .ref b14, .ref b15, .ref b16, .ref b17, .ref b18, .ref b19, .ref b20, .ref b21, .int 0, .ref b22, .ref b23, .int 0, .int 0, .int 0, .int 0, .ref b24, .ref b25, .ref b26, .ref b27, .ref b28, .ref b29, .ref b30, .int 0, .ref b31, .ref b32, .int 0, .ref b33, .ref b34, .ref b35, .ref b36, .ref b37, .int 0, .ref b38, .ref b39, .ref b40])), (b2, .inl (G.2 0, 503, .inl (upd (fun _ => 0) 501 1))), (b5, .inl (G.2 0, 4024, .inl (fun _ => 0)))] H := hP
    have hD := z_tie hP hD rfl
    refine W.widen (k := 0) (n := 0) (Nat.le_of_ble_eq_true rfl) (Nat.le_of_ble_eq_true rfl) ?_
    exact z_iret hx hb hr hlocks hP hD hS (Nat.le_of_ble_eq_true rfl) (Nat.le_of_ble_eq_true rfl) d_Model_depth_14 (congrArg (fun z => some (Value.int z)) (by unfold a_depth; (first | rfl | (repeat (first | rw [if_pos (by omega)] | rw [if_neg (by omega)])))))
  · try simp only [Int32.toInt_toInt64, ll_0] at hq_3
    try simp only [Int32.toInt_toInt64, ll_3] at hq_4
    have hP : va_P G.1 classes [(b0, .inr (12, [.int 0, .ref b2, .ref b3, .ref b4, .ref b5, .int 0, .ref b6, .int 0, .int 0, .int 0, .int 0, .ref b7, .ref b8, .ref b9, .int 0, .ref b10, .ref b11, .ref b12, .ref b13, .ref b14, .ref b15, .ref b16, .ref b17, .ref b18, .ref b19, .ref b20, .ref b21, .int 0, .ref b22, .ref b23, .int 0, .int 0, .int 0, .int 0, .ref b24, .ref b25, .ref b26, .ref b27, .ref b28, .ref b29, .ref b30, .int 0, .ref b31, .ref b32, .int 0, .ref b33, .ref b34, .ref b35, .ref b36, .ref b37, .int 0, .ref b38, .ref b39, .ref b40])), (b2, .inl (G.2 0, 503, .inl (upd (fun _ => 0) 501 1))), (b5, .inl (G.2 0, 4024, .inl (fun _ => 0)))] H := hP
    have hD := z_tie hP hD rfl
    refine W.widen (k := 0) (n := 0) (Nat.le_of_ble_eq_true rfl) (Nat.le_of_ble_eq_true rfl) ?_
    exact z_iret hx hb hr hlocks hP hD hS (Nat.le_of_ble_eq_true rfl) (Nat.le_of_ble_eq_true rfl) d_Model_depth_14 (congrArg (fun z => some (Value.int z)) (by unfold a_depth; (first | rfl | (repeat (first | rw [if_pos (by omega)] | rw [if_neg (by omega)])))))
  · try simp only [Int32.toInt_toInt64, ll_0] at hq_6
    try simp only [Int32.toInt_toInt64, ll_3] at hq_7
    try simp only [Int32.toInt_toInt64, li_1] at hq_8
    have hP : va_P G.1 classes [(b0, .inr (12, [.int 0, .ref b2, .ref b3, .ref b4, .ref b5, .int 1, .ref b6, .int 0, .int 0, .int 0, .int 0, .ref b7, .ref b8, .ref b9, .int 0, .ref b10, .ref b11, .ref b12, .ref b13, .ref b14, .ref b15, .ref b16, .ref b17, .ref b18, .ref b19, .ref b20, .ref b21, .int 0, .ref b22, .ref b23, .int 0, .int 0, .int 0, .int 0, .ref b24, .ref b25, .ref b26, .ref b27, .ref b28, .ref b29, .ref b30, .int 0, .ref b31, .ref b32, .int 0, .ref b33, .ref b34, .ref b35, .ref b36, .ref b37, .int 0, .ref b38, .ref b39, .ref b40])), (b2, .inl (G.2 0, 503, .inl (upd (upd (fun _ => 0) 501 1) 501 p0))), (b5, .inl (G.2 0, 4024, .inl x_5))] H := hP
    have hD := z_tie hP hD rfl
    refine W.widen (k := 0) (n := 0) (Nat.le_of_ble_eq_true rfl) (Nat.le_of_ble_eq_true rfl) ?_
    exact z_iret hx hb hr hlocks hP hD hS (Nat.le_of_ble_eq_true rfl) (Nat.le_of_ble_eq_true rfl) d_Model_depth_14 (congrArg (fun z => some (Value.int z)) (by unfold a_depth; (first | rfl | (repeat (first | rw [if_pos (by omega)] | rw [if_neg (by omega)])))))
  · try simp only [Int32.toInt_toInt64, ll_0] at hq_9
    try simp only [Int32.toInt_toInt64, ll_3] at hq_10
    try simp only [Int32.toInt_toInt64, li_1] at hq_11
    have hP : va_P G.1 classes [(b0, .inr (12, [.int 0, .ref b2, .ref b3, .ref b4, .ref b5, .int 0, .ref b6, .int 0, .int 0, .int 0, .int 0, .ref b7, .ref b8, .ref b9, .int 0, .ref b10, .ref b11, .ref b12, .ref b13, .ref b14, .ref b15, .ref b16, .ref b17, .ref b18, .ref b19, .ref b20, .ref b21, .int 0, .ref b22, .ref b23, .int 0, .int 0, .int 0, .int 0, .ref b24, .ref b25, .ref b26, .ref b27, .ref b28, .ref b29, .ref b30, .int 0, .ref b31, .ref b32, .int 0, .ref b33, .ref b34, .ref b35, .ref b36, .ref b37, .int 0, .ref b38, .ref b39, .ref b40])), (b2, .inl (G.2 0, 503, .inl (upd (fun _ => 0) 501 1))), (b5, .inl (G.2 0, 4024, .inl (fun _ => 0)))] H := hP
    have hD := z_tie hP hD rfl
    refine W.widen (k := 0) (n := 0) (Nat.le_of_ble_eq_true rfl) (Nat.le_of_ble_eq_true rfl) ?_
    exact z_iret hx hb hr hlocks hP hD hS (Nat.le_of_ble_eq_true rfl) (Nat.le_of_ble_eq_true rfl) d_Model_depth_14 (congrArg (fun z => some (Value.int z)) (by unfold a_depth; (first | rfl | (repeat (first | rw [if_pos (by omega)] | rw [if_neg (by omega)])))))
theorem d_Model_margin_0 : decode prog_14_method_22_code 0 = .ok (.aload_n 0, 1) := by decide +kernel
theorem d_Model_margin_1 : decode prog_14_method_22_code 1 = .ok (.iconst 0, 1) := by decide +kernel
theorem d_Model_margin_2 : decode prog_14_method_22_code 2 = .ok (.putfield 1, 3) := by decide +kernel
theorem d_Model_margin_5 : decode prog_14_method_22_code 5 = .ok (.aload_n 0, 1) := by decide +kernel
theorem d_Model_margin_6 : decode prog_14_method_22_code 6 = .ok (.sipush 502, 3) := by decide +kernel
theorem d_Model_margin_9 : decode prog_14_method_22_code 9 = .ok (.iload_n 1, 1) := by decide +kernel
theorem d_Model_margin_10 : decode prog_14_method_22_code 10 = .ok (.bipush 20, 2) := by decide +kernel
theorem d_Model_margin_12 : decode prog_14_method_22_code 12 = .ok (.invokevirtual 195, 3) := by decide +kernel
theorem ll_20 : (20 : Int64).toInt = 20 := by decide +kernel
abbrev m_c5_Model_in : Room := { frames := 0, cells := 0, slots := 0, locals := 0 }
set_option maxHeartbeats 4000000 in
set_option maxRecDepth 100000 in
theorem c5_Model_in (l : Launch) (G : zG) (b0 : Int64)  : zM l G y_Model_in prog_14_method_3_code 6 (Option.some Jvm.ClassFile.FieldType.boolean) m_c5_Model_in [.long b0, .long 0, .long 20] [] (fun v w => (v = some (.int 0) ∧ w = [] ∧ b0.toInt < 0) ∨ (v = some (.int 0) ∧ w = [] ∧ 0 ≤ b0.toInt ∧ 20 < b0.toInt) ∨ (v = some (.int 1) ∧ w = [] ∧ 0 ≤ b0.toInt ∧ b0.toInt ≤ 20)) := by
  refine z_start (by decide +kernel) (Nat.le_of_ble_eq_true rfl) ?_
  intro p e s m below meth c A Z hr hnm hA hP hD hS ls hl
  have Z : zC p s m _ meth c prog_14_method_3_code 6 "TraceMachinesModel" G := Z
  obtain ⟨hx, hb, hml, hown, hts, hK, hN, hlocks⟩ := id Z
  have hl : lv_has ls 6 [(0, .long b0), (2, .long 0), (4, .long 20)] := hl
  refine lv_lload_n hx hb d_Model_in_0 rfl (lv_at hl 0 rfl) ?_
  refine lv_lload_n hx hb d_Model_in_1 rfl (lv_at hl 1 rfl) ?_
  refine W.lcmp hx hb d_Model_in_2 ?_
  refine lv_topi (fun v_1 ev_1 => ?_)
  refine lv_if_lt (tgt := 17) hx hb d_Model_in_3 (by decide) (fun hc_2 => ?_) (fun hc_2 => ?_)
  · rw [ev_1] at hc_2; simp only [lg_cmp_lt, lg_cmp_le, lg_cmp_gt, lg_cmp_ge, lg_cmp_eq] at hc_2; simp only [fa_lt64, fa_le64, fa_eq64, Int32.toInt_toInt64, ll_0] at hc_2
    refine lv_iconst (v := 0) hx hb d_Model_in_17 (by decide) ?_
    exact z_zret hx hb hr hlocks rfl hP hD hS (Nat.le_of_ble_eq_true rfl) (Nat.le_of_ble_eq_true rfl) d_Model_in_18 (Or.inl ⟨rfl, rfl, by omega⟩)
  · rw [ev_1] at hc_2; simp only [lg_cmp_lt, lg_cmp_le, lg_cmp_gt, lg_cmp_ge, lg_cmp_eq] at hc_2; simp only [fa_lt64, fa_le64, fa_eq64, Int32.toInt_toInt64, ll_0] at hc_2
    refine lv_lload_n hx hb d_Model_in_6 rfl (lv_at hl 0 rfl) ?_
    refine lv_lload hx hb d_Model_in_7 (lv_at hl 2 rfl) ?_
    refine W.lcmp hx hb d_Model_in_9 ?_
    refine lv_topi (fun v_3 ev_3 => ?_)
    refine lv_if_gt (tgt := 17) hx hb d_Model_in_10 (by decide) (fun hc_4 => ?_) (fun hc_4 => ?_)
    · rw [ev_3] at hc_4; simp only [lg_cmp_lt, lg_cmp_le, lg_cmp_gt, lg_cmp_ge, lg_cmp_eq] at hc_4; simp only [fa_lt64, fa_le64, fa_eq64, Int32.toInt_toInt64, ll_20] at hc_4
      refine lv_iconst (v := 0) hx hb d_Model_in_17 (by decide) ?_
      exact z_zret hx hb hr hlocks rfl hP hD hS (Nat.le_of_ble_eq_true rfl) (Nat.le_of_ble_eq_true rfl) d_Model_in_18 (Or.inr (Or.inl ⟨rfl, rfl, by omega, by omega⟩))
    · rw [ev_3] at hc_4; simp only [lg_cmp_lt, lg_cmp_le, lg_cmp_gt, lg_cmp_ge, lg_cmp_eq] at hc_4; simp only [fa_lt64, fa_le64, fa_eq64, Int32.toInt_toInt64, ll_20] at hc_4
      refine lv_iconst (v := 1) hx hb d_Model_in_13 (by decide) ?_
      refine lv_goto (tgt := 18) hx hb d_Model_in_14 (by decide) ?_
      exact z_zret hx hb hr hlocks rfl hP hD hS (Nat.le_of_ble_eq_true rfl) (Nat.le_of_ble_eq_true rfl) d_Model_in_18 (Or.inr (Or.inr (⟨rfl, rfl, by omega, by omega⟩)))
abbrev m_c2_Model_change : Room := { frames := 1, cells := 0, slots := 0, locals := 25 }
set_option maxHeartbeats 4000000 in
set_option maxRecDepth 100000 in
theorem c2_Model_change (l : Launch) (G : zG) (b0 : Nat) (b1 : Int32) (b2 : Nat) (b3 : Nat) (b4 : Nat) (b5 : Nat) (b6 : Nat) (b7 : Nat) (b8 : Nat) (b9 : Nat) (b10 : Nat) (b11 : Nat) (b12 : Nat) (b13 : Nat) (b14 : Nat) (b15 : Nat) (b16 : Nat) (b17 : Nat) (b18 : Nat) (b19 : Nat) (b20 : Nat) (b21 : Nat) (b22 : Nat) (b23 : Nat) (b24 : Nat) (b25 : Nat) (b26 : Nat) (b27 : Nat) (b28 : Nat) (b29 : Nat) (b30 : Nat) (b31 : Nat) (b32 : Nat) (b33 : Nat) (b34 : Nat) (b35 : Nat) (b36 : Nat) (b37 : Nat) (b38 : Nat) (b39 : Nat) (b40 : Nat)  : zM l G y_Model_change prog_14_method_20_code 5 (Option.some Jvm.ClassFile.FieldType.int) m_c2_Model_change [.ref b0, .int 502, .int b1, .int 20] [(b0, .inr (12, [.int 0, .ref b2, .ref b3, .ref b4, .ref b5, .int 0, .ref b6, .int 0, .int 0, .int 0, .int 0, .ref b7, .ref b8, .ref b9, .int 0, .ref b10, .ref b11, .ref b12, .ref b13, .ref b14, .ref b15, .ref b16, .ref b17, .ref b18, .ref b19, .ref b20, .ref b21, .int 0, .ref b22, .ref b23, .int 0, .int 0, .int 0, .int 0, .ref b24, .ref b25, .ref b26, .ref b27, .ref b28, .ref b29, .ref b30, .int 0, .ref b31, .ref b32, .int 0, .ref b33, .ref b34, .ref b35, .ref b36, .ref b37, .int 0, .ref b38, .ref b39, .ref b40])), (b2, .inl (G.2 0, 503, .inl (upd (fun _ => 0) 501 1))), (b5, .inl (G.2 0, 4024, .inl (fun _ => 0)))] (fun v w => (v = some (.int (-1)) ∧ w = [(b0, .inr (12, [.int 0, .ref b2, .ref b3, .ref b4, .ref b5, .int 0, .ref b6, .int 0, .int 0, .int 0, .int 0, .ref b7, .ref b8, .ref b9, .int 0, .ref b10, .ref b11, .ref b12, .ref b13, .ref b14, .ref b15, .ref b16, .ref b17, .ref b18, .ref b19, .ref b20, .ref b21, .int 0, .ref b22, .ref b23, .int 0, .int 0, .int 0, .int 0, .ref b24, .ref b25, .ref b26, .ref b27, .ref b28, .ref b29, .ref b30, .int 0, .ref b31, .ref b32, .int 0, .ref b33, .ref b34, .ref b35, .ref b36, .ref b37, .int 0, .ref b38, .ref b39, .ref b40])), (b2, .inl (G.2 0, 503, .inl (upd (fun _ => 0) 501 1))), (b5, .inl (G.2 0, 4024, .inl (fun _ => 0)))] ∧ b1.toInt < 0) ∨ (v = some (.int (-1)) ∧ w = [(b0, .inr (12, [.int 0, .ref b2, .ref b3, .ref b4, .ref b5, .int 0, .ref b6, .int 0, .int 0, .int 0, .int 0, .ref b7, .ref b8, .ref b9, .int 0, .ref b10, .ref b11, .ref b12, .ref b13, .ref b14, .ref b15, .ref b16, .ref b17, .ref b18, .ref b19, .ref b20, .ref b21, .int 0, .ref b22, .ref b23, .int 0, .int 0, .int 0, .int 0, .ref b24, .ref b25, .ref b26, .ref b27, .ref b28, .ref b29, .ref b30, .int 0, .ref b31, .ref b32, .int 0, .ref b33, .ref b34, .ref b35, .ref b36, .ref b37, .int 0, .ref b38, .ref b39, .ref b40])), (b2, .inl (G.2 0, 503, .inl (upd (fun _ => 0) 501 1))), (b5, .inl (G.2 0, 4024, .inl (fun _ => 0)))] ∧ 0 ≤ b1.toInt ∧ 20 < b1.toInt) ∨ (∃ (e0 : Nat → Int32), v = some (.int 0) ∧ w = [(b0, .inr (12, [.int 0, .ref b2, .ref b3, .ref b4, .ref b5, .int 1, .ref b6, .int 0, .int 0, .int 0, .int 0, .ref b7, .ref b8, .ref b9, .int 0, .ref b10, .ref b11, .ref b12, .ref b13, .ref b14, .ref b15, .ref b16, .ref b17, .ref b18, .ref b19, .ref b20, .ref b21, .int 0, .ref b22, .ref b23, .int 0, .int 0, .int 0, .int 0, .ref b24, .ref b25, .ref b26, .ref b27, .ref b28, .ref b29, .ref b30, .int 0, .ref b31, .ref b32, .int 0, .ref b33, .ref b34, .ref b35, .ref b36, .ref b37, .int 0, .ref b38, .ref b39, .ref b40])), (b2, .inl (G.2 0, 503, .inl (upd (upd (fun _ => 0) 501 1) 502 b1))), (b5, .inl (G.2 0, 4024, .inl e0))] ∧ 0 ≤ b1.toInt ∧ b1.toInt ≤ 20 ∧ ¬ 0 = b1.toInt) ∨ (v = some (.int (-3)) ∧ w = [(b0, .inr (12, [.int 0, .ref b2, .ref b3, .ref b4, .ref b5, .int 0, .ref b6, .int 0, .int 0, .int 0, .int 0, .ref b7, .ref b8, .ref b9, .int 0, .ref b10, .ref b11, .ref b12, .ref b13, .ref b14, .ref b15, .ref b16, .ref b17, .ref b18, .ref b19, .ref b20, .ref b21, .int 0, .ref b22, .ref b23, .int 0, .int 0, .int 0, .int 0, .ref b24, .ref b25, .ref b26, .ref b27, .ref b28, .ref b29, .ref b30, .int 0, .ref b31, .ref b32, .int 0, .ref b33, .ref b34, .ref b35, .ref b36, .ref b37, .int 0, .ref b38, .ref b39, .ref b40])), (b2, .inl (G.2 0, 503, .inl (upd (fun _ => 0) 501 1))), (b5, .inl (G.2 0, 4024, .inl (fun _ => 0)))] ∧ 0 ≤ b1.toInt ∧ b1.toInt ≤ 20 ∧ 0 = b1.toInt)) := by
  refine z_start (by decide +kernel) (Nat.le_of_ble_eq_true rfl) ?_
  intro p e s m below meth c A Z hr hnm hA hP hD hS ls hl
  have Z : zC p s m _ meth c prog_14_method_20_code 5 "TraceMachinesModel" G := Z
  obtain ⟨hx, hb, hml, hown, hts, hK, hN, hlocks⟩ := id Z
  have hl : lv_has ls 5 [(0, .ref b0), (1, .int 502), (2, .int b1), (3, .int 20)] := hl
  refine lv_iload_n hx hb d_Model_change_0 rfl (lv_at hl 2 rfl) ?_
  refine lv_i2l (v := b1.toInt64) hx hb d_Model_change_1 rfl ?_
  refine lv_lconst (v := 0) hx hb d_Model_change_2 (by decide) ?_
  refine lv_iload_n hx hb d_Model_change_3 rfl (lv_at hl 3 rfl) ?_
  refine lv_i2l (v := 20) hx hb d_Model_change_4 (by decide +kernel) ?_
  refine z_callS (index := 138) (As := [.long b1.toInt64, .long 0, .long 20]) (rest := []) (wr := [(b0, .inr (12, [.int 0, .ref b2, .ref b3, .ref b4, .ref b5, .int 0, .ref b6, .int 0, .int 0, .int 0, .int 0, .ref b7, .ref b8, .ref b9, .int 0, .ref b10, .ref b11, .ref b12, .ref b13, .ref b14, .ref b15, .ref b16, .ref b17, .ref b18, .ref b19, .ref b20, .ref b21, .int 0, .ref b22, .ref b23, .int 0, .int 0, .int 0, .int 0, .ref b24, .ref b25, .ref b26, .ref b27, .ref b28, .ref b29, .ref b30, .int 0, .ref b31, .ref b32, .int 0, .ref b33, .ref b34, .ref b35, .ref b36, .ref b37, .int 0, .ref b38, .ref b39, .ref b40])), (b2, .inl (G.2 0, 503, .inl (upd (fun _ => 0) 501 1))), (b5, .inl (G.2 0, 4024, .inl (fun _ => 0)))]) Z (c5_Model_in l G (b1.toInt64)) hl.1 q1285 q1286 q14 q1287 ⟨by decide, by decide, by show _ = some 3; decide +kernel⟩ ⟨Nat.le_of_ble_eq_true rfl, Nat.le_of_ble_eq_true rfl⟩ ⟨Nat.le_of_ble_eq_true rfl, Nat.le_of_ble_eq_true rfl⟩ rfl (Nat.le_of_ble_eq_true rfl) d_Model_change_5 hP hD hS hA [] [0, 1, 2] rfl rfl rfl rfl (by decide) (fun v w1 H locs hw_1 hP hD hS => ?_)
  rcases hw_1 with ⟨rfl, rfl, hq_2⟩ | ⟨rfl, rfl, hq_3, hq_4⟩ | ⟨rfl, rfl, hq_5, hq_6⟩
  · try simp only [Int32.toInt_toInt64, ll_0] at hq_2
    have hP : va_P G.1 classes [(b0, .inr (12, [.int 0, .ref b2, .ref b3, .ref b4, .ref b5, .int 0, .ref b6, .int 0, .int 0, .int 0, .int 0, .ref b7, .ref b8, .ref b9, .int 0, .ref b10, .ref b11, .ref b12, .ref b13, .ref b14, .ref b15, .ref b16, .ref b17, .ref b18, .ref b19, .ref b20, .ref b21, .int 0, .ref b22, .ref b23, .int 0, .int 0, .int 0, .int 0, .ref b24, .ref b25, .ref b26, .ref b27, .ref b28, .ref b29, .ref b30, .int 0, .ref b31, .ref b32, .int 0, .ref b33, .ref b34, .ref b35, .ref b36, .ref b37, .int 0, .ref b38, .ref b39, .ref b40])), (b2, .inl (G.2 0, 503, .inl (upd (fun _ => 0) 501 1))), (b5, .inl (G.2 0, 4024, .inl (fun _ => 0)))] H := hP
    have hD := z_tie hP hD rfl
    refine W.widen (k := 0) (n := 0) (Nat.le_of_ble_eq_true rfl) (Nat.le_of_ble_eq_true rfl) ?_
    refine lv_if_ne (tgt := 13) hx hb d_Model_change_8 (by decide) (fun hc => absurd hc (by decide +kernel)) (fun _ => ?_)
    refine lv_iconst (v := (-1)) hx hb d_Model_change_11 (by decide) ?_
    exact z_iret hx hb hr hlocks hP hD hS (Nat.le_of_ble_eq_true rfl) (Nat.le_of_ble_eq_true rfl) d_Model_change_12 (Or.inl ⟨rfl, rfl, by omega⟩)
  · try simp only [Int32.toInt_toInt64, ll_0] at hq_3
    try simp only [Int32.toInt_toInt64, ll_20] at hq_4
    have hP : va_P G.1 classes [(b0, .inr (12, [.int 0, .ref b2, .ref b3, .ref b4, .ref b5, .int 0, .ref b6, .int 0, .int 0, .int 0, .int 0, .ref b7, .ref b8, .ref b9, .int 0, .ref b10, .ref b11, .ref b12, .ref b13, .ref b14, .ref b15, .ref b16, .ref b17, .ref b18, .ref b19, .ref b20, .ref b21, .int 0, .ref b22, .ref b23, .int 0, .int 0, .int 0, .int 0, .ref b24, .ref b25, .ref b26, .ref b27, .ref b28, .ref b29, .ref b30, .int 0, .ref b31, .ref b32, .int 0, .ref b33, .ref b34, .ref b35, .ref b36, .ref b37, .int 0, .ref b38, .ref b39, .ref b40])), (b2, .inl (G.2 0, 503, .inl (upd (fun _ => 0) 501 1))), (b5, .inl (G.2 0, 4024, .inl (fun _ => 0)))] H := hP
    have hD := z_tie hP hD rfl
    refine W.widen (k := 0) (n := 0) (Nat.le_of_ble_eq_true rfl) (Nat.le_of_ble_eq_true rfl) ?_
    refine lv_if_ne (tgt := 13) hx hb d_Model_change_8 (by decide) (fun hc => absurd hc (by decide +kernel)) (fun _ => ?_)
    refine lv_iconst (v := (-1)) hx hb d_Model_change_11 (by decide) ?_
    exact z_iret hx hb hr hlocks hP hD hS (Nat.le_of_ble_eq_true rfl) (Nat.le_of_ble_eq_true rfl) d_Model_change_12 (Or.inr (Or.inl ⟨rfl, rfl, by omega, by omega⟩))
  · try simp only [Int32.toInt_toInt64, ll_0] at hq_5
    try simp only [Int32.toInt_toInt64, ll_20] at hq_6
    have hP : va_P G.1 classes [(b0, .inr (12, [.int 0, .ref b2, .ref b3, .ref b4, .ref b5, .int 0, .ref b6, .int 0, .int 0, .int 0, .int 0, .ref b7, .ref b8, .ref b9, .int 0, .ref b10, .ref b11, .ref b12, .ref b13, .ref b14, .ref b15, .ref b16, .ref b17, .ref b18, .ref b19, .ref b20, .ref b21, .int 0, .ref b22, .ref b23, .int 0, .int 0, .int 0, .int 0, .ref b24, .ref b25, .ref b26, .ref b27, .ref b28, .ref b29, .ref b30, .int 0, .ref b31, .ref b32, .int 0, .ref b33, .ref b34, .ref b35, .ref b36, .ref b37, .int 0, .ref b38, .ref b39, .ref b40])), (b2, .inl (G.2 0, 503, .inl (upd (fun _ => 0) 501 1))), (b5, .inl (G.2 0, 4024, .inl (fun _ => 0)))] H := hP
    have hD := z_tie hP hD rfl
    refine W.widen (k := 0) (n := 0) (Nat.le_of_ble_eq_true rfl) (Nat.le_of_ble_eq_true rfl) ?_
    refine lv_if_ne (tgt := 13) hx hb d_Model_change_8 (by decide) (fun _ => ?_) (fun hc => absurd hc (by decide +kernel))
    refine lv_aload_n hx hb d_Model_change_13 rfl (lv_at hl 0 rfl) ?_
    refine va_get (D := G.1) (ci := 12) (v := .ref b2) (C := R_Model) (T := F_Model) (N := 54) hx hb hts i_Model hown hK hP 0 rfl rfl 1 (by decide) (hts _ q1114) (fun _ h9 => h9) rfl d_Model_change_14 ?_
    refine lv_iload_n hx hb d_Model_change_17 rfl (lv_at hl 1 rfl) ?_
    refine va_iald hx hb hK hP 1 0 rfl rfl (i := 502) (z_in rfl) d_Model_change_18 ?_
    refine z_topi (y := 0) rfl ?_
    refine lv_istore (lv' := [(4, .int 0), (0, .ref b0), (1, .int 502), (2, .int b1), (3, .int 20)]) hx hb d_Model_change_19 hl (by decide) rfl (fun ls hl => ?_)
    refine lv_iload hx hb d_Model_change_21 (lv_at hl 0 rfl) ?_
    refine lv_iload_n hx hb d_Model_change_23 rfl (lv_at hl 3 rfl) ?_
    refine lv_icmp_ne (tgt := 30) hx hb d_Model_change_24 (by decide) (fun hc_7 => ?_) (fun hc_7 => ?_)
    · simp only [fa_lt, fa_le, fa_eq, Int32.toInt_toInt64, li_0] at hc_7
      refine lv_aload_n hx hb d_Model_change_30 rfl (lv_at hl 1 rfl) ?_
      refine z_callV (index := 188) (As := []) (rest := []) (wr := []) Z (c2_Model_remember l G (b0) (b2) (b3) (b4) (b5) (b6) (b7) (b8) (b9) (b10) (b11) (b12) (b13) (b14) (b15) (b16) (b17) (b18) (b19) (b20) (b21) (b22) (b23) (b24) (b25) (b26) (b27) (b28) (b29) (b30) (b31) (b32) (b33) (b34) (b35) (b36) (b37) (b38) (b39) (b40)) hl.1 q1320 q1322 qs50 q14 q1323 ⟨by decide, by decide, by show _ = some 0; decide +kernel⟩ ⟨Nat.le_of_ble_eq_true rfl, Nat.le_of_ble_eq_true rfl⟩ ⟨Nat.le_of_ble_eq_true rfl, Nat.le_of_ble_eq_true rfl⟩ rfl (Nat.le_of_ble_eq_true rfl) d_Model_change_31 hP hD hS hA 0 12 rfl rfl rfl [0, 1, 2] [] rfl rfl rfl rfl (by decide) (fun v w1 H locs hw_8 hP hD hS => ?_)
      obtain ⟨x_9, rfl, rfl⟩ := hw_8
      have hP : va_P G.1 classes [(b0, .inr (12, [.int 0, .ref b2, .ref b3, .ref b4, .ref b5, .int 1, .ref b6, .int 0, .int 0, .int 0, .int 0, .ref b7, .ref b8, .ref b9, .int 0, .ref b10, .ref b11, .ref b12, .ref b13, .ref b14, .ref b15, .ref b16, .ref b17, .ref b18, .ref b19, .ref b20, .ref b21, .int 0, .ref b22, .ref b23, .int 0, .int 0, .int 0, .int 0, .ref b24, .ref b25, .ref b26, .ref b27, .ref b28, .ref b29, .ref b30, .int 0, .ref b31, .ref b32, .int 0, .ref b33, .ref b34, .ref b35, .ref b36, .ref b37, .int 0, .ref b38, .ref b39, .ref b40])), (b2, .inl (G.2 0, 503, .inl (upd (fun _ => 0) 501 1))), (b5, .inl (G.2 0, 4024, .inl x_9))] H := hP
      have hD := z_tie hP hD rfl
      refine W.widen (k := 0) (n := 0) (Nat.le_of_ble_eq_true rfl) (Nat.le_of_ble_eq_true rfl) ?_
      refine lv_aload_n hx hb d_Model_change_34 rfl (lv_at hl 1 rfl) ?_
      refine va_get (D := G.1) (ci := 12) (v := .ref b2) (C := R_Model) (T := F_Model) (N := 54) hx hb hts i_Model hown hK hP 0 rfl rfl 1 (by decide) (hts _ q1114) (fun _ h9 => h9) rfl d_Model_change_35 ?_
      refine lv_iload_n hx hb d_Model_change_38 rfl (lv_at hl 2 rfl) ?_
      refine lv_iload_n hx hb d_Model_change_39 rfl (lv_at hl 3 rfl) ?_
      refine va_iast hx hb hK hP hD hS 1 0 rfl rfl (i := 502) (z_in rfl) d_Model_change_40 (fun H locs hP hD hS => ?_)
      have hP : va_P G.1 classes [(b0, .inr (12, [.int 0, .ref b2, .ref b3, .ref b4, .ref b5, .int 1, .ref b6, .int 0, .int 0, .int 0, .int 0, .ref b7, .ref b8, .ref b9, .int 0, .ref b10, .ref b11, .ref b12, .ref b13, .ref b14, .ref b15, .ref b16, .ref b17, .ref b18, .ref b19, .ref b20, .ref b21, .int 0, .ref b22, .ref b23, .int 0, .int 0, .int 0, .int 0, .ref b24, .ref b25, .ref b26, .ref b27, .ref b28, .ref b29, .ref b30, .int 0, .ref b31, .ref b32, .int 0, .ref b33, .ref b34, .ref b35, .ref b36, .ref b37, .int 0, .ref b38, .ref b39, .ref b40])), (b2, .inl (G.2 0, 503, .inl (upd (upd (fun _ => 0) 501 1) 502 b1))), (b5, .inl (G.2 0, 4024, .inl x_9))] H := hP
      have hD := z_tie hP hD rfl
      refine lv_iload hx hb d_Model_change_41 (lv_at hl 0 rfl) ?_
      exact z_iret hx hb hr hlocks hP hD hS (Nat.le_of_ble_eq_true rfl) (Nat.le_of_ble_eq_true rfl) d_Model_change_43 (Or.inr (Or.inr (Or.inl ⟨x_9, rfl, rfl, by omega, by omega, by omega⟩)))
    · simp only [fa_lt, fa_le, fa_eq, Int32.toInt_toInt64, li_0] at hc_7
      refine lv_bipush (v := (-3)) hx hb d_Model_change_27 (by decide) ?_
      exact z_iret hx hb hr hlocks hP hD hS (Nat.le_of_ble_eq_true rfl) (Nat.le_of_ble_eq_true rfl) d_Model_change_29 (Or.inr (Or.inr (Or.inr (⟨rfl, rfl, by omega, by omega, by omega⟩))))
theorem d_Model_margin_15 : decode prog_14_method_22_code 15 = .ok (.ireturn, 1) := by decide +kernel
abbrev m_t_Model_margin : Room := { frames := 2, cells := 0, slots := 0, locals := 49 }
set_option maxHeartbeats 4000000 in
set_option maxRecDepth 100000 in
theorem t_Model_margin (l : Launch) (G : zG) (b0 : Nat) (p0 : Int32) (b2 : Nat) (b3 : Nat) (b4 : Nat) (b5 : Nat) (b6 : Nat) (b7 : Nat) (b8 : Nat) (b9 : Nat) (b10 : Nat) (b11 : Nat) (b12 : Nat) (b13 : Nat) (b14 : Nat) (b15 : Nat) (b16 : Nat) (b17 : Nat) (b18 : Nat) (b19 : Nat) (b20 : Nat) (b21 : Nat) (b22 : Nat) (b23 : Nat) (b24 : Nat) (b25 : Nat) (b26 : Nat) (b27 : Nat) (b28 : Nat) (b29 : Nat) (b30 : Nat) (b31 : Nat) (b32 : Nat) (b33 : Nat) (b34 : Nat) (b35 : Nat) (b36 : Nat) (b37 : Nat) (b38 : Nat) (b39 : Nat) (b40 : Nat)  : zM l G y_Model_margin prog_14_method_22_code 2 (Option.some Jvm.ClassFile.FieldType.int) m_t_Model_margin [.ref b0, .int p0] [(b0, .inr (12, [.int 0, .ref b2, .ref b3, .ref b4, .ref b5, .int 0, .ref b6, .int 0, .int 0, .int 0, .int 0, .ref b7, .ref b8, .ref b9, .int 0, .ref b10, .ref b11, .ref b12, .ref b13, .ref b14, .ref b15, .ref b16, .ref b17, .ref b18, .ref b19, .ref b20, .ref b21, .int 0, .ref b22, .ref b23, .int 0, .int 0, .int 0, .int 0, .ref b24, .ref b25, .ref b26, .ref b27, .ref b28, .ref b29, .ref b30, .int 0, .ref b31, .ref b32, .int 0, .ref b33, .ref b34, .ref b35, .ref b36, .ref b37, .int 0, .ref b38, .ref b39, .ref b40])), (b2, .inl (G.2 0, 503, .inl (upd (fun _ => 0) 501 1))), (b5, .inl (G.2 0, 4024, .inl (fun _ => 0)))] (fun v _ => v = some (.int (a_margin p0))) := by
  refine z_start (by decide +kernel) (Nat.le_of_ble_eq_true rfl) ?_
  intro p e s m below meth c A Z hr hnm hA hP hD hS ls hl
  have Z : zC p s m _ meth c prog_14_method_22_code 2 "TraceMachinesModel" G := Z
  obtain ⟨hx, hb, hml, hown, hts, hK, hN, hlocks⟩ := id Z
  have hl : lv_has ls 2 [(0, .ref b0), (1, .int p0)] := hl
  refine lv_aload_n hx hb d_Model_margin_0 rfl (lv_at hl 0 rfl) ?_
  refine lv_iconst (v := 0) hx hb d_Model_margin_1 (by decide) ?_
  refine va_put (D := G.1) (ci := 12) (v := .int 0) (ty := .int) (C := R_Model) (T := F_Model) (N := 54) hx hb hts i_Model t_Model t_Model_ok n_Model hown hK hP hD hS 0 rfl rfl 0 (by decide) (hts _ q1113) (fun _ h9 => h9) rfl (by decide +kernel) rfl rfl (Nat.le_of_ble_eq_true rfl) d_Model_margin_2 (fun H locs hP hD hS => ?_)
  have hP : va_P G.1 classes [(b0, .inr (12, [.int 0, .ref b2, .ref b3, .ref b4, .ref b5, .int 0, .ref b6, .int 0, .int 0, .int 0, .int 0, .ref b7, .ref b8, .ref b9, .int 0, .ref b10, .ref b11, .ref b12, .ref b13, .ref b14, .ref b15, .ref b16, .ref b17, .ref b18, .ref b19, .ref b20, .ref b21, .int 0, .ref b22, .ref b23, .int 0, .int 0, .int 0, .int 0, .ref b24, .ref b25, .ref b26, .ref b27, .ref b28, .ref b29, .ref b30, .int 0, .ref b31, .ref b32, .int 0, .ref b33, .ref b34, .ref b35, .ref b36, .ref b37, .int 0, .ref b38, .ref b39, .ref b40])), (b2, .inl (G.2 0, 503, .inl (upd (fun _ => 0) 501 1))), (b5, .inl (G.2 0, 4024, .inl (fun _ => 0)))] H := hP
  have hD := z_tie hP hD rfl
  refine lv_aload_n hx hb d_Model_margin_5 rfl (lv_at hl 0 rfl) ?_
  refine lv_sipush (v := 502) hx hb d_Model_margin_6 (by decide) ?_
  refine lv_iload_n hx hb d_Model_margin_9 rfl (lv_at hl 1 rfl) ?_
  refine lv_bipush (v := 20) hx hb d_Model_margin_10 (by decide) ?_
  refine z_callV (index := 195) (As := [.int 502, .int p0, .int 20]) (rest := []) (wr := []) Z (c2_Model_change l G (b0) (p0) (b2) (b3) (b4) (b5) (b6) (b7) (b8) (b9) (b10) (b11) (b12) (b13) (b14) (b15) (b16) (b17) (b18) (b19) (b20) (b21) (b22) (b23) (b24) (b25) (b26) (b27) (b28) (b29) (b30) (b31) (b32) (b33) (b34) (b35) (b36) (b37) (b38) (b39) (b40)) hl.1 q1340 q1342 qs53 q14 q1343 ⟨by decide, by decide, by show _ = some 3; decide +kernel⟩ ⟨Nat.le_of_ble_eq_true rfl, Nat.le_of_ble_eq_true rfl⟩ ⟨Nat.le_of_ble_eq_true rfl, Nat.le_of_ble_eq_true rfl⟩ rfl (Nat.le_of_ble_eq_true rfl) d_Model_margin_12 hP hD hS hA 0 12 rfl rfl rfl [0, 1, 2] [] rfl rfl rfl rfl (by decide) (fun v w1 H locs hw_1 hP hD hS => ?_)
  rcases hw_1 with ⟨rfl, rfl, hq_2⟩ | ⟨rfl, rfl, hq_3, hq_4⟩ | ⟨x_5, rfl, rfl, hq_6, hq_7, hq_8⟩ | ⟨rfl, rfl, hq_9, hq_10, hq_11⟩
  · try simp only [Int32.toInt_toInt64, ll_0] at hq_2
    have hP : va_P G.1 classes [(b0, .inr (12, [.int 0, .ref b2, .ref b3, .ref b4, .ref b5, .int 0, .ref b6, .int 0, .int 0, .int 0, .int 0, .ref b7, .ref b8, .ref b9, .int 0, .ref b10, .ref b11, .ref b12, .ref b13, .ref b14, .ref b15, .ref b16, .ref b17, .ref b18, .ref b19, .ref b20, .ref b21, .int 0, .ref b22, .ref b23, .int 0, .int 0, .int 0, .int 0, .ref b24, .ref b25, .ref b26, .ref b27, .ref b28, .ref b29, .ref b30, .int 0, .ref b31, .ref b32, .int 0, .ref b33, .ref b34, .ref b35, .ref b36, .ref b37, .int 0, .ref b38, .ref b39, .ref b40])), (b2, .inl (G.2 0, 503, .inl (upd (fun _ => 0) 501 1))), (b5, .inl (G.2 0, 4024, .inl (fun _ => 0)))] H := hP
    have hD := z_tie hP hD rfl
    refine W.widen (k := 0) (n := 0) (Nat.le_of_ble_eq_true rfl) (Nat.le_of_ble_eq_true rfl) ?_
    exact z_iret hx hb hr hlocks hP hD hS (Nat.le_of_ble_eq_true rfl) (Nat.le_of_ble_eq_true rfl) d_Model_margin_15 (congrArg (fun z => some (Value.int z)) (by unfold a_margin; (first | rfl | (repeat (first | rw [if_pos (by omega)] | rw [if_neg (by omega)])))))
  · try simp only [Int32.toInt_toInt64, ll_0] at hq_3
    try simp only [Int32.toInt_toInt64, ll_20] at hq_4
    have hP : va_P G.1 classes [(b0, .inr (12, [.int 0, .ref b2, .ref b3, .ref b4, .ref b5, .int 0, .ref b6, .int 0, .int 0, .int 0, .int 0, .ref b7, .ref b8, .ref b9, .int 0, .ref b10, .ref b11, .ref b12, .ref b13, .ref b14, .ref b15, .ref b16, .ref b17, .ref b18, .ref b19, .ref b20, .ref b21, .int 0, .ref b22, .ref b23, .int 0, .int 0, .int 0, .int 0, .ref b24, .ref b25, .ref b26, .ref b27, .ref b28, .ref b29, .ref b30, .int 0, .ref b31, .ref b32, .int 0, .ref b33, .ref b34, .ref b35, .ref b36, .ref b37, .int 0, .ref b38, .ref b39, .ref b40])), (b2, .inl (G.2 0, 503, .inl (upd (fun _ => 0) 501 1))), (b5, .inl (G.2 0, 4024, .inl (fun _ => 0)))] H := hP
    have hD := z_tie hP hD rfl
    refine W.widen (k := 0) (n := 0) (Nat.le_of_ble_eq_true rfl) (Nat.le_of_ble_eq_true rfl) ?_
    exact z_iret hx hb hr hlocks hP hD hS (Nat.le_of_ble_eq_true rfl) (Nat.le_of_ble_eq_true rfl) d_Model_margin_15 (congrArg (fun z => some (Value.int z)) (by unfold a_margin; (first | rfl | (repeat (first | rw [if_pos (by omega)] | rw [if_neg (by omega)])))))
  · try simp only [Int32.toInt_toInt64, ll_0] at hq_6
    try simp only [Int32.toInt_toInt64, ll_20] at hq_7
    try simp only [Int32.toInt_toInt64, li_0] at hq_8
    have hP : va_P G.1 classes [(b0, .inr (12, [.int 0, .ref b2, .ref b3, .ref b4, .ref b5, .int 1, .ref b6, .int 0, .int 0, .int 0, .int 0, .ref b7, .ref b8, .ref b9, .int 0, .ref b10, .ref b11, .ref b12, .ref b13, .ref b14, .ref b15, .ref b16, .ref b17, .ref b18, .ref b19, .ref b20, .ref b21, .int 0, .ref b22, .ref b23, .int 0, .int 0, .int 0, .int 0, .ref b24, .ref b25, .ref b26, .ref b27, .ref b28, .ref b29, .ref b30, .int 0, .ref b31, .ref b32, .int 0, .ref b33, .ref b34, .ref b35, .ref b36, .ref b37, .int 0, .ref b38, .ref b39, .ref b40])), (b2, .inl (G.2 0, 503, .inl (upd (upd (fun _ => 0) 501 1) 502 p0))), (b5, .inl (G.2 0, 4024, .inl x_5))] H := hP
    have hD := z_tie hP hD rfl
    refine W.widen (k := 0) (n := 0) (Nat.le_of_ble_eq_true rfl) (Nat.le_of_ble_eq_true rfl) ?_
    exact z_iret hx hb hr hlocks hP hD hS (Nat.le_of_ble_eq_true rfl) (Nat.le_of_ble_eq_true rfl) d_Model_margin_15 (congrArg (fun z => some (Value.int z)) (by unfold a_margin; (first | rfl | (repeat (first | rw [if_pos (by omega)] | rw [if_neg (by omega)])))))
  · try simp only [Int32.toInt_toInt64, ll_0] at hq_9
    try simp only [Int32.toInt_toInt64, ll_20] at hq_10
    try simp only [Int32.toInt_toInt64, li_0] at hq_11
    have hP : va_P G.1 classes [(b0, .inr (12, [.int 0, .ref b2, .ref b3, .ref b4, .ref b5, .int 0, .ref b6, .int 0, .int 0, .int 0, .int 0, .ref b7, .ref b8, .ref b9, .int 0, .ref b10, .ref b11, .ref b12, .ref b13, .ref b14, .ref b15, .ref b16, .ref b17, .ref b18, .ref b19, .ref b20, .ref b21, .int 0, .ref b22, .ref b23, .int 0, .int 0, .int 0, .int 0, .ref b24, .ref b25, .ref b26, .ref b27, .ref b28, .ref b29, .ref b30, .int 0, .ref b31, .ref b32, .int 0, .ref b33, .ref b34, .ref b35, .ref b36, .ref b37, .int 0, .ref b38, .ref b39, .ref b40])), (b2, .inl (G.2 0, 503, .inl (upd (fun _ => 0) 501 1))), (b5, .inl (G.2 0, 4024, .inl (fun _ => 0)))] H := hP
    have hD := z_tie hP hD rfl
    refine W.widen (k := 0) (n := 0) (Nat.le_of_ble_eq_true rfl) (Nat.le_of_ble_eq_true rfl) ?_
    exact z_iret hx hb hr hlocks hP hD hS (Nat.le_of_ble_eq_true rfl) (Nat.le_of_ble_eq_true rfl) d_Model_margin_15 (congrArg (fun z => some (Value.int z)) (by unfold a_margin; (first | rfl | (repeat (first | rw [if_pos (by omega)] | rw [if_neg (by omega)])))))
theorem d_Model_undo_0 : decode prog_14_method_23_code 0 = .ok (.aload_n 0, 1) := by decide +kernel
theorem d_Model_undo_1 : decode prog_14_method_23_code 1 = .ok (.iconst 0, 1) := by decide +kernel
theorem d_Model_undo_2 : decode prog_14_method_23_code 2 = .ok (.putfield 1, 3) := by decide +kernel
theorem d_Model_undo_5 : decode prog_14_method_23_code 5 = .ok (.aload_n 0, 1) := by decide +kernel
theorem d_Model_undo_6 : decode prog_14_method_23_code 6 = .ok (.getfield 179, 3) := by decide +kernel
theorem d_Model_undo_9 : decode prog_14_method_23_code 9 = .ok (.ifCond .ne 6, 3) := by decide +kernel
theorem d_Model_undo_12 : decode prog_14_method_23_code 12 = .ok (.bipush (-3), 2) := by decide +kernel
theorem d_Model_undo_14 : decode prog_14_method_23_code 14 = .ok (.ireturn, 1) := by decide +kernel
abbrev m_t_Model_undo : Room := { frames := 0, cells := 0, slots := 0, locals := 0 }
set_option maxHeartbeats 4000000 in
set_option maxRecDepth 100000 in
theorem t_Model_undo (l : Launch) (G : zG) (b0 : Nat) (b1 : Nat) (b2 : Nat) (b3 : Nat) (b4 : Nat) (b5 : Nat) (b6 : Nat) (b7 : Nat) (b8 : Nat) (b9 : Nat) (b10 : Nat) (b11 : Nat) (b12 : Nat) (b13 : Nat) (b14 : Nat) (b15 : Nat) (b16 : Nat) (b17 : Nat) (b18 : Nat) (b19 : Nat) (b20 : Nat) (b21 : Nat) (b22 : Nat) (b23 : Nat) (b24 : Nat) (b25 : Nat) (b26 : Nat) (b27 : Nat) (b28 : Nat) (b29 : Nat) (b30 : Nat) (b31 : Nat) (b32 : Nat) (b33 : Nat) (b34 : Nat) (b35 : Nat) (b36 : Nat) (b37 : Nat) (b38 : Nat) (b39 : Nat)  : zM l G y_Model_undo prog_14_method_23_code 2 (Option.some Jvm.ClassFile.FieldType.int) m_t_Model_undo [.ref b0] [(b0, .inr (12, [.int 0, .ref b1, .ref b2, .ref b3, .ref b4, .int 0, .ref b5, .int 0, .int 0, .int 0, .int 0, .ref b6, .ref b7, .ref b8, .int 0, .ref b9, .ref b10, .ref b11, .ref b12, .ref b13, .ref b14, .ref b15, .ref b16, .ref b17, .ref b18, .ref b19, .ref b20, .int 0, .ref b21, .ref b22, .int 0, .int 0, .int 0, .int 0, .ref b23, .ref b24, .ref b25, .ref b26, .ref b27, .ref b28, .ref b29, .int 0, .ref b30, .ref b31, .int 0, .ref b32, .ref b33, .ref b34, .ref b35, .ref b36, .int 0, .ref b37, .ref b38, .ref b39]))] (fun v _ => v = some (.int (a_undo))) := by
  refine z_start (by decide +kernel) (Nat.le_of_ble_eq_true rfl) ?_
  intro p e s m below meth c A Z hr hnm hA hP hD hS ls hl
  have Z : zC p s m _ meth c prog_14_method_23_code 2 "TraceMachinesModel" G := Z
  obtain ⟨hx, hb, hml, hown, hts, hK, hN, hlocks⟩ := id Z
  have hl : lv_has ls 2 [(0, .ref b0)] := hl
  refine lv_aload_n hx hb d_Model_undo_0 rfl (lv_at hl 0 rfl) ?_
  refine lv_iconst (v := 0) hx hb d_Model_undo_1 (by decide) ?_
  refine va_put (D := G.1) (ci := 12) (v := .int 0) (ty := .int) (C := R_Model) (T := F_Model) (N := 54) hx hb hts i_Model t_Model t_Model_ok n_Model hown hK hP hD hS 0 rfl rfl 0 (by decide) (hts _ q1113) (fun _ h9 => h9) rfl (by decide +kernel) rfl rfl (Nat.le_of_ble_eq_true rfl) d_Model_undo_2 (fun H locs hP hD hS => ?_)
  have hP : va_P G.1 classes [(b0, .inr (12, [.int 0, .ref b1, .ref b2, .ref b3, .ref b4, .int 0, .ref b5, .int 0, .int 0, .int 0, .int 0, .ref b6, .ref b7, .ref b8, .int 0, .ref b9, .ref b10, .ref b11, .ref b12, .ref b13, .ref b14, .ref b15, .ref b16, .ref b17, .ref b18, .ref b19, .ref b20, .int 0, .ref b21, .ref b22, .int 0, .int 0, .int 0, .int 0, .ref b23, .ref b24, .ref b25, .ref b26, .ref b27, .ref b28, .ref b29, .int 0, .ref b30, .ref b31, .int 0, .ref b32, .ref b33, .ref b34, .ref b35, .ref b36, .int 0, .ref b37, .ref b38, .ref b39]))] H := hP
  have hD := z_tie hP hD rfl
  refine lv_aload_n hx hb d_Model_undo_5 rfl (lv_at hl 0 rfl) ?_
  refine va_get (D := G.1) (ci := 12) (v := .int 0) (C := R_Model) (T := F_Model) (N := 54) hx hb hts i_Model hown hK hP 0 rfl rfl 5 (by decide) (hts _ q1118) (fun _ h9 => h9) rfl d_Model_undo_6 ?_
  refine lv_if_ne (tgt := 15) hx hb d_Model_undo_9 (by decide) (fun hc => absurd hc (by decide +kernel)) (fun _ => ?_)
  refine lv_bipush (v := (-3)) hx hb d_Model_undo_12 (by decide) ?_
  exact z_iret hx hb hr hlocks hP hD hS (Nat.le_of_ble_eq_true rfl) (Nat.le_of_ble_eq_true rfl) d_Model_undo_14 (congrArg (fun z => some (Value.int z)) (by unfold a_undo; (first | rfl | (repeat (first | rw [if_pos (by omega)] | rw [if_neg (by omega)])))))
theorem d_Model_state_0 : decode prog_14_method_40_code 0 = .ok (.aload_n 0, 1) := by decide +kernel
theorem d_Model_state_1 : decode prog_14_method_40_code 1 = .ok (.iconst 0, 1) := by decide +kernel
theorem d_Model_state_2 : decode prog_14_method_40_code 2 = .ok (.putfield 1, 3) := by decide +kernel
theorem d_Model_state_5 : decode prog_14_method_40_code 5 = .ok (.aload_n 0, 1) := by decide +kernel
theorem d_Model_state_6 : decode prog_14_method_40_code 6 = .ok (.invokevirtual 254, 3) := by decide +kernel
theorem d_Model_lay1_0 : decode prog_14_method_36_code 0 = .ok (.aload_n 0, 1) := by decide +kernel
theorem d_Model_lay1_1 : decode prog_14_method_36_code 1 = .ok (.iconst 0, 1) := by decide +kernel
theorem d_Model_lay1_2 : decode prog_14_method_36_code 2 = .ok (.aload_n 0, 1) := by decide +kernel
theorem d_Model_lay1_3 : decode prog_14_method_36_code 3 = .ok (.getfield 13, 3) := by decide +kernel
theorem d_Model_lay1_6 : decode prog_14_method_36_code 6 = .ok (.sipush 501, 3) := by decide +kernel
theorem d_Model_lay1_9 : decode prog_14_method_36_code 9 = .ok (.iaload, 1) := by decide +kernel
theorem d_Model_lay1_10 : decode prog_14_method_36_code 10 = .ok (.iconst (-1), 1) := by decide +kernel
theorem d_Model_lay1_11 : decode prog_14_method_36_code 11 = .ok (.invokevirtual 251, 3) := by decide +kernel
theorem d_Model_lay2_0 : decode prog_14_method_35_code 0 = .ok (.aload_n 0, 1) := by decide +kernel
theorem d_Model_lay2_1 : decode prog_14_method_35_code 1 = .ok (.iload_n 1, 1) := by decide +kernel
theorem d_Model_lay2_2 : decode prog_14_method_35_code 2 = .ok (.iload_n 3, 1) := by decide +kernel
theorem d_Model_lay2_3 : decode prog_14_method_35_code 3 = .ok (.invokevirtual 241, 3) := by decide +kernel
theorem d_Model_layPrefixes_0 : decode prog_14_method_27_code 0 = .ok (.aload_n 0, 1) := by decide +kernel
theorem d_Model_layPrefixes_1 : decode prog_14_method_27_code 1 = .ok (.getfield 40, 3) := by decide +kernel
theorem d_Model_layPrefixes_4 : decode prog_14_method_27_code 4 = .ok (.iload_n 1, 1) := by decide +kernel
theorem d_Model_layPrefixes_5 : decode prog_14_method_27_code 5 = .ok (.iconst 0, 1) := by decide +kernel
theorem d_Model_layPrefixes_6 : decode prog_14_method_27_code 6 = .ok (.iastore, 1) := by decide +kernel
theorem d_Model_layPrefixes_7 : decode prog_14_method_27_code 7 = .ok (.aload_n 0, 1) := by decide +kernel
theorem d_Model_layPrefixes_8 : decode prog_14_method_27_code 8 = .ok (.iload_n 1, 1) := by decide +kernel
theorem d_Model_layPrefixes_9 : decode prog_14_method_27_code 9 = .ok (.invokevirtual 199, 3) := by decide +kernel
theorem d_Model_newPrefix_0 : decode prog_14_method_26_code 0 = .ok (.sipush 241, 3) := by decide +kernel
theorem d_Model_newPrefix_3 : decode prog_14_method_26_code 3 = .ok (.iload_n 1, 1) := by decide +kernel
theorem d_Model_newPrefix_4 : decode prog_14_method_26_code 4 = .ok (.imul, 1) := by decide +kernel
theorem d_Model_newPrefix_5 : decode prog_14_method_26_code 5 = .ok (.aload_n 0, 1) := by decide +kernel
theorem d_Model_newPrefix_6 : decode prog_14_method_26_code 6 = .ok (.getfield 40, 3) := by decide +kernel
theorem d_Model_newPrefix_9 : decode prog_14_method_26_code 9 = .ok (.iload_n 1, 1) := by decide +kernel
theorem d_Model_newPrefix_10 : decode prog_14_method_26_code 10 = .ok (.iaload, 1) := by decide +kernel
theorem d_Model_newPrefix_11 : decode prog_14_method_26_code 11 = .ok (.iadd, 1) := by decide +kernel
theorem d_Model_newPrefix_12 : decode prog_14_method_26_code 12 = .ok (.istore_n 2, 1) := by decide +kernel
theorem d_Model_newPrefix_13 : decode prog_14_method_26_code 13 = .ok (.iconst 0, 1) := by decide +kernel
theorem d_Model_newPrefix_14 : decode prog_14_method_26_code 14 = .ok (.istore_n 3, 1) := by decide +kernel
theorem d_Model_newPrefix_15 : decode prog_14_method_26_code 15 = .ok (.iload_n 3, 1) := by decide +kernel
theorem d_Model_newPrefix_16 : decode prog_14_method_26_code 16 = .ok (.bipush 10, 2) := by decide +kernel
theorem d_Model_newPrefix_18 : decode prog_14_method_26_code 18 = .ok (.if_icmp .ge 21, 3) := by decide +kernel
theorem d_Model_newPrefix_21 : decode prog_14_method_26_code 21 = .ok (.aload_n 0, 1) := by decide +kernel
theorem d_Model_newPrefix_22 : decode prog_14_method_26_code 22 = .ok (.getfield 43, 3) := by decide +kernel
theorem d_Model_newPrefix_25 : decode prog_14_method_26_code 25 = .ok (.bipush 10, 2) := by decide +kernel
theorem d_Model_newPrefix_27 : decode prog_14_method_26_code 27 = .ok (.iload_n 2, 1) := by decide +kernel
theorem d_Model_newPrefix_28 : decode prog_14_method_26_code 28 = .ok (.imul, 1) := by decide +kernel
theorem d_Model_newPrefix_29 : decode prog_14_method_26_code 29 = .ok (.iload_n 3, 1) := by decide +kernel
theorem d_Model_newPrefix_30 : decode prog_14_method_26_code 30 = .ok (.iadd, 1) := by decide +kernel
theorem d_Model_newPrefix_31 : decode prog_14_method_26_code 31 = .ok (.iconst (-1), 1) := by decide +kernel
theorem d_Model_newPrefix_32 : decode prog_14_method_26_code 32 = .ok (.iastore, 1) := by decide +kernel
theorem d_Model_newPrefix_33 : decode prog_14_method_26_code 33 = .ok (.iinc 3 1, 3) := by decide +kernel
theorem d_Model_newPrefix_36 : decode prog_14_method_26_code 36 = .ok (.goto (-21), 3) := by decide +kernel
theorem d_Model_newPrefix_39 : decode prog_14_method_26_code 39 = .ok (.aload_n 0, 1) := by decide +kernel
theorem d_Model_newPrefix_40 : decode prog_14_method_26_code 40 = .ok (.getfield 52, 3) := by decide +kernel
theorem d_Model_newPrefix_43 : decode prog_14_method_26_code 43 = .ok (.iload_n 2, 1) := by decide +kernel
theorem d_Model_newPrefix_44 : decode prog_14_method_26_code 44 = .ok (.iconst 0, 1) := by decide +kernel
theorem d_Model_newPrefix_45 : decode prog_14_method_26_code 45 = .ok (.iastore, 1) := by decide +kernel
theorem d_Model_newPrefix_46 : decode prog_14_method_26_code 46 = .ok (.aload_n 0, 1) := by decide +kernel
theorem d_Model_newPrefix_47 : decode prog_14_method_26_code 47 = .ok (.getfield 40, 3) := by decide +kernel
theorem d_Model_newPrefix_50 : decode prog_14_method_26_code 50 = .ok (.iload_n 1, 1) := by decide +kernel
theorem d_Model_newPrefix_51 : decode prog_14_method_26_code 51 = .ok (.dup2, 1) := by decide +kernel
theorem d_Model_newPrefix_52 : decode prog_14_method_26_code 52 = .ok (.iaload, 1) := by decide +kernel
theorem d_Model_newPrefix_53 : decode prog_14_method_26_code 53 = .ok (.iconst 1, 1) := by decide +kernel
theorem d_Model_newPrefix_54 : decode prog_14_method_26_code 54 = .ok (.iadd, 1) := by decide +kernel
theorem d_Model_newPrefix_55 : decode prog_14_method_26_code 55 = .ok (.iastore, 1) := by decide +kernel
theorem d_Model_newPrefix_56 : decode prog_14_method_26_code 56 = .ok (.return_, 1) := by decide +kernel
abbrev m_c1_Model_newPrefix : Room := { frames := 0, cells := 0, slots := 0, locals := 0 }
set_option maxHeartbeats 4000000 in
set_option maxRecDepth 100000 in
theorem c1_Model_newPrefix (l : Launch) (G : zG) (b0 : Nat) (b1 : Nat) (b2 : Nat) (b3 : Nat) (b4 : Nat) (b5 : Nat) (b6 : Nat) (b7 : Nat) (b8 : Nat) (b9 : Nat) (b10 : Nat) (b11 : Nat) (b12 : Nat) (b13 : Nat) (b14 : Nat) (b15 : Nat) (b16 : Nat) (b17 : Nat) (b18 : Nat) (b19 : Nat) (b20 : Nat) (b21 : Nat) (b22 : Nat) (b23 : Nat) (b24 : Nat) (b25 : Nat) (b26 : Nat) (b27 : Nat) (b28 : Nat) (b29 : Nat) (b30 : Nat) (b31 : Nat) (b32 : Nat) (b33 : Nat) (b34 : Nat) (b35 : Nat) (b36 : Nat) (b37 : Nat) (b38 : Nat) (b39 : Nat)  : zM l G y_Model_newPrefix prog_14_method_26_code 4 (Option.none : Option Jvm.ClassFile.FieldType) m_c1_Model_newPrefix [.ref b0, .int 0] [(b0, .inr (12, [.int 0, .ref b1, .ref b2, .ref b3, .ref b4, .int 0, .ref b5, .int 0, .int 0, .int 0, .int 0, .ref b6, .ref b7, .ref b8, .int 0, .ref b9, .ref b10, .ref b11, .ref b12, .ref b13, .ref b14, .ref b15, .ref b16, .ref b17, .ref b18, .ref b19, .ref b20, .int 0, .ref b21, .ref b22, .int 0, .int 0, .int 0, .int 0, .ref b23, .ref b24, .ref b25, .ref b26, .ref b27, .ref b28, .ref b29, .int 0, .ref b30, .ref b31, .int 0, .ref b32, .ref b33, .ref b34, .ref b35, .ref b36, .int 0, .ref b37, .ref b38, .ref b39])), (b9, .inl (G.2 0, 2, .inl (upd (fun _ => 0) 0 0))), (b10, .inl (G.2 0, 4820, .inl (fun _ => 0))), (b13, .inl (G.2 0, 482, .inl (fun _ => 0)))] (fun v w => (v = none ∧ w = [(b0, .inr (12, [.int 0, .ref b1, .ref b2, .ref b3, .ref b4, .int 0, .ref b5, .int 0, .int 0, .int 0, .int 0, .ref b6, .ref b7, .ref b8, .int 0, .ref b9, .ref b10, .ref b11, .ref b12, .ref b13, .ref b14, .ref b15, .ref b16, .ref b17, .ref b18, .ref b19, .ref b20, .int 0, .ref b21, .ref b22, .int 0, .int 0, .int 0, .int 0, .ref b23, .ref b24, .ref b25, .ref b26, .ref b27, .ref b28, .ref b29, .int 0, .ref b30, .ref b31, .int 0, .ref b32, .ref b33, .ref b34, .ref b35, .ref b36, .int 0, .ref b37, .ref b38, .ref b39])), (b9, .inl (G.2 0, 2, .inl (upd (upd (fun _ => 0) 0 0) 0 1))), (b10, .inl (G.2 0, 4820, .inl (upd (upd (upd (upd (upd (upd (upd (upd (upd (upd (fun _ => 0) 0 (-1)) 1 (-1)) 2 (-1)) 3 (-1)) 4 (-1)) 5 (-1)) 6 (-1)) 7 (-1)) 8 (-1)) 9 (-1)))), (b13, .inl (G.2 0, 482, .inl (upd (fun _ => 0) 0 0)))])) := by
  refine z_start (by decide +kernel) (Nat.le_of_ble_eq_true rfl) ?_
  intro p e s m below meth c A Z hr hnm hA hP hD hS ls hl
  have Z : zC p s m _ meth c prog_14_method_26_code 4 "TraceMachinesModel" G := Z
  obtain ⟨hx, hb, hml, hown, hts, hK, hN, hlocks⟩ := id Z
  have hl : lv_has ls 4 [(0, .ref b0), (1, .int 0)] := hl
  refine lv_sipush (v := 241) hx hb d_Model_newPrefix_0 (by decide) ?_
  refine lv_iload_n hx hb d_Model_newPrefix_3 rfl (lv_at hl 1 rfl) ?_
  refine lv_imul hx hb d_Model_newPrefix_4 ?_
  refine z_topi (y := 0) (by decide +kernel) ?_
  refine lv_aload_n hx hb d_Model_newPrefix_5 rfl (lv_at hl 0 rfl) ?_
  refine va_get (D := G.1) (ci := 12) (v := .ref b9) (C := R_Model) (T := F_Model) (N := 54) hx hb hts i_Model hown hK hP 0 rfl rfl 15 (by decide) (hts _ q1128) (fun _ h9 => h9) rfl d_Model_newPrefix_6 ?_
  refine lv_iload_n hx hb d_Model_newPrefix_9 rfl (lv_at hl 1 rfl) ?_
  refine va_iald hx hb hK hP 1 0 rfl rfl (i := 0) (z_in rfl) d_Model_newPrefix_10 ?_
  refine z_topi (y := 0) rfl ?_
  refine lv_iadd hx hb d_Model_newPrefix_11 ?_
  refine z_topi (y := 0) (by decide +kernel) ?_
  refine lv_istore_n (lv' := [(2, .int 0), (0, .ref b0), (1, .int 0)]) hx hb d_Model_newPrefix_12 rfl hl (by decide) rfl (fun ls hl => ?_)
  refine lv_iconst (v := 0) hx hb d_Model_newPrefix_13 (by decide) ?_
  refine lv_istore_n (lv' := [(3, .int 0), (2, .int 0), (0, .ref b0), (1, .int 0)]) hx hb d_Model_newPrefix_14 rfl hl (by decide) rfl (fun ls hl => ?_)
  refine lv_iload_n hx hb d_Model_newPrefix_15 rfl (lv_at hl 0 rfl) ?_
  refine lv_bipush (v := 10) hx hb d_Model_newPrefix_16 (by decide) ?_
  refine lv_icmp_ge (tgt := 39) hx hb d_Model_newPrefix_18 (by decide) (fun hc => absurd hc (by decide +kernel)) (fun _ => ?_)
  refine lv_aload_n hx hb d_Model_newPrefix_21 rfl (lv_at hl 2 rfl) ?_
  refine va_get (D := G.1) (ci := 12) (v := .ref b10) (C := R_Model) (T := F_Model) (N := 54) hx hb hts i_Model hown hK hP 0 rfl rfl 16 (by decide) (hts _ q1129) (fun _ h9 => h9) rfl d_Model_newPrefix_22 ?_
  refine lv_bipush (v := 10) hx hb d_Model_newPrefix_25 (by decide) ?_
  refine lv_iload_n hx hb d_Model_newPrefix_27 rfl (lv_at hl 1 rfl) ?_
  refine lv_imul hx hb d_Model_newPrefix_28 ?_
  refine z_topi (y := 0) (by decide +kernel) ?_
  refine lv_iload_n hx hb d_Model_newPrefix_29 rfl (lv_at hl 0 rfl) ?_
  refine lv_iadd hx hb d_Model_newPrefix_30 ?_
  refine z_topi (y := 0) (by decide +kernel) ?_
  refine lv_iconst (v := (-1)) hx hb d_Model_newPrefix_31 (by decide) ?_
  refine va_iast hx hb hK hP hD hS 2 0 rfl rfl (i := 0) (z_in rfl) d_Model_newPrefix_32 (fun H locs hP hD hS => ?_)
  have hP : va_P G.1 classes [(b0, .inr (12, [.int 0, .ref b1, .ref b2, .ref b3, .ref b4, .int 0, .ref b5, .int 0, .int 0, .int 0, .int 0, .ref b6, .ref b7, .ref b8, .int 0, .ref b9, .ref b10, .ref b11, .ref b12, .ref b13, .ref b14, .ref b15, .ref b16, .ref b17, .ref b18, .ref b19, .ref b20, .int 0, .ref b21, .ref b22, .int 0, .int 0, .int 0, .int 0, .ref b23, .ref b24, .ref b25, .ref b26, .ref b27, .ref b28, .ref b29, .int 0, .ref b30, .ref b31, .int 0, .ref b32, .ref b33, .ref b34, .ref b35, .ref b36, .int 0, .ref b37, .ref b38, .ref b39])), (b9, .inl (G.2 0, 2, .inl (upd (fun _ => 0) 0 0))), (b10, .inl (G.2 0, 4820, .inl (upd (fun _ => 0) 0 (-1)))), (b13, .inl (G.2 0, 482, .inl (fun _ => 0)))] H := hP
  have hD := z_tie hP hD rfl
  refine lv_iinc (v := 1) (lv' := [(3, .int 1), (2, .int 0), (0, .ref b0), (1, .int 0)]) hx hb d_Model_newPrefix_33 hl (k := 0) rfl (by decide +kernel) (by decide) rfl (fun ls hl => ?_)
  refine lv_goto (tgt := 15) hx hb d_Model_newPrefix_36 (by decide) ?_
  refine lv_iload_n hx hb d_Model_newPrefix_15 rfl (lv_at hl 0 rfl) ?_
  refine lv_bipush (v := 10) hx hb d_Model_newPrefix_16 (by decide) ?_
  refine lv_icmp_ge (tgt := 39) hx hb d_Model_newPrefix_18 (by decide) (fun hc => absurd hc (by decide +kernel)) (fun _ => ?_)
  refine lv_aload_n hx hb d_Model_newPrefix_21 rfl (lv_at hl 2 rfl) ?_
  refine va_get (D := G.1) (ci := 12) (v := .ref b10) (C := R_Model) (T := F_Model) (N := 54) hx hb hts i_Model hown hK hP 0 rfl rfl 16 (by decide) (hts _ q1129) (fun _ h9 => h9) rfl d_Model_newPrefix_22 ?_
  refine lv_bipush (v := 10) hx hb d_Model_newPrefix_25 (by decide) ?_
  refine lv_iload_n hx hb d_Model_newPrefix_27 rfl (lv_at hl 1 rfl) ?_
  refine lv_imul hx hb d_Model_newPrefix_28 ?_
  refine z_topi (y := 0) (by decide +kernel) ?_
  refine lv_iload_n hx hb d_Model_newPrefix_29 rfl (lv_at hl 0 rfl) ?_
  refine lv_iadd hx hb d_Model_newPrefix_30 ?_
  refine z_topi (y := 1) (by decide +kernel) ?_
  refine lv_iconst (v := (-1)) hx hb d_Model_newPrefix_31 (by decide) ?_
  refine va_iast hx hb hK hP hD hS 2 0 rfl rfl (i := 1) (z_in rfl) d_Model_newPrefix_32 (fun H locs hP hD hS => ?_)
  have hP : va_P G.1 classes [(b0, .inr (12, [.int 0, .ref b1, .ref b2, .ref b3, .ref b4, .int 0, .ref b5, .int 0, .int 0, .int 0, .int 0, .ref b6, .ref b7, .ref b8, .int 0, .ref b9, .ref b10, .ref b11, .ref b12, .ref b13, .ref b14, .ref b15, .ref b16, .ref b17, .ref b18, .ref b19, .ref b20, .int 0, .ref b21, .ref b22, .int 0, .int 0, .int 0, .int 0, .ref b23, .ref b24, .ref b25, .ref b26, .ref b27, .ref b28, .ref b29, .int 0, .ref b30, .ref b31, .int 0, .ref b32, .ref b33, .ref b34, .ref b35, .ref b36, .int 0, .ref b37, .ref b38, .ref b39])), (b9, .inl (G.2 0, 2, .inl (upd (fun _ => 0) 0 0))), (b10, .inl (G.2 0, 4820, .inl (upd (upd (fun _ => 0) 0 (-1)) 1 (-1)))), (b13, .inl (G.2 0, 482, .inl (fun _ => 0)))] H := hP
  have hD := z_tie hP hD rfl
  refine lv_iinc (v := 2) (lv' := [(3, .int 2), (2, .int 0), (0, .ref b0), (1, .int 0)]) hx hb d_Model_newPrefix_33 hl (k := 0) rfl (by decide +kernel) (by decide) rfl (fun ls hl => ?_)
  refine lv_goto (tgt := 15) hx hb d_Model_newPrefix_36 (by decide) ?_
  refine lv_iload_n hx hb d_Model_newPrefix_15 rfl (lv_at hl 0 rfl) ?_
  refine lv_bipush (v := 10) hx hb d_Model_newPrefix_16 (by decide) ?_
  refine lv_icmp_ge (tgt := 39) hx hb d_Model_newPrefix_18 (by decide) (fun hc => absurd hc (by decide +kernel)) (fun _ => ?_)
  refine lv_aload_n hx hb d_Model_newPrefix_21 rfl (lv_at hl 2 rfl) ?_
  refine va_get (D := G.1) (ci := 12) (v := .ref b10) (C := R_Model) (T := F_Model) (N := 54) hx hb hts i_Model hown hK hP 0 rfl rfl 16 (by decide) (hts _ q1129) (fun _ h9 => h9) rfl d_Model_newPrefix_22 ?_
  refine lv_bipush (v := 10) hx hb d_Model_newPrefix_25 (by decide) ?_
  refine lv_iload_n hx hb d_Model_newPrefix_27 rfl (lv_at hl 1 rfl) ?_
  refine lv_imul hx hb d_Model_newPrefix_28 ?_
  refine z_topi (y := 0) (by decide +kernel) ?_
  refine lv_iload_n hx hb d_Model_newPrefix_29 rfl (lv_at hl 0 rfl) ?_
  refine lv_iadd hx hb d_Model_newPrefix_30 ?_
  refine z_topi (y := 2) (by decide +kernel) ?_
  refine lv_iconst (v := (-1)) hx hb d_Model_newPrefix_31 (by decide) ?_
  refine va_iast hx hb hK hP hD hS 2 0 rfl rfl (i := 2) (z_in rfl) d_Model_newPrefix_32 (fun H locs hP hD hS => ?_)
  have hP : va_P G.1 classes [(b0, .inr (12, [.int 0, .ref b1, .ref b2, .ref b3, .ref b4, .int 0, .ref b5, .int 0, .int 0, .int 0, .int 0, .ref b6, .ref b7, .ref b8, .int 0, .ref b9, .ref b10, .ref b11, .ref b12, .ref b13, .ref b14, .ref b15, .ref b16, .ref b17, .ref b18, .ref b19, .ref b20, .int 0, .ref b21, .ref b22, .int 0, .int 0, .int 0, .int 0, .ref b23, .ref b24, .ref b25, .ref b26, .ref b27, .ref b28, .ref b29, .int 0, .ref b30, .ref b31, .int 0, .ref b32, .ref b33, .ref b34, .ref b35, .ref b36, .int 0, .ref b37, .ref b38, .ref b39])), (b9, .inl (G.2 0, 2, .inl (upd (fun _ => 0) 0 0))), (b10, .inl (G.2 0, 4820, .inl (upd (upd (upd (fun _ => 0) 0 (-1)) 1 (-1)) 2 (-1)))), (b13, .inl (G.2 0, 482, .inl (fun _ => 0)))] H := hP
  have hD := z_tie hP hD rfl
  refine lv_iinc (v := 3) (lv' := [(3, .int 3), (2, .int 0), (0, .ref b0), (1, .int 0)]) hx hb d_Model_newPrefix_33 hl (k := 0) rfl (by decide +kernel) (by decide) rfl (fun ls hl => ?_)
  refine lv_goto (tgt := 15) hx hb d_Model_newPrefix_36 (by decide) ?_
  refine lv_iload_n hx hb d_Model_newPrefix_15 rfl (lv_at hl 0 rfl) ?_
  refine lv_bipush (v := 10) hx hb d_Model_newPrefix_16 (by decide) ?_
  refine lv_icmp_ge (tgt := 39) hx hb d_Model_newPrefix_18 (by decide) (fun hc => absurd hc (by decide +kernel)) (fun _ => ?_)
  refine lv_aload_n hx hb d_Model_newPrefix_21 rfl (lv_at hl 2 rfl) ?_
  refine va_get (D := G.1) (ci := 12) (v := .ref b10) (C := R_Model) (T := F_Model) (N := 54) hx hb hts i_Model hown hK hP 0 rfl rfl 16 (by decide) (hts _ q1129) (fun _ h9 => h9) rfl d_Model_newPrefix_22 ?_
  refine lv_bipush (v := 10) hx hb d_Model_newPrefix_25 (by decide) ?_
  refine lv_iload_n hx hb d_Model_newPrefix_27 rfl (lv_at hl 1 rfl) ?_
  refine lv_imul hx hb d_Model_newPrefix_28 ?_
  refine z_topi (y := 0) (by decide +kernel) ?_
  refine lv_iload_n hx hb d_Model_newPrefix_29 rfl (lv_at hl 0 rfl) ?_
  refine lv_iadd hx hb d_Model_newPrefix_30 ?_
  refine z_topi (y := 3) (by decide +kernel) ?_
  refine lv_iconst (v := (-1)) hx hb d_Model_newPrefix_31 (by decide) ?_
  refine va_iast hx hb hK hP hD hS 2 0 rfl rfl (i := 3) (z_in rfl) d_Model_newPrefix_32 (fun H locs hP hD hS => ?_)
  have hP : va_P G.1 classes [(b0, .inr (12, [.int 0, .ref b1, .ref b2, .ref b3, .ref b4, .int 0, .ref b5, .int 0, .int 0, .int 0, .int 0, .ref b6, .ref b7, .ref b8, .int 0, .ref b9, .ref b10, .ref b11, .ref b12, .ref b13, .ref b14, .ref b15, .ref b16, .ref b17, .ref b18, .ref b19, .ref b20, .int 0, .ref b21, .ref b22, .int 0, .int 0, .int 0, .int 0, .ref b23, .ref b24, .ref b25, .ref b26, .ref b27, .ref b28, .ref b29, .int 0, .ref b30, .ref b31, .int 0, .ref b32, .ref b33, .ref b34, .ref b35, .ref b36, .int 0, .ref b37, .ref b38, .ref b39])), (b9, .inl (G.2 0, 2, .inl (upd (fun _ => 0) 0 0))), (b10, .inl (G.2 0, 4820, .inl (upd (upd (upd (upd (fun _ => 0) 0 (-1)) 1 (-1)) 2 (-1)) 3 (-1)))), (b13, .inl (G.2 0, 482, .inl (fun _ => 0)))] H := hP
  have hD := z_tie hP hD rfl
  refine lv_iinc (v := 4) (lv' := [(3, .int 4), (2, .int 0), (0, .ref b0), (1, .int 0)]) hx hb d_Model_newPrefix_33 hl (k := 0) rfl (by decide +kernel) (by decide) rfl (fun ls hl => ?_)
  refine lv_goto (tgt := 15) hx hb d_Model_newPrefix_36 (by decide) ?_
  refine lv_iload_n hx hb d_Model_newPrefix_15 rfl (lv_at hl 0 rfl) ?_
  refine lv_bipush (v := 10) hx hb d_Model_newPrefix_16 (by decide) ?_
  refine lv_icmp_ge (tgt := 39) hx hb d_Model_newPrefix_18 (by decide) (fun hc => absurd hc (by decide +kernel)) (fun _ => ?_)
  refine lv_aload_n hx hb d_Model_newPrefix_21 rfl (lv_at hl 2 rfl) ?_
  refine va_get (D := G.1) (ci := 12) (v := .ref b10) (C := R_Model) (T := F_Model) (N := 54) hx hb hts i_Model hown hK hP 0 rfl rfl 16 (by decide) (hts _ q1129) (fun _ h9 => h9) rfl d_Model_newPrefix_22 ?_
  refine lv_bipush (v := 10) hx hb d_Model_newPrefix_25 (by decide) ?_
  refine lv_iload_n hx hb d_Model_newPrefix_27 rfl (lv_at hl 1 rfl) ?_
  refine lv_imul hx hb d_Model_newPrefix_28 ?_
  refine z_topi (y := 0) (by decide +kernel) ?_
  refine lv_iload_n hx hb d_Model_newPrefix_29 rfl (lv_at hl 0 rfl) ?_
  refine lv_iadd hx hb d_Model_newPrefix_30 ?_
  refine z_topi (y := 4) (by decide +kernel) ?_
  refine lv_iconst (v := (-1)) hx hb d_Model_newPrefix_31 (by decide) ?_
  refine va_iast hx hb hK hP hD hS 2 0 rfl rfl (i := 4) (z_in rfl) d_Model_newPrefix_32 (fun H locs hP hD hS => ?_)
  have hP : va_P G.1 classes [(b0, .inr (12, [.int 0, .ref b1, .ref b2, .ref b3, .ref b4, .int 0, .ref b5, .int 0, .int 0, .int 0, .int 0, .ref b6, .ref b7, .ref b8, .int 0, .ref b9, .ref b10, .ref b11, .ref b12, .ref b13, .ref b14, .ref b15, .ref b16, .ref b17, .ref b18, .ref b19, .ref b20, .int 0, .ref b21, .ref b22, .int 0, .int 0, .int 0, .int 0, .ref b23, .ref b24, .ref b25, .ref b26, .ref b27, .ref b28, .ref b29, .int 0, .ref b30, .ref b31, .int 0, .ref b32, .ref b33, .ref b34, .ref b35, .ref b36, .int 0, .ref b37, .ref b38, .ref b39])), (b9, .inl (G.2 0, 2, .inl (upd (fun _ => 0) 0 0))), (b10, .inl (G.2 0, 4820, .inl (upd (upd (upd (upd (upd (fun _ => 0) 0 (-1)) 1 (-1)) 2 (-1)) 3 (-1)) 4 (-1)))), (b13, .inl (G.2 0, 482, .inl (fun _ => 0)))] H := hP
  have hD := z_tie hP hD rfl
  refine lv_iinc (v := 5) (lv' := [(3, .int 5), (2, .int 0), (0, .ref b0), (1, .int 0)]) hx hb d_Model_newPrefix_33 hl (k := 0) rfl (by decide +kernel) (by decide) rfl (fun ls hl => ?_)
  refine lv_goto (tgt := 15) hx hb d_Model_newPrefix_36 (by decide) ?_
  refine lv_iload_n hx hb d_Model_newPrefix_15 rfl (lv_at hl 0 rfl) ?_
  refine lv_bipush (v := 10) hx hb d_Model_newPrefix_16 (by decide) ?_
  refine lv_icmp_ge (tgt := 39) hx hb d_Model_newPrefix_18 (by decide) (fun hc => absurd hc (by decide +kernel)) (fun _ => ?_)
  refine lv_aload_n hx hb d_Model_newPrefix_21 rfl (lv_at hl 2 rfl) ?_
  refine va_get (D := G.1) (ci := 12) (v := .ref b10) (C := R_Model) (T := F_Model) (N := 54) hx hb hts i_Model hown hK hP 0 rfl rfl 16 (by decide) (hts _ q1129) (fun _ h9 => h9) rfl d_Model_newPrefix_22 ?_
  refine lv_bipush (v := 10) hx hb d_Model_newPrefix_25 (by decide) ?_
  refine lv_iload_n hx hb d_Model_newPrefix_27 rfl (lv_at hl 1 rfl) ?_
  refine lv_imul hx hb d_Model_newPrefix_28 ?_
  refine z_topi (y := 0) (by decide +kernel) ?_
  refine lv_iload_n hx hb d_Model_newPrefix_29 rfl (lv_at hl 0 rfl) ?_
  refine lv_iadd hx hb d_Model_newPrefix_30 ?_
  refine z_topi (y := 5) (by decide +kernel) ?_
  refine lv_iconst (v := (-1)) hx hb d_Model_newPrefix_31 (by decide) ?_
  refine va_iast hx hb hK hP hD hS 2 0 rfl rfl (i := 5) (z_in rfl) d_Model_newPrefix_32 (fun H locs hP hD hS => ?_)
  have hP : va_P G.1 classes [(b0, .inr (12, [.int 0, .ref b1, .ref b2, .ref b3, .ref b4, .int 0, .ref b5, .int 0, .int 0, .int 0, .int 0, .ref b6, .ref b7, .ref b8, .int 0, .ref b9, .ref b10, .ref b11, .ref b12, .ref b13, .ref b14, .ref b15, .ref b16, .ref b17, .ref b18, .ref b19, .ref b20, .int 0, .ref b21, .ref b22, .int 0, .int 0, .int 0, .int 0, .ref b23, .ref b24, .ref b25, .ref b26, .ref b27, .ref b28, .ref b29, .int 0, .ref b30, .ref b31, .int 0, .ref b32, .ref b33, .ref b34, .ref b35, .ref b36, .int 0, .ref b37, .ref b38, .ref b39])), (b9, .inl (G.2 0, 2, .inl (upd (fun _ => 0) 0 0))), (b10, .inl (G.2 0, 4820, .inl (upd (upd (upd (upd (upd (upd (fun _ => 0) 0 (-1)) 1 (-1)) 2 (-1)) 3 (-1)) 4 (-1)) 5 (-1)))), (b13, .inl (G.2 0, 482, .inl (fun _ => 0)))] H := hP
  have hD := z_tie hP hD rfl
  refine lv_iinc (v := 6) (lv' := [(3, .int 6), (2, .int 0), (0, .ref b0), (1, .int 0)]) hx hb d_Model_newPrefix_33 hl (k := 0) rfl (by decide +kernel) (by decide) rfl (fun ls hl => ?_)
  refine lv_goto (tgt := 15) hx hb d_Model_newPrefix_36 (by decide) ?_
  refine lv_iload_n hx hb d_Model_newPrefix_15 rfl (lv_at hl 0 rfl) ?_
  refine lv_bipush (v := 10) hx hb d_Model_newPrefix_16 (by decide) ?_
  refine lv_icmp_ge (tgt := 39) hx hb d_Model_newPrefix_18 (by decide) (fun hc => absurd hc (by decide +kernel)) (fun _ => ?_)
  refine lv_aload_n hx hb d_Model_newPrefix_21 rfl (lv_at hl 2 rfl) ?_
  refine va_get (D := G.1) (ci := 12) (v := .ref b10) (C := R_Model) (T := F_Model) (N := 54) hx hb hts i_Model hown hK hP 0 rfl rfl 16 (by decide) (hts _ q1129) (fun _ h9 => h9) rfl d_Model_newPrefix_22 ?_
  refine lv_bipush (v := 10) hx hb d_Model_newPrefix_25 (by decide) ?_
  refine lv_iload_n hx hb d_Model_newPrefix_27 rfl (lv_at hl 1 rfl) ?_
  refine lv_imul hx hb d_Model_newPrefix_28 ?_
  refine z_topi (y := 0) (by decide +kernel) ?_
  refine lv_iload_n hx hb d_Model_newPrefix_29 rfl (lv_at hl 0 rfl) ?_
  refine lv_iadd hx hb d_Model_newPrefix_30 ?_
  refine z_topi (y := 6) (by decide +kernel) ?_
  refine lv_iconst (v := (-1)) hx hb d_Model_newPrefix_31 (by decide) ?_
  refine va_iast hx hb hK hP hD hS 2 0 rfl rfl (i := 6) (z_in rfl) d_Model_newPrefix_32 (fun H locs hP hD hS => ?_)
  have hP : va_P G.1 classes [(b0, .inr (12, [.int 0, .ref b1, .ref b2, .ref b3, .ref b4, .int 0, .ref b5, .int 0, .int 0, .int 0, .int 0, .ref b6, .ref b7, .ref b8, .int 0, .ref b9, .ref b10, .ref b11, .ref b12, .ref b13, .ref b14, .ref b15, .ref b16, .ref b17, .ref b18, .ref b19, .ref b20, .int 0, .ref b21, .ref b22, .int 0, .int 0, .int 0, .int 0, .ref b23, .ref b24, .ref b25, .ref b26, .ref b27, .ref b28, .ref b29, .int 0, .ref b30, .ref b31, .int 0, .ref b32, .ref b33, .ref b34, .ref b35, .ref b36, .int 0, .ref b37, .ref b38, .ref b39])), (b9, .inl (G.2 0, 2, .inl (upd (fun _ => 0) 0 0))), (b10, .inl (G.2 0, 4820, .inl (upd (upd (upd (upd (upd (upd (upd (fun _ => 0) 0 (-1)) 1 (-1)) 2 (-1)) 3 (-1)) 4 (-1)) 5 (-1)) 6 (-1)))), (b13, .inl (G.2 0, 482, .inl (fun _ => 0)))] H := hP
  have hD := z_tie hP hD rfl
  refine lv_iinc (v := 7) (lv' := [(3, .int 7), (2, .int 0), (0, .ref b0), (1, .int 0)]) hx hb d_Model_newPrefix_33 hl (k := 0) rfl (by decide +kernel) (by decide) rfl (fun ls hl => ?_)
  refine lv_goto (tgt := 15) hx hb d_Model_newPrefix_36 (by decide) ?_
  refine lv_iload_n hx hb d_Model_newPrefix_15 rfl (lv_at hl 0 rfl) ?_
  refine lv_bipush (v := 10) hx hb d_Model_newPrefix_16 (by decide) ?_
  refine lv_icmp_ge (tgt := 39) hx hb d_Model_newPrefix_18 (by decide) (fun hc => absurd hc (by decide +kernel)) (fun _ => ?_)
  refine lv_aload_n hx hb d_Model_newPrefix_21 rfl (lv_at hl 2 rfl) ?_
  refine va_get (D := G.1) (ci := 12) (v := .ref b10) (C := R_Model) (T := F_Model) (N := 54) hx hb hts i_Model hown hK hP 0 rfl rfl 16 (by decide) (hts _ q1129) (fun _ h9 => h9) rfl d_Model_newPrefix_22 ?_
  refine lv_bipush (v := 10) hx hb d_Model_newPrefix_25 (by decide) ?_
  refine lv_iload_n hx hb d_Model_newPrefix_27 rfl (lv_at hl 1 rfl) ?_
  refine lv_imul hx hb d_Model_newPrefix_28 ?_
  refine z_topi (y := 0) (by decide +kernel) ?_
  refine lv_iload_n hx hb d_Model_newPrefix_29 rfl (lv_at hl 0 rfl) ?_
  refine lv_iadd hx hb d_Model_newPrefix_30 ?_
  refine z_topi (y := 7) (by decide +kernel) ?_
  refine lv_iconst (v := (-1)) hx hb d_Model_newPrefix_31 (by decide) ?_
  refine va_iast hx hb hK hP hD hS 2 0 rfl rfl (i := 7) (z_in rfl) d_Model_newPrefix_32 (fun H locs hP hD hS => ?_)
  have hP : va_P G.1 classes [(b0, .inr (12, [.int 0, .ref b1, .ref b2, .ref b3, .ref b4, .int 0, .ref b5, .int 0, .int 0, .int 0, .int 0, .ref b6, .ref b7, .ref b8, .int 0, .ref b9, .ref b10, .ref b11, .ref b12, .ref b13, .ref b14, .ref b15, .ref b16, .ref b17, .ref b18, .ref b19, .ref b20, .int 0, .ref b21, .ref b22, .int 0, .int 0, .int 0, .int 0, .ref b23, .ref b24, .ref b25, .ref b26, .ref b27, .ref b28, .ref b29, .int 0, .ref b30, .ref b31, .int 0, .ref b32, .ref b33, .ref b34, .ref b35, .ref b36, .int 0, .ref b37, .ref b38, .ref b39])), (b9, .inl (G.2 0, 2, .inl (upd (fun _ => 0) 0 0))), (b10, .inl (G.2 0, 4820, .inl (upd (upd (upd (upd (upd (upd (upd (upd (fun _ => 0) 0 (-1)) 1 (-1)) 2 (-1)) 3 (-1)) 4 (-1)) 5 (-1)) 6 (-1)) 7 (-1)))), (b13, .inl (G.2 0, 482, .inl (fun _ => 0)))] H := hP
  have hD := z_tie hP hD rfl
  refine lv_iinc (v := 8) (lv' := [(3, .int 8), (2, .int 0), (0, .ref b0), (1, .int 0)]) hx hb d_Model_newPrefix_33 hl (k := 0) rfl (by decide +kernel) (by decide) rfl (fun ls hl => ?_)
  refine lv_goto (tgt := 15) hx hb d_Model_newPrefix_36 (by decide) ?_
  refine lv_iload_n hx hb d_Model_newPrefix_15 rfl (lv_at hl 0 rfl) ?_
  refine lv_bipush (v := 10) hx hb d_Model_newPrefix_16 (by decide) ?_
  refine lv_icmp_ge (tgt := 39) hx hb d_Model_newPrefix_18 (by decide) (fun hc => absurd hc (by decide +kernel)) (fun _ => ?_)
  refine lv_aload_n hx hb d_Model_newPrefix_21 rfl (lv_at hl 2 rfl) ?_
  refine va_get (D := G.1) (ci := 12) (v := .ref b10) (C := R_Model) (T := F_Model) (N := 54) hx hb hts i_Model hown hK hP 0 rfl rfl 16 (by decide) (hts _ q1129) (fun _ h9 => h9) rfl d_Model_newPrefix_22 ?_
  refine lv_bipush (v := 10) hx hb d_Model_newPrefix_25 (by decide) ?_
  refine lv_iload_n hx hb d_Model_newPrefix_27 rfl (lv_at hl 1 rfl) ?_
  refine lv_imul hx hb d_Model_newPrefix_28 ?_
  refine z_topi (y := 0) (by decide +kernel) ?_
  refine lv_iload_n hx hb d_Model_newPrefix_29 rfl (lv_at hl 0 rfl) ?_
  refine lv_iadd hx hb d_Model_newPrefix_30 ?_
  refine z_topi (y := 8) (by decide +kernel) ?_
  refine lv_iconst (v := (-1)) hx hb d_Model_newPrefix_31 (by decide) ?_
  refine va_iast hx hb hK hP hD hS 2 0 rfl rfl (i := 8) (z_in rfl) d_Model_newPrefix_32 (fun H locs hP hD hS => ?_)
  have hP : va_P G.1 classes [(b0, .inr (12, [.int 0, .ref b1, .ref b2, .ref b3, .ref b4, .int 0, .ref b5, .int 0, .int 0, .int 0, .int 0, .ref b6, .ref b7, .ref b8, .int 0, .ref b9, .ref b10, .ref b11, .ref b12, .ref b13, .ref b14, .ref b15, .ref b16, .ref b17, .ref b18, .ref b19, .ref b20, .int 0, .ref b21, .ref b22, .int 0, .int 0, .int 0, .int 0, .ref b23, .ref b24, .ref b25, .ref b26, .ref b27, .ref b28, .ref b29, .int 0, .ref b30, .ref b31, .int 0, .ref b32, .ref b33, .ref b34, .ref b35, .ref b36, .int 0, .ref b37, .ref b38, .ref b39])), (b9, .inl (G.2 0, 2, .inl (upd (fun _ => 0) 0 0))), (b10, .inl (G.2 0, 4820, .inl (upd (upd (upd (upd (upd (upd (upd (upd (upd (fun _ => 0) 0 (-1)) 1 (-1)) 2 (-1)) 3 (-1)) 4 (-1)) 5 (-1)) 6 (-1)) 7 (-1)) 8 (-1)))), (b13, .inl (G.2 0, 482, .inl (fun _ => 0)))] H := hP
  have hD := z_tie hP hD rfl
  refine lv_iinc (v := 9) (lv' := [(3, .int 9), (2, .int 0), (0, .ref b0), (1, .int 0)]) hx hb d_Model_newPrefix_33 hl (k := 0) rfl (by decide +kernel) (by decide) rfl (fun ls hl => ?_)
  refine lv_goto (tgt := 15) hx hb d_Model_newPrefix_36 (by decide) ?_
  refine lv_iload_n hx hb d_Model_newPrefix_15 rfl (lv_at hl 0 rfl) ?_
  refine lv_bipush (v := 10) hx hb d_Model_newPrefix_16 (by decide) ?_
  refine lv_icmp_ge (tgt := 39) hx hb d_Model_newPrefix_18 (by decide) (fun hc => absurd hc (by decide +kernel)) (fun _ => ?_)
  refine lv_aload_n hx hb d_Model_newPrefix_21 rfl (lv_at hl 2 rfl) ?_
  refine va_get (D := G.1) (ci := 12) (v := .ref b10) (C := R_Model) (T := F_Model) (N := 54) hx hb hts i_Model hown hK hP 0 rfl rfl 16 (by decide) (hts _ q1129) (fun _ h9 => h9) rfl d_Model_newPrefix_22 ?_
  refine lv_bipush (v := 10) hx hb d_Model_newPrefix_25 (by decide) ?_
  refine lv_iload_n hx hb d_Model_newPrefix_27 rfl (lv_at hl 1 rfl) ?_
  refine lv_imul hx hb d_Model_newPrefix_28 ?_
  refine z_topi (y := 0) (by decide +kernel) ?_
  refine lv_iload_n hx hb d_Model_newPrefix_29 rfl (lv_at hl 0 rfl) ?_
  refine lv_iadd hx hb d_Model_newPrefix_30 ?_
  refine z_topi (y := 9) (by decide +kernel) ?_
  refine lv_iconst (v := (-1)) hx hb d_Model_newPrefix_31 (by decide) ?_
  refine va_iast hx hb hK hP hD hS 2 0 rfl rfl (i := 9) (z_in rfl) d_Model_newPrefix_32 (fun H locs hP hD hS => ?_)
  have hP : va_P G.1 classes [(b0, .inr (12, [.int 0, .ref b1, .ref b2, .ref b3, .ref b4, .int 0, .ref b5, .int 0, .int 0, .int 0, .int 0, .ref b6, .ref b7, .ref b8, .int 0, .ref b9, .ref b10, .ref b11, .ref b12, .ref b13, .ref b14, .ref b15, .ref b16, .ref b17, .ref b18, .ref b19, .ref b20, .int 0, .ref b21, .ref b22, .int 0, .int 0, .int 0, .int 0, .ref b23, .ref b24, .ref b25, .ref b26, .ref b27, .ref b28, .ref b29, .int 0, .ref b30, .ref b31, .int 0, .ref b32, .ref b33, .ref b34, .ref b35, .ref b36, .int 0, .ref b37, .ref b38, .ref b39])), (b9, .inl (G.2 0, 2, .inl (upd (fun _ => 0) 0 0))), (b10, .inl (G.2 0, 4820, .inl (upd (upd (upd (upd (upd (upd (upd (upd (upd (upd (fun _ => 0) 0 (-1)) 1 (-1)) 2 (-1)) 3 (-1)) 4 (-1)) 5 (-1)) 6 (-1)) 7 (-1)) 8 (-1)) 9 (-1)))), (b13, .inl (G.2 0, 482, .inl (fun _ => 0)))] H := hP
  have hD := z_tie hP hD rfl
  refine lv_iinc (v := 10) (lv' := [(3, .int 10), (2, .int 0), (0, .ref b0), (1, .int 0)]) hx hb d_Model_newPrefix_33 hl (k := 0) rfl (by decide +kernel) (by decide) rfl (fun ls hl => ?_)
  refine lv_goto (tgt := 15) hx hb d_Model_newPrefix_36 (by decide) ?_
  refine lv_iload_n hx hb d_Model_newPrefix_15 rfl (lv_at hl 0 rfl) ?_
  refine lv_bipush (v := 10) hx hb d_Model_newPrefix_16 (by decide) ?_
  refine lv_icmp_ge (tgt := 39) hx hb d_Model_newPrefix_18 (by decide) (fun _ => ?_) (fun hc => absurd hc (by decide +kernel))
  refine lv_aload_n hx hb d_Model_newPrefix_39 rfl (lv_at hl 2 rfl) ?_
  refine va_get (D := G.1) (ci := 12) (v := .ref b13) (C := R_Model) (T := F_Model) (N := 54) hx hb hts i_Model hown hK hP 0 rfl rfl 19 (by decide) (hts _ q1132) (fun _ h9 => h9) rfl d_Model_newPrefix_40 ?_
  refine lv_iload_n hx hb d_Model_newPrefix_43 rfl (lv_at hl 1 rfl) ?_
  refine lv_iconst (v := 0) hx hb d_Model_newPrefix_44 (by decide) ?_
  refine va_iast hx hb hK hP hD hS 3 0 rfl rfl (i := 0) (z_in rfl) d_Model_newPrefix_45 (fun H locs hP hD hS => ?_)
  have hP : va_P G.1 classes [(b0, .inr (12, [.int 0, .ref b1, .ref b2, .ref b3, .ref b4, .int 0, .ref b5, .int 0, .int 0, .int 0, .int 0, .ref b6, .ref b7, .ref b8, .int 0, .ref b9, .ref b10, .ref b11, .ref b12, .ref b13, .ref b14, .ref b15, .ref b16, .ref b17, .ref b18, .ref b19, .ref b20, .int 0, .ref b21, .ref b22, .int 0, .int 0, .int 0, .int 0, .ref b23, .ref b24, .ref b25, .ref b26, .ref b27, .ref b28, .ref b29, .int 0, .ref b30, .ref b31, .int 0, .ref b32, .ref b33, .ref b34, .ref b35, .ref b36, .int 0, .ref b37, .ref b38, .ref b39])), (b9, .inl (G.2 0, 2, .inl (upd (fun _ => 0) 0 0))), (b10, .inl (G.2 0, 4820, .inl (upd (upd (upd (upd (upd (upd (upd (upd (upd (upd (fun _ => 0) 0 (-1)) 1 (-1)) 2 (-1)) 3 (-1)) 4 (-1)) 5 (-1)) 6 (-1)) 7 (-1)) 8 (-1)) 9 (-1)))), (b13, .inl (G.2 0, 482, .inl (upd (fun _ => 0) 0 0)))] H := hP
  have hD := z_tie hP hD rfl
  refine lv_aload_n hx hb d_Model_newPrefix_46 rfl (lv_at hl 2 rfl) ?_
  refine va_get (D := G.1) (ci := 12) (v := .ref b9) (C := R_Model) (T := F_Model) (N := 54) hx hb hts i_Model hown hK hP 0 rfl rfl 15 (by decide) (hts _ q1128) (fun _ h9 => h9) rfl d_Model_newPrefix_47 ?_
  refine lv_iload_n hx hb d_Model_newPrefix_50 rfl (lv_at hl 3 rfl) ?_
  refine lv_dup2_11 hx hb d_Model_newPrefix_51 rfl rfl ?_
  refine va_iald hx hb hK hP 1 0 rfl rfl (i := 0) (z_in rfl) d_Model_newPrefix_52 ?_
  refine z_topi (y := 0) rfl ?_
  refine lv_iconst (v := 1) hx hb d_Model_newPrefix_53 (by decide) ?_
  refine lv_iadd hx hb d_Model_newPrefix_54 ?_
  refine z_topi (y := 1) (by decide +kernel) ?_
  refine va_iast hx hb hK hP hD hS 1 0 rfl rfl (i := 0) (z_in rfl) d_Model_newPrefix_55 (fun H locs hP hD hS => ?_)
  have hP : va_P G.1 classes [(b0, .inr (12, [.int 0, .ref b1, .ref b2, .ref b3, .ref b4, .int 0, .ref b5, .int 0, .int 0, .int 0, .int 0, .ref b6, .ref b7, .ref b8, .int 0, .ref b9, .ref b10, .ref b11, .ref b12, .ref b13, .ref b14, .ref b15, .ref b16, .ref b17, .ref b18, .ref b19, .ref b20, .int 0, .ref b21, .ref b22, .int 0, .int 0, .int 0, .int 0, .ref b23, .ref b24, .ref b25, .ref b26, .ref b27, .ref b28, .ref b29, .int 0, .ref b30, .ref b31, .int 0, .ref b32, .ref b33, .ref b34, .ref b35, .ref b36, .int 0, .ref b37, .ref b38, .ref b39])), (b9, .inl (G.2 0, 2, .inl (upd (upd (fun _ => 0) 0 0) 0 1))), (b10, .inl (G.2 0, 4820, .inl (upd (upd (upd (upd (upd (upd (upd (upd (upd (upd (fun _ => 0) 0 (-1)) 1 (-1)) 2 (-1)) 3 (-1)) 4 (-1)) 5 (-1)) 6 (-1)) 7 (-1)) 8 (-1)) 9 (-1)))), (b13, .inl (G.2 0, 482, .inl (upd (fun _ => 0) 0 0)))] H := hP
  have hD := z_tie hP hD rfl
  exact z_vret hx hb hr hlocks hP hD hS (Nat.le_of_ble_eq_true rfl) (Nat.le_of_ble_eq_true rfl) d_Model_newPrefix_56 ⟨rfl, rfl⟩
theorem d_Model_layPrefixes_12 : decode prog_14_method_27_code 12 = .ok (.iconst 0, 1) := by decide +kernel
theorem d_Model_layPrefixes_13 : decode prog_14_method_27_code 13 = .ok (.istore_n 3, 1) := by decide +kernel
theorem d_Model_layPrefixes_14 : decode prog_14_method_27_code 14 = .ok (.iload_n 3, 1) := by decide +kernel
theorem d_Model_layPrefixes_15 : decode prog_14_method_27_code 15 = .ok (.aload_n 0, 1) := by decide +kernel
theorem d_Model_layPrefixes_16 : decode prog_14_method_27_code 16 = .ok (.invokevirtual 134, 3) := by decide +kernel
theorem d_Model_layPrefixes_19 : decode prog_14_method_27_code 19 = .ok (.if_icmp .ge 133, 3) := by decide +kernel
theorem d_Model_layPrefixes_152 : decode prog_14_method_27_code 152 = .ok (.return_, 1) := by decide +kernel
abbrev m_c1_Model_layPrefixes : Room := { frames := 1, cells := 0, slots := 0, locals := 23 }
set_option maxHeartbeats 4000000 in
set_option maxRecDepth 100000 in
theorem c1_Model_layPrefixes (l : Launch) (G : zG) (b0 : Nat) (b1 : Nat) (b2 : Nat) (b3 : Nat) (b4 : Nat) (b5 : Nat) (b6 : Nat) (b7 : Nat) (b8 : Nat) (b9 : Nat) (b10 : Nat) (b11 : Nat) (b12 : Nat) (b13 : Nat) (b14 : Nat) (b15 : Nat) (b16 : Nat) (b17 : Nat) (b18 : Nat) (b19 : Nat) (b20 : Nat) (b21 : Nat) (b22 : Nat) (b23 : Nat) (b24 : Nat) (b25 : Nat) (b26 : Nat) (b27 : Nat) (b28 : Nat) (b29 : Nat) (b30 : Nat) (b31 : Nat) (b32 : Nat) (b33 : Nat) (b34 : Nat) (b35 : Nat) (b36 : Nat) (b37 : Nat) (b38 : Nat) (b39 : Nat)  : zM l G y_Model_layPrefixes prog_14_method_27_code 7 (Option.none : Option Jvm.ClassFile.FieldType) m_c1_Model_layPrefixes [.ref b0, .int 0, .int (-1)] [(b0, .inr (12, [.int 0, .ref b1, .ref b2, .ref b3, .ref b4, .int 0, .ref b5, .int 0, .int 0, .int 0, .int 0, .ref b6, .ref b7, .ref b8, .int 0, .ref b9, .ref b10, .ref b11, .ref b12, .ref b13, .ref b14, .ref b15, .ref b16, .ref b17, .ref b18, .ref b19, .ref b20, .int 0, .ref b21, .ref b22, .int 0, .int 0, .int 0, .int 0, .ref b23, .ref b24, .ref b25, .ref b26, .ref b27, .ref b28, .ref b29, .int 0, .ref b30, .ref b31, .int 0, .ref b32, .ref b33, .ref b34, .ref b35, .ref b36, .int 0, .ref b37, .ref b38, .ref b39])), (b9, .inl (G.2 0, 2, .inl (fun _ => 0))), (b10, .inl (G.2 0, 4820, .inl (fun _ => 0))), (b13, .inl (G.2 0, 482, .inl (fun _ => 0))), (b1, .inl (G.2 0, 503, .inl (upd (fun _ => 0) 501 1)))] (fun v w => (v = none ∧ w = [(b9, .inl (G.2 0, 2, .inl (upd (upd (fun _ => 0) 0 0) 0 1))), (b10, .inl (G.2 0, 4820, .inl (upd (upd (upd (upd (upd (upd (upd (upd (upd (upd (fun _ => 0) 0 (-1)) 1 (-1)) 2 (-1)) 3 (-1)) 4 (-1)) 5 (-1)) 6 (-1)) 7 (-1)) 8 (-1)) 9 (-1)))), (b13, .inl (G.2 0, 482, .inl (upd (fun _ => 0) 0 0))), (b0, .inr (12, [.int 0, .ref b1, .ref b2, .ref b3, .ref b4, .int 0, .ref b5, .int 0, .int 0, .int 0, .int 0, .ref b6, .ref b7, .ref b8, .int 0, .ref b9, .ref b10, .ref b11, .ref b12, .ref b13, .ref b14, .ref b15, .ref b16, .ref b17, .ref b18, .ref b19, .ref b20, .int 0, .ref b21, .ref b22, .int 0, .int 0, .int 0, .int 0, .ref b23, .ref b24, .ref b25, .ref b26, .ref b27, .ref b28, .ref b29, .int 0, .ref b30, .ref b31, .int 0, .ref b32, .ref b33, .ref b34, .ref b35, .ref b36, .int 0, .ref b37, .ref b38, .ref b39])), (b1, .inl (G.2 0, 503, .inl (upd (fun _ => 0) 501 1)))])) := by
  refine z_start (by decide +kernel) (Nat.le_of_ble_eq_true rfl) ?_
  intro p e s m below meth c A Z hr hnm hA hP hD hS ls hl
  have Z : zC p s m _ meth c prog_14_method_27_code 7 "TraceMachinesModel" G := Z
  obtain ⟨hx, hb, hml, hown, hts, hK, hN, hlocks⟩ := id Z
  have hl : lv_has ls 7 [(0, .ref b0), (1, .int 0), (2, .int (-1))] := hl
  refine lv_aload_n hx hb d_Model_layPrefixes_0 rfl (lv_at hl 0 rfl) ?_
  refine va_get (D := G.1) (ci := 12) (v := .ref b9) (C := R_Model) (T := F_Model) (N := 54) hx hb hts i_Model hown hK hP 0 rfl rfl 15 (by decide) (hts _ q1128) (fun _ h9 => h9) rfl d_Model_layPrefixes_1 ?_
  refine lv_iload_n hx hb d_Model_layPrefixes_4 rfl (lv_at hl 1 rfl) ?_
  refine lv_iconst (v := 0) hx hb d_Model_layPrefixes_5 (by decide) ?_
  refine va_iast hx hb hK hP hD hS 1 0 rfl rfl (i := 0) (z_in rfl) d_Model_layPrefixes_6 (fun H locs hP hD hS => ?_)
  have hP : va_P G.1 classes [(b0, .inr (12, [.int 0, .ref b1, .ref b2, .ref b3, .ref b4, .int 0, .ref b5, .int 0, .int 0, .int 0, .int 0, .ref b6, .ref b7, .ref b8, .int 0, .ref b9, .ref b10, .ref b11, .ref b12, .ref b13, .ref b14, .ref b15, .ref b16, .ref b17, .ref b18, .ref b19, .ref b20, .int 0, .ref b21, .ref b22, .int 0, .int 0, .int 0, .int 0, .ref b23, .ref b24, .ref b25, .ref b26, .ref b27, .ref b28, .ref b29, .int 0, .ref b30, .ref b31, .int 0, .ref b32, .ref b33, .ref b34, .ref b35, .ref b36, .int 0, .ref b37, .ref b38, .ref b39])), (b9, .inl (G.2 0, 2, .inl (upd (fun _ => 0) 0 0))), (b10, .inl (G.2 0, 4820, .inl (fun _ => 0))), (b13, .inl (G.2 0, 482, .inl (fun _ => 0))), (b1, .inl (G.2 0, 503, .inl (upd (fun _ => 0) 501 1)))] H := hP
  have hD := z_tie hP hD rfl
  refine lv_aload_n hx hb d_Model_layPrefixes_7 rfl (lv_at hl 0 rfl) ?_
  refine lv_iload_n hx hb d_Model_layPrefixes_8 rfl (lv_at hl 1 rfl) ?_
  refine z_callV (index := 199) (As := [.int 0]) (rest := []) (wr := [(b1, .inl (G.2 0, 503, .inl (upd (fun _ => 0) 501 1)))]) Z (c1_Model_newPrefix l G (b0) (b1) (b2) (b3) (b4) (b5) (b6) (b7) (b8) (b9) (b10) (b11) (b12) (b13) (b14) (b15) (b16) (b17) (b18) (b19) (b20) (b21) (b22) (b23) (b24) (b25) (b26) (b27) (b28) (b29) (b30) (b31) (b32) (b33) (b34) (b35) (b36) (b37) (b38) (b39)) hl.1 q1372 q1374 qs58 q14 q1375 ⟨by decide, by decide, by show _ = some 1; decide +kernel⟩ ⟨Nat.le_of_ble_eq_true rfl, Nat.le_of_ble_eq_true rfl⟩ ⟨Nat.le_of_ble_eq_true rfl, Nat.le_of_ble_eq_true rfl⟩ rfl (Nat.le_of_ble_eq_true rfl) d_Model_layPrefixes_9 hP hD hS hA 0 12 rfl rfl rfl [0, 1, 2, 3] [4] rfl rfl rfl rfl (by decide) (fun v w1 H locs hw_1 hP hD hS => ?_)
  obtain ⟨rfl, rfl⟩ := hw_1
  have hP : va_P G.1 classes [(b1, .inl (G.2 0, 503, .inl (upd (fun _ => 0) 501 1))), (b0, .inr (12, [.int 0, .ref b1, .ref b2, .ref b3, .ref b4, .int 0, .ref b5, .int 0, .int 0, .int 0, .int 0, .ref b6, .ref b7, .ref b8, .int 0, .ref b9, .ref b10, .ref b11, .ref b12, .ref b13, .ref b14, .ref b15, .ref b16, .ref b17, .ref b18, .ref b19, .ref b20, .int 0, .ref b21, .ref b22, .int 0, .int 0, .int 0, .int 0, .ref b23, .ref b24, .ref b25, .ref b26, .ref b27, .ref b28, .ref b29, .int 0, .ref b30, .ref b31, .int 0, .ref b32, .ref b33, .ref b34, .ref b35, .ref b36, .int 0, .ref b37, .ref b38, .ref b39])), (b9, .inl (G.2 0, 2, .inl (upd (upd (fun _ => 0) 0 0) 0 1))), (b10, .inl (G.2 0, 4820, .inl (upd (upd (upd (upd (upd (upd (upd (upd (upd (upd (fun _ => 0) 0 (-1)) 1 (-1)) 2 (-1)) 3 (-1)) 4 (-1)) 5 (-1)) 6 (-1)) 7 (-1)) 8 (-1)) 9 (-1)))), (b13, .inl (G.2 0, 482, .inl (upd (fun _ => 0) 0 0)))] H := hP
  have hD := z_tie hP hD rfl
  refine W.widen (k := 0) (n := 0) (Nat.le_of_ble_eq_true rfl) (Nat.le_of_ble_eq_true rfl) ?_
  refine lv_iconst (v := 0) hx hb d_Model_layPrefixes_12 (by decide) ?_
  refine lv_istore_n (lv' := [(3, .int 0), (0, .ref b0), (1, .int 0), (2, .int (-1))]) hx hb d_Model_layPrefixes_13 rfl hl (by decide) rfl (fun ls hl => ?_)
  refine lv_iload_n hx hb d_Model_layPrefixes_14 rfl (lv_at hl 0 rfl) ?_
  refine lv_aload_n hx hb d_Model_layPrefixes_15 rfl (lv_at hl 1 rfl) ?_
  refine z_callV (index := 134) (As := []) (rest := [.int 0]) (wr := [(b9, .inl (G.2 0, 2, .inl (upd (upd (fun _ => 0) 0 0) 0 1))), (b10, .inl (G.2 0, 4820, .inl (upd (upd (upd (upd (upd (upd (upd (upd (upd (upd (fun _ => 0) 0 (-1)) 1 (-1)) 2 (-1)) 3 (-1)) 4 (-1)) 5 (-1)) 6 (-1)) 7 (-1)) 8 (-1)) 9 (-1)))), (b13, .inl (G.2 0, 482, .inl (upd (fun _ => 0) 0 0)))]) Z (c2_Model_many l G (b0) (b1) (b2) (b3) (b4) (b5) (b6) (b7) (b8) (b9) (b10) (b11) (b12) (b13) (b14) (b15) (b16) (b17) (b18) (b19) (b20) (b21) (b22) (b23) (b24) (b25) (b26) (b27) (b28) (b29) (b30) (b31) (b32) (b33) (b34) (b35) (b36) (b37) (b38) (b39)) hl.1 q1324 q1326 qs51 q14 q1327 ⟨by decide, by decide, by show _ = some 0; decide +kernel⟩ ⟨Nat.le_of_ble_eq_true rfl, Nat.le_of_ble_eq_true rfl⟩ ⟨Nat.le_of_ble_eq_true rfl, Nat.le_of_ble_eq_true rfl⟩ rfl (Nat.le_of_ble_eq_true rfl) d_Model_layPrefixes_16 hP hD hS hA 1 12 rfl rfl rfl [1, 0] [2, 3, 4] rfl rfl rfl rfl (by decide) (fun v w1 H locs hw_2 hP hD hS => ?_)
  obtain ⟨rfl, rfl⟩ := hw_2
  have hP : va_P G.1 classes [(b9, .inl (G.2 0, 2, .inl (upd (upd (fun _ => 0) 0 0) 0 1))), (b10, .inl (G.2 0, 4820, .inl (upd (upd (upd (upd (upd (upd (upd (upd (upd (upd (fun _ => 0) 0 (-1)) 1 (-1)) 2 (-1)) 3 (-1)) 4 (-1)) 5 (-1)) 6 (-1)) 7 (-1)) 8 (-1)) 9 (-1)))), (b13, .inl (G.2 0, 482, .inl (upd (fun _ => 0) 0 0))), (b0, .inr (12, [.int 0, .ref b1, .ref b2, .ref b3, .ref b4, .int 0, .ref b5, .int 0, .int 0, .int 0, .int 0, .ref b6, .ref b7, .ref b8, .int 0, .ref b9, .ref b10, .ref b11, .ref b12, .ref b13, .ref b14, .ref b15, .ref b16, .ref b17, .ref b18, .ref b19, .ref b20, .int 0, .ref b21, .ref b22, .int 0, .int 0, .int 0, .int 0, .ref b23, .ref b24, .ref b25, .ref b26, .ref b27, .ref b28, .ref b29, .int 0, .ref b30, .ref b31, .int 0, .ref b32, .ref b33, .ref b34, .ref b35, .ref b36, .int 0, .ref b37, .ref b38, .ref b39])), (b1, .inl (G.2 0, 503, .inl (upd (fun _ => 0) 501 1)))] H := hP
  have hD := z_tie hP hD rfl
  refine W.widen (k := 0) (n := 0) (Nat.le_of_ble_eq_true rfl) (Nat.le_of_ble_eq_true rfl) ?_
  refine lv_icmp_ge (tgt := 152) hx hb d_Model_layPrefixes_19 (by decide) (fun _ => ?_) (fun hc => absurd hc (by decide +kernel))
  exact z_vret hx hb hr hlocks hP hD hS (Nat.le_of_ble_eq_true rfl) (Nat.le_of_ble_eq_true rfl) d_Model_layPrefixes_152 ⟨rfl, rfl⟩
theorem d_Model_lay2_6 : decode prog_14_method_35_code 6 = .ok (.iconst 0, 1) := by decide +kernel
theorem d_Model_lay2_7 : decode prog_14_method_35_code 7 = .ok (.istore 4, 2) := by decide +kernel
theorem d_Model_lay2_9 : decode prog_14_method_35_code 9 = .ok (.iload 4, 2) := by decide +kernel
theorem d_Model_lay2_11 : decode prog_14_method_35_code 11 = .ok (.aload_n 0, 1) := by decide +kernel
theorem d_Model_lay2_12 : decode prog_14_method_35_code 12 = .ok (.getfield 40, 3) := by decide +kernel
theorem d_Model_lay2_15 : decode prog_14_method_35_code 15 = .ok (.iload_n 1, 1) := by decide +kernel
theorem d_Model_lay2_16 : decode prog_14_method_35_code 16 = .ok (.iaload, 1) := by decide +kernel
theorem d_Model_lay2_17 : decode prog_14_method_35_code 17 = .ok (.if_icmp .ge 23, 3) := by decide +kernel
theorem d_Model_lay2_20 : decode prog_14_method_35_code 20 = .ok (.aload_n 0, 1) := by decide +kernel
theorem d_Model_lay2_21 : decode prog_14_method_35_code 21 = .ok (.getfield 52, 3) := by decide +kernel
theorem d_Model_lay2_24 : decode prog_14_method_35_code 24 = .ok (.sipush 241, 3) := by decide +kernel
theorem d_Model_lay2_27 : decode prog_14_method_35_code 27 = .ok (.iload_n 1, 1) := by decide +kernel
theorem d_Model_lay2_28 : decode prog_14_method_35_code 28 = .ok (.imul, 1) := by decide +kernel
theorem d_Model_lay2_29 : decode prog_14_method_35_code 29 = .ok (.iload 4, 2) := by decide +kernel
theorem d_Model_lay2_31 : decode prog_14_method_35_code 31 = .ok (.iadd, 1) := by decide +kernel
theorem d_Model_lay2_32 : decode prog_14_method_35_code 32 = .ok (.iconst 0, 1) := by decide +kernel
theorem d_Model_lay2_33 : decode prog_14_method_35_code 33 = .ok (.iastore, 1) := by decide +kernel
theorem d_Model_lay2_34 : decode prog_14_method_35_code 34 = .ok (.iinc 4 1, 3) := by decide +kernel
theorem d_Model_lay2_37 : decode prog_14_method_35_code 37 = .ok (.goto (-28), 3) := by decide +kernel
theorem d_Model_lay2_40 : decode prog_14_method_35_code 40 = .ok (.aload_n 0, 1) := by decide +kernel
theorem d_Model_lay2_41 : decode prog_14_method_35_code 41 = .ok (.iload_n 1, 1) := by decide +kernel
theorem d_Model_lay2_42 : decode prog_14_method_35_code 42 = .ok (.iload_n 2, 1) := by decide +kernel
theorem d_Model_lay2_43 : decode prog_14_method_35_code 43 = .ok (.iload_n 3, 1) := by decide +kernel
theorem d_Model_lay2_44 : decode prog_14_method_35_code 44 = .ok (.invokevirtual 244, 3) := by decide +kernel
theorem d_Model_layStates_0 : decode prog_14_method_31_code 0 = .ok (.sipush 241, 3) := by decide +kernel
theorem d_Model_layStates_3 : decode prog_14_method_31_code 3 = .ok (.iload_n 1, 1) := by decide +kernel
theorem d_Model_layStates_4 : decode prog_14_method_31_code 4 = .ok (.imul, 1) := by decide +kernel
theorem d_Model_layStates_5 : decode prog_14_method_31_code 5 = .ok (.istore 4, 2) := by decide +kernel
theorem d_Model_layStates_7 : decode prog_14_method_31_code 7 = .ok (.iconst 0, 1) := by decide +kernel
theorem d_Model_layStates_8 : decode prog_14_method_31_code 8 = .ok (.istore 5, 2) := by decide +kernel
theorem d_Model_layStates_10 : decode prog_14_method_31_code 10 = .ok (.iload 5, 2) := by decide +kernel
theorem d_Model_layStates_12 : decode prog_14_method_31_code 12 = .ok (.aload_n 0, 1) := by decide +kernel
theorem d_Model_layStates_13 : decode prog_14_method_31_code 13 = .ok (.invokevirtual 134, 3) := by decide +kernel
theorem d_Model_layStates_16 : decode prog_14_method_31_code 16 = .ok (.if_icmp .ge 60, 3) := by decide +kernel
theorem d_Model_layStates_76 : decode prog_14_method_31_code 76 = .ok (.aload_n 0, 1) := by decide +kernel
theorem d_Model_layStates_77 : decode prog_14_method_31_code 77 = .ok (.getfield 58, 3) := by decide +kernel
theorem d_Model_layStates_80 : decode prog_14_method_31_code 80 = .ok (.iload_n 1, 1) := by decide +kernel
theorem d_Model_layStates_81 : decode prog_14_method_31_code 81 = .ok (.iconst 0, 1) := by decide +kernel
theorem d_Model_layStates_82 : decode prog_14_method_31_code 82 = .ok (.iastore, 1) := by decide +kernel
theorem d_Model_layStates_83 : decode prog_14_method_31_code 83 = .ok (.aload_n 0, 1) := by decide +kernel
theorem d_Model_layStates_84 : decode prog_14_method_31_code 84 = .ok (.invokevirtual 134, 3) := by decide +kernel
theorem d_Model_layStates_87 : decode prog_14_method_31_code 87 = .ok (.iload_n 3, 1) := by decide +kernel
theorem d_Model_layStates_88 : decode prog_14_method_31_code 88 = .ok (.iconst (-1), 1) := by decide +kernel
theorem d_Model_layStates_89 : decode prog_14_method_31_code 89 = .ok (.if_icmp .ne 7, 3) := by decide +kernel
theorem d_Model_layStates_92 : decode prog_14_method_31_code 92 = .ok (.iconst 0, 1) := by decide +kernel
theorem d_Model_layStates_93 : decode prog_14_method_31_code 93 = .ok (.goto 4, 3) := by decide +kernel
theorem d_Model_layStates_97 : decode prog_14_method_31_code 97 = .ok (.if_icmp .le 7, 3) := by decide +kernel
theorem d_Model_layStates_104 : decode prog_14_method_31_code 104 = .ok (.iconst 0, 1) := by decide +kernel
theorem d_Model_layStates_105 : decode prog_14_method_31_code 105 = .ok (.istore 5, 2) := by decide +kernel
theorem d_Model_layStates_107 : decode prog_14_method_31_code 107 = .ok (.iconst 0, 1) := by decide +kernel
theorem d_Model_layStates_108 : decode prog_14_method_31_code 108 = .ok (.istore 6, 2) := by decide +kernel
theorem d_Model_layStates_110 : decode prog_14_method_31_code 110 = .ok (.iload 6, 2) := by decide +kernel
theorem d_Model_layStates_112 : decode prog_14_method_31_code 112 = .ok (.aload_n 0, 1) := by decide +kernel
theorem d_Model_layStates_113 : decode prog_14_method_31_code 113 = .ok (.getfield 40, 3) := by decide +kernel
theorem d_Model_layStates_116 : decode prog_14_method_31_code 116 = .ok (.iload_n 1, 1) := by decide +kernel
theorem d_Model_layStates_117 : decode prog_14_method_31_code 117 = .ok (.iaload, 1) := by decide +kernel
theorem d_Model_layStates_118 : decode prog_14_method_31_code 118 = .ok (.if_icmp .ge 140, 3) := by decide +kernel
theorem d_Model_layStates_121 : decode prog_14_method_31_code 121 = .ok (.iload 5, 2) := by decide +kernel
theorem d_Model_layStates_123 : decode prog_14_method_31_code 123 = .ok (.ifCond .eq 135, 3) := by decide +kernel
theorem d_Model_layStates_258 : decode prog_14_method_31_code 258 = .ok (.return_, 1) := by decide +kernel
abbrev m_c1_Model_layStates : Room := { frames := 1, cells := 0, slots := 0, locals := 20 }
set_option maxHeartbeats 4000000 in
set_option maxRecDepth 100000 in
theorem c1_Model_layStates (l : Launch) (G : zG) (b0 : Nat) (b1 : Nat) (b2 : Nat) (b3 : Nat) (b4 : Nat) (b5 : Nat) (b6 : Nat) (b7 : Nat) (b8 : Nat) (b9 : Nat) (b10 : Nat) (b11 : Nat) (b12 : Nat) (b13 : Nat) (b14 : Nat) (b15 : Nat) (b16 : Nat) (b17 : Nat) (b18 : Nat) (b19 : Nat) (b20 : Nat) (b21 : Nat) (b22 : Nat) (b23 : Nat) (b24 : Nat) (b25 : Nat) (b26 : Nat) (b27 : Nat) (b28 : Nat) (b29 : Nat) (b30 : Nat) (b31 : Nat) (b32 : Nat) (b33 : Nat) (b34 : Nat) (b35 : Nat) (b36 : Nat) (b37 : Nat) (b38 : Nat) (b39 : Nat)  : zM l G y_Model_layStates prog_14_method_31_code 8 (Option.none : Option Jvm.ClassFile.FieldType) m_c1_Model_layStates [.ref b0, .int 0, .int 1, .int (-1)] [(b0, .inr (12, [.int 0, .ref b1, .ref b2, .ref b3, .ref b4, .int 0, .ref b5, .int 0, .int 0, .int 0, .int 0, .ref b6, .ref b7, .ref b8, .int 0, .ref b9, .ref b10, .ref b11, .ref b12, .ref b13, .ref b14, .ref b15, .ref b16, .ref b17, .ref b18, .ref b19, .ref b20, .int 0, .ref b21, .ref b22, .int 0, .int 0, .int 0, .int 0, .ref b23, .ref b24, .ref b25, .ref b26, .ref b27, .ref b28, .ref b29, .int 0, .ref b30, .ref b31, .int 0, .ref b32, .ref b33, .ref b34, .ref b35, .ref b36, .int 0, .ref b37, .ref b38, .ref b39])), (b1, .inl (G.2 0, 503, .inl (upd (fun _ => 0) 501 1))), (b15, .inl (G.2 0, 2, .inl (fun _ => 0))), (b9, .inl (G.2 0, 2, .inl (upd (upd (fun _ => 0) 0 0) 0 1)))] (fun v w => (v = none ∧ w = [(b15, .inl (G.2 0, 2, .inl (upd (fun _ => 0) 0 0))), (b9, .inl (G.2 0, 2, .inl (upd (upd (fun _ => 0) 0 0) 0 1))), (b0, .inr (12, [.int 0, .ref b1, .ref b2, .ref b3, .ref b4, .int 0, .ref b5, .int 0, .int 0, .int 0, .int 0, .ref b6, .ref b7, .ref b8, .int 0, .ref b9, .ref b10, .ref b11, .ref b12, .ref b13, .ref b14, .ref b15, .ref b16, .ref b17, .ref b18, .ref b19, .ref b20, .int 0, .ref b21, .ref b22, .int 0, .int 0, .int 0, .int 0, .ref b23, .ref b24, .ref b25, .ref b26, .ref b27, .ref b28, .ref b29, .int 0, .ref b30, .ref b31, .int 0, .ref b32, .ref b33, .ref b34, .ref b35, .ref b36, .int 0, .ref b37, .ref b38, .ref b39])), (b1, .inl (G.2 0, 503, .inl (upd (fun _ => 0) 501 1)))])) := by
  refine z_start (by decide +kernel) (Nat.le_of_ble_eq_true rfl) ?_
  intro p e s m below meth c A Z hr hnm hA hP hD hS ls hl
  have Z : zC p s m _ meth c prog_14_method_31_code 8 "TraceMachinesModel" G := Z
  obtain ⟨hx, hb, hml, hown, hts, hK, hN, hlocks⟩ := id Z
  have hl : lv_has ls 8 [(0, .ref b0), (1, .int 0), (2, .int 1), (3, .int (-1))] := hl
  refine lv_sipush (v := 241) hx hb d_Model_layStates_0 (by decide) ?_
  refine lv_iload_n hx hb d_Model_layStates_3 rfl (lv_at hl 1 rfl) ?_
  refine lv_imul hx hb d_Model_layStates_4 ?_
  refine z_topi (y := 0) (by decide +kernel) ?_
  refine lv_istore (lv' := [(4, .int 0), (0, .ref b0), (1, .int 0), (2, .int 1), (3, .int (-1))]) hx hb d_Model_layStates_5 hl (by decide) rfl (fun ls hl => ?_)
  refine lv_iconst (v := 0) hx hb d_Model_layStates_7 (by decide) ?_
  refine lv_istore (lv' := [(5, .int 0), (4, .int 0), (0, .ref b0), (1, .int 0), (2, .int 1), (3, .int (-1))]) hx hb d_Model_layStates_8 hl (by decide) rfl (fun ls hl => ?_)
  refine lv_iload hx hb d_Model_layStates_10 (lv_at hl 0 rfl) ?_
  refine lv_aload_n hx hb d_Model_layStates_12 rfl (lv_at hl 2 rfl) ?_
  refine z_callV (index := 134) (As := []) (rest := [.int 0]) (wr := [(b15, .inl (G.2 0, 2, .inl (fun _ => 0))), (b9, .inl (G.2 0, 2, .inl (upd (upd (fun _ => 0) 0 0) 0 1)))]) Z (c2_Model_many l G (b0) (b1) (b2) (b3) (b4) (b5) (b6) (b7) (b8) (b9) (b10) (b11) (b12) (b13) (b14) (b15) (b16) (b17) (b18) (b19) (b20) (b21) (b22) (b23) (b24) (b25) (b26) (b27) (b28) (b29) (b30) (b31) (b32) (b33) (b34) (b35) (b36) (b37) (b38) (b39)) hl.1 q1324 q1326 qs51 q14 q1327 ⟨by decide, by decide, by show _ = some 0; decide +kernel⟩ ⟨Nat.le_of_ble_eq_true rfl, Nat.le_of_ble_eq_true rfl⟩ ⟨Nat.le_of_ble_eq_true rfl, Nat.le_of_ble_eq_true rfl⟩ rfl (Nat.le_of_ble_eq_true rfl) d_Model_layStates_13 hP hD hS hA 0 12 rfl rfl rfl [0, 1] [2, 3] rfl rfl rfl rfl (by decide) (fun v w1 H locs hw_1 hP hD hS => ?_)
  obtain ⟨rfl, rfl⟩ := hw_1
  have hP : va_P G.1 classes [(b15, .inl (G.2 0, 2, .inl (fun _ => 0))), (b9, .inl (G.2 0, 2, .inl (upd (upd (fun _ => 0) 0 0) 0 1))), (b0, .inr (12, [.int 0, .ref b1, .ref b2, .ref b3, .ref b4, .int 0, .ref b5, .int 0, .int 0, .int 0, .int 0, .ref b6, .ref b7, .ref b8, .int 0, .ref b9, .ref b10, .ref b11, .ref b12, .ref b13, .ref b14, .ref b15, .ref b16, .ref b17, .ref b18, .ref b19, .ref b20, .int 0, .ref b21, .ref b22, .int 0, .int 0, .int 0, .int 0, .ref b23, .ref b24, .ref b25, .ref b26, .ref b27, .ref b28, .ref b29, .int 0, .ref b30, .ref b31, .int 0, .ref b32, .ref b33, .ref b34, .ref b35, .ref b36, .int 0, .ref b37, .ref b38, .ref b39])), (b1, .inl (G.2 0, 503, .inl (upd (fun _ => 0) 501 1)))] H := hP
  have hD := z_tie hP hD rfl
  refine W.widen (k := 0) (n := 0) (Nat.le_of_ble_eq_true rfl) (Nat.le_of_ble_eq_true rfl) ?_
  refine lv_icmp_ge (tgt := 76) hx hb d_Model_layStates_16 (by decide) (fun _ => ?_) (fun hc => absurd hc (by decide +kernel))
  refine lv_aload_n hx hb d_Model_layStates_76 rfl (lv_at hl 2 rfl) ?_
  refine va_get (D := G.1) (ci := 12) (v := .ref b15) (C := R_Model) (T := F_Model) (N := 54) hx hb hts i_Model hown hK hP 2 rfl rfl 21 (by decide) (hts _ q1134) (fun _ h9 => h9) rfl d_Model_layStates_77 ?_
  refine lv_iload_n hx hb d_Model_layStates_80 rfl (lv_at hl 3 rfl) ?_
  refine lv_iconst (v := 0) hx hb d_Model_layStates_81 (by decide) ?_
  refine va_iast hx hb hK hP hD hS 0 0 rfl rfl (i := 0) (z_in rfl) d_Model_layStates_82 (fun H locs hP hD hS => ?_)
  have hP : va_P G.1 classes [(b15, .inl (G.2 0, 2, .inl (upd (fun _ => 0) 0 0))), (b9, .inl (G.2 0, 2, .inl (upd (upd (fun _ => 0) 0 0) 0 1))), (b0, .inr (12, [.int 0, .ref b1, .ref b2, .ref b3, .ref b4, .int 0, .ref b5, .int 0, .int 0, .int 0, .int 0, .ref b6, .ref b7, .ref b8, .int 0, .ref b9, .ref b10, .ref b11, .ref b12, .ref b13, .ref b14, .ref b15, .ref b16, .ref b17, .ref b18, .ref b19, .ref b20, .int 0, .ref b21, .ref b22, .int 0, .int 0, .int 0, .int 0, .ref b23, .ref b24, .ref b25, .ref b26, .ref b27, .ref b28, .ref b29, .int 0, .ref b30, .ref b31, .int 0, .ref b32, .ref b33, .ref b34, .ref b35, .ref b36, .int 0, .ref b37, .ref b38, .ref b39])), (b1, .inl (G.2 0, 503, .inl (upd (fun _ => 0) 501 1)))] H := hP
  have hD := z_tie hP hD rfl
  refine lv_aload_n hx hb d_Model_layStates_83 rfl (lv_at hl 2 rfl) ?_
  refine z_callV (index := 134) (As := []) (rest := []) (wr := [(b15, .inl (G.2 0, 2, .inl (upd (fun _ => 0) 0 0))), (b9, .inl (G.2 0, 2, .inl (upd (upd (fun _ => 0) 0 0) 0 1)))]) Z (c2_Model_many l G (b0) (b1) (b2) (b3) (b4) (b5) (b6) (b7) (b8) (b9) (b10) (b11) (b12) (b13) (b14) (b15) (b16) (b17) (b18) (b19) (b20) (b21) (b22) (b23) (b24) (b25) (b26) (b27) (b28) (b29) (b30) (b31) (b32) (b33) (b34) (b35) (b36) (b37) (b38) (b39)) hl.1 q1324 q1326 qs51 q14 q1327 ⟨by decide, by decide, by show _ = some 0; decide +kernel⟩ ⟨Nat.le_of_ble_eq_true rfl, Nat.le_of_ble_eq_true rfl⟩ ⟨Nat.le_of_ble_eq_true rfl, Nat.le_of_ble_eq_true rfl⟩ rfl (Nat.le_of_ble_eq_true rfl) d_Model_layStates_84 hP hD hS hA 2 12 rfl rfl rfl [2, 3] [0, 1] rfl rfl rfl rfl (by decide) (fun v w1 H locs hw_2 hP hD hS => ?_)
  obtain ⟨rfl, rfl⟩ := hw_2
  have hP : va_P G.1 classes [(b15, .inl (G.2 0, 2, .inl (upd (fun _ => 0) 0 0))), (b9, .inl (G.2 0, 2, .inl (upd (upd (fun _ => 0) 0 0) 0 1))), (b0, .inr (12, [.int 0, .ref b1, .ref b2, .ref b3, .ref b4, .int 0, .ref b5, .int 0, .int 0, .int 0, .int 0, .ref b6, .ref b7, .ref b8, .int 0, .ref b9, .ref b10, .ref b11, .ref b12, .ref b13, .ref b14, .ref b15, .ref b16, .ref b17, .ref b18, .ref b19, .ref b20, .int 0, .ref b21, .ref b22, .int 0, .int 0, .int 0, .int 0, .ref b23, .ref b24, .ref b25, .ref b26, .ref b27, .ref b28, .ref b29, .int 0, .ref b30, .ref b31, .int 0, .ref b32, .ref b33, .ref b34, .ref b35, .ref b36, .int 0, .ref b37, .ref b38, .ref b39])), (b1, .inl (G.2 0, 503, .inl (upd (fun _ => 0) 501 1)))] H := hP
  have hD := z_tie hP hD rfl
  refine W.widen (k := 0) (n := 0) (Nat.le_of_ble_eq_true rfl) (Nat.le_of_ble_eq_true rfl) ?_
  refine lv_iload_n hx hb d_Model_layStates_87 rfl (lv_at hl 5 rfl) ?_
  refine lv_iconst (v := (-1)) hx hb d_Model_layStates_88 (by decide) ?_
  refine lv_icmp_ne (tgt := 96) hx hb d_Model_layStates_89 (by decide) (fun hc => absurd hc (by decide +kernel)) (fun _ => ?_)
  refine lv_iconst (v := 0) hx hb d_Model_layStates_92 (by decide) ?_
  refine lv_goto (tgt := 97) hx hb d_Model_layStates_93 (by decide) ?_
  refine lv_icmp_le (tgt := 104) hx hb d_Model_layStates_97 (by decide) (fun _ => ?_) (fun hc => absurd hc (by decide +kernel))
  refine lv_iconst (v := 0) hx hb d_Model_layStates_104 (by decide) ?_
  refine lv_istore (lv' := [(5, .int 0), (4, .int 0), (0, .ref b0), (1, .int 0), (2, .int 1), (3, .int (-1))]) hx hb d_Model_layStates_105 hl (by decide) rfl (fun ls hl => ?_)
  refine lv_iconst (v := 0) hx hb d_Model_layStates_107 (by decide) ?_
  refine lv_istore (lv' := [(6, .int 0), (5, .int 0), (4, .int 0), (0, .ref b0), (1, .int 0), (2, .int 1), (3, .int (-1))]) hx hb d_Model_layStates_108 hl (by decide) rfl (fun ls hl => ?_)
  refine lv_iload hx hb d_Model_layStates_110 (lv_at hl 0 rfl) ?_
  refine lv_aload_n hx hb d_Model_layStates_112 rfl (lv_at hl 3 rfl) ?_
  refine va_get (D := G.1) (ci := 12) (v := .ref b9) (C := R_Model) (T := F_Model) (N := 54) hx hb hts i_Model hown hK hP 2 rfl rfl 15 (by decide) (hts _ q1128) (fun _ h9 => h9) rfl d_Model_layStates_113 ?_
  refine lv_iload_n hx hb d_Model_layStates_116 rfl (lv_at hl 4 rfl) ?_
  refine va_iald hx hb hK hP 1 0 rfl rfl (i := 0) (z_in rfl) d_Model_layStates_117 ?_
  refine z_topi (y := 1) rfl ?_
  refine lv_icmp_ge (tgt := 258) hx hb d_Model_layStates_118 (by decide) (fun hc => absurd hc (by decide +kernel)) (fun _ => ?_)
  refine lv_iload hx hb d_Model_layStates_121 (lv_at hl 1 rfl) ?_
  refine lv_if_eq (tgt := 258) hx hb d_Model_layStates_123 (by decide) (fun _ => ?_) (fun hc => absurd hc (by decide +kernel))
  exact z_vret hx hb hr hlocks hP hD hS (Nat.le_of_ble_eq_true rfl) (Nat.le_of_ble_eq_true rfl) d_Model_layStates_258 ⟨rfl, rfl⟩
theorem d_Model_lay2_47 : decode prog_14_method_35_code 47 = .ok (.aload_n 0, 1) := by decide +kernel
theorem d_Model_lay2_48 : decode prog_14_method_35_code 48 = .ok (.getfield 70, 3) := by decide +kernel
theorem d_Model_lay2_51 : decode prog_14_method_35_code 51 = .ok (.iload_n 1, 1) := by decide +kernel
theorem d_Model_lay2_52 : decode prog_14_method_35_code 52 = .ok (.iconst 0, 1) := by decide +kernel
theorem d_Model_lay2_53 : decode prog_14_method_35_code 53 = .ok (.iastore, 1) := by decide +kernel
theorem d_Model_lay2_54 : decode prog_14_method_35_code 54 = .ok (.iconst 0, 1) := by decide +kernel
theorem d_Model_lay2_55 : decode prog_14_method_35_code 55 = .ok (.istore 4, 2) := by decide +kernel
theorem d_Model_lay2_57 : decode prog_14_method_35_code 57 = .ok (.iload 4, 2) := by decide +kernel
theorem d_Model_lay2_59 : decode prog_14_method_35_code 59 = .ok (.aload_n 0, 1) := by decide +kernel
theorem d_Model_lay2_60 : decode prog_14_method_35_code 60 = .ok (.invokevirtual 134, 3) := by decide +kernel
theorem d_Model_lay2_63 : decode prog_14_method_35_code 63 = .ok (.if_icmp .ge 72, 3) := by decide +kernel
theorem d_Model_lay2_135 : decode prog_14_method_35_code 135 = .ok (.return_, 1) := by decide +kernel
abbrev m_c1_Model_lay2 : Room := { frames := 2, cells := 0, slots := 0, locals := 49 }
set_option maxHeartbeats 4000000 in
set_option maxRecDepth 100000 in
theorem c1_Model_lay2 (l : Launch) (G : zG) (b0 : Nat) (b1 : Nat) (b2 : Nat) (b3 : Nat) (b4 : Nat) (b5 : Nat) (b6 : Nat) (b7 : Nat) (b8 : Nat) (b9 : Nat) (b10 : Nat) (b11 : Nat) (b12 : Nat) (b13 : Nat) (b14 : Nat) (b15 : Nat) (b16 : Nat) (b17 : Nat) (b18 : Nat) (b19 : Nat) (b20 : Nat) (b21 : Nat) (b22 : Nat) (b23 : Nat) (b24 : Nat) (b25 : Nat) (b26 : Nat) (b27 : Nat) (b28 : Nat) (b29 : Nat) (b30 : Nat) (b31 : Nat) (b32 : Nat) (b33 : Nat) (b34 : Nat) (b35 : Nat) (b36 : Nat) (b37 : Nat) (b38 : Nat) (b39 : Nat)  : zM l G y_Model_lay2 prog_14_method_35_code 6 (Option.none : Option Jvm.ClassFile.FieldType) m_c1_Model_lay2 [.ref b0, .int 0, .int 1, .int (-1)] [(b0, .inr (12, [.int 0, .ref b1, .ref b2, .ref b3, .ref b4, .int 0, .ref b5, .int 0, .int 0, .int 0, .int 0, .ref b6, .ref b7, .ref b8, .int 0, .ref b9, .ref b10, .ref b11, .ref b12, .ref b13, .ref b14, .ref b15, .ref b16, .ref b17, .ref b18, .ref b19, .ref b20, .int 0, .ref b21, .ref b22, .int 0, .int 0, .int 0, .int 0, .ref b23, .ref b24, .ref b25, .ref b26, .ref b27, .ref b28, .ref b29, .int 0, .ref b30, .ref b31, .int 0, .ref b32, .ref b33, .ref b34, .ref b35, .ref b36, .int 0, .ref b37, .ref b38, .ref b39])), (b9, .inl (G.2 0, 2, .inl (fun _ => 0))), (b10, .inl (G.2 0, 4820, .inl (fun _ => 0))), (b13, .inl (G.2 0, 482, .inl (fun _ => 0))), (b1, .inl (G.2 0, 503, .inl (upd (fun _ => 0) 501 1))), (b15, .inl (G.2 0, 2, .inl (fun _ => 0))), (b19, .inl (G.2 0, 2, .inl (fun _ => 0)))] (fun v w => (v = none ∧ w = [(b19, .inl (G.2 0, 2, .inl (upd (fun _ => 0) 0 0))), (b10, .inl (G.2 0, 4820, .inl (upd (upd (upd (upd (upd (upd (upd (upd (upd (upd (fun _ => 0) 0 (-1)) 1 (-1)) 2 (-1)) 3 (-1)) 4 (-1)) 5 (-1)) 6 (-1)) 7 (-1)) 8 (-1)) 9 (-1)))), (b13, .inl (G.2 0, 482, .inl (upd (upd (fun _ => 0) 0 0) 0 0))), (b15, .inl (G.2 0, 2, .inl (upd (fun _ => 0) 0 0))), (b9, .inl (G.2 0, 2, .inl (upd (upd (fun _ => 0) 0 0) 0 1))), (b0, .inr (12, [.int 0, .ref b1, .ref b2, .ref b3, .ref b4, .int 0, .ref b5, .int 0, .int 0, .int 0, .int 0, .ref b6, .ref b7, .ref b8, .int 0, .ref b9, .ref b10, .ref b11, .ref b12, .ref b13, .ref b14, .ref b15, .ref b16, .ref b17, .ref b18, .ref b19, .ref b20, .int 0, .ref b21, .ref b22, .int 0, .int 0, .int 0, .int 0, .ref b23, .ref b24, .ref b25, .ref b26, .ref b27, .ref b28, .ref b29, .int 0, .ref b30, .ref b31, .int 0, .ref b32, .ref b33, .ref b34, .ref b35, .ref b36, .int 0, .ref b37, .ref b38, .ref b39])), (b1, .inl (G.2 0, 503, .inl (upd (fun _ => 0) 501 1)))])) := by
  refine z_start (by decide +kernel) (Nat.le_of_ble_eq_true rfl) ?_
  intro p e s m below meth c A Z hr hnm hA hP hD hS ls hl
  have Z : zC p s m _ meth c prog_14_method_35_code 6 "TraceMachinesModel" G := Z
  obtain ⟨hx, hb, hml, hown, hts, hK, hN, hlocks⟩ := id Z
  have hl : lv_has ls 6 [(0, .ref b0), (1, .int 0), (2, .int 1), (3, .int (-1))] := hl
  refine lv_aload_n hx hb d_Model_lay2_0 rfl (lv_at hl 0 rfl) ?_
  refine lv_iload_n hx hb d_Model_lay2_1 rfl (lv_at hl 1 rfl) ?_
  refine lv_iload_n hx hb d_Model_lay2_2 rfl (lv_at hl 3 rfl) ?_
  refine z_callV (index := 241) (As := [.int 0, .int (-1)]) (rest := []) (wr := [(b15, .inl (G.2 0, 2, .inl (fun _ => 0))), (b19, .inl (G.2 0, 2, .inl (fun _ => 0)))]) Z (c1_Model_layPrefixes l G (b0) (b1) (b2) (b3) (b4) (b5) (b6) (b7) (b8) (b9) (b10) (b11) (b12) (b13) (b14) (b15) (b16) (b17) (b18) (b19) (b20) (b21) (b22) (b23) (b24) (b25) (b26) (b27) (b28) (b29) (b30) (b31) (b32) (b33) (b34) (b35) (b36) (b37) (b38) (b39)) hl.1 q1368 q1370 qs57 q14 q1371 ⟨by decide, by decide, by show _ = some 2; decide +kernel⟩ ⟨Nat.le_of_ble_eq_true rfl, Nat.le_of_ble_eq_true rfl⟩ ⟨Nat.le_of_ble_eq_true rfl, Nat.le_of_ble_eq_true rfl⟩ rfl (Nat.le_of_ble_eq_true rfl) d_Model_lay2_3 hP hD hS hA 0 12 rfl rfl rfl [0, 1, 2, 3, 4] [5, 6] rfl rfl rfl rfl (by decide) (fun v w1 H locs hw_1 hP hD hS => ?_)
  obtain ⟨rfl, rfl⟩ := hw_1
  have hP : va_P G.1 classes [(b15, .inl (G.2 0, 2, .inl (fun _ => 0))), (b19, .inl (G.2 0, 2, .inl (fun _ => 0))), (b9, .inl (G.2 0, 2, .inl (upd (upd (fun _ => 0) 0 0) 0 1))), (b10, .inl (G.2 0, 4820, .inl (upd (upd (upd (upd (upd (upd (upd (upd (upd (upd (fun _ => 0) 0 (-1)) 1 (-1)) 2 (-1)) 3 (-1)) 4 (-1)) 5 (-1)) 6 (-1)) 7 (-1)) 8 (-1)) 9 (-1)))), (b13, .inl (G.2 0, 482, .inl (upd (fun _ => 0) 0 0))), (b0, .inr (12, [.int 0, .ref b1, .ref b2, .ref b3, .ref b4, .int 0, .ref b5, .int 0, .int 0, .int 0, .int 0, .ref b6, .ref b7, .ref b8, .int 0, .ref b9, .ref b10, .ref b11, .ref b12, .ref b13, .ref b14, .ref b15, .ref b16, .ref b17, .ref b18, .ref b19, .ref b20, .int 0, .ref b21, .ref b22, .int 0, .int 0, .int 0, .int 0, .ref b23, .ref b24, .ref b25, .ref b26, .ref b27, .ref b28, .ref b29, .int 0, .ref b30, .ref b31, .int 0, .ref b32, .ref b33, .ref b34, .ref b35, .ref b36, .int 0, .ref b37, .ref b38, .ref b39])), (b1, .inl (G.2 0, 503, .inl (upd (fun _ => 0) 501 1)))] H := hP
  have hD := z_tie hP hD rfl
  refine W.widen (k := 0) (n := 0) (Nat.le_of_ble_eq_true rfl) (Nat.le_of_ble_eq_true rfl) ?_
  refine lv_iconst (v := 0) hx hb d_Model_lay2_6 (by decide) ?_
  refine lv_istore (lv' := [(4, .int 0), (0, .ref b0), (1, .int 0), (2, .int 1), (3, .int (-1))]) hx hb d_Model_lay2_7 hl (by decide) rfl (fun ls hl => ?_)
  refine lv_iload hx hb d_Model_lay2_9 (lv_at hl 0 rfl) ?_
  refine lv_aload_n hx hb d_Model_lay2_11 rfl (lv_at hl 1 rfl) ?_
  refine va_get (D := G.1) (ci := 12) (v := .ref b9) (C := R_Model) (T := F_Model) (N := 54) hx hb hts i_Model hown hK hP 5 rfl rfl 15 (by decide) (hts _ q1128) (fun _ h9 => h9) rfl d_Model_lay2_12 ?_
  refine lv_iload_n hx hb d_Model_lay2_15 rfl (lv_at hl 2 rfl) ?_
  refine va_iald hx hb hK hP 2 0 rfl rfl (i := 0) (z_in rfl) d_Model_lay2_16 ?_
  refine z_topi (y := 1) rfl ?_
  refine lv_icmp_ge (tgt := 40) hx hb d_Model_lay2_17 (by decide) (fun hc => absurd hc (by decide +kernel)) (fun _ => ?_)
  refine lv_aload_n hx hb d_Model_lay2_20 rfl (lv_at hl 1 rfl) ?_
  refine va_get (D := G.1) (ci := 12) (v := .ref b13) (C := R_Model) (T := F_Model) (N := 54) hx hb hts i_Model hown hK hP 5 rfl rfl 19 (by decide) (hts _ q1132) (fun _ h9 => h9) rfl d_Model_lay2_21 ?_
  refine lv_sipush (v := 241) hx hb d_Model_lay2_24 (by decide) ?_
  refine lv_iload_n hx hb d_Model_lay2_27 rfl (lv_at hl 2 rfl) ?_
  refine lv_imul hx hb d_Model_lay2_28 ?_
  refine z_topi (y := 0) (by decide +kernel) ?_
  refine lv_iload hx hb d_Model_lay2_29 (lv_at hl 0 rfl) ?_
  refine lv_iadd hx hb d_Model_lay2_31 ?_
  refine z_topi (y := 0) (by decide +kernel) ?_
  refine lv_iconst (v := 0) hx hb d_Model_lay2_32 (by decide) ?_
  refine va_iast hx hb hK hP hD hS 4 0 rfl rfl (i := 0) (z_in rfl) d_Model_lay2_33 (fun H locs hP hD hS => ?_)
  have hP : va_P G.1 classes [(b15, .inl (G.2 0, 2, .inl (fun _ => 0))), (b19, .inl (G.2 0, 2, .inl (fun _ => 0))), (b9, .inl (G.2 0, 2, .inl (upd (upd (fun _ => 0) 0 0) 0 1))), (b10, .inl (G.2 0, 4820, .inl (upd (upd (upd (upd (upd (upd (upd (upd (upd (upd (fun _ => 0) 0 (-1)) 1 (-1)) 2 (-1)) 3 (-1)) 4 (-1)) 5 (-1)) 6 (-1)) 7 (-1)) 8 (-1)) 9 (-1)))), (b13, .inl (G.2 0, 482, .inl (upd (upd (fun _ => 0) 0 0) 0 0))), (b0, .inr (12, [.int 0, .ref b1, .ref b2, .ref b3, .ref b4, .int 0, .ref b5, .int 0, .int 0, .int 0, .int 0, .ref b6, .ref b7, .ref b8, .int 0, .ref b9, .ref b10, .ref b11, .ref b12, .ref b13, .ref b14, .ref b15, .ref b16, .ref b17, .ref b18, .ref b19, .ref b20, .int 0, .ref b21, .ref b22, .int 0, .int 0, .int 0, .int 0, .ref b23, .ref b24, .ref b25, .ref b26, .ref b27, .ref b28, .ref b29, .int 0, .ref b30, .ref b31, .int 0, .ref b32, .ref b33, .ref b34, .ref b35, .ref b36, .int 0, .ref b37, .ref b38, .ref b39])), (b1, .inl (G.2 0, 503, .inl (upd (fun _ => 0) 501 1)))] H := hP
  have hD := z_tie hP hD rfl
  refine lv_iinc (v := 1) (lv' := [(4, .int 1), (0, .ref b0), (1, .int 0), (2, .int 1), (3, .int (-1))]) hx hb d_Model_lay2_34 hl (k := 0) rfl (by decide +kernel) (by decide) rfl (fun ls hl => ?_)
  refine lv_goto (tgt := 9) hx hb d_Model_lay2_37 (by decide) ?_
  refine lv_iload hx hb d_Model_lay2_9 (lv_at hl 0 rfl) ?_
  refine lv_aload_n hx hb d_Model_lay2_11 rfl (lv_at hl 1 rfl) ?_
  refine va_get (D := G.1) (ci := 12) (v := .ref b9) (C := R_Model) (T := F_Model) (N := 54) hx hb hts i_Model hown hK hP 5 rfl rfl 15 (by decide) (hts _ q1128) (fun _ h9 => h9) rfl d_Model_lay2_12 ?_
  refine lv_iload_n hx hb d_Model_lay2_15 rfl (lv_at hl 2 rfl) ?_
  refine va_iald hx hb hK hP 2 0 rfl rfl (i := 0) (z_in rfl) d_Model_lay2_16 ?_
  refine z_topi (y := 1) rfl ?_
  refine lv_icmp_ge (tgt := 40) hx hb d_Model_lay2_17 (by decide) (fun _ => ?_) (fun hc => absurd hc (by decide +kernel))
  refine lv_aload_n hx hb d_Model_lay2_40 rfl (lv_at hl 1 rfl) ?_
  refine lv_iload_n hx hb d_Model_lay2_41 rfl (lv_at hl 2 rfl) ?_
  refine lv_iload_n hx hb d_Model_lay2_42 rfl (lv_at hl 3 rfl) ?_
  refine lv_iload_n hx hb d_Model_lay2_43 rfl (lv_at hl 4 rfl) ?_
  refine z_callV (index := 244) (As := [.int 0, .int 1, .int (-1)]) (rest := []) (wr := [(b19, .inl (G.2 0, 2, .inl (fun _ => 0))), (b10, .inl (G.2 0, 4820, .inl (upd (upd (upd (upd (upd (upd (upd (upd (upd (upd (fun _ => 0) 0 (-1)) 1 (-1)) 2 (-1)) 3 (-1)) 4 (-1)) 5 (-1)) 6 (-1)) 7 (-1)) 8 (-1)) 9 (-1)))), (b13, .inl (G.2 0, 482, .inl (upd (upd (fun _ => 0) 0 0) 0 0)))]) Z (c1_Model_layStates l G (b0) (b1) (b2) (b3) (b4) (b5) (b6) (b7) (b8) (b9) (b10) (b11) (b12) (b13) (b14) (b15) (b16) (b17) (b18) (b19) (b20) (b21) (b22) (b23) (b24) (b25) (b26) (b27) (b28) (b29) (b30) (b31) (b32) (b33) (b34) (b35) (b36) (b37) (b38) (b39)) hl.1 q1380 q1382 qs60 q14 q1383 ⟨by decide, by decide, by show _ = some 3; decide +kernel⟩ ⟨Nat.le_of_ble_eq_true rfl, Nat.le_of_ble_eq_true rfl⟩ ⟨Nat.le_of_ble_eq_true rfl, Nat.le_of_ble_eq_true rfl⟩ rfl (Nat.le_of_ble_eq_true rfl) d_Model_lay2_44 hP hD hS hA 5 12 rfl rfl rfl [5, 6, 0, 2] [1, 3, 4] rfl rfl rfl rfl (by decide) (fun v w1 H locs hw_2 hP hD hS => ?_)
  obtain ⟨rfl, rfl⟩ := hw_2
  have hP : va_P G.1 classes [(b19, .inl (G.2 0, 2, .inl (fun _ => 0))), (b10, .inl (G.2 0, 4820, .inl (upd (upd (upd (upd (upd (upd (upd (upd (upd (upd (fun _ => 0) 0 (-1)) 1 (-1)) 2 (-1)) 3 (-1)) 4 (-1)) 5 (-1)) 6 (-1)) 7 (-1)) 8 (-1)) 9 (-1)))), (b13, .inl (G.2 0, 482, .inl (upd (upd (fun _ => 0) 0 0) 0 0))), (b15, .inl (G.2 0, 2, .inl (upd (fun _ => 0) 0 0))), (b9, .inl (G.2 0, 2, .inl (upd (upd (fun _ => 0) 0 0) 0 1))), (b0, .inr (12, [.int 0, .ref b1, .ref b2, .ref b3, .ref b4, .int 0, .ref b5, .int 0, .int 0, .int 0, .int 0, .ref b6, .ref b7, .ref b8, .int 0, .ref b9, .ref b10, .ref b11, .ref b12, .ref b13, .ref b14, .ref b15, .ref b16, .ref b17, .ref b18, .ref b19, .ref b20, .int 0, .ref b21, .ref b22, .int 0, .int 0, .int 0, .int 0, .ref b23, .ref b24, .ref b25, .ref b26, .ref b27, .ref b28, .ref b29, .int 0, .ref b30, .ref b31, .int 0, .ref b32, .ref b33, .ref b34, .ref b35, .ref b36, .int 0, .ref b37, .ref b38, .ref b39])), (b1, .inl (G.2 0, 503, .inl (upd (fun _ => 0) 501 1)))] H := hP
  have hD := z_tie hP hD rfl
  refine W.widen (k := 0) (n := 0) (Nat.le_of_ble_eq_true rfl) (Nat.le_of_ble_eq_true rfl) ?_
  refine lv_aload_n hx hb d_Model_lay2_47 rfl (lv_at hl 1 rfl) ?_
  refine va_get (D := G.1) (ci := 12) (v := .ref b19) (C := R_Model) (T := F_Model) (N := 54) hx hb hts i_Model hown hK hP 5 rfl rfl 25 (by decide) (hts _ q1138) (fun _ h9 => h9) rfl d_Model_lay2_48 ?_
  refine lv_iload_n hx hb d_Model_lay2_51 rfl (lv_at hl 2 rfl) ?_
  refine lv_iconst (v := 0) hx hb d_Model_lay2_52 (by decide) ?_
  refine va_iast hx hb hK hP hD hS 0 0 rfl rfl (i := 0) (z_in rfl) d_Model_lay2_53 (fun H locs hP hD hS => ?_)
  have hP : va_P G.1 classes [(b19, .inl (G.2 0, 2, .inl (upd (fun _ => 0) 0 0))), (b10, .inl (G.2 0, 4820, .inl (upd (upd (upd (upd (upd (upd (upd (upd (upd (upd (fun _ => 0) 0 (-1)) 1 (-1)) 2 (-1)) 3 (-1)) 4 (-1)) 5 (-1)) 6 (-1)) 7 (-1)) 8 (-1)) 9 (-1)))), (b13, .inl (G.2 0, 482, .inl (upd (upd (fun _ => 0) 0 0) 0 0))), (b15, .inl (G.2 0, 2, .inl (upd (fun _ => 0) 0 0))), (b9, .inl (G.2 0, 2, .inl (upd (upd (fun _ => 0) 0 0) 0 1))), (b0, .inr (12, [.int 0, .ref b1, .ref b2, .ref b3, .ref b4, .int 0, .ref b5, .int 0, .int 0, .int 0, .int 0, .ref b6, .ref b7, .ref b8, .int 0, .ref b9, .ref b10, .ref b11, .ref b12, .ref b13, .ref b14, .ref b15, .ref b16, .ref b17, .ref b18, .ref b19, .ref b20, .int 0, .ref b21, .ref b22, .int 0, .int 0, .int 0, .int 0, .ref b23, .ref b24, .ref b25, .ref b26, .ref b27, .ref b28, .ref b29, .int 0, .ref b30, .ref b31, .int 0, .ref b32, .ref b33, .ref b34, .ref b35, .ref b36, .int 0, .ref b37, .ref b38, .ref b39])), (b1, .inl (G.2 0, 503, .inl (upd (fun _ => 0) 501 1)))] H := hP
  have hD := z_tie hP hD rfl
  refine lv_iconst (v := 0) hx hb d_Model_lay2_54 (by decide) ?_
  refine lv_istore (lv' := [(4, .int 0), (0, .ref b0), (1, .int 0), (2, .int 1), (3, .int (-1))]) hx hb d_Model_lay2_55 hl (by decide) rfl (fun ls hl => ?_)
  refine lv_iload hx hb d_Model_lay2_57 (lv_at hl 0 rfl) ?_
  refine lv_aload_n hx hb d_Model_lay2_59 rfl (lv_at hl 1 rfl) ?_
  refine z_callV (index := 134) (As := []) (rest := [.int 0]) (wr := [(b19, .inl (G.2 0, 2, .inl (upd (fun _ => 0) 0 0))), (b10, .inl (G.2 0, 4820, .inl (upd (upd (upd (upd (upd (upd (upd (upd (upd (upd (fun _ => 0) 0 (-1)) 1 (-1)) 2 (-1)) 3 (-1)) 4 (-1)) 5 (-1)) 6 (-1)) 7 (-1)) 8 (-1)) 9 (-1)))), (b13, .inl (G.2 0, 482, .inl (upd (upd (fun _ => 0) 0 0) 0 0))), (b15, .inl (G.2 0, 2, .inl (upd (fun _ => 0) 0 0))), (b9, .inl (G.2 0, 2, .inl (upd (upd (fun _ => 0) 0 0) 0 1)))]) Z (c2_Model_many l G (b0) (b1) (b2) (b3) (b4) (b5) (b6) (b7) (b8) (b9) (b10) (b11) (b12) (b13) (b14) (b15) (b16) (b17) (b18) (b19) (b20) (b21) (b22) (b23) (b24) (b25) (b26) (b27) (b28) (b29) (b30) (b31) (b32) (b33) (b34) (b35) (b36) (b37) (b38) (b39)) hl.1 q1324 q1326 qs51 q14 q1327 ⟨by decide, by decide, by show _ = some 0; decide +kernel⟩ ⟨Nat.le_of_ble_eq_true rfl, Nat.le_of_ble_eq_true rfl⟩ ⟨Nat.le_of_ble_eq_true rfl, Nat.le_of_ble_eq_true rfl⟩ rfl (Nat.le_of_ble_eq_true rfl) d_Model_lay2_60 hP hD hS hA 5 12 rfl rfl rfl [5, 6] [0, 1, 2, 3, 4] rfl rfl rfl rfl (by decide) (fun v w1 H locs hw_3 hP hD hS => ?_)
  obtain ⟨rfl, rfl⟩ := hw_3
  have hP : va_P G.1 classes [(b19, .inl (G.2 0, 2, .inl (upd (fun _ => 0) 0 0))), (b10, .inl (G.2 0, 4820, .inl (upd (upd (upd (upd (upd (upd (upd (upd (upd (upd (fun _ => 0) 0 (-1)) 1 (-1)) 2 (-1)) 3 (-1)) 4 (-1)) 5 (-1)) 6 (-1)) 7 (-1)) 8 (-1)) 9 (-1)))), (b13, .inl (G.2 0, 482, .inl (upd (upd (fun _ => 0) 0 0) 0 0))), (b15, .inl (G.2 0, 2, .inl (upd (fun _ => 0) 0 0))), (b9, .inl (G.2 0, 2, .inl (upd (upd (fun _ => 0) 0 0) 0 1))), (b0, .inr (12, [.int 0, .ref b1, .ref b2, .ref b3, .ref b4, .int 0, .ref b5, .int 0, .int 0, .int 0, .int 0, .ref b6, .ref b7, .ref b8, .int 0, .ref b9, .ref b10, .ref b11, .ref b12, .ref b13, .ref b14, .ref b15, .ref b16, .ref b17, .ref b18, .ref b19, .ref b20, .int 0, .ref b21, .ref b22, .int 0, .int 0, .int 0, .int 0, .ref b23, .ref b24, .ref b25, .ref b26, .ref b27, .ref b28, .ref b29, .int 0, .ref b30, .ref b31, .int 0, .ref b32, .ref b33, .ref b34, .ref b35, .ref b36, .int 0, .ref b37, .ref b38, .ref b39])), (b1, .inl (G.2 0, 503, .inl (upd (fun _ => 0) 501 1)))] H := hP
  have hD := z_tie hP hD rfl
  refine W.widen (k := 0) (n := 0) (Nat.le_of_ble_eq_true rfl) (Nat.le_of_ble_eq_true rfl) ?_
  refine lv_icmp_ge (tgt := 135) hx hb d_Model_lay2_63 (by decide) (fun _ => ?_) (fun hc => absurd hc (by decide +kernel))
  exact z_vret hx hb hr hlocks hP hD hS (Nat.le_of_ble_eq_true rfl) (Nat.le_of_ble_eq_true rfl) d_Model_lay2_135 ⟨rfl, rfl⟩
theorem d_Model_lay1_14 : decode prog_14_method_36_code 14 = .ok (.return_, 1) := by decide +kernel
abbrev m_c1_Model_lay1 : Room := { frames := 3, cells := 0, slots := 0, locals := 74 }
set_option maxHeartbeats 4000000 in
set_option maxRecDepth 100000 in
theorem c1_Model_lay1 (l : Launch) (G : zG) (b0 : Nat) (b1 : Nat) (b2 : Nat) (b3 : Nat) (b4 : Nat) (b5 : Nat) (b6 : Nat) (b7 : Nat) (b8 : Nat) (b9 : Nat) (b10 : Nat) (b11 : Nat) (b12 : Nat) (b13 : Nat) (b14 : Nat) (b15 : Nat) (b16 : Nat) (b17 : Nat) (b18 : Nat) (b19 : Nat) (b20 : Nat) (b21 : Nat) (b22 : Nat) (b23 : Nat) (b24 : Nat) (b25 : Nat) (b26 : Nat) (b27 : Nat) (b28 : Nat) (b29 : Nat) (b30 : Nat) (b31 : Nat) (b32 : Nat) (b33 : Nat) (b34 : Nat) (b35 : Nat) (b36 : Nat) (b37 : Nat) (b38 : Nat) (b39 : Nat)  : zM l G y_Model_lay1 prog_14_method_36_code 1 (Option.none : Option Jvm.ClassFile.FieldType) m_c1_Model_lay1 [.ref b0] [(b0, .inr (12, [.int 0, .ref b1, .ref b2, .ref b3, .ref b4, .int 0, .ref b5, .int 0, .int 0, .int 0, .int 0, .ref b6, .ref b7, .ref b8, .int 0, .ref b9, .ref b10, .ref b11, .ref b12, .ref b13, .ref b14, .ref b15, .ref b16, .ref b17, .ref b18, .ref b19, .ref b20, .int 0, .ref b21, .ref b22, .int 0, .int 0, .int 0, .int 0, .ref b23, .ref b24, .ref b25, .ref b26, .ref b27, .ref b28, .ref b29, .int 0, .ref b30, .ref b31, .int 0, .ref b32, .ref b33, .ref b34, .ref b35, .ref b36, .int 0, .ref b37, .ref b38, .ref b39])), (b1, .inl (G.2 0, 503, .inl (upd (fun _ => 0) 501 1))), (b9, .inl (G.2 0, 2, .inl (fun _ => 0))), (b10, .inl (G.2 0, 4820, .inl (fun _ => 0))), (b13, .inl (G.2 0, 482, .inl (fun _ => 0))), (b15, .inl (G.2 0, 2, .inl (fun _ => 0))), (b19, .inl (G.2 0, 2, .inl (fun _ => 0)))] (fun v w => (v = none ∧ w = [(b19, .inl (G.2 0, 2, .inl (upd (fun _ => 0) 0 0))), (b10, .inl (G.2 0, 4820, .inl (upd (upd (upd (upd (upd (upd (upd (upd (upd (upd (fun _ => 0) 0 (-1)) 1 (-1)) 2 (-1)) 3 (-1)) 4 (-1)) 5 (-1)) 6 (-1)) 7 (-1)) 8 (-1)) 9 (-1)))), (b13, .inl (G.2 0, 482, .inl (upd (upd (fun _ => 0) 0 0) 0 0))), (b15, .inl (G.2 0, 2, .inl (upd (fun _ => 0) 0 0))), (b9, .inl (G.2 0, 2, .inl (upd (upd (fun _ => 0) 0 0) 0 1))), (b0, .inr (12, [.int 0, .ref b1, .ref b2, .ref b3, .ref b4, .int 0, .ref b5, .int 0, .int 0, .int 0, .int 0, .ref b6, .ref b7, .ref b8, .int 0, .ref b9, .ref b10, .ref b11, .ref b12, .ref b13, .ref b14, .ref b15, .ref b16, .ref b17, .ref b18, .ref b19, .ref b20, .int 0, .ref b21, .ref b22, .int 0, .int 0, .int 0, .int 0, .ref b23, .ref b24, .ref b25, .ref b26, .ref b27, .ref b28, .ref b29, .int 0, .ref b30, .ref b31, .int 0, .ref b32, .ref b33, .ref b34, .ref b35, .ref b36, .int 0, .ref b37, .ref b38, .ref b39])), (b1, .inl (G.2 0, 503, .inl (upd (fun _ => 0) 501 1)))])) := by
  refine z_start (by decide +kernel) (Nat.le_of_ble_eq_true rfl) ?_
  intro p e s m below meth c A Z hr hnm hA hP hD hS ls hl
  have Z : zC p s m _ meth c prog_14_method_36_code 1 "TraceMachinesModel" G := Z
  obtain ⟨hx, hb, hml, hown, hts, hK, hN, hlocks⟩ := id Z
  have hl : lv_has ls 1 [(0, .ref b0)] := hl
  refine lv_aload_n hx hb d_Model_lay1_0 rfl (lv_at hl 0 rfl) ?_
  refine lv_iconst (v := 0) hx hb d_Model_lay1_1 (by decide) ?_
  refine lv_aload_n hx hb d_Model_lay1_2 rfl (lv_at hl 0 rfl) ?_
  refine va_get (D := G.1) (ci := 12) (v := .ref b1) (C := R_Model) (T := F_Model) (N := 54) hx hb hts i_Model hown hK hP 0 rfl rfl 1 (by decide) (hts _ q1114) (fun _ h9 => h9) rfl d_Model_lay1_3 ?_
  refine lv_sipush (v := 501) hx hb d_Model_lay1_6 (by decide) ?_
  refine va_iald hx hb hK hP 1 0 rfl rfl (i := 501) (z_in rfl) d_Model_lay1_9 ?_
  refine z_topi (y := 1) rfl ?_
  refine lv_iconst (v := (-1)) hx hb d_Model_lay1_10 (by decide) ?_
  refine z_callV (index := 251) (As := [.int 0, .int 1, .int (-1)]) (rest := []) (wr := []) Z (c1_Model_lay2 l G (b0) (b1) (b2) (b3) (b4) (b5) (b6) (b7) (b8) (b9) (b10) (b11) (b12) (b13) (b14) (b15) (b16) (b17) (b18) (b19) (b20) (b21) (b22) (b23) (b24) (b25) (b26) (b27) (b28) (b29) (b30) (b31) (b32) (b33) (b34) (b35) (b36) (b37) (b38) (b39)) hl.1 q1364 q1366 qs56 q14 q1367 ⟨by decide, by decide, by show _ = some 3; decide +kernel⟩ ⟨Nat.le_of_ble_eq_true rfl, Nat.le_of_ble_eq_true rfl⟩ ⟨Nat.le_of_ble_eq_true rfl, Nat.le_of_ble_eq_true rfl⟩ rfl (Nat.le_of_ble_eq_true rfl) d_Model_lay1_11 hP hD hS hA 0 12 rfl rfl rfl [0, 2, 3, 4, 1, 5, 6] [] rfl rfl rfl rfl (by decide) (fun v w1 H locs hw_1 hP hD hS => ?_)
  obtain ⟨rfl, rfl⟩ := hw_1
  have hP : va_P G.1 classes [(b19, .inl (G.2 0, 2, .inl (upd (fun _ => 0) 0 0))), (b10, .inl (G.2 0, 4820, .inl (upd (upd (upd (upd (upd (upd (upd (upd (upd (upd (fun _ => 0) 0 (-1)) 1 (-1)) 2 (-1)) 3 (-1)) 4 (-1)) 5 (-1)) 6 (-1)) 7 (-1)) 8 (-1)) 9 (-1)))), (b13, .inl (G.2 0, 482, .inl (upd (upd (fun _ => 0) 0 0) 0 0))), (b15, .inl (G.2 0, 2, .inl (upd (fun _ => 0) 0 0))), (b9, .inl (G.2 0, 2, .inl (upd (upd (fun _ => 0) 0 0) 0 1))), (b0, .inr (12, [.int 0, .ref b1, .ref b2, .ref b3, .ref b4, .int 0, .ref b5, .int 0, .int 0, .int 0, .int 0, .ref b6, .ref b7, .ref b8, .int 0, .ref b9, .ref b10, .ref b11, .ref b12, .ref b13, .ref b14, .ref b15, .ref b16, .ref b17, .ref b18, .ref b19, .ref b20, .int 0, .ref b21, .ref b22, .int 0, .int 0, .int 0, .int 0, .ref b23, .ref b24, .ref b25, .ref b26, .ref b27, .ref b28, .ref b29, .int 0, .ref b30, .ref b31, .int 0, .ref b32, .ref b33, .ref b34, .ref b35, .ref b36, .int 0, .ref b37, .ref b38, .ref b39])), (b1, .inl (G.2 0, 503, .inl (upd (fun _ => 0) 501 1)))] H := hP
  have hD := z_tie hP hD rfl
  refine W.widen (k := 0) (n := 0) (Nat.le_of_ble_eq_true rfl) (Nat.le_of_ble_eq_true rfl) ?_
  exact z_vret hx hb hr hlocks hP hD hS (Nat.le_of_ble_eq_true rfl) (Nat.le_of_ble_eq_true rfl) d_Model_lay1_14 ⟨rfl, rfl⟩
theorem d_Model_state_9 : decode prog_14_method_40_code 9 = .ok (.iload_n 1, 1) := by decide +kernel
theorem d_Model_state_10 : decode prog_14_method_40_code 10 = .ok (.i2l, 1) := by decide +kernel
theorem d_Model_state_11 : decode prog_14_method_40_code 11 = .ok (.lconst 0, 1) := by decide +kernel
theorem d_Model_state_12 : decode prog_14_method_40_code 12 = .ok (.aload_n 0, 1) := by decide +kernel
theorem d_Model_state_13 : decode prog_14_method_40_code 13 = .ok (.getfield 58, 3) := by decide +kernel
theorem d_Model_state_16 : decode prog_14_method_40_code 16 = .ok (.iconst 0, 1) := by decide +kernel
theorem d_Model_state_17 : decode prog_14_method_40_code 17 = .ok (.iaload, 1) := by decide +kernel
theorem d_Model_state_18 : decode prog_14_method_40_code 18 = .ok (.i2l, 1) := by decide +kernel
theorem d_Model_state_19 : decode prog_14_method_40_code 19 = .ok (.lconst 1, 1) := by decide +kernel
theorem d_Model_state_20 : decode prog_14_method_40_code 20 = .ok (.lsub, 1) := by decide +kernel
theorem d_Model_state_21 : decode prog_14_method_40_code 21 = .ok (.invokestatic 138, 3) := by decide +kernel
theorem d_Model_state_24 : decode prog_14_method_40_code 24 = .ok (.ifCond .ne 5, 3) := by decide +kernel
theorem d_Model_state_27 : decode prog_14_method_40_code 27 = .ok (.iconst (-1), 1) := by decide +kernel
theorem d_Model_state_28 : decode prog_14_method_40_code 28 = .ok (.ireturn, 1) := by decide +kernel
abbrev m_t_Model_state : Room := { frames := 4, cells := 0, slots := 0, locals := 94 }
set_option maxHeartbeats 4000000 in
set_option maxRecDepth 100000 in
theorem t_Model_state (l : Launch) (G : zG) (b0 : Nat) (p0 : Int32) (p1 : Int32) (b3 : Nat) (b4 : Nat) (b5 : Nat) (b6 : Nat) (b7 : Nat) (b8 : Nat) (b9 : Nat) (b10 : Nat) (b11 : Nat) (b12 : Nat) (b13 : Nat) (b14 : Nat) (b15 : Nat) (b16 : Nat) (b17 : Nat) (b18 : Nat) (b19 : Nat) (b20 : Nat) (b21 : Nat) (b22 : Nat) (b23 : Nat) (b24 : Nat) (b25 : Nat) (b26 : Nat) (b27 : Nat) (b28 : Nat) (b29 : Nat) (b30 : Nat) (b31 : Nat) (b32 : Nat) (b33 : Nat) (b34 : Nat) (b35 : Nat) (b36 : Nat) (b37 : Nat) (b38 : Nat) (b39 : Nat) (b40 : Nat) (b41 : Nat)  : zM l G y_Model_state prog_14_method_40_code 3 (Option.some Jvm.ClassFile.FieldType.int) m_t_Model_state [.ref b0, .int p0, .int p1] [(b0, .inr (12, [.int 0, .ref b3, .ref b4, .ref b5, .ref b6, .int 0, .ref b7, .int 0, .int 0, .int 0, .int 0, .ref b8, .ref b9, .ref b10, .int 0, .ref b11, .ref b12, .ref b13, .ref b14, .ref b15, .ref b16, .ref b17, .ref b18, .ref b19, .ref b20, .ref b21, .ref b22, .int 0, .ref b23, .ref b24, .int 0, .int 0, .int 0, .int 0, .ref b25, .ref b26, .ref b27, .ref b28, .ref b29, .ref b30, .ref b31, .int 0, .ref b32, .ref b33, .int 0, .ref b34, .ref b35, .ref b36, .ref b37, .ref b38, .int 0, .ref b39, .ref b40, .ref b41])), (b3, .inl (G.2 0, 503, .inl (upd (fun _ => 0) 501 1))), (b11, .inl (G.2 0, 2, .inl (fun _ => 0))), (b12, .inl (G.2 0, 4820, .inl (fun _ => 0))), (b15, .inl (G.2 0, 482, .inl (fun _ => 0))), (b17, .inl (G.2 0, 2, .inl (fun _ => 0))), (b21, .inl (G.2 0, 2, .inl (fun _ => 0)))] (fun v _ => v = some (.int (a_state p0 p1))) := by
  refine z_start (by decide +kernel) (Nat.le_of_ble_eq_true rfl) ?_
  intro p e s m below meth c A Z hr hnm hA hP hD hS ls hl
  have Z : zC p s m _ meth c prog_14_method_40_code 3 "TraceMachinesModel" G := Z
  obtain ⟨hx, hb, hml, hown, hts, hK, hN, hlocks⟩ := id Z
  have hl : lv_has ls 3 [(0, .ref b0), (1, .int p0), (2, .int p1)] := hl
  refine lv_aload_n hx hb d_Model_state_0 rfl (lv_at hl 0 rfl) ?_
  refine lv_iconst (v := 0) hx hb d_Model_state_1 (by decide) ?_
  refine va_put (D := G.1) (ci := 12) (v := .int 0) (ty := .int) (C := R_Model) (T := F_Model) (N := 54) hx hb hts i_Model t_Model t_Model_ok n_Model hown hK hP hD hS 0 rfl rfl 0 (by decide) (hts _ q1113) (fun _ h9 => h9) rfl (by decide +kernel) rfl rfl (Nat.le_of_ble_eq_true rfl) d_Model_state_2 (fun H locs hP hD hS => ?_)
  have hP : va_P G.1 classes [(b0, .inr (12, [.int 0, .ref b3, .ref b4, .ref b5, .ref b6, .int 0, .ref b7, .int 0, .int 0, .int 0, .int 0, .ref b8, .ref b9, .ref b10, .int 0, .ref b11, .ref b12, .ref b13, .ref b14, .ref b15, .ref b16, .ref b17, .ref b18, .ref b19, .ref b20, .ref b21, .ref b22, .int 0, .ref b23, .ref b24, .int 0, .int 0, .int 0, .int 0, .ref b25, .ref b26, .ref b27, .ref b28, .ref b29, .ref b30, .ref b31, .int 0, .ref b32, .ref b33, .int 0, .ref b34, .ref b35, .ref b36, .ref b37, .ref b38, .int 0, .ref b39, .ref b40, .ref b41])), (b3, .inl (G.2 0, 503, .inl (upd (fun _ => 0) 501 1))), (b11, .inl (G.2 0, 2, .inl (fun _ => 0))), (b12, .inl (G.2 0, 4820, .inl (fun _ => 0))), (b15, .inl (G.2 0, 482, .inl (fun _ => 0))), (b17, .inl (G.2 0, 2, .inl (fun _ => 0))), (b21, .inl (G.2 0, 2, .inl (fun _ => 0)))] H := hP
  have hD := z_tie hP hD rfl
  refine lv_aload_n hx hb d_Model_state_5 rfl (lv_at hl 0 rfl) ?_
  refine z_callV (index := 254) (As := []) (rest := []) (wr := []) Z (c1_Model_lay1 l G (b0) (b3) (b4) (b5) (b6) (b7) (b8) (b9) (b10) (b11) (b12) (b13) (b14) (b15) (b16) (b17) (b18) (b19) (b20) (b21) (b22) (b23) (b24) (b25) (b26) (b27) (b28) (b29) (b30) (b31) (b32) (b33) (b34) (b35) (b36) (b37) (b38) (b39) (b40) (b41)) hl.1 q1360 q1362 qs55 q14 q1363 ⟨by decide, by decide, by show _ = some 0; decide +kernel⟩ ⟨Nat.le_of_ble_eq_true rfl, Nat.le_of_ble_eq_true rfl⟩ ⟨Nat.le_of_ble_eq_true rfl, Nat.le_of_ble_eq_true rfl⟩ rfl (Nat.le_of_ble_eq_true rfl) d_Model_state_6 hP hD hS hA 0 12 rfl rfl rfl [0, 1, 2, 3, 4, 5, 6] [] rfl rfl rfl rfl (by decide) (fun v w1 H locs hw_1 hP hD hS => ?_)
  obtain ⟨rfl, rfl⟩ := hw_1
  have hP : va_P G.1 classes [(b21, .inl (G.2 0, 2, .inl (upd (fun _ => 0) 0 0))), (b12, .inl (G.2 0, 4820, .inl (upd (upd (upd (upd (upd (upd (upd (upd (upd (upd (fun _ => 0) 0 (-1)) 1 (-1)) 2 (-1)) 3 (-1)) 4 (-1)) 5 (-1)) 6 (-1)) 7 (-1)) 8 (-1)) 9 (-1)))), (b15, .inl (G.2 0, 482, .inl (upd (upd (fun _ => 0) 0 0) 0 0))), (b17, .inl (G.2 0, 2, .inl (upd (fun _ => 0) 0 0))), (b11, .inl (G.2 0, 2, .inl (upd (upd (fun _ => 0) 0 0) 0 1))), (b0, .inr (12, [.int 0, .ref b3, .ref b4, .ref b5, .ref b6, .int 0, .ref b7, .int 0, .int 0, .int 0, .int 0, .ref b8, .ref b9, .ref b10, .int 0, .ref b11, .ref b12, .ref b13, .ref b14, .ref b15, .ref b16, .ref b17, .ref b18, .ref b19, .ref b20, .ref b21, .ref b22, .int 0, .ref b23, .ref b24, .int 0, .int 0, .int 0, .int 0, .ref b25, .ref b26, .ref b27, .ref b28, .ref b29, .ref b30, .ref b31, .int 0, .ref b32, .ref b33, .int 0, .ref b34, .ref b35, .ref b36, .ref b37, .ref b38, .int 0, .ref b39, .ref b40, .ref b41])), (b3, .inl (G.2 0, 503, .inl (upd (fun _ => 0) 501 1)))] H := hP
  have hD := z_tie hP hD rfl
  refine W.widen (k := 0) (n := 0) (Nat.le_of_ble_eq_true rfl) (Nat.le_of_ble_eq_true rfl) ?_
  refine lv_iload_n hx hb d_Model_state_9 rfl (lv_at hl 1 rfl) ?_
  refine lv_i2l (v := p0.toInt64) hx hb d_Model_state_10 rfl ?_
  refine lv_lconst (v := 0) hx hb d_Model_state_11 (by decide) ?_
  refine lv_aload_n hx hb d_Model_state_12 rfl (lv_at hl 0 rfl) ?_
  refine va_get (D := G.1) (ci := 12) (v := .ref b17) (C := R_Model) (T := F_Model) (N := 54) hx hb hts i_Model hown hK hP 5 rfl rfl 21 (by decide) (hts _ q1134) (fun _ h9 => h9) rfl d_Model_state_13 ?_
  refine lv_iconst (v := 0) hx hb d_Model_state_16 (by decide) ?_
  refine va_iald hx hb hK hP 3 0 rfl rfl (i := 0) (z_in rfl) d_Model_state_17 ?_
  refine z_topi (y := 0) rfl ?_
  refine lv_i2l (v := 0) hx hb d_Model_state_18 (by decide +kernel) ?_
  refine lv_lconst (v := 1) hx hb d_Model_state_19 (by decide) ?_
  refine lv_lsub hx hb d_Model_state_20 ?_
  refine z_topl (y := (-1)) (by decide +kernel) ?_
  refine z_callS (index := 138) (As := [.long p0.toInt64, .long 0, .long (-1)]) (rest := []) (wr := [(b21, .inl (G.2 0, 2, .inl (upd (fun _ => 0) 0 0))), (b12, .inl (G.2 0, 4820, .inl (upd (upd (upd (upd (upd (upd (upd (upd (upd (upd (fun _ => 0) 0 (-1)) 1 (-1)) 2 (-1)) 3 (-1)) 4 (-1)) 5 (-1)) 6 (-1)) 7 (-1)) 8 (-1)) 9 (-1)))), (b15, .inl (G.2 0, 482, .inl (upd (upd (fun _ => 0) 0 0) 0 0))), (b17, .inl (G.2 0, 2, .inl (upd (fun _ => 0) 0 0))), (b11, .inl (G.2 0, 2, .inl (upd (upd (fun _ => 0) 0 0) 0 1))), (b0, .inr (12, [.int 0, .ref b3, .ref b4, .ref b5, .ref b6, .int 0, .ref b7, .int 0, .int 0, .int 0, .int 0, .ref b8, .ref b9, .ref b10, .int 0, .ref b11, .ref b12, .ref b13, .ref b14, .ref b15, .ref b16, .ref b17, .ref b18, .ref b19, .ref b20, .ref b21, .ref b22, .int 0, .ref b23, .ref b24, .int 0, .int 0, .int 0, .int 0, .ref b25, .ref b26, .ref b27, .ref b28, .ref b29, .ref b30, .ref b31, .int 0, .ref b32, .ref b33, .int 0, .ref b34, .ref b35, .ref b36, .ref b37, .ref b38, .int 0, .ref b39, .ref b40, .ref b41])), (b3, .inl (G.2 0, 503, .inl (upd (fun _ => 0) 501 1)))]) Z (c3_Model_in l G (p0.toInt64)) hl.1 q1285 q1286 q14 q1287 ⟨by decide, by decide, by show _ = some 3; decide +kernel⟩ ⟨Nat.le_of_ble_eq_true rfl, Nat.le_of_ble_eq_true rfl⟩ ⟨Nat.le_of_ble_eq_true rfl, Nat.le_of_ble_eq_true rfl⟩ rfl (Nat.le_of_ble_eq_true rfl) d_Model_state_21 hP hD hS hA [] [0, 1, 2, 3, 4, 5, 6] rfl rfl rfl rfl (by decide) (fun v w1 H locs hw_2 hP hD hS => ?_)
  obtain ⟨rfl, rfl⟩ := hw_2
  have hP : va_P G.1 classes [(b21, .inl (G.2 0, 2, .inl (upd (fun _ => 0) 0 0))), (b12, .inl (G.2 0, 4820, .inl (upd (upd (upd (upd (upd (upd (upd (upd (upd (upd (fun _ => 0) 0 (-1)) 1 (-1)) 2 (-1)) 3 (-1)) 4 (-1)) 5 (-1)) 6 (-1)) 7 (-1)) 8 (-1)) 9 (-1)))), (b15, .inl (G.2 0, 482, .inl (upd (upd (fun _ => 0) 0 0) 0 0))), (b17, .inl (G.2 0, 2, .inl (upd (fun _ => 0) 0 0))), (b11, .inl (G.2 0, 2, .inl (upd (upd (fun _ => 0) 0 0) 0 1))), (b0, .inr (12, [.int 0, .ref b3, .ref b4, .ref b5, .ref b6, .int 0, .ref b7, .int 0, .int 0, .int 0, .int 0, .ref b8, .ref b9, .ref b10, .int 0, .ref b11, .ref b12, .ref b13, .ref b14, .ref b15, .ref b16, .ref b17, .ref b18, .ref b19, .ref b20, .ref b21, .ref b22, .int 0, .ref b23, .ref b24, .int 0, .int 0, .int 0, .int 0, .ref b25, .ref b26, .ref b27, .ref b28, .ref b29, .ref b30, .ref b31, .int 0, .ref b32, .ref b33, .int 0, .ref b34, .ref b35, .ref b36, .ref b37, .ref b38, .int 0, .ref b39, .ref b40, .ref b41])), (b3, .inl (G.2 0, 503, .inl (upd (fun _ => 0) 501 1)))] H := hP
  have hD := z_tie hP hD rfl
  refine W.widen (k := 0) (n := 0) (Nat.le_of_ble_eq_true rfl) (Nat.le_of_ble_eq_true rfl) ?_
  refine lv_if_ne (tgt := 29) hx hb d_Model_state_24 (by decide) (fun hc => absurd hc (by decide +kernel)) (fun _ => ?_)
  refine lv_iconst (v := (-1)) hx hb d_Model_state_27 (by decide) ?_
  exact z_iret hx hb hr hlocks hP hD hS (Nat.le_of_ble_eq_true rfl) (Nat.le_of_ble_eq_true rfl) d_Model_state_28 (congrArg (fun z => some (Value.int z)) (by unfold a_state; (first | rfl | (repeat (first | rw [if_pos (by omega)] | rw [if_neg (by omega)])))))
