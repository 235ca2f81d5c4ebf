theorem d_Model_many_0 : decode prog_14_method_4_code 0 = .ok (.aload_n 0, 1) := by decide +kernel
theorem d_Model_many_1 : decode prog_14_method_4_code 1 = .ok (.getfield 13, 3) := by decide +kernel
theorem d_Model_many_4 : decode prog_14_method_4_code 4 = .ok (.iconst 0, 1) := by decide +kernel
theorem d_Model_many_5 : decode prog_14_method_4_code 5 = .ok (.iaload, 1) := by decide +kernel
theorem d_Model_many_6 : decode prog_14_method_4_code 6 = .ok (.ireturn, 1) := by decide +kernel
abbrev m_s1_Model_many : Room := { frames := 0, cells := 0, slots := 0, locals := 0 }
set_option maxHeartbeats 4000000 in
set_option maxRecDepth 100000 in
theorem s1_Model_many (l : Launch) (G : zG) (b0 : Nat) (b1 : Int32) (b2 : Nat) (b3 : Nat) (b4 : Nat) (b5 : Nat) (b6 : Int32) (b7 : Nat) (b8 : Int32) (b9 : Int32) (b10 : Int32) (b11 : Int32) (b12 : Nat) (b13 : Nat) (b14 : Nat) (b15 : Int32) (b16 : Nat) (b17 : Nat) (b18 : Nat) (b19 : Nat) (b20 : Nat) (b21 : Nat) (b22 : Nat) (b23 : Nat) (b24 : Nat) (b25 : Nat) (b26 : Nat) (b27 : Nat) (b28 : Int32) (b29 : Nat) (b30 : Nat) (b31 : Int32) (b32 : Int32) (b33 : Int32) (b34 : Int32) (b35 : Nat) (b36 : Nat) (b37 : Nat) (b38 : Nat) (b39 : Nat) (b40 : Nat) (b41 : Nat) (b42 : Int32) (b43 : Nat) (b44 : Nat) (b45 : Int32) (b46 : Nat) (b47 : Nat) (b48 : Nat) (b49 : Nat) (b50 : Nat) (b51 : Int32) (b52 : Nat) (b53 : Nat) (b54 : Nat) (b55 : Nat → Int32) (hb6 : zI b6 0 8) (hb8 : zI b8 0 240) (hb9 : zI b9 0 240) (hb11 : zI b11 0 1) (hb15 : zI b15 0 12) (hb28 : zI b28 0 1) (hb31 : zI b31 0 1) (hb55 : zW5 b55) : zM l G y_Model_many prog_14_method_4_code 1 (Option.some Jvm.ClassFile.FieldType.int) m_s1_Model_many [.ref b0] [(b0, .inr (12, [.int b1, .ref b2, .ref b3, .ref b4, .ref b5, .int b6, .ref b7, .int b8, .int b9, .int b10, .int b11, .ref b12, .ref b13, .ref b14, .int b15, .ref b16, .ref b17, .ref b18, .ref b19, .ref b20, .ref b21, .ref b22, .ref b23, .ref b24, .ref b25, .ref b26, .ref b27, .int b28, .ref b29, .ref b30, .int b31, .int b32, .int b33, .int b34, .ref b35, .ref b36, .ref b37, .ref b38, .ref b39, .ref b40, .ref b41, .int b42, .ref b43, .ref b44, .int b45, .ref b46, .ref b47, .ref b48, .ref b49, .ref b50, .int b51, .ref b52, .ref b53, .ref b54])), (b2, .inl (G.2 0, 503, .inl b55))] (fun v w => ∃ (e0 : Int32), v = some (.int e0) ∧ w = [(b0, .inr (12, [.int b1, .ref b2, .ref b3, .ref b4, .ref b5, .int b6, .ref b7, .int b8, .int b9, .int b10, .int b11, .ref b12, .ref b13, .ref b14, .int b15, .ref b16, .ref b17, .ref b18, .ref b19, .ref b20, .ref b21, .ref b22, .ref b23, .ref b24, .ref b25, .ref b26, .ref b27, .int b28, .ref b29, .ref b30, .int b31, .int b32, .int b33, .int b34, .ref b35, .ref b36, .ref b37, .ref b38, .ref b39, .ref b40, .ref b41, .int b42, .ref b43, .ref b44, .int b45, .ref b46, .ref b47, .ref b48, .ref b49, .ref b50, .int b51, .ref b52, .ref b53, .ref b54])), (b2, .inl (G.2 0, 503, .inl b55))] ∧ (zI e0 0 20)) := by
  refine z_start (by decide +kernel) (Nat.le_of_ble_eq_true rfl) ?_
  intro p e s m below meth c A Z hr hnm hA hP hD hS ls hl
  have Z : zC p s m _ meth c prog_14_method_4_code 1 "TraceMachinesModel" G := Z
  obtain ⟨hx, hb, hml, hown, hts, hK, hN, hlocks⟩ := id Z
  have hl : lv_has ls 1 [(0, .ref b0)] := hl
  refine lv_aload_n hx hb d_Model_many_0 rfl (lv_at hl 0 rfl) ?_
  refine va_get (D := G.1) (ci := 12) (v := .ref b2) (C := R_Model) (T := F_Model) (N := 54) hx hb hts i_Model hown hK hP 0 rfl rfl 1 (by decide) (hts _ q1110) (fun _ h9 => h9) rfl d_Model_many_1 ?_
  refine lv_iconst (v := 0) hx hb d_Model_many_4 (by decide) ?_
  refine va_iald hx hb hK hP 1 0 rfl rfl (i := 0) (z_in rfl) d_Model_many_5 ?_
  refine lv_topi (fun v_1 ev_1 => ?_)
  have hv_1 : zI v_1 0 20 := zW5.ld hb55 zc_0 ev_1 (by decide)
  exact z_iret hx hb hr hlocks hP hD hS (Nat.le_of_ble_eq_true rfl) (Nat.le_of_ble_eq_true rfl) d_Model_many_6 ⟨v_1, rfl, rfl, hv_1⟩
theorem d_Model_calls_0 : decode prog_14_method_6_code 0 = .ok (.aload_n 0, 1) := by decide +kernel
theorem d_Model_calls_1 : decode prog_14_method_6_code 1 = .ok (.getfield 13, 3) := by decide +kernel
theorem d_Model_calls_4 : decode prog_14_method_6_code 4 = .ok (.iconst 1, 1) := by decide +kernel
theorem d_Model_calls_5 : decode prog_14_method_6_code 5 = .ok (.iload_n 1, 1) := by decide +kernel
theorem d_Model_calls_6 : decode prog_14_method_6_code 6 = .ok (.iadd, 1) := by decide +kernel
theorem d_Model_calls_7 : decode prog_14_method_6_code 7 = .ok (.iaload, 1) := by decide +kernel
theorem d_Model_calls_8 : decode prog_14_method_6_code 8 = .ok (.ireturn, 1) := by decide +kernel
abbrev m_s1_Model_calls : Room := { frames := 0, cells := 0, slots := 0, locals := 0 }
set_option maxHeartbeats 4000000 in
set_option maxRecDepth 100000 in
theorem s1_Model_calls (l : Launch) (G : zG) (b0 : Nat) (b1 : Int32) (b2 : Int32) (b3 : Nat) (b4 : Nat) (b5 : Nat) (b6 : Nat) (b7 : Int32) (b8 : Nat) (b9 : Int32) (b10 : Int32) (b11 : Int32) (b12 : Int32) (b13 : Nat) (b14 : Nat) (b15 : Nat) (b16 : Int32) (b17 : Nat) (b18 : Nat) (b19 : Nat) (b20 : Nat) (b21 : Nat) (b22 : Nat) (b23 : Nat) (b24 : Nat) (b25 : Nat) (b26 : Nat) (b27 : Nat) (b28 : Nat) (b29 : Int32) (b30 : Nat) (b31 : Nat) (b32 : Int32) (b33 : Int32) (b34 : Int32) (b35 : Int32) (b36 : Nat) (b37 : Nat) (b38 : Nat) (b39 : Nat) (b40 : Nat) (b41 : Nat) (b42 : Nat) (b43 : Int32) (b44 : Nat) (b45 : Nat) (b46 : Int32) (b47 : Nat) (b48 : Nat) (b49 : Nat) (b50 : Nat) (b51 : Nat) (b52 : Int32) (b53 : Nat) (b54 : Nat) (b55 : Nat) (b56 : Nat → Int32) (hb1 : zI b1 0 19) (hb7 : zI b7 0 8) (hb9 : zI b9 0 240) (hb10 : zI b10 0 240) (hb12 : zI b12 0 1) (hb16 : zI b16 0 12) (hb29 : zI b29 0 1) (hb32 : zI b32 0 1) (hb56 : zW5 b56) : zM l G y_Model_calls prog_14_method_6_code 2 (Option.some Jvm.ClassFile.FieldType.int) m_s1_Model_calls [.ref b0, .int b1] [(b0, .inr (12, [.int b2, .ref b3, .ref b4, .ref b5, .ref b6, .int b7, .ref b8, .int b9, .int b10, .int b11, .int b12, .ref b13, .ref b14, .ref b15, .int b16, .ref b17, .ref b18, .ref b19, .ref b20, .ref b21, .ref b22, .ref b23, .ref b24, .ref b25, .ref b26, .ref b27, .ref b28, .int b29, .ref b30, .ref b31, .int b32, .int b33, .int b34, .int b35, .ref b36, .ref b37, .ref b38, .ref b39, .ref b40, .ref b41, .ref b42, .int b43, .ref b44, .ref b45, .int b46, .ref b47, .ref b48, .ref b49, .ref b50, .ref b51, .int b52, .ref b53, .ref b54, .ref b55])), (b3, .inl (G.2 0, 503, .inl b56))] (fun v w => ∃ (e0 : Int32), v = some (.int e0) ∧ w = [(b0, .inr (12, [.int b2, .ref b3, .ref b4, .ref b5, .ref b6, .int b7, .ref b8, .int b9, .int b10, .int b11, .int b12, .ref b13, .ref b14, .ref b15, .int b16, .ref b17, .ref b18, .ref b19, .ref b20, .ref b21, .ref b22, .ref b23, .ref b24, .ref b25, .ref b26, .ref b27, .ref b28, .int b29, .ref b30, .ref b31, .int b32, .int b33, .int b34, .int b35, .ref b36, .ref b37, .ref b38, .ref b39, .ref b40, .ref b41, .ref b42, .int b43, .ref b44, .ref b45, .int b46, .ref b47, .ref b48, .ref b49, .ref b50, .ref b51, .int b52, .ref b53, .ref b54, .ref b55])), (b3, .inl (G.2 0, 503, .inl b56))] ∧ (zI e0 0 12)) := by
  refine z_start (by decide +kernel) (Nat.le_of_ble_eq_true rfl) ?_
  intro p e s m below meth c A Z hr hnm hA hP hD hS ls hl
  have Z : zC p s m _ meth c prog_14_method_6_code 2 "TraceMachinesModel" G := Z
  obtain ⟨hx, hb, hml, hown, hts, hK, hN, hlocks⟩ := id Z
  have hl : lv_has ls 2 [(0, .ref b0), (1, .int b1)] := hl
  refine lv_aload_n hx hb d_Model_calls_0 rfl (lv_at hl 0 rfl) ?_
  refine va_get (D := G.1) (ci := 12) (v := .ref b3) (C := R_Model) (T := F_Model) (N := 54) hx hb hts i_Model hown hK hP 0 rfl rfl 1 (by decide) (hts _ q1110) (fun _ h9 => h9) rfl d_Model_calls_1 ?_
  refine lv_iconst (v := 1) hx hb d_Model_calls_4 (by decide) ?_
  refine lv_iload_n hx hb d_Model_calls_5 rfl (lv_at hl 1 rfl) ?_
  refine lv_iadd hx hb d_Model_calls_6 ?_
  refine lv_topi (fun v_1 ev_1 => ?_)
  obtain ⟨qv_1, hv_1⟩ := zI_add (l := 1) (h := 20) zc_1 hb1 ev_1 (by decide)
  rw [li_1] at qv_1
  refine va_iald hx hb hK hP 1 0 rfl rfl (zI.inn hv_1 (by decide)) d_Model_calls_7 ?_
  refine lv_topi (fun v_2 ev_2 => ?_)
  have hv_2 : zI v_2 0 12 := zW5.ld hb56 hv_1 ev_2 (by decide)
  exact z_iret hx hb hr hlocks hP hD hS (Nat.le_of_ble_eq_true rfl) (Nat.le_of_ble_eq_true rfl) d_Model_calls_8 ⟨v_2, rfl, rfl, hv_2⟩
theorem d_Model_letterAt_0 : decode prog_14_method_7_code 0 = .ok (.aload_n 0, 1) := by decide +kernel
theorem d_Model_letterAt_1 : decode prog_14_method_7_code 1 = .ok (.getfield 13, 3) := by decide +kernel
theorem d_Model_letterAt_4 : decode prog_14_method_7_code 4 = .ok (.bipush 21, 2) := by decide +kernel
theorem d_Model_letterAt_6 : decode prog_14_method_7_code 6 = .ok (.bipush 12, 2) := by decide +kernel
theorem d_Model_letterAt_8 : decode prog_14_method_7_code 8 = .ok (.iload_n 1, 1) := by decide +kernel
theorem d_Model_letterAt_9 : decode prog_14_method_7_code 9 = .ok (.imul, 1) := by decide +kernel
theorem d_Model_letterAt_10 : decode prog_14_method_7_code 10 = .ok (.iadd, 1) := by decide +kernel
theorem d_Model_letterAt_11 : decode prog_14_method_7_code 11 = .ok (.iload_n 2, 1) := by decide +kernel
theorem d_Model_letterAt_12 : decode prog_14_method_7_code 12 = .ok (.iadd, 1) := by decide +kernel
theorem d_Model_letterAt_13 : decode prog_14_method_7_code 13 = .ok (.iaload, 1) := by decide +kernel
theorem d_Model_letterAt_14 : decode prog_14_method_7_code 14 = .ok (.ireturn, 1) := by decide +kernel
abbrev m_s1_Model_letterAt : Room := { frames := 0, cells := 0, slots := 0, locals := 0 }
set_option maxHeartbeats 4000000 in
set_option maxRecDepth 100000 in
theorem s1_Model_letterAt (l : Launch) (G : zG) (b0 : Nat) (b1 : Int32) (b2 : Int32) (b3 : Int32) (b4 : Nat) (b5 : Nat) (b6 : Nat) (b7 : Nat) (b8 : Int32) (b9 : Nat) (b10 : Int32) (b11 : Int32) (b12 : Int32) (b13 : Int32) (b14 : Nat) (b15 : Nat) (b16 : Nat) (b17 : Int32) (b18 : Nat) (b19 : Nat) (b20 : Nat) (b21 : Nat) (b22 : Nat) (b23 : Nat) (b24 : Nat) (b25 : Nat) (b26 : Nat) (b27 : Nat) (b28 : Nat) (b29 : Nat) (b30 : Int32) (b31 : Nat) (b32 : Nat) (b33 : Int32) (b34 : Int32) (b35 : Int32) (b36 : Int32) (b37 : Nat) (b38 : Nat) (b39 : Nat) (b40 : Nat) (b41 : Nat) (b42 : Nat) (b43 : Nat) (b44 : Int32) (b45 : Nat) (b46 : Nat) (b47 : Int32) (b48 : Nat) (b49 : Nat) (b50 : Nat) (b51 : Nat) (b52 : Nat) (b53 : Int32) (b54 : Nat) (b55 : Nat) (b56 : Nat) (b57 : Nat → Int32) (hb1 : zI b1 0 19) (hb2 : zI b2 0 11) (hb8 : zI b8 0 8) (hb10 : zI b10 0 240) (hb11 : zI b11 0 240) (hb13 : zI b13 0 1) (hb17 : zI b17 0 12) (hb30 : zI b30 0 1) (hb33 : zI b33 0 1) (hb57 : zW5 b57) : zM l G y_Model_letterAt prog_14_method_7_code 3 (Option.some Jvm.ClassFile.FieldType.int) m_s1_Model_letterAt [.ref b0, .int b1, .int b2] [(b0, .inr (12, [.int b3, .ref b4, .ref b5, .ref b6, .ref b7, .int b8, .ref b9, .int b10, .int b11, .int b12, .int b13, .ref b14, .ref b15, .ref b16, .int b17, .ref b18, .ref b19, .ref b20, .ref b21, .ref b22, .ref b23, .ref b24, .ref b25, .ref b26, .ref b27, .ref b28, .ref b29, .int b30, .ref b31, .ref b32, .int b33, .int b34, .int b35, .int b36, .ref b37, .ref b38, .ref b39, .ref b40, .ref b41, .ref b42, .ref b43, .int b44, .ref b45, .ref b46, .int b47, .ref b48, .ref b49, .ref b50, .ref b51, .ref b52, .int b53, .ref b54, .ref b55, .ref b56])), (b4, .inl (G.2 0, 503, .inl b57))] (fun v w => ∃ (e0 : Int32), v = some (.int e0) ∧ w = [(b0, .inr (12, [.int b3, .ref b4, .ref b5, .ref b6, .ref b7, .int b8, .ref b9, .int b10, .int b11, .int b12, .int b13, .ref b14, .ref b15, .ref b16, .int b17, .ref b18, .ref b19, .ref b20, .ref b21, .ref b22, .ref b23, .ref b24, .ref b25, .ref b26, .ref b27, .ref b28, .ref b29, .int b30, .ref b31, .ref b32, .int b33, .int b34, .int b35, .int b36, .ref b37, .ref b38, .ref b39, .ref b40, .ref b41, .ref b42, .ref b43, .int b44, .ref b45, .ref b46, .int b47, .ref b48, .ref b49, .ref b50, .ref b51, .ref b52, .int b53, .ref b54, .ref b55, .ref b56])), (b4, .inl (G.2 0, 503, .inl b57))] ∧ (zI e0 0 9)) := by
  refine z_start (by decide +kernel) (Nat.le_of_ble_eq_true rfl) ?_
  intro p e s m below meth c A Z hr hnm hA hP hD hS ls hl
  have Z : zC p s m _ meth c prog_14_method_7_code 3 "TraceMachinesModel" G := Z
  obtain ⟨hx, hb, hml, hown, hts, hK, hN, hlocks⟩ := id Z
  have hl : lv_has ls 3 [(0, .ref b0), (1, .int b1), (2, .int b2)] := hl
  refine lv_aload_n hx hb d_Model_letterAt_0 rfl (lv_at hl 0 rfl) ?_
  refine va_get (D := G.1) (ci := 12) (v := .ref b4) (C := R_Model) (T := F_Model) (N := 54) hx hb hts i_Model hown hK hP 0 rfl rfl 1 (by decide) (hts _ q1110) (fun _ h9 => h9) rfl d_Model_letterAt_1 ?_
  refine lv_bipush (v := 21) hx hb d_Model_letterAt_4 (by decide) ?_
  refine lv_bipush (v := 12) hx hb d_Model_letterAt_6 (by decide) ?_
  refine lv_iload_n hx hb d_Model_letterAt_8 rfl (lv_at hl 1 rfl) ?_
  refine lv_imul hx hb d_Model_letterAt_9 ?_
  refine lv_topi (fun v_1 ev_1 => ?_)
  obtain ⟨qv_1, hv_1⟩ := zI_mul (l := 0) (h := 228) zc_12 hb1 ev_1 (by decide)
  rw [li_12] at qv_1
  refine lv_iadd hx hb d_Model_letterAt_10 ?_
  refine lv_topi (fun v_2 ev_2 => ?_)
  obtain ⟨qv_2, hv_2⟩ := zI_add (l := 21) (h := 249) zc_21 hv_1 ev_2 (by decide)
  rw [li_21] at qv_2
  refine lv_iload_n hx hb d_Model_letterAt_11 rfl (lv_at hl 2 rfl) ?_
  refine lv_iadd hx hb d_Model_letterAt_12 ?_
  refine lv_topi (fun v_3 ev_3 => ?_)
  obtain ⟨qv_3, hv_3⟩ := zI_add (l := 21) (h := 260) hv_2 hb2 ev_3 (by decide)
  refine va_iald hx hb hK hP 1 0 rfl rfl (zI.inn hv_3 (by decide)) d_Model_letterAt_13 ?_
  refine lv_topi (fun v_4 ev_4 => ?_)
  have hv_4 : zI v_4 0 9 := zW5.ld hb57 hv_3 ev_4 (by decide)
  exact z_iret hx hb hr hlocks hP hD hS (Nat.le_of_ble_eq_true rfl) (Nat.le_of_ble_eq_true rfl) d_Model_letterAt_14 ⟨v_4, rfl, rfl, hv_4⟩
theorem d_Model_valueAt_0 : decode prog_14_method_8_code 0 = .ok (.aload_n 0, 1) := by decide +kernel
theorem d_Model_valueAt_1 : decode prog_14_method_8_code 1 = .ok (.getfield 13, 3) := by decide +kernel
theorem d_Model_valueAt_4 : decode prog_14_method_8_code 4 = .ok (.sipush 261, 3) := by decide +kernel
theorem d_Model_valueAt_7 : decode prog_14_method_8_code 7 = .ok (.bipush 12, 2) := by decide +kernel
theorem d_Model_valueAt_9 : decode prog_14_method_8_code 9 = .ok (.iload_n 1, 1) := by decide +kernel
theorem d_Model_valueAt_10 : decode prog_14_method_8_code 10 = .ok (.imul, 1) := by decide +kernel
theorem d_Model_valueAt_11 : decode prog_14_method_8_code 11 = .ok (.iadd, 1) := by decide +kernel
theorem d_Model_valueAt_12 : decode prog_14_method_8_code 12 = .ok (.iload_n 2, 1) := by decide +kernel
theorem d_Model_valueAt_13 : decode prog_14_method_8_code 13 = .ok (.iadd, 1) := by decide +kernel
theorem d_Model_valueAt_14 : decode prog_14_method_8_code 14 = .ok (.iaload, 1) := by decide +kernel
theorem d_Model_valueAt_15 : decode prog_14_method_8_code 15 = .ok (.ireturn, 1) := by decide +kernel
theorem zc_261 : zI 261 261 261 := ⟨by decide +kernel, by decide +kernel⟩
theorem li_261 : (261 : Int32).toInt = 261 := by decide +kernel
abbrev m_s1_Model_valueAt : Room := { frames := 0, cells := 0, slots := 0, locals := 0 }
set_option maxHeartbeats 4000000 in
set_option maxRecDepth 100000 in
theorem s1_Model_valueAt (l : Launch) (G : zG) (b0 : Nat) (b1 : Int32) (b2 : Int32) (b3 : Int32) (b4 : Nat) (b5 : Nat) (b6 : Nat) (b7 : Nat) (b8 : Int32) (b9 : Nat) (b10 : Int32) (b11 : Int32) (b12 : Int32) (b13 : Int32) (b14 : Nat) (b15 : Nat) (b16 : Nat) (b17 : Int32) (b18 : Nat) (b19 : Nat) (b20 : Nat) (b21 : Nat) (b22 : Nat) (b23 : Nat) (b24 : Nat) (b25 : Nat) (b26 : Nat) (b27 : Nat) (b28 : Nat) (b29 : Nat) (b30 : Int32) (b31 : Nat) (b32 : Nat) (b33 : Int32) (b34 : Int32) (b35 : Int32) (b36 : Int32) (b37 : Nat) (b38 : Nat) (b39 : Nat) (b40 : Nat) (b41 : Nat) (b42 : Nat) (b43 : Nat) (b44 : Int32) (b45 : Nat) (b46 : Nat) (b47 : Int32) (b48 : Nat) (b49 : Nat) (b50 : Nat) (b51 : Nat) (b52 : Nat) (b53 : Int32) (b54 : Nat) (b55 : Nat) (b56 : Nat) (b57 : Nat → Int32) (hb1 : zI b1 0 19) (hb2 : zI b2 0 11) (hb8 : zI b8 0 8) (hb10 : zI b10 0 240) (hb11 : zI b11 0 240) (hb13 : zI b13 0 1) (hb17 : zI b17 0 12) (hb30 : zI b30 0 1) (hb33 : zI b33 0 1) (hb57 : zW5 b57) : zM l G y_Model_valueAt prog_14_method_8_code 3 (Option.some Jvm.ClassFile.FieldType.int) m_s1_Model_valueAt [.ref b0, .int b1, .int b2] [(b0, .inr (12, [.int b3, .ref b4, .ref b5, .ref b6, .ref b7, .int b8, .ref b9, .int b10, .int b11, .int b12, .int b13, .ref b14, .ref b15, .ref b16, .int b17, .ref b18, .ref b19, .ref b20, .ref b21, .ref b22, .ref b23, .ref b24, .ref b25, .ref b26, .ref b27, .ref b28, .ref b29, .int b30, .ref b31, .ref b32, .int b33, .int b34, .int b35, .int b36, .ref b37, .ref b38, .ref b39, .ref b40, .ref b41, .ref b42, .ref b43, .int b44, .ref b45, .ref b46, .int b47, .ref b48, .ref b49, .ref b50, .ref b51, .ref b52, .int b53, .ref b54, .ref b55, .ref b56])), (b4, .inl (G.2 0, 503, .inl b57))] (fun v w => ∃ (e0 : Int32), v = some (.int e0) ∧ w = [(b0, .inr (12, [.int b3, .ref b4, .ref b5, .ref b6, .ref b7, .int b8, .ref b9, .int b10, .int b11, .int b12, .int b13, .ref b14, .ref b15, .ref b16, .int b17, .ref b18, .ref b19, .ref b20, .ref b21, .ref b22, .ref b23, .ref b24, .ref b25, .ref b26, .ref b27, .ref b28, .ref b29, .int b30, .ref b31, .ref b32, .int b33, .int b34, .int b35, .int b36, .ref b37, .ref b38, .ref b39, .ref b40, .ref b41, .ref b42, .ref b43, .int b44, .ref b45, .ref b46, .int b47, .ref b48, .ref b49, .ref b50, .ref b51, .ref b52, .int b53, .ref b54, .ref b55, .ref b56])), (b4, .inl (G.2 0, 503, .inl b57))]) := by
  refine z_start (by decide +kernel) (Nat.le_of_ble_eq_true rfl) ?_
  intro p e s m below meth c A Z hr hnm hA hP hD hS ls hl
  have Z : zC p s m _ meth c prog_14_method_8_code 3 "TraceMachinesModel" G := Z
  obtain ⟨hx, hb, hml, hown, hts, hK, hN, hlocks⟩ := id Z
  have hl : lv_has ls 3 [(0, .ref b0), (1, .int b1), (2, .int b2)] := hl
  refine lv_aload_n hx hb d_Model_valueAt_0 rfl (lv_at hl 0 rfl) ?_
  refine va_get (D := G.1) (ci := 12) (v := .ref b4) (C := R_Model) (T := F_Model) (N := 54) hx hb hts i_Model hown hK hP 0 rfl rfl 1 (by decide) (hts _ q1110) (fun _ h9 => h9) rfl d_Model_valueAt_1 ?_
  refine lv_sipush (v := 261) hx hb d_Model_valueAt_4 (by decide) ?_
  refine lv_bipush (v := 12) hx hb d_Model_valueAt_7 (by decide) ?_
  refine lv_iload_n hx hb d_Model_valueAt_9 rfl (lv_at hl 1 rfl) ?_
  refine lv_imul hx hb d_Model_valueAt_10 ?_
  refine lv_topi (fun v_1 ev_1 => ?_)
  obtain ⟨qv_1, hv_1⟩ := zI_mul (l := 0) (h := 228) zc_12 hb1 ev_1 (by decide)
  rw [li_12] at qv_1
  refine lv_iadd hx hb d_Model_valueAt_11 ?_
  refine lv_topi (fun v_2 ev_2 => ?_)
  obtain ⟨qv_2, hv_2⟩ := zI_add (l := 261) (h := 489) zc_261 hv_1 ev_2 (by decide)
  rw [li_261] at qv_2
  refine lv_iload_n hx hb d_Model_valueAt_12 rfl (lv_at hl 2 rfl) ?_
  refine lv_iadd hx hb d_Model_valueAt_13 ?_
  refine lv_topi (fun v_3 ev_3 => ?_)
  obtain ⟨qv_3, hv_3⟩ := zI_add (l := 261) (h := 500) hv_2 hb2 ev_3 (by decide)
  refine va_iald hx hb hK hP 1 0 rfl rfl (zI.inn hv_3 (by decide)) d_Model_valueAt_14 ?_
  refine lv_topi (fun v_4 ev_4 => ?_)
  exact z_iret hx hb hr hlocks hP hD hS (Nat.le_of_ble_eq_true rfl) (Nat.le_of_ble_eq_true rfl) d_Model_valueAt_15 ⟨v_4, rfl, rfl⟩
theorem d_Model_callsOfAll_0 : decode prog_14_method_94_code 0 = .ok (.iconst 0, 1) := by decide +kernel
theorem d_Model_callsOfAll_1 : decode prog_14_method_94_code 1 = .ok (.istore_n 1, 1) := by decide +kernel
theorem d_Model_callsOfAll_2 : decode prog_14_method_94_code 2 = .ok (.iconst 0, 1) := by decide +kernel
theorem d_Model_callsOfAll_3 : decode prog_14_method_94_code 3 = .ok (.istore_n 2, 1) := by decide +kernel
theorem d_Model_callsOfAll_4 : decode prog_14_method_94_code 4 = .ok (.iload_n 2, 1) := by decide +kernel
theorem d_Model_callsOfAll_5 : decode prog_14_method_94_code 5 = .ok (.aload_n 0, 1) := by decide +kernel
theorem d_Model_callsOfAll_6 : decode prog_14_method_94_code 6 = .ok (.invokevirtual 134, 3) := by decide +kernel
theorem d_Model_callsOfAll_9 : decode prog_14_method_94_code 9 = .ok (.if_icmp .ge 17, 3) := by decide +kernel
theorem d_Model_callsOfAll_12 : decode prog_14_method_94_code 12 = .ok (.iload_n 1, 1) := by decide +kernel
theorem d_Model_callsOfAll_13 : decode prog_14_method_94_code 13 = .ok (.aload_n 0, 1) := by decide +kernel
theorem d_Model_callsOfAll_14 : decode prog_14_method_94_code 14 = .ok (.iload_n 2, 1) := by decide +kernel
theorem d_Model_callsOfAll_15 : decode prog_14_method_94_code 15 = .ok (.invokevirtual 203, 3) := by decide +kernel
theorem d_Model_callsOfAll_18 : decode prog_14_method_94_code 18 = .ok (.iadd, 1) := by decide +kernel
theorem d_Model_callsOfAll_19 : decode prog_14_method_94_code 19 = .ok (.istore_n 1, 1) := by decide +kernel
theorem d_Model_callsOfAll_20 : decode prog_14_method_94_code 20 = .ok (.iinc 2 1, 3) := by decide +kernel
theorem d_Model_callsOfAll_23 : decode prog_14_method_94_code 23 = .ok (.goto (-19), 3) := by decide +kernel
theorem d_Model_callsOfAll_26 : decode prog_14_method_94_code 26 = .ok (.iload_n 1, 1) := by decide +kernel
theorem d_Model_callsOfAll_27 : decode prog_14_method_94_code 27 = .ok (.ireturn, 1) := by decide +kernel
abbrev m_s1_Model_callsOfAll : Room := { frames := 1, cells := 0, slots := 0, locals := 21 }
set_option maxHeartbeats 4000000 in
set_option maxRecDepth 100000 in
theorem s1_Model_callsOfAll (l : Launch) (G : zG) (b0 : Nat) (b1 : Int32) (b2 : Nat) (b3 : Nat) (b4 : Nat) (b5 : Nat) (b6 : Int32) (b7 : Nat) (b8 : Int32) (b9 : Int32) (b10 : Int32) (b11 : Int32) (b12 : Nat) (b13 : Nat) (b14 : Nat) (b15 : Int32) (b16 : Nat) (b17 : Nat) (b18 : Nat) (b19 : Nat) (b20 : Nat) (b21 : Nat) (b22 : Nat) (b23 : Nat) (b24 : Nat) (b25 : Nat) (b26 : Nat) (b27 : Nat) (b28 : Int32) (b29 : Nat) (b30 : Nat) (b31 : Int32) (b32 : Int32) (b33 : Int32) (b34 : Int32) (b35 : Nat) (b36 : Nat) (b37 : Nat) (b38 : Nat) (b39 : Nat) (b40 : Nat) (b41 : Nat) (b42 : Int32) (b43 : Nat) (b44 : Nat) (b45 : Int32) (b46 : Nat) (b47 : Nat) (b48 : Nat) (b49 : Nat) (b50 : Nat) (b51 : Int32) (b52 : Nat) (b53 : Nat) (b54 : Nat) (b55 : Nat → Int32) (hb6 : zI b6 0 8) (hb8 : zI b8 0 240) (hb9 : zI b9 0 240) (hb11 : zI b11 0 1) (hb15 : zI b15 0 12) (hb28 : zI b28 0 1) (hb31 : zI b31 0 1) (hb55 : zW5 b55) : zM l G y_Model_callsOfAll prog_14_method_94_code 3 (Option.some Jvm.ClassFile.FieldType.int) m_s1_Model_callsOfAll [.ref b0] [(b0, .inr (12, [.int b1, .ref b2, .ref b3, .ref b4, .ref b5, .int b6, .ref b7, .int b8, .int b9, .int b10, .int b11, .ref b12, .ref b13, .ref b14, .int b15, .ref b16, .ref b17, .ref b18, .ref b19, .ref b20, .ref b21, .ref b22, .ref b23, .ref b24, .ref b25, .ref b26, .ref b27, .int b28, .ref b29, .ref b30, .int b31, .int b32, .int b33, .int b34, .ref b35, .ref b36, .ref b37, .ref b38, .ref b39, .ref b40, .ref b41, .int b42, .ref b43, .ref b44, .int b45, .ref b46, .ref b47, .ref b48, .ref b49, .ref b50, .int b51, .ref b52, .ref b53, .ref b54])), (b2, .inl (G.2 0, 503, .inl b55))] (fun v w => ∃ (e0 : Int32), v = some (.int e0) ∧ w = [(b0, .inr (12, [.int b1, .ref b2, .ref b3, .ref b4, .ref b5, .int b6, .ref b7, .int b8, .int b9, .int b10, .int b11, .ref b12, .ref b13, .ref b14, .int b15, .ref b16, .ref b17, .ref b18, .ref b19, .ref b20, .ref b21, .ref b22, .ref b23, .ref b24, .ref b25, .ref b26, .ref b27, .int b28, .ref b29, .ref b30, .int b31, .int b32, .int b33, .int b34, .ref b35, .ref b36, .ref b37, .ref b38, .ref b39, .ref b40, .ref b41, .int b42, .ref b43, .ref b44, .int b45, .ref b46, .ref b47, .ref b48, .ref b49, .ref b50, .int b51, .ref b52, .ref b53, .ref b54])), (b2, .inl (G.2 0, 503, .inl b55))]) := by
  refine z_start (by decide +kernel) (Nat.le_of_ble_eq_true rfl) ?_
  intro p e s m below meth c A Z hr hnm hA hP hD hS ls hl
  have Z : zC p s m _ meth c prog_14_method_94_code 3 "TraceMachinesModel" G := Z
  obtain ⟨hx, hb, hml, hown, hts, hK, hN, hlocks⟩ := id Z
  have hl : lv_has ls 3 [(0, .ref b0)] := hl
  refine lv_iconst (v := 0) hx hb d_Model_callsOfAll_0 (by decide) ?_
  refine lv_istore_n (lv' := [(1, .int 0), (0, .ref b0)]) hx hb d_Model_callsOfAll_1 rfl hl (by decide) rfl (fun ls hl => ?_)
  refine lv_iconst (v := 0) hx hb d_Model_callsOfAll_2 (by decide) ?_
  refine lv_istore_n (lv' := [(2, .int 0), (1, .int 0), (0, .ref b0)]) hx hb d_Model_callsOfAll_3 rfl hl (by decide) rfl (fun ls hl => ?_)
  suffices key : ∀ (k_180 : Nat) (y_181 : Int32) (y_182 : Int32) (H : Heap) (locs : List Loc) (ls : Array Slot), (zI y_181 0 20) → (20 : Int) - y_181.toInt < (k_180 : Int) → va_P G.1 classes [(b0, .inr (12, [.int b1, .ref b2, .ref b3, .ref b4, .ref b5, .int b6, .ref b7, .int b8, .int b9, .int b10, .int b11, .ref b12, .ref b13, .ref b14, .int b15, .ref b16, .ref b17, .ref b18, .ref b19, .ref b20, .ref b21, .ref b22, .ref b23, .ref b24, .ref b25, .ref b26, .ref b27, .int b28, .ref b29, .ref b30, .int b31, .int b32, .int b33, .int b34, .ref b35, .ref b36, .ref b37, .ref b38, .ref b39, .ref b40, .ref b41, .int b42, .ref b43, .ref b44, .int b45, .ref b46, .ref b47, .ref b48, .ref b49, .ref b50, .int b51, .ref b52, .ref b53, .ref b54])), (b2, .inl (G.2 0, 503, .inl b55))] H → va_D A [(b0, .inr (12, [.int b1, .ref b2, .ref b3, .ref b4, .ref b5, .int b6, .ref b7, .int b8, .int b9, .int b10, .int b11, .ref b12, .ref b13, .ref b14, .int b15, .ref b16, .ref b17, .ref b18, .ref b19, .ref b20, .ref b21, .ref b22, .ref b23, .ref b24, .ref b25, .ref b26, .ref b27, .int b28, .ref b29, .ref b30, .int b31, .int b32, .int b33, .int b34, .ref b35, .ref b36, .ref b37, .ref b38, .ref b39, .ref b40, .ref b41, .int b42, .ref b43, .ref b44, .int b45, .ref b46, .ref b47, .ref b48, .ref b49, .ref b50, .int b51, .ref b52, .ref b53, .ref b54])), (b2, .inl (G.2 0, 503, .inl b55))] → va_S A s.heap H locs → lv_has ls 3 [(2, .int y_181), (1, .int y_182), (0, .ref b0)] → W p l e m_s1_Model_callsOfAll s m ([.ref b0] : List Value).toArray below meth c H locs 0 0 (MQ below (zQ G (fun v w => ∃ (e0 : Int32), v = some (.int e0) ∧ w = [(b0, .inr (12, [.int b1, .ref b2, .ref b3, .ref b4, .ref b5, .int b6, .ref b7, .int b8, .int b9, .int b10, .int b11, .ref b12, .ref b13, .ref b14, .int b15, .ref b16, .ref b17, .ref b18, .ref b19, .ref b20, .ref b21, .ref b22, .ref b23, .ref b24, .ref b25, .ref b26, .ref b27, .int b28, .ref b29, .ref b30, .int b31, .int b32, .int b33, .int b34, .ref b35, .ref b36, .ref b37, .ref b38, .ref b39, .ref b40, .ref b41, .int b42, .ref b43, .ref b44, .int b45, .ref b46, .ref b47, .ref b48, .ref b49, .ref b50, .int b51, .ref b52, .ref b53, .ref b54])), (b2, .inl (G.2 0, 503, .inl b55))]) A) ([.ref b0] : List Value).toArray s m_s1_Model_callsOfAll.cells m_s1_Model_callsOfAll.slots A) (F0 m 4 ls []) by
    exact key 21 (0) (0) _ _ _ (zI.wk (l' := 0) (h' := 20) zc_0 (by decide)) (zm_upi (zI.wk (l' := 0) (h' := 20) zc_0 (by decide)) (by decide)) hP hD hS (lv_sub hl [0, 1, 2] rfl)
  intro k_180
  induction k_180 with
  | zero =>
    intro y_181 y_182 H locs ls hy_181 hmk_180 hP hD hS hl
    exact (zm_up0 hy_181 hmk_180).elim
  | succ k_180 ihk_180 =>
    intro y_181 y_182 H locs ls hy_181 hmk_180 hP hD hS hl
    refine lv_iload_n hx hb d_Model_callsOfAll_4 rfl (lv_at hl 0 rfl) ?_
    refine lv_aload_n hx hb d_Model_callsOfAll_5 rfl (lv_at hl 2 rfl) ?_
    refine z_callV (index := 134) (As := []) (rest := [.int y_181]) (wr := []) Z (s1_Model_many l G (b0) (b1) (b2) (b3) (b4) (b5) (b6) (b7) (b8) (b9) (b10) (b11) (b12) (b13) (b14) (b15) (b16) (b17) (b18) (b19) (b20) (b21) (b22) (b23) (b24) (b25) (b26) (b27) (b28) (b29) (b30) (b31) (b32) (b33) (b34) (b35) (b36) (b37) (b38) (b39) (b40) (b41) (b42) (b43) (b44) (b45) (b46) (b47) (b48) (b49) (b50) (b51) (b52) (b53) (b54) (b55) hb6 hb8 hb9 hb11 hb15 hb28 hb31 hb55) hl.1 q1320 q1322 qs51 q14 q1323 ⟨by decide, by decide, by show _ = some 0; decide +kernel⟩ ⟨Nat.le_of_ble_eq_true rfl, Nat.le_of_ble_eq_true rfl⟩ ⟨Nat.le_of_ble_eq_true rfl, Nat.le_of_ble_eq_true rfl⟩ rfl (Nat.le_of_ble_eq_true rfl) d_Model_callsOfAll_6 hP hD hS hA 0 12 rfl rfl rfl [0, 1] [] rfl rfl rfl rfl (by decide) (fun v w1 H locs hw_183 hP hD hS => ?_)
    obtain ⟨x_184, rfl, rfl, hx_184⟩ := hw_183
    have hP : va_P G.1 classes [(b0, .inr (12, [.int b1, .ref b2, .ref b3, .ref b4, .ref b5, .int b6, .ref b7, .int b8, .int b9, .int b10, .int b11, .ref b12, .ref b13, .ref b14, .int b15, .ref b16, .ref b17, .ref b18, .ref b19, .ref b20, .ref b21, .ref b22, .ref b23, .ref b24, .ref b25, .ref b26, .ref b27, .int b28, .ref b29, .ref b30, .int b31, .int b32, .int b33, .int b34, .ref b35, .ref b36, .ref b37, .ref b38, .ref b39, .ref b40, .ref b41, .int b42, .ref b43, .ref b44, .int b45, .ref b46, .ref b47, .ref b48, .ref b49, .ref b50, .int b51, .ref b52, .ref b53, .ref b54])), (b2, .inl (G.2 0, 503, .inl b55))] H := hP
    have hD := z_tie hP hD rfl
    refine W.widen (k := 0) (n := 0) (Nat.le_of_ble_eq_true rfl) (Nat.le_of_ble_eq_true rfl) ?_
    refine lv_icmp_ge (tgt := 26) hx hb d_Model_callsOfAll_9 (by decide) (fun hc_185 => ?_) (fun hc_185 => ?_)
    · have _nhc_185 := hc_185
      have ni_186 := (fa_le _ _).mp hc_185
      refine lv_iload_n hx hb d_Model_callsOfAll_26 rfl (lv_at hl 1 rfl) ?_
      exact z_iret hx hb hr hlocks hP hD hS (Nat.le_of_ble_eq_true rfl) (Nat.le_of_ble_eq_true rfl) d_Model_callsOfAll_27 ⟨y_182, rfl, rfl⟩
    · have _nhc_185 := hc_185
      have ni_187 := (fa_lt _ _).mp (zi_nle hc_185)
      have hv_188 : zI y_181 0 19 := zI.lt_l hy_181 hx_184 (zi_nle hc_185) (by decide)
      have hv_189 : zI x_184 1 20 := zI.lt_r hy_181 hx_184 (zi_nle hc_185) (by decide)
      refine lv_iload_n hx hb d_Model_callsOfAll_12 rfl (lv_at hl 1 rfl) ?_
      refine lv_aload_n hx hb d_Model_callsOfAll_13 rfl (lv_at hl 2 rfl) ?_
      refine lv_iload_n hx hb d_Model_callsOfAll_14 rfl (lv_at hl 0 rfl) ?_
      refine z_callV (index := 203) (As := [.int y_181]) (rest := [.int y_182]) (wr := []) Z (s1_Model_calls l G (b0) (y_181) (b1) (b2) (b3) (b4) (b5) (b6) (b7) (b8) (b9) (b10) (b11) (b12) (b13) (b14) (b15) (b16) (b17) (b18) (b19) (b20) (b21) (b22) (b23) (b24) (b25) (b26) (b27) (b28) (b29) (b30) (b31) (b32) (b33) (b34) (b35) (b36) (b37) (b38) (b39) (b40) (b41) (b42) (b43) (b44) (b45) (b46) (b47) (b48) (b49) (b50) (b51) (b52) (b53) (b54) (b55) hv_188 hb6 hb8 hb9 hb11 hb15 hb28 hb31 hb55) hl.1 q1352 q1354 qs54 q14 q1355 ⟨by decide, by decide, by show _ = some 1; decide +kernel⟩ ⟨Nat.le_of_ble_eq_true rfl, Nat.le_of_ble_eq_true rfl⟩ ⟨Nat.le_of_ble_eq_true rfl, Nat.le_of_ble_eq_true rfl⟩ rfl (Nat.le_of_ble_eq_true rfl) d_Model_callsOfAll_15 hP hD hS hA 0 12 rfl rfl rfl [0, 1] [] rfl rfl rfl rfl (by decide) (fun v w1 H locs hw_190 hP hD hS => ?_)
      obtain ⟨x_191, rfl, rfl, hx_191⟩ := hw_190
      have hP : va_P G.1 classes [(b0, .inr (12, [.int b1, .ref b2, .ref b3, .ref b4, .ref b5, .int b6, .ref b7, .int b8, .int b9, .int b10, .int b11, .ref b12, .ref b13, .ref b14, .int b15, .ref b16, .ref b17, .ref b18, .ref b19, .ref b20, .ref b21, .ref b22, .ref b23, .ref b24, .ref b25, .ref b26, .ref b27, .int b28, .ref b29, .ref b30, .int b31, .int b32, .int b33, .int b34, .ref b35, .ref b36, .ref b37, .ref b38, .ref b39, .ref b40, .ref b41, .int b42, .ref b43, .ref b44, .int b45, .ref b46, .ref b47, .ref b48, .ref b49, .ref b50, .int b51, .ref b52, .ref b53, .ref b54])), (b2, .inl (G.2 0, 503, .inl b55))] H := hP
      have hD := z_tie hP hD rfl
      refine W.widen (k := 0) (n := 0) (Nat.le_of_ble_eq_true rfl) (Nat.le_of_ble_eq_true rfl) ?_
      refine lv_iadd hx hb d_Model_callsOfAll_18 ?_
      refine lv_topi (fun v_192 ev_192 => ?_)
      refine lv_istore_n (lv' := [(1, .int v_192), (2, .int y_181), (0, .ref b0)]) hx hb d_Model_callsOfAll_19 rfl hl (by decide) rfl (fun ls hl => ?_)
      obtain ⟨v_193, ev_193⟩ : ∃ z : Int32, z = y_181 + 1 := ⟨_, rfl⟩
      obtain ⟨qv_193, hv_193⟩ := zI_add (l := 1) (h := 20) hv_188 zc_1 ev_193 (by decide)
      rw [li_1] at qv_193
      refine lv_iinc (v := v_193) (lv' := [(2, .int v_193), (1, .int v_192), (0, .ref b0)]) hx hb d_Model_callsOfAll_20 hl (k := 1) rfl (by rw [ev_193]; rfl) (by decide) rfl (fun ls hl => ?_)
      refine lv_goto (tgt := 4) hx hb d_Model_callsOfAll_23 (by decide) ?_
      exact ihk_180 (v_193) (v_192) _ _ _ (zI.wk (l' := 0) (h' := 20) hv_193 (by decide)) (zm_up qv_193 hmk_180 (by decide)) hP hD hS (lv_sub hl [0, 1, 2] rfl)
theorem d_Model_sign_0 : decode prog_14_method_9_code 0 = .ok (.aload_n 0, 1) := by decide +kernel
theorem d_Model_sign_1 : decode prog_14_method_9_code 1 = .ok (.iconst 0, 1) := by decide +kernel
theorem d_Model_sign_2 : decode prog_14_method_9_code 2 = .ok (.putfield 1, 3) := by decide +kernel
theorem d_Model_sign_5 : decode prog_14_method_9_code 5 = .ok (.aload_n 0, 1) := by decide +kernel
theorem d_Model_sign_6 : decode prog_14_method_9_code 6 = .ok (.getfield 142, 3) := by decide +kernel
theorem d_Model_sign_9 : decode prog_14_method_9_code 9 = .ok (.iconst 4, 1) := by decide +kernel
theorem d_Model_sign_10 : decode prog_14_method_9_code 10 = .ok (.iadd, 1) := by decide +kernel
theorem d_Model_sign_11 : decode prog_14_method_9_code 11 = .ok (.sipush 240, 3) := by decide +kernel
theorem d_Model_sign_14 : decode prog_14_method_9_code 14 = .ok (.if_icmp .le 5, 3) := by decide +kernel
theorem d_Model_sign_17 : decode prog_14_method_9_code 17 = .ok (.iconst (-1), 1) := by decide +kernel
theorem d_Model_sign_18 : decode prog_14_method_9_code 18 = .ok (.ireturn, 1) := by decide +kernel
theorem d_Model_sign_19 : decode prog_14_method_9_code 19 = .ok (.bipush 24, 2) := by decide +kernel
theorem d_Model_sign_21 : decode prog_14_method_9_code 21 = .ok (.istore_n 2, 1) := by decide +kernel
theorem d_Model_sign_22 : decode prog_14_method_9_code 22 = .ok (.iload_n 2, 1) := by decide +kernel
theorem d_Model_sign_23 : decode prog_14_method_9_code 23 = .ok (.ifCond .lt 32, 3) := by decide +kernel
theorem d_Model_sign_26 : decode prog_14_method_9_code 26 = .ok (.aload_n 0, 1) := by decide +kernel
theorem d_Model_sign_27 : decode prog_14_method_9_code 27 = .ok (.getfield 27, 3) := by decide +kernel
theorem d_Model_sign_30 : decode prog_14_method_9_code 30 = .ok (.aload_n 0, 1) := by decide +kernel
theorem d_Model_sign_31 : decode prog_14_method_9_code 31 = .ok (.getfield 142, 3) := by decide +kernel
theorem d_Model_sign_34 : decode prog_14_method_9_code 34 = .ok (.iload_n 1, 1) := by decide +kernel
theorem d_Model_sign_35 : decode prog_14_method_9_code 35 = .ok (.iload_n 2, 1) := by decide +kernel
theorem d_Model_sign_36 : decode prog_14_method_9_code 36 = .ok (.iushr, 1) := by decide +kernel
theorem d_Model_sign_37 : decode prog_14_method_9_code 37 = .ok (.i2b, 1) := by decide +kernel
theorem d_Model_sign_38 : decode prog_14_method_9_code 38 = .ok (.bastore, 1) := by decide +kernel
theorem d_Model_sign_39 : decode prog_14_method_9_code 39 = .ok (.aload_n 0, 1) := by decide +kernel
theorem d_Model_sign_40 : decode prog_14_method_9_code 40 = .ok (.dup, 1) := by decide +kernel
theorem d_Model_sign_41 : decode prog_14_method_9_code 41 = .ok (.getfield 142, 3) := by decide +kernel
theorem d_Model_sign_44 : decode prog_14_method_9_code 44 = .ok (.iconst 1, 1) := by decide +kernel
theorem d_Model_sign_45 : decode prog_14_method_9_code 45 = .ok (.iadd, 1) := by decide +kernel
theorem d_Model_sign_46 : decode prog_14_method_9_code 46 = .ok (.putfield 142, 3) := by decide +kernel
theorem d_Model_sign_49 : decode prog_14_method_9_code 49 = .ok (.iinc 2 (-8), 3) := by decide +kernel
theorem d_Model_sign_52 : decode prog_14_method_9_code 52 = .ok (.goto (-30), 3) := by decide +kernel
theorem d_Model_sign_55 : decode prog_14_method_9_code 55 = .ok (.aload_n 0, 1) := by decide +kernel
theorem d_Model_sign_56 : decode prog_14_method_9_code 56 = .ok (.getfield 142, 3) := by decide +kernel
theorem d_Model_sign_59 : decode prog_14_method_9_code 59 = .ok (.ireturn, 1) := by decide +kernel
abbrev m_s1_Model_sign : Room := { frames := 0, cells := 0, slots := 0, locals := 0 }
set_option maxHeartbeats 4000000 in
set_option maxRecDepth 100000 in
theorem s1_Model_sign (l : Launch) (G : zG) (b0 : Nat) (b1 : Int32) (b2 : Int32) (b3 : Nat) (b4 : Nat) (b5 : Nat) (b6 : Nat) (b7 : Int32) (b8 : Nat) (b9 : Int32) (b10 : Int32) (b11 : Int32) (b12 : Int32) (b13 : Nat) (b14 : Nat) (b15 : Nat) (b16 : Int32) (b17 : Nat) (b18 : Nat) (b19 : Nat) (b20 : Nat) (b21 : Nat) (b22 : Nat) (b23 : Nat) (b24 : Nat) (b25 : Nat) (b26 : Nat) (b27 : Nat) (b28 : Nat) (b29 : Int32) (b30 : Nat) (b31 : Nat) (b32 : Int32) (b33 : Int32) (b34 : Int32) (b35 : Int32) (b36 : Nat) (b37 : Nat) (b38 : Nat) (b39 : Nat) (b40 : Nat) (b41 : Nat) (b42 : Nat) (b43 : Int32) (b44 : Nat) (b45 : Nat) (b46 : Int32) (b47 : Nat) (b48 : Nat) (b49 : Nat) (b50 : Nat) (b51 : Nat) (b52 : Int32) (b53 : Nat) (b54 : Nat) (b55 : Nat) (b56 : Nat → Int32) (hb7 : zI b7 0 8) (hb9 : zI b9 0 240) (hb10 : zI b10 0 240) (hb12 : zI b12 0 1) (hb16 : zI b16 0 12) (hb29 : zI b29 0 1) (hb32 : zI b32 0 1) : zM l G y_Model_sign prog_14_method_9_code 3 (Option.some Jvm.ClassFile.FieldType.int) m_s1_Model_sign [.ref b0, .int b1] [(b0, .inr (12, [.int b2, .ref b3, .ref b4, .ref b5, .ref b6, .int b7, .ref b8, .int b9, .int b10, .int b11, .int b12, .ref b13, .ref b14, .ref b15, .int b16, .ref b17, .ref b18, .ref b19, .ref b20, .ref b21, .ref b22, .ref b23, .ref b24, .ref b25, .ref b26, .ref b27, .ref b28, .int b29, .ref b30, .ref b31, .int b32, .int b33, .int b34, .int b35, .ref b36, .ref b37, .ref b38, .ref b39, .ref b40, .ref b41, .ref b42, .int b43, .ref b44, .ref b45, .int b46, .ref b47, .ref b48, .ref b49, .ref b50, .ref b51, .int b52, .ref b53, .ref b54, .ref b55])), (b8, .inl (G.2 3, 240, .inl b56))] (fun v w => ∃ (e0 : Int32), ∃ (e1 : Int32), ∃ (e2 : Nat → Int32), v = some (.int e0) ∧ w = [(b0, .inr (12, [.int 0, .ref b3, .ref b4, .ref b5, .ref b6, .int b7, .ref b8, .int e1, .int b10, .int b11, .int b12, .ref b13, .ref b14, .ref b15, .int b16, .ref b17, .ref b18, .ref b19, .ref b20, .ref b21, .ref b22, .ref b23, .ref b24, .ref b25, .ref b26, .ref b27, .ref b28, .int b29, .ref b30, .ref b31, .int b32, .int b33, .int b34, .int b35, .ref b36, .ref b37, .ref b38, .ref b39, .ref b40, .ref b41, .ref b42, .int b43, .ref b44, .ref b45, .int b46, .ref b47, .ref b48, .ref b49, .ref b50, .ref b51, .int b52, .ref b53, .ref b54, .ref b55])), (b8, .inl (G.2 3, 240, .inl e2))] ∧ (zI e0 (-1) 240) ∧ (zI e1 0 240)) := by
  refine z_start (by decide +kernel) (Nat.le_of_ble_eq_true rfl) ?_
  intro p e s m below meth c A Z hr hnm hA hP hD hS ls hl
  have Z : zC p s m _ meth c prog_14_method_9_code 3 "TraceMachinesModel" G := Z
  obtain ⟨hx, hb, hml, hown, hts, hK, hN, hlocks⟩ := id Z
  have hl : lv_has ls 3 [(0, .ref b0), (1, .int b1)] := hl
  refine lv_aload_n hx hb d_Model_sign_0 rfl (lv_at hl 0 rfl) ?_
  refine lv_iconst (v := 0) hx hb d_Model_sign_1 (by decide) ?_
  refine va_put (D := G.1) (ci := 12) (v := .int 0) (ty := .int) (C := R_Model) (T := F_Model) (N := 54) hx hb hts i_Model t_Model t_Model_ok n_Model hown hK hP hD hS 0 rfl rfl 0 (by decide) (hts _ q1109) (fun _ h9 => h9) rfl (by decide +kernel) rfl rfl (Nat.le_of_ble_eq_true rfl) d_Model_sign_2 (fun H locs hP hD hS => ?_)
  have hP : va_P G.1 classes [(b0, .inr (12, [.int 0, .ref b3, .ref b4, .ref b5, .ref b6, .int b7, .ref b8, .int b9, .int b10, .int b11, .int b12, .ref b13, .ref b14, .ref b15, .int b16, .ref b17, .ref b18, .ref b19, .ref b20, .ref b21, .ref b22, .ref b23, .ref b24, .ref b25, .ref b26, .ref b27, .ref b28, .int b29, .ref b30, .ref b31, .int b32, .int b33, .int b34, .int b35, .ref b36, .ref b37, .ref b38, .ref b39, .ref b40, .ref b41, .ref b42, .int b43, .ref b44, .ref b45, .int b46, .ref b47, .ref b48, .ref b49, .ref b50, .ref b51, .int b52, .ref b53, .ref b54, .ref b55])), (b8, .inl (G.2 3, 240, .inl b56))] H := hP
  have hD := z_tie hP hD rfl
  refine lv_aload_n hx hb d_Model_sign_5 rfl (lv_at hl 0 rfl) ?_
  refine va_get (D := G.1) (ci := 12) (v := .int b9) (C := R_Model) (T := F_Model) (N := 54) hx hb hts i_Model hown hK hP 0 rfl rfl 7 (by decide) (hts _ q1116) (fun _ h9 => h9) rfl d_Model_sign_6 ?_
  refine lv_iconst (v := 4) hx hb d_Model_sign_9 (by decide) ?_
  refine lv_iadd hx hb d_Model_sign_10 ?_
  refine lv_topi (fun v_1 ev_1 => ?_)
  obtain ⟨qv_1, hv_1⟩ := zI_add (l := 4) (h := 244) hb9 zc_4 ev_1 (by decide)
  rw [li_4] at qv_1
  refine lv_sipush (v := 240) hx hb d_Model_sign_11 (by decide) ?_
  refine lv_icmp_le (tgt := 19) hx hb d_Model_sign_14 (by decide) (fun hc_2 => ?_) (fun hc_2 => ?_)
  · have _nhc_2 := hc_2
    have ni_3 := (fa_le _ _).mp hc_2
    rw [li_240] at ni_3
    have hv_4 : zI v_1 4 240 := zI.le_l hv_1 zc_240 hc_2 (by decide)
    have hv_5 : zI b9 0 236 := by have _a := hv_4; have _b := qv_1; have _c := zc_4; have _d := hb9; exact ⟨by omega, by omega⟩
    refine lv_bipush (v := 24) hx hb d_Model_sign_19 (by decide) ?_
    refine lv_istore_n (lv' := [(2, .int 24), (0, .ref b0), (1, .int b1)]) hx hb d_Model_sign_21 rfl hl (by decide) rfl (fun ls hl => ?_)
    refine lv_iload_n hx hb d_Model_sign_22 rfl (lv_at hl 0 rfl) ?_
    refine lv_if_lt (tgt := 55) hx hb d_Model_sign_23 (by decide) (fun hc => absurd hc (by decide +kernel)) (fun _ => ?_)
    refine lv_aload_n hx hb d_Model_sign_26 rfl (lv_at hl 1 rfl) ?_
    refine va_get (D := G.1) (ci := 12) (v := .ref b8) (C := R_Model) (T := F_Model) (N := 54) hx hb hts i_Model hown hK hP 0 rfl rfl 6 (by decide) (hts _ q1115) (fun _ h9 => h9) rfl d_Model_sign_27 ?_
    refine lv_aload_n hx hb d_Model_sign_30 rfl (lv_at hl 1 rfl) ?_
    refine va_get (D := G.1) (ci := 12) (v := .int b9) (C := R_Model) (T := F_Model) (N := 54) hx hb hts i_Model hown hK hP 0 rfl rfl 7 (by decide) (hts _ q1116) (fun _ h9 => h9) rfl d_Model_sign_31 ?_
    refine lv_iload_n hx hb d_Model_sign_34 rfl (lv_at hl 2 rfl) ?_
    refine lv_iload_n hx hb d_Model_sign_35 rfl (lv_at hl 0 rfl) ?_
    obtain ⟨v_6, ev_6⟩ : ∃ z : Int32, z = ((b1).toUInt32 >>> ((24 : Int32).toUInt32 &&& Int32.toUInt32 31)).toInt32 := ⟨_, rfl⟩
    refine lv_iushr (v := v_6) hx hb d_Model_sign_36 ev_6.symm ?_
    obtain ⟨v_7, ev_7⟩ : ∃ z : Int32, z = (v_6).toInt8.toInt32 := ⟨_, rfl⟩
    refine lv_i2b (v := v_7) hx hb d_Model_sign_37 ev_7.symm ?_
    refine va_bast hx hb hK hP hD hS 1 3 rfl rfl (zI.inn hv_5 (by decide)) d_Model_sign_38 (fun H locs hP hD hS => ?_)
    obtain ⟨f_8, hP, hD⟩ := z_newF 1 hP hD rfl
    have hP : va_P G.1 classes [(b0, .inr (12, [.int 0, .ref b3, .ref b4, .ref b5, .ref b6, .int b7, .ref b8, .int b9, .int b10, .int b11, .int b12, .ref b13, .ref b14, .ref b15, .int b16, .ref b17, .ref b18, .ref b19, .ref b20, .ref b21, .ref b22, .ref b23, .ref b24, .ref b25, .ref b26, .ref b27, .ref b28, .int b29, .ref b30, .ref b31, .int b32, .int b33, .int b34, .int b35, .ref b36, .ref b37, .ref b38, .ref b39, .ref b40, .ref b41, .ref b42, .int b43, .ref b44, .ref b45, .int b46, .ref b47, .ref b48, .ref b49, .ref b50, .ref b51, .int b52, .ref b53, .ref b54, .ref b55])), (b8, .inl (G.2 3, 240, .inl f_8))] H := hP
    have hD := z_tie hP hD rfl
    refine lv_aload_n hx hb d_Model_sign_39 rfl (lv_at hl 1 rfl) ?_
    refine lv_dup hx hb d_Model_sign_40 rfl ?_
    refine va_get (D := G.1) (ci := 12) (v := .int b9) (C := R_Model) (T := F_Model) (N := 54) hx hb hts i_Model hown hK hP 0 rfl rfl 7 (by decide) (hts _ q1116) (fun _ h9 => h9) rfl d_Model_sign_41 ?_
    refine lv_iconst (v := 1) hx hb d_Model_sign_44 (by decide) ?_
    refine lv_iadd hx hb d_Model_sign_45 ?_
    refine lv_topi (fun v_9 ev_9 => ?_)
    obtain ⟨qv_9, hv_9⟩ := zI_add (l := 1) (h := 237) hv_5 zc_1 ev_9 (by decide)
    rw [li_1] at qv_9
    refine va_put (D := G.1) (ci := 12) (v := .int v_9) (ty := .int) (C := R_Model) (T := F_Model) (N := 54) hx hb hts i_Model t_Model t_Model_ok n_Model hown hK hP hD hS 0 rfl rfl 7 (by decide) (hts _ q1116) (fun _ h9 => h9) rfl (by decide +kernel) rfl rfl (Nat.le_of_ble_eq_true rfl) d_Model_sign_46 (fun H locs hP hD hS => ?_)
    have hP : va_P G.1 classes [(b0, .inr (12, [.int 0, .ref b3, .ref b4, .ref b5, .ref b6, .int b7, .ref b8, .int v_9, .int b10, .int b11, .int b12, .ref b13, .ref b14, .ref b15, .int b16, .ref b17, .ref b18, .ref b19, .ref b20, .ref b21, .ref b22, .ref b23, .ref b24, .ref b25, .ref b26, .ref b27, .ref b28, .int b29, .ref b30, .ref b31, .int b32, .int b33, .int b34, .int b35, .ref b36, .ref b37, .ref b38, .ref b39, .ref b40, .ref b41, .ref b42, .int b43, .ref b44, .ref b45, .int b46, .ref b47, .ref b48, .ref b49, .ref b50, .ref b51, .int b52, .ref b53, .ref b54, .ref b55])), (b8, .inl (G.2 3, 240, .inl f_8))] H := hP
    have hD := z_tie hP hD rfl
    refine lv_iinc (v := 16) (lv' := [(2, .int 16), (0, .ref b0), (1, .int b1)]) hx hb d_Model_sign_49 hl (k := 0) rfl (by decide +kernel) (by decide) rfl (fun ls hl => ?_)
    refine lv_goto (tgt := 22) hx hb d_Model_sign_52 (by decide) ?_
    refine lv_iload_n hx hb d_Model_sign_22 rfl (lv_at hl 0 rfl) ?_
    refine lv_if_lt (tgt := 55) hx hb d_Model_sign_23 (by decide) (fun hc => absurd hc (by decide +kernel)) (fun _ => ?_)
    refine lv_aload_n hx hb d_Model_sign_26 rfl (lv_at hl 1 rfl) ?_
    refine va_get (D := G.1) (ci := 12) (v := .ref b8) (C := R_Model) (T := F_Model) (N := 54) hx hb hts i_Model hown hK hP 0 rfl rfl 6 (by decide) (hts _ q1115) (fun _ h9 => h9) rfl d_Model_sign_27 ?_
    refine lv_aload_n hx hb d_Model_sign_30 rfl (lv_at hl 1 rfl) ?_
    refine va_get (D := G.1) (ci := 12) (v := .int v_9) (C := R_Model) (T := F_Model) (N := 54) hx hb hts i_Model hown hK hP 0 rfl rfl 7 (by decide) (hts _ q1116) (fun _ h9 => h9) rfl d_Model_sign_31 ?_
    refine lv_iload_n hx hb d_Model_sign_34 rfl (lv_at hl 2 rfl) ?_
    refine lv_iload_n hx hb d_Model_sign_35 rfl (lv_at hl 0 rfl) ?_
    obtain ⟨v_10, ev_10⟩ : ∃ z : Int32, z = ((b1).toUInt32 >>> ((16 : Int32).toUInt32 &&& Int32.toUInt32 31)).toInt32 := ⟨_, rfl⟩
    refine lv_iushr (v := v_10) hx hb d_Model_sign_36 ev_10.symm ?_
    obtain ⟨v_11, ev_11⟩ : ∃ z : Int32, z = (v_10).toInt8.toInt32 := ⟨_, rfl⟩
    refine lv_i2b (v := v_11) hx hb d_Model_sign_37 ev_11.symm ?_
    refine va_bast hx hb hK hP hD hS 1 3 rfl rfl (zI.inn hv_9 (by decide)) d_Model_sign_38 (fun H locs hP hD hS => ?_)
    obtain ⟨f_12, hP, hD⟩ := z_newF 1 hP hD rfl
    have hP : va_P G.1 classes [(b0, .inr (12, [.int 0, .ref b3, .ref b4, .ref b5, .ref b6, .int b7, .ref b8, .int v_9, .int b10, .int b11, .int b12, .ref b13, .ref b14, .ref b15, .int b16, .ref b17, .ref b18, .ref b19, .ref b20, .ref b21, .ref b22, .ref b23, .ref b24, .ref b25, .ref b26, .ref b27, .ref b28, .int b29, .ref b30, .ref b31, .int b32, .int b33, .int b34, .int b35, .ref b36, .ref b37, .ref b38, .ref b39, .ref b40, .ref b41, .ref b42, .int b43, .ref b44, .ref b45, .int b46, .ref b47, .ref b48, .ref b49, .ref b50, .ref b51, .int b52, .ref b53, .ref b54, .ref b55])), (b8, .inl (G.2 3, 240, .inl f_12))] H := hP
    have hD := z_tie hP hD rfl
    refine lv_aload_n hx hb d_Model_sign_39 rfl (lv_at hl 1 rfl) ?_
    refine lv_dup hx hb d_Model_sign_40 rfl ?_
    refine va_get (D := G.1) (ci := 12) (v := .int v_9) (C := R_Model) (T := F_Model) (N := 54) hx hb hts i_Model hown hK hP 0 rfl rfl 7 (by decide) (hts _ q1116) (fun _ h9 => h9) rfl d_Model_sign_41 ?_
    refine lv_iconst (v := 1) hx hb d_Model_sign_44 (by decide) ?_
    refine lv_iadd hx hb d_Model_sign_45 ?_
    refine lv_topi (fun v_13 ev_13 => ?_)
    obtain ⟨qv_13, hv_13⟩ := zI_add (l := 2) (h := 238) hv_9 zc_1 ev_13 (by decide)
    rw [li_1] at qv_13
    refine va_put (D := G.1) (ci := 12) (v := .int v_13) (ty := .int) (C := R_Model) (T := F_Model) (N := 54) hx hb hts i_Model t_Model t_Model_ok n_Model hown hK hP hD hS 0 rfl rfl 7 (by decide) (hts _ q1116) (fun _ h9 => h9) rfl (by decide +kernel) rfl rfl (Nat.le_of_ble_eq_true rfl) d_Model_sign_46 (fun H locs hP hD hS => ?_)
    have hP : va_P G.1 classes [(b0, .inr (12, [.int 0, .ref b3, .ref b4, .ref b5, .ref b6, .int b7, .ref b8, .int v_13, .int b10, .int b11, .int b12, .ref b13, .ref b14, .ref b15, .int b16, .ref b17, .ref b18, .ref b19, .ref b20, .ref b21, .ref b22, .ref b23, .ref b24, .ref b25, .ref b26, .ref b27, .ref b28, .int b29, .ref b30, .ref b31, .int b32, .int b33, .int b34, .int b35, .ref b36, .ref b37, .ref b38, .ref b39, .ref b40, .ref b41, .ref b42, .int b43, .ref b44, .ref b45, .int b46, .ref b47, .ref b48, .ref b49, .ref b50, .ref b51, .int b52, .ref b53, .ref b54, .ref b55])), (b8, .inl (G.2 3, 240, .inl f_12))] H := hP
    have hD := z_tie hP hD rfl
    refine lv_iinc (v := 8) (lv' := [(2, .int 8), (0, .ref b0), (1, .int b1)]) hx hb d_Model_sign_49 hl (k := 0) rfl (by decide +kernel) (by decide) rfl (fun ls hl => ?_)
    refine lv_goto (tgt := 22) hx hb d_Model_sign_52 (by decide) ?_
    refine lv_iload_n hx hb d_Model_sign_22 rfl (lv_at hl 0 rfl) ?_
    refine lv_if_lt (tgt := 55) hx hb d_Model_sign_23 (by decide) (fun hc => absurd hc (by decide +kernel)) (fun _ => ?_)
    refine lv_aload_n hx hb d_Model_sign_26 rfl (lv_at hl 1 rfl) ?_
    refine va_get (D := G.1) (ci := 12) (v := .ref b8) (C := R_Model) (T := F_Model) (N := 54) hx hb hts i_Model hown hK hP 0 rfl rfl 6 (by decide) (hts _ q1115) (fun _ h9 => h9) rfl d_Model_sign_27 ?_
    refine lv_aload_n hx hb d_Model_sign_30 rfl (lv_at hl 1 rfl) ?_
    refine va_get (D := G.1) (ci := 12) (v := .int v_13) (C := R_Model) (T := F_Model) (N := 54) hx hb hts i_Model hown hK hP 0 rfl rfl 7 (by decide) (hts _ q1116) (fun _ h9 => h9) rfl d_Model_sign_31 ?_
    refine lv_iload_n hx hb d_Model_sign_34 rfl (lv_at hl 2 rfl) ?_
    refine lv_iload_n hx hb d_Model_sign_35 rfl (lv_at hl 0 rfl) ?_
    obtain ⟨v_14, ev_14⟩ : ∃ z : Int32, z = ((b1).toUInt32 >>> ((8 : Int32).toUInt32 &&& Int32.toUInt32 31)).toInt32 := ⟨_, rfl⟩
    refine lv_iushr (v := v_14) hx hb d_Model_sign_36 ev_14.symm ?_
    obtain ⟨v_15, ev_15⟩ : ∃ z : Int32, z = (v_14).toInt8.toInt32 := ⟨_, rfl⟩
    refine lv_i2b (v := v_15) hx hb d_Model_sign_37 ev_15.symm ?_
    refine va_bast hx hb hK hP hD hS 1 3 rfl rfl (zI.inn hv_13 (by decide)) d_Model_sign_38 (fun H locs hP hD hS => ?_)
    obtain ⟨f_16, hP, hD⟩ := z_newF 1 hP hD rfl
    have hP : va_P G.1 classes [(b0, .inr (12, [.int 0, .ref b3, .ref b4, .ref b5, .ref b6, .int b7, .ref b8, .int v_13, .int b10, .int b11, .int b12, .ref b13, .ref b14, .ref b15, .int b16, .ref b17, .ref b18, .ref b19, .ref b20, .ref b21, .ref b22, .ref b23, .ref b24, .ref b25, .ref b26, .ref b27, .ref b28, .int b29, .ref b30, .ref b31, .int b32, .int b33, .int b34, .int b35, .ref b36, .ref b37, .ref b38, .ref b39, .ref b40, .ref b41, .ref b42, .int b43, .ref b44, .ref b45, .int b46, .ref b47, .ref b48, .ref b49, .ref b50, .ref b51, .int b52, .ref b53, .ref b54, .ref b55])), (b8, .inl (G.2 3, 240, .inl f_16))] H := hP
    have hD := z_tie hP hD rfl
    refine lv_aload_n hx hb d_Model_sign_39 rfl (lv_at hl 1 rfl) ?_
    refine lv_dup hx hb d_Model_sign_40 rfl ?_
    refine va_get (D := G.1) (ci := 12) (v := .int v_13) (C := R_Model) (T := F_Model) (N := 54) hx hb hts i_Model hown hK hP 0 rfl rfl 7 (by decide) (hts _ q1116) (fun _ h9 => h9) rfl d_Model_sign_41 ?_
    refine lv_iconst (v := 1) hx hb d_Model_sign_44 (by decide) ?_
    refine lv_iadd hx hb d_Model_sign_45 ?_
    refine lv_topi (fun v_17 ev_17 => ?_)
    obtain ⟨qv_17, hv_17⟩ := zI_add (l := 3) (h := 239) hv_13 zc_1 ev_17 (by decide)
    rw [li_1] at qv_17
    refine va_put (D := G.1) (ci := 12) (v := .int v_17) (ty := .int) (C := R_Model) (T := F_Model) (N := 54) hx hb hts i_Model t_Model t_Model_ok n_Model hown hK hP hD hS 0 rfl rfl 7 (by decide) (hts _ q1116) (fun _ h9 => h9) rfl (by decide +kernel) rfl rfl (Nat.le_of_ble_eq_true rfl) d_Model_sign_46 (fun H locs hP hD hS => ?_)
    have hP : va_P G.1 classes [(b0, .inr (12, [.int 0, .ref b3, .ref b4, .ref b5, .ref b6, .int b7, .ref b8, .int v_17, .int b10, .int b11, .int b12, .ref b13, .ref b14, .ref b15, .int b16, .ref b17, .ref b18, .ref b19, .ref b20, .ref b21, .ref b22, .ref b23, .ref b24, .ref b25, .ref b26, .ref b27, .ref b28, .int b29, .ref b30, .ref b31, .int b32, .int b33, .int b34, .int b35, .ref b36, .ref b37, .ref b38, .ref b39, .ref b40, .ref b41, .ref b42, .int b43, .ref b44, .ref b45, .int b46, .ref b47, .ref b48, .ref b49, .ref b50, .ref b51, .int b52, .ref b53, .ref b54, .ref b55])), (b8, .inl (G.2 3, 240, .inl f_16))] H := hP
    have hD := z_tie hP hD rfl
    refine lv_iinc (v := 0) (lv' := [(2, .int 0), (0, .ref b0), (1, .int b1)]) hx hb d_Model_sign_49 hl (k := 0) rfl (by decide +kernel) (by decide) rfl (fun ls hl => ?_)
    refine lv_goto (tgt := 22) hx hb d_Model_sign_52 (by decide) ?_
    refine lv_iload_n hx hb d_Model_sign_22 rfl (lv_at hl 0 rfl) ?_
    refine lv_if_lt (tgt := 55) hx hb d_Model_sign_23 (by decide) (fun hc => absurd hc (by decide +kernel)) (fun _ => ?_)
    refine lv_aload_n hx hb d_Model_sign_26 rfl (lv_at hl 1 rfl) ?_
    refine va_get (D := G.1) (ci := 12) (v := .ref b8) (C := R_Model) (T := F_Model) (N := 54) hx hb hts i_Model hown hK hP 0 rfl rfl 6 (by decide) (hts _ q1115) (fun _ h9 => h9) rfl d_Model_sign_27 ?_
    refine lv_aload_n hx hb d_Model_sign_30 rfl (lv_at hl 1 rfl) ?_
    refine va_get (D := G.1) (ci := 12) (v := .int v_17) (C := R_Model) (T := F_Model) (N := 54) hx hb hts i_Model hown hK hP 0 rfl rfl 7 (by decide) (hts _ q1116) (fun _ h9 => h9) rfl d_Model_sign_31 ?_
    refine lv_iload_n hx hb d_Model_sign_34 rfl (lv_at hl 2 rfl) ?_
    refine lv_iload_n hx hb d_Model_sign_35 rfl (lv_at hl 0 rfl) ?_
    obtain ⟨v_18, ev_18⟩ : ∃ z : Int32, z = ((b1).toUInt32 >>> ((0 : Int32).toUInt32 &&& Int32.toUInt32 31)).toInt32 := ⟨_, rfl⟩
    refine lv_iushr (v := v_18) hx hb d_Model_sign_36 ev_18.symm ?_
    obtain ⟨v_19, ev_19⟩ : ∃ z : Int32, z = (v_18).toInt8.toInt32 := ⟨_, rfl⟩
    refine lv_i2b (v := v_19) hx hb d_Model_sign_37 ev_19.symm ?_
    refine va_bast hx hb hK hP hD hS 1 3 rfl rfl (zI.inn hv_17 (by decide)) d_Model_sign_38 (fun H locs hP hD hS => ?_)
    obtain ⟨f_20, hP, hD⟩ := z_newF 1 hP hD rfl
    have hP : va_P G.1 classes [(b0, .inr (12, [.int 0, .ref b3, .ref b4, .ref b5, .ref b6, .int b7, .ref b8, .int v_17, .int b10, .int b11, .int b12, .ref b13, .ref b14, .ref b15, .int b16, .ref b17, .ref b18, .ref b19, .ref b20, .ref b21, .ref b22, .ref b23, .ref b24, .ref b25, .ref b26, .ref b27, .ref b28, .int b29, .ref b30, .ref b31, .int b32, .int b33, .int b34, .int b35, .ref b36, .ref b37, .ref b38, .ref b39, .ref b40, .ref b41, .ref b42, .int b43, .ref b44, .ref b45, .int b46, .ref b47, .ref b48, .ref b49, .ref b50, .ref b51, .int b52, .ref b53, .ref b54, .ref b55])), (b8, .inl (G.2 3, 240, .inl f_20))] H := hP
    have hD := z_tie hP hD rfl
    refine lv_aload_n hx hb d_Model_sign_39 rfl (lv_at hl 1 rfl) ?_
    refine lv_dup hx hb d_Model_sign_40 rfl ?_
    refine va_get (D := G.1) (ci := 12) (v := .int v_17) (C := R_Model) (T := F_Model) (N := 54) hx hb hts i_Model hown hK hP 0 rfl rfl 7 (by decide) (hts _ q1116) (fun _ h9 => h9) rfl d_Model_sign_41 ?_
    refine lv_iconst (v := 1) hx hb d_Model_sign_44 (by decide) ?_
    refine lv_iadd hx hb d_Model_sign_45 ?_
    refine lv_topi (fun v_21 ev_21 => ?_)
    obtain ⟨qv_21, hv_21⟩ := zI_add (l := 4) (h := 240) hv_17 zc_1 ev_21 (by decide)
    rw [li_1] at qv_21
    refine va_put (D := G.1) (ci := 12) (v := .int v_21) (ty := .int) (C := R_Model) (T := F_Model) (N := 54) hx hb hts i_Model t_Model t_Model_ok n_Model hown hK hP hD hS 0 rfl rfl 7 (by decide) (hts _ q1116) (fun _ h9 => h9) rfl (by decide +kernel) rfl rfl (Nat.le_of_ble_eq_true rfl) d_Model_sign_46 (fun H locs hP hD hS => ?_)
    have hP : va_P G.1 classes [(b0, .inr (12, [.int 0, .ref b3, .ref b4, .ref b5, .ref b6, .int b7, .ref b8, .int v_21, .int b10, .int b11, .int b12, .ref b13, .ref b14, .ref b15, .int b16, .ref b17, .ref b18, .ref b19, .ref b20, .ref b21, .ref b22, .ref b23, .ref b24, .ref b25, .ref b26, .ref b27, .ref b28, .int b29, .ref b30, .ref b31, .int b32, .int b33, .int b34, .int b35, .ref b36, .ref b37, .ref b38, .ref b39, .ref b40, .ref b41, .ref b42, .int b43, .ref b44, .ref b45, .int b46, .ref b47, .ref b48, .ref b49, .ref b50, .ref b51, .int b52, .ref b53, .ref b54, .ref b55])), (b8, .inl (G.2 3, 240, .inl f_20))] H := hP
    have hD := z_tie hP hD rfl
    refine lv_iinc (v := (-8)) (lv' := [(2, .int (-8)), (0, .ref b0), (1, .int b1)]) hx hb d_Model_sign_49 hl (k := 0) rfl (by decide +kernel) (by decide) rfl (fun ls hl => ?_)
    refine lv_goto (tgt := 22) hx hb d_Model_sign_52 (by decide) ?_
    refine lv_iload_n hx hb d_Model_sign_22 rfl (lv_at hl 0 rfl) ?_
    refine lv_if_lt (tgt := 55) hx hb d_Model_sign_23 (by decide) (fun _ => ?_) (fun hc => absurd hc (by decide +kernel))
    refine lv_aload_n hx hb d_Model_sign_55 rfl (lv_at hl 1 rfl) ?_
    refine va_get (D := G.1) (ci := 12) (v := .int v_21) (C := R_Model) (T := F_Model) (N := 54) hx hb hts i_Model hown hK hP 0 rfl rfl 7 (by decide) (hts _ q1116) (fun _ h9 => h9) rfl d_Model_sign_56 ?_
    exact z_iret hx hb hr hlocks hP hD hS (Nat.le_of_ble_eq_true rfl) (Nat.le_of_ble_eq_true rfl) d_Model_sign_59 ⟨v_21, v_21, f_20, rfl, rfl, (zI.wk (l' := (-1)) (h' := 240) hv_21 (by decide)), (zI.wk (l' := 0) (h' := 240) hv_21 (by decide))⟩
  · have _nhc_2 := hc_2
    have ni_22 := (fa_lt _ _).mp (zi_nle hc_2)
    rw [li_240] at ni_22
    have hv_23 : zI v_1 241 244 := zI.lt_r zc_240 hv_1 (zi_nle hc_2) (by decide)
    have hv_24 : zI b9 237 240 := by have _a := hv_23; have _b := qv_1; have _c := zc_4; have _d := hb9; exact ⟨by omega, by omega⟩
    refine lv_iconst (v := (-1)) hx hb d_Model_sign_17 (by decide) ?_
    exact z_iret hx hb hr hlocks hP hD hS (Nat.le_of_ble_eq_true rfl) (Nat.le_of_ble_eq_true rfl) d_Model_sign_18 ⟨(-1), b9, b56, rfl, rfl, (zI.wk (l' := (-1)) (h' := 240) zc_m1 (by decide)), (zI.wk (l' := 0) (h' := 240) hv_24 (by decide))⟩
theorem d_Model_wrong_0 : decode prog_14_method_11_code 0 = .ok (.aload_n 0, 1) := by decide +kernel
theorem d_Model_wrong_1 : decode prog_14_method_11_code 1 = .ok (.aload_n 0, 1) := by decide +kernel
theorem d_Model_wrong_2 : decode prog_14_method_11_code 2 = .ok (.getfield 145, 3) := by decide +kernel
theorem d_Model_wrong_5 : decode prog_14_method_11_code 5 = .ok (.ifCond .eq 10, 3) := by decide +kernel
theorem d_Model_wrong_8 : decode prog_14_method_11_code 8 = .ok (.aload_n 0, 1) := by decide +kernel
theorem d_Model_wrong_9 : decode prog_14_method_11_code 9 = .ok (.getfield 149, 3) := by decide +kernel
theorem d_Model_wrong_12 : decode prog_14_method_11_code 12 = .ok (.goto 7, 3) := by decide +kernel
theorem d_Model_wrong_15 : decode prog_14_method_11_code 15 = .ok (.aload_n 0, 1) := by decide +kernel
theorem d_Model_wrong_16 : decode prog_14_method_11_code 16 = .ok (.getfield 152, 3) := by decide +kernel
theorem d_Model_wrong_19 : decode prog_14_method_11_code 19 = .ok (.putfield 152, 3) := by decide +kernel
theorem d_Model_wrong_22 : decode prog_14_method_11_code 22 = .ok (.aload_n 0, 1) := by decide +kernel
theorem d_Model_wrong_23 : decode prog_14_method_11_code 23 = .ok (.iconst 0, 1) := by decide +kernel
theorem d_Model_wrong_24 : decode prog_14_method_11_code 24 = .ok (.putfield 145, 3) := by decide +kernel
theorem d_Model_wrong_27 : decode prog_14_method_11_code 27 = .ok (.return_, 1) := by decide +kernel
abbrev m_s1_Model_wrong : Room := { frames := 0, cells := 0, slots := 0, locals := 0 }
set_option maxHeartbeats 4000000 in
set_option maxRecDepth 100000 in
theorem s1_Model_wrong (l : Launch) (G : zG) (b0 : Nat) (b1 : Int32) (b2 : Nat) (b3 : Nat) (b4 : Nat) (b5 : Nat) (b6 : Int32) (b7 : Nat) (b8 : Int32) (b9 : Int32) (b10 : Int32) (b11 : Int32) (b12 : Nat) (b13 : Nat) (b14 : Nat) (b15 : Int32) (b16 : Nat) (b17 : Nat) (b18 : Nat) (b19 : Nat) (b20 : Nat) (b21 : Nat) (b22 : Nat) (b23 : Nat) (b24 : Nat) (b25 : Nat) (b26 : Nat) (b27 : Nat) (b28 : Int32) (b29 : Nat) (b30 : Nat) (b31 : Int32) (b32 : Int32) (b33 : Int32) (b34 : Int32) (b35 : Nat) (b36 : Nat) (b37 : Nat) (b38 : Nat) (b39 : Nat) (b40 : Nat) (b41 : Nat) (b42 : Int32) (b43 : Nat) (b44 : Nat) (b45 : Int32) (b46 : Nat) (b47 : Nat) (b48 : Nat) (b49 : Nat) (b50 : Nat) (b51 : Int32) (b52 : Nat) (b53 : Nat) (b54 : Nat) (hb6 : zI b6 0 8) (hb8 : zI b8 0 240) (hb9 : zI b9 0 240) (hb11 : zI b11 0 1) (hb15 : zI b15 0 12) (hb28 : zI b28 0 1) (hb31 : zI b31 0 1) : zM l G y_Model_wrong prog_14_method_11_code 1 (Option.none : Option Jvm.ClassFile.FieldType) m_s1_Model_wrong [.ref b0] [(b0, .inr (12, [.int b1, .ref b2, .ref b3, .ref b4, .ref b5, .int b6, .ref b7, .int b8, .int b9, .int b10, .int b11, .ref b12, .ref b13, .ref b14, .int b15, .ref b16, .ref b17, .ref b18, .ref b19, .ref b20, .ref b21, .ref b22, .ref b23, .ref b24, .ref b25, .ref b26, .ref b27, .int b28, .ref b29, .ref b30, .int b31, .int b32, .int b33, .int b34, .ref b35, .ref b36, .ref b37, .ref b38, .ref b39, .ref b40, .ref b41, .int b42, .ref b43, .ref b44, .int b45, .ref b46, .ref b47, .ref b48, .ref b49, .ref b50, .int b51, .ref b52, .ref b53, .ref b54]))] (fun v w => ∃ (e0 : Int32), v = none ∧ w = [(b0, .inr (12, [.int b1, .ref b2, .ref b3, .ref b4, .ref b5, .int b6, .ref b7, .int b8, .int b9, .int e0, .int 0, .ref b12, .ref b13, .ref b14, .int b15, .ref b16, .ref b17, .ref b18, .ref b19, .ref b20, .ref b21, .ref b22, .ref b23, .ref b24, .ref b25, .ref b26, .ref b27, .int b28, .ref b29, .ref b30, .int b31, .int b32, .int b33, .int b34, .ref b35, .ref b36, .ref b37, .ref b38, .ref b39, .ref b40, .ref b41, .int b42, .ref b43, .ref b44, .int b45, .ref b46, .ref b47, .ref b48, .ref b49, .ref b50, .int b51, .ref b52, .ref b53, .ref b54]))]) := by
  refine z_start (by decide +kernel) (Nat.le_of_ble_eq_true rfl) ?_
  intro p e s m below meth c A Z hr hnm hA hP hD hS ls hl
  have Z : zC p s m _ meth c prog_14_method_11_code 1 "TraceMachinesModel" G := Z
  obtain ⟨hx, hb, hml, hown, hts, hK, hN, hlocks⟩ := id Z
  have hl : lv_has ls 1 [(0, .ref b0)] := hl
  refine lv_aload_n hx hb d_Model_wrong_0 rfl (lv_at hl 0 rfl) ?_
  refine lv_aload_n hx hb d_Model_wrong_1 rfl (lv_at hl 0 rfl) ?_
  refine va_get (D := G.1) (ci := 12) (v := .int b11) (C := R_Model) (T := F_Model) (N := 54) hx hb hts i_Model hown hK hP 0 rfl rfl 10 (by decide) (hts _ q1119) (fun _ h9 => h9) rfl d_Model_wrong_2 ?_
  refine lv_if_eq (tgt := 15) hx hb d_Model_wrong_5 (by decide) (fun hc_1 => ?_) (fun hc_1 => ?_)
  · have _nhc_1 := hc_1
    have ni_2 := (fa_eq _ _).mp hc_1
    rw [li_0] at ni_2
    have hv_3 : zI b11 0 0 := zI.eq_l hb11 zc_0 hc_1
    refine lv_aload_n hx hb d_Model_wrong_15 rfl (lv_at hl 0 rfl) ?_
    refine va_get (D := G.1) (ci := 12) (v := .int b10) (C := R_Model) (T := F_Model) (N := 54) hx hb hts i_Model hown hK hP 0 rfl rfl 9 (by decide) (hts _ q1118) (fun _ h9 => h9) rfl d_Model_wrong_16 ?_
    refine va_put (D := G.1) (ci := 12) (v := .int b10) (ty := .int) (C := R_Model) (T := F_Model) (N := 54) hx hb hts i_Model t_Model t_Model_ok n_Model hown hK hP hD hS 0 rfl rfl 9 (by decide) (hts _ q1118) (fun _ h9 => h9) rfl (by decide +kernel) rfl rfl (Nat.le_of_ble_eq_true rfl) d_Model_wrong_19 (fun H locs hP hD hS => ?_)
    have hP : va_P G.1 classes [(b0, .inr (12, [.int b1, .ref b2, .ref b3, .ref b4, .ref b5, .int b6, .ref b7, .int b8, .int b9, .int b10, .int b11, .ref b12, .ref b13, .ref b14, .int b15, .ref b16, .ref b17, .ref b18, .ref b19, .ref b20, .ref b21, .ref b22, .ref b23, .ref b24, .ref b25, .ref b26, .ref b27, .int b28, .ref b29, .ref b30, .int b31, .int b32, .int b33, .int b34, .ref b35, .ref b36, .ref b37, .ref b38, .ref b39, .ref b40, .ref b41, .int b42, .ref b43, .ref b44, .int b45, .ref b46, .ref b47, .ref b48, .ref b49, .ref b50, .int b51, .ref b52, .ref b53, .ref b54]))] H := hP
    have hD := z_tie hP hD rfl
    refine lv_aload_n hx hb d_Model_wrong_22 rfl (lv_at hl 0 rfl) ?_
    refine lv_iconst (v := 0) hx hb d_Model_wrong_23 (by decide) ?_
    refine va_put (D := G.1) (ci := 12) (v := .int 0) (ty := .boolean) (C := R_Model) (T := F_Model) (N := 54) hx hb hts i_Model t_Model t_Model_ok n_Model hown hK hP hD hS 0 rfl rfl 10 (by decide) (hts _ q1119) (fun _ h9 => h9) rfl (by decide +kernel) rfl rfl (Nat.le_of_ble_eq_true rfl) d_Model_wrong_24 (fun H locs hP hD hS => ?_)
    have hP : va_P G.1 classes [(b0, .inr (12, [.int b1, .ref b2, .ref b3, .ref b4, .ref b5, .int b6, .ref b7, .int b8, .int b9, .int b10, .int 0, .ref b12, .ref b13, .ref b14, .int b15, .ref b16, .ref b17, .ref b18, .ref b19, .ref b20, .ref b21, .ref b22, .ref b23, .ref b24, .ref b25, .ref b26, .ref b27, .int b28, .ref b29, .ref b30, .int b31, .int b32, .int b33, .int b34, .ref b35, .ref b36, .ref b37, .ref b38, .ref b39, .ref b40, .ref b41, .int b42, .ref b43, .ref b44, .int b45, .ref b46, .ref b47, .ref b48, .ref b49, .ref b50, .int b51, .ref b52, .ref b53, .ref b54]))] H := hP
    have hD := z_tie hP hD rfl
    exact z_vret hx hb hr hlocks hP hD hS (Nat.le_of_ble_eq_true rfl) (Nat.le_of_ble_eq_true rfl) d_Model_wrong_27 ⟨b10, rfl, rfl⟩
  · have _nhc_1 := hc_1
    have ni_4 : ¬ (b11 : Int32).toInt = (0 : Int32).toInt := fun z => hc_1 ((fa_eq _ _).mpr z)
    simp only [li_0] at ni_4
    have hv_5 : zI b11 1 1 := zI.ne_lo hb11 zc_0 hc_1 (by decide)
    refine lv_aload_n hx hb d_Model_wrong_8 rfl (lv_at hl 0 rfl) ?_
    refine va_get (D := G.1) (ci := 12) (v := .int b9) (C := R_Model) (T := F_Model) (N := 54) hx hb hts i_Model hown hK hP 0 rfl rfl 8 (by decide) (hts _ q1117) (fun _ h9 => h9) rfl d_Model_wrong_9 ?_
    refine lv_goto (tgt := 19) hx hb d_Model_wrong_12 (by decide) ?_
    refine va_put (D := G.1) (ci := 12) (v := .int b9) (ty := .int) (C := R_Model) (T := F_Model) (N := 54) hx hb hts i_Model t_Model t_Model_ok n_Model hown hK hP hD hS 0 rfl rfl 9 (by decide) (hts _ q1118) (fun _ h9 => h9) rfl (by decide +kernel) rfl rfl (Nat.le_of_ble_eq_true rfl) d_Model_wrong_19 (fun H locs hP hD hS => ?_)
    have hP : va_P G.1 classes [(b0, .inr (12, [.int b1, .ref b2, .ref b3, .ref b4, .ref b5, .int b6, .ref b7, .int b8, .int b9, .int b9, .int b11, .ref b12, .ref b13, .ref b14, .int b15, .ref b16, .ref b17, .ref b18, .ref b19, .ref b20, .ref b21, .ref b22, .ref b23, .ref b24, .ref b25, .ref b26, .ref b27, .int b28, .ref b29, .ref b30, .int b31, .int b32, .int b33, .int b34, .ref b35, .ref b36, .ref b37, .ref b38, .ref b39, .ref b40, .ref b41, .int b42, .ref b43, .ref b44, .int b45, .ref b46, .ref b47, .ref b48, .ref b49, .ref b50, .int b51, .ref b52, .ref b53, .ref b54]))] H := hP
    have hD := z_tie hP hD rfl
    refine lv_aload_n hx hb d_Model_wrong_22 rfl (lv_at hl 0 rfl) ?_
    refine lv_iconst (v := 0) hx hb d_Model_wrong_23 (by decide) ?_
    refine va_put (D := G.1) (ci := 12) (v := .int 0) (ty := .boolean) (C := R_Model) (T := F_Model) (N := 54) hx hb hts i_Model t_Model t_Model_ok n_Model hown hK hP hD hS 0 rfl rfl 10 (by decide) (hts _ q1119) (fun _ h9 => h9) rfl (by decide +kernel) rfl rfl (Nat.le_of_ble_eq_true rfl) d_Model_wrong_24 (fun H locs hP hD hS => ?_)
    have hP : va_P G.1 classes [(b0, .inr (12, [.int b1, .ref b2, .ref b3, .ref b4, .ref b5, .int b6, .ref b7, .int b8, .int b9, .int b9, .int 0, .ref b12, .ref b13, .ref b14, .int b15, .ref b16, .ref b17, .ref b18, .ref b19, .ref b20, .ref b21, .ref b22, .ref b23, .ref b24, .ref b25, .ref b26, .ref b27, .int b28, .ref b29, .ref b30, .int b31, .int b32, .int b33, .int b34, .ref b35, .ref b36, .ref b37, .ref b38, .ref b39, .ref b40, .ref b41, .int b42, .ref b43, .ref b44, .int b45, .ref b46, .ref b47, .ref b48, .ref b49, .ref b50, .int b51, .ref b52, .ref b53, .ref b54]))] H := hP
    have hD := z_tie hP hD rfl
    exact z_vret hx hb hr hlocks hP hD hS (Nat.le_of_ble_eq_true rfl) (Nat.le_of_ble_eq_true rfl) d_Model_wrong_27 ⟨b9, rfl, rfl⟩
theorem d_Model_next_0 : decode prog_14_method_12_code 0 = .ok (.aload_n 0, 1) := by decide +kernel
theorem d_Model_next_1 : decode prog_14_method_12_code 1 = .ok (.getfield 149, 3) := by decide +kernel
theorem d_Model_next_4 : decode prog_14_method_12_code 4 = .ok (.aload_n 0, 1) := by decide +kernel
theorem d_Model_next_5 : decode prog_14_method_12_code 5 = .ok (.getfield 142, 3) := by decide +kernel
theorem d_Model_next_8 : decode prog_14_method_12_code 8 = .ok (.if_icmp .ge 30, 3) := by decide +kernel
theorem d_Model_next_11 : decode prog_14_method_12_code 11 = .ok (.aload_n 0, 1) := by decide +kernel
theorem d_Model_next_12 : decode prog_14_method_12_code 12 = .ok (.getfield 27, 3) := by decide +kernel
theorem d_Model_next_15 : decode prog_14_method_12_code 15 = .ok (.aload_n 0, 1) := by decide +kernel
theorem d_Model_next_16 : decode prog_14_method_12_code 16 = .ok (.getfield 149, 3) := by decide +kernel
theorem d_Model_next_19 : decode prog_14_method_12_code 19 = .ok (.baload, 1) := by decide +kernel
theorem d_Model_next_20 : decode prog_14_method_12_code 20 = .ok (.bipush 32, 2) := by decide +kernel
theorem d_Model_next_22 : decode prog_14_method_12_code 22 = .ok (.if_icmp .ne 16, 3) := by decide +kernel
theorem d_Model_next_25 : decode prog_14_method_12_code 25 = .ok (.aload_n 0, 1) := by decide +kernel
theorem d_Model_next_26 : decode prog_14_method_12_code 26 = .ok (.dup, 1) := by decide +kernel
theorem d_Model_next_27 : decode prog_14_method_12_code 27 = .ok (.getfield 149, 3) := by decide +kernel
theorem d_Model_next_30 : decode prog_14_method_12_code 30 = .ok (.iconst 1, 1) := by decide +kernel
theorem d_Model_next_31 : decode prog_14_method_12_code 31 = .ok (.iadd, 1) := by decide +kernel
theorem d_Model_next_32 : decode prog_14_method_12_code 32 = .ok (.putfield 149, 3) := by decide +kernel
theorem d_Model_next_35 : decode prog_14_method_12_code 35 = .ok (.goto (-35), 3) := by decide +kernel
theorem d_Model_next_38 : decode prog_14_method_12_code 38 = .ok (.aload_n 0, 1) := by decide +kernel
theorem d_Model_next_39 : decode prog_14_method_12_code 39 = .ok (.getfield 149, 3) := by decide +kernel
theorem d_Model_next_42 : decode prog_14_method_12_code 42 = .ok (.aload_n 0, 1) := by decide +kernel
theorem d_Model_next_43 : decode prog_14_method_12_code 43 = .ok (.getfield 142, 3) := by decide +kernel
theorem d_Model_next_46 : decode prog_14_method_12_code 46 = .ok (.if_icmp .ge 15, 3) := by decide +kernel
theorem d_Model_next_49 : decode prog_14_method_12_code 49 = .ok (.aload_n 0, 1) := by decide +kernel
theorem d_Model_next_50 : decode prog_14_method_12_code 50 = .ok (.getfield 27, 3) := by decide +kernel
theorem d_Model_next_53 : decode prog_14_method_12_code 53 = .ok (.aload_n 0, 1) := by decide +kernel
theorem d_Model_next_54 : decode prog_14_method_12_code 54 = .ok (.getfield 149, 3) := by decide +kernel
theorem d_Model_next_57 : decode prog_14_method_12_code 57 = .ok (.baload, 1) := by decide +kernel
theorem d_Model_next_58 : decode prog_14_method_12_code 58 = .ok (.goto 4, 3) := by decide +kernel
theorem d_Model_next_61 : decode prog_14_method_12_code 61 = .ok (.iconst 0, 1) := by decide +kernel
theorem d_Model_next_62 : decode prog_14_method_12_code 62 = .ok (.ireturn, 1) := by decide +kernel
abbrev m_s1_Model_next : Room := { frames := 0, cells := 0, slots := 0, locals := 0 }
set_option maxHeartbeats 4000000 in
set_option maxRecDepth 100000 in
theorem s1_Model_next (l : Launch) (G : zG) (b0 : Nat) (b1 : Int32) (b2 : Nat) (b3 : Nat) (b4 : Nat) (b5 : Nat) (b6 : Int32) (b7 : Nat) (b8 : Int32) (b9 : Int32) (b10 : Int32) (b11 : Int32) (b12 : Nat) (b13 : Nat) (b14 : Nat) (b15 : Int32) (b16 : Nat) (b17 : Nat) (b18 : Nat) (b19 : Nat) (b20 : Nat) (b21 : Nat) (b22 : Nat) (b23 : Nat) (b24 : Nat) (b25 : Nat) (b26 : Nat) (b27 : Nat) (b28 : Int32) (b29 : Nat) (b30 : Nat) (b31 : Int32) (b32 : Int32) (b33 : Int32) (b34 : Int32) (b35 : Nat) (b36 : Nat) (b37 : Nat) (b38 : Nat) (b39 : Nat) (b40 : Nat) (b41 : Nat) (b42 : Int32) (b43 : Nat) (b44 : Nat) (b45 : Int32) (b46 : Nat) (b47 : Nat) (b48 : Nat) (b49 : Nat) (b50 : Nat) (b51 : Int32) (b52 : Nat) (b53 : Nat) (b54 : Nat) (b55 : Nat → Int32) (hb6 : zI b6 0 8) (hb8 : zI b8 0 240) (hb9 : zI b9 0 240) (hb11 : zI b11 0 1) (hb15 : zI b15 0 12) (hb28 : zI b28 0 1) (hb31 : zI b31 0 1) : zM l G y_Model_next prog_14_method_12_code 1 (Option.some Jvm.ClassFile.FieldType.int) m_s1_Model_next [.ref b0] [(b0, .inr (12, [.int b1, .ref b2, .ref b3, .ref b4, .ref b5, .int b6, .ref b7, .int b8, .int b9, .int b10, .int b11, .ref b12, .ref b13, .ref b14, .int b15, .ref b16, .ref b17, .ref b18, .ref b19, .ref b20, .ref b21, .ref b22, .ref b23, .ref b24, .ref b25, .ref b26, .ref b27, .int b28, .ref b29, .ref b30, .int b31, .int b32, .int b33, .int b34, .ref b35, .ref b36, .ref b37, .ref b38, .ref b39, .ref b40, .ref b41, .int b42, .ref b43, .ref b44, .int b45, .ref b46, .ref b47, .ref b48, .ref b49, .ref b50, .int b51, .ref b52, .ref b53, .ref b54])), (b7, .inl (G.2 3, 240, .inl b55))] (fun v w => ∃ (e0 : Int32), ∃ (e1 : Int32), v = some (.int e0) ∧ w = [(b0, .inr (12, [.int b1, .ref b2, .ref b3, .ref b4, .ref b5, .int b6, .ref b7, .int b8, .int e1, .int b10, .int b11, .ref b12, .ref b13, .ref b14, .int b15, .ref b16, .ref b17, .ref b18, .ref b19, .ref b20, .ref b21, .ref b22, .ref b23, .ref b24, .ref b25, .ref b26, .ref b27, .int b28, .ref b29, .ref b30, .int b31, .int b32, .int b33, .int b34, .ref b35, .ref b36, .ref b37, .ref b38, .ref b39, .ref b40, .ref b41, .int b42, .ref b43, .ref b44, .int b45, .ref b46, .ref b47, .ref b48, .ref b49, .ref b50, .int b51, .ref b52, .ref b53, .ref b54])), (b7, .inl (G.2 3, 240, .inl b55))] ∧ (zI e1 0 240) ∧ (e0.toInt = 0 ∨ e1.toInt < b8.toInt)) := by
  refine z_start (by decide +kernel) (Nat.le_of_ble_eq_true rfl) ?_
  intro p e s m below meth c A Z hr hnm hA hP hD hS ls hl
  have Z : zC p s m _ meth c prog_14_method_12_code 1 "TraceMachinesModel" G := Z
  obtain ⟨hx, hb, hml, hown, hts, hK, hN, hlocks⟩ := id Z
  have hl : lv_has ls 1 [(0, .ref b0)] := hl
  suffices key : ∀ (k_48 : Nat) (y_49 : Int32) (H : Heap) (locs : List Loc) (ls : Array Slot), (zI y_49 0 240) → (240 : Int) - y_49.toInt < (k_48 : Int) → va_P G.1 classes [(b0, .inr (12, [.int b1, .ref b2, .ref b3, .ref b4, .ref b5, .int b6, .ref b7, .int b8, .int y_49, .int b10, .int b11, .ref b12, .ref b13, .ref b14, .int b15, .ref b16, .ref b17, .ref b18, .ref b19, .ref b20, .ref b21, .ref b22, .ref b23, .ref b24, .ref b25, .ref b26, .ref b27, .int b28, .ref b29, .ref b30, .int b31, .int b32, .int b33, .int b34, .ref b35, .ref b36, .ref b37, .ref b38, .ref b39, .ref b40, .ref b41, .int b42, .ref b43, .ref b44, .int b45, .ref b46, .ref b47, .ref b48, .ref b49, .ref b50, .int b51, .ref b52, .ref b53, .ref b54])), (b7, .inl (G.2 3, 240, .inl b55))] H → va_D A [(b0, .inr (12, [.int b1, .ref b2, .ref b3, .ref b4, .ref b5, .int b6, .ref b7, .int b8, .int y_49, .int b10, .int b11, .ref b12, .ref b13, .ref b14, .int b15, .ref b16, .ref b17, .ref b18, .ref b19, .ref b20, .ref b21, .ref b22, .ref b23, .ref b24, .ref b25, .ref b26, .ref b27, .int b28, .ref b29, .ref b30, .int b31, .int b32, .int b33, .int b34, .ref b35, .ref b36, .ref b37, .ref b38, .ref b39, .ref b40, .ref b41, .int b42, .ref b43, .ref b44, .int b45, .ref b46, .ref b47, .ref b48, .ref b49, .ref b50, .int b51, .ref b52, .ref b53, .ref b54])), (b7, .inl (G.2 3, 240, .inl b55))] → va_S A s.heap H locs → lv_has ls 1 [(0, .ref b0)] → W p l e m_s1_Model_next s m ([.ref b0] : List Value).toArray below meth c H locs 0 0 (MQ below (zQ G (fun v w => ∃ (e0 : Int32), ∃ (e1 : Int32), v = some (.int e0) ∧ w = [(b0, .inr (12, [.int b1, .ref b2, .ref b3, .ref b4, .ref b5, .int b6, .ref b7, .int b8, .int e1, .int b10, .int b11, .ref b12, .ref b13, .ref b14, .int b15, .ref b16, .ref b17, .ref b18, .ref b19, .ref b20, .ref b21, .ref b22, .ref b23, .ref b24, .ref b25, .ref b26, .ref b27, .int b28, .ref b29, .ref b30, .int b31, .int b32, .int b33, .int b34, .ref b35, .ref b36, .ref b37, .ref b38, .ref b39, .ref b40, .ref b41, .int b42, .ref b43, .ref b44, .int b45, .ref b46, .ref b47, .ref b48, .ref b49, .ref b50, .int b51, .ref b52, .ref b53, .ref b54])), (b7, .inl (G.2 3, 240, .inl b55))] ∧ (zI e1 0 240) ∧ (e0.toInt = 0 ∨ e1.toInt < b8.toInt)) A) ([.ref b0] : List Value).toArray s m_s1_Model_next.cells m_s1_Model_next.slots A) (F0 m 0 ls []) by
    exact key 241 (b9) _ _ _ hb9 (zm_upi hb9 (by decide)) hP hD hS (lv_sub hl [0] rfl)
  intro k_48
  induction k_48 with
  | zero =>
    intro y_49 H locs ls hy_49 hmk_48 hP hD hS hl
    exact (zm_up0 hy_49 hmk_48).elim
  | succ k_48 ihk_48 =>
    intro y_49 H locs ls hy_49 hmk_48 hP hD hS hl
    refine lv_aload_n hx hb d_Model_next_0 rfl (lv_at hl 0 rfl) ?_
    refine va_get (D := G.1) (ci := 12) (v := .int y_49) (C := R_Model) (T := F_Model) (N := 54) hx hb hts i_Model hown hK hP 0 rfl rfl 8 (by decide) (hts _ q1117) (fun _ h9 => h9) rfl d_Model_next_1 ?_
    refine lv_aload_n hx hb d_Model_next_4 rfl (lv_at hl 0 rfl) ?_
    refine va_get (D := G.1) (ci := 12) (v := .int b8) (C := R_Model) (T := F_Model) (N := 54) hx hb hts i_Model hown hK hP 0 rfl rfl 7 (by decide) (hts _ q1116) (fun _ h9 => h9) rfl d_Model_next_5 ?_
    refine lv_icmp_ge (tgt := 38) hx hb d_Model_next_8 (by decide) (fun hc_50 => ?_) (fun hc_50 => ?_)
    · have _nhc_50 := hc_50
      have ni_51 := (fa_le _ _).mp hc_50
      refine lv_aload_n hx hb d_Model_next_38 rfl (lv_at hl 0 rfl) ?_
      refine va_get (D := G.1) (ci := 12) (v := .int y_49) (C := R_Model) (T := F_Model) (N := 54) hx hb hts i_Model hown hK hP 0 rfl rfl 8 (by decide) (hts _ q1117) (fun _ h9 => h9) rfl d_Model_next_39 ?_
      refine lv_aload_n hx hb d_Model_next_42 rfl (lv_at hl 0 rfl) ?_
      refine va_get (D := G.1) (ci := 12) (v := .int b8) (C := R_Model) (T := F_Model) (N := 54) hx hb hts i_Model hown hK hP 0 rfl rfl 7 (by decide) (hts _ q1116) (fun _ h9 => h9) rfl d_Model_next_43 ?_
      refine lv_icmp_ge (tgt := 61) hx hb d_Model_next_46 (by decide) (fun hc_52 => ?_) (fun hc_52 => ?_)
      · have _nhc_52 := hc_52
        have ni_53 := (fa_le _ _).mp hc_52
        refine lv_iconst (v := 0) hx hb d_Model_next_61 (by decide) ?_
        exact z_iret hx hb hr hlocks hP hD hS (Nat.le_of_ble_eq_true rfl) (Nat.le_of_ble_eq_true rfl) d_Model_next_62 ⟨0, y_49, rfl, rfl, hy_49, (by have _l := li_0; omega)⟩
      · have _nhc_52 := hc_52
        have ni_54 := (fa_lt _ _).mp (zi_nle hc_52)
        have hv_55 : zI y_49 0 239 := zI.lt_l hy_49 hb8 (zi_nle hc_52) (by decide)
        have hv_56 : zI b8 1 240 := zI.lt_r hy_49 hb8 (zi_nle hc_52) (by decide)
        refine lv_aload_n hx hb d_Model_next_49 rfl (lv_at hl 0 rfl) ?_
        refine va_get (D := G.1) (ci := 12) (v := .ref b7) (C := R_Model) (T := F_Model) (N := 54) hx hb hts i_Model hown hK hP 0 rfl rfl 6 (by decide) (hts _ q1115) (fun _ h9 => h9) rfl d_Model_next_50 ?_
        refine lv_aload_n hx hb d_Model_next_53 rfl (lv_at hl 0 rfl) ?_
        refine va_get (D := G.1) (ci := 12) (v := .int y_49) (C := R_Model) (T := F_Model) (N := 54) hx hb hts i_Model hown hK hP 0 rfl rfl 8 (by decide) (hts _ q1117) (fun _ h9 => h9) rfl d_Model_next_54 ?_
        refine va_bald hx hb hK hP 1 3 rfl rfl (zI.inn hv_55 (by decide)) d_Model_next_57 ?_
        refine lv_topi (fun v_57 ev_57 => ?_)
        refine lv_goto (tgt := 62) hx hb d_Model_next_58 (by decide) ?_
        exact z_iret hx hb hr hlocks hP hD hS (Nat.le_of_ble_eq_true rfl) (Nat.le_of_ble_eq_true rfl) d_Model_next_62 ⟨v_57, y_49, rfl, rfl, (zI.wk (l' := 0) (h' := 240) hv_55 (by decide)), (by have _l := li_0; omega)⟩
    · have _nhc_50 := hc_50
      have ni_58 := (fa_lt _ _).mp (zi_nle hc_50)
      have hv_59 : zI y_49 0 239 := zI.lt_l hy_49 hb8 (zi_nle hc_50) (by decide)
      have hv_60 : zI b8 1 240 := zI.lt_r hy_49 hb8 (zi_nle hc_50) (by decide)
      refine lv_aload_n hx hb d_Model_next_11 rfl (lv_at hl 0 rfl) ?_
      refine va_get (D := G.1) (ci := 12) (v := .ref b7) (C := R_Model) (T := F_Model) (N := 54) hx hb hts i_Model hown hK hP 0 rfl rfl 6 (by decide) (hts _ q1115) (fun _ h9 => h9) rfl d_Model_next_12 ?_
      refine lv_aload_n hx hb d_Model_next_15 rfl (lv_at hl 0 rfl) ?_
      refine va_get (D := G.1) (ci := 12) (v := .int y_49) (C := R_Model) (T := F_Model) (N := 54) hx hb hts i_Model hown hK hP 0 rfl rfl 8 (by decide) (hts _ q1117) (fun _ h9 => h9) rfl d_Model_next_16 ?_
      refine va_bald hx hb hK hP 1 3 rfl rfl (zI.inn hv_59 (by decide)) d_Model_next_19 ?_
      refine lv_topi (fun v_61 ev_61 => ?_)
      refine lv_bipush (v := 32) hx hb d_Model_next_20 (by decide) ?_
      refine lv_icmp_ne (tgt := 38) hx hb d_Model_next_22 (by decide) (fun hc_62 => ?_) (fun hc_62 => ?_)
      · have _nhc_62 := hc_62
        have ni_63 : ¬ (v_61 : Int32).toInt = (32 : Int32).toInt := fun z => hc_62 ((fa_eq _ _).mpr z)
        simp only [li_32] at ni_63
        refine lv_aload_n hx hb d_Model_next_38 rfl (lv_at hl 0 rfl) ?_
        refine va_get (D := G.1) (ci := 12) (v := .int y_49) (C := R_Model) (T := F_Model) (N := 54) hx hb hts i_Model hown hK hP 0 rfl rfl 8 (by decide) (hts _ q1117) (fun _ h9 => h9) rfl d_Model_next_39 ?_
        refine lv_aload_n hx hb d_Model_next_42 rfl (lv_at hl 0 rfl) ?_
        refine va_get (D := G.1) (ci := 12) (v := .int b8) (C := R_Model) (T := F_Model) (N := 54) hx hb hts i_Model hown hK hP 0 rfl rfl 7 (by decide) (hts _ q1116) (fun _ h9 => h9) rfl d_Model_next_43 ?_
        refine lv_icmp_ge (tgt := 61) hx hb d_Model_next_46 (by decide) (fun hc_64 => ?_) (fun hc_64 => ?_)
        · have _nhc_64 := hc_64
          have ni_65 := (fa_le _ _).mp hc_64
          have hv_66 : zI b8 1 239 := zI.le_l hv_60 hv_59 hc_64 (by decide)
          have hv_67 : zI y_49 1 239 := zI.le_r hv_60 hv_59 hc_64 (by decide)
          refine lv_iconst (v := 0) hx hb d_Model_next_61 (by decide) ?_
          exact z_iret hx hb hr hlocks hP hD hS (Nat.le_of_ble_eq_true rfl) (Nat.le_of_ble_eq_true rfl) d_Model_next_62 ⟨0, y_49, rfl, rfl, (zI.wk (l' := 0) (h' := 240) hv_67 (by decide)), (by have _l := li_0; omega)⟩
        · have _nhc_64 := hc_64
          have ni_68 := (fa_lt _ _).mp (zi_nle hc_64)
          refine lv_aload_n hx hb d_Model_next_49 rfl (lv_at hl 0 rfl) ?_
          refine va_get (D := G.1) (ci := 12) (v := .ref b7) (C := R_Model) (T := F_Model) (N := 54) hx hb hts i_Model hown hK hP 0 rfl rfl 6 (by decide) (hts _ q1115) (fun _ h9 => h9) rfl d_Model_next_50 ?_
          refine lv_aload_n hx hb d_Model_next_53 rfl (lv_at hl 0 rfl) ?_
          refine va_get (D := G.1) (ci := 12) (v := .int y_49) (C := R_Model) (T := F_Model) (N := 54) hx hb hts i_Model hown hK hP 0 rfl rfl 8 (by decide) (hts _ q1117) (fun _ h9 => h9) rfl d_Model_next_54 ?_
          refine va_bald hx hb hK hP 1 3 rfl rfl (zI.inn hv_59 (by decide)) d_Model_next_57 ?_
          refine lv_topi (fun v_69 ev_69 => ?_)
          obtain rfl : v_61 = v_69 := ev_61.trans ev_69.symm
          refine lv_goto (tgt := 62) hx hb d_Model_next_58 (by decide) ?_
          exact z_iret hx hb hr hlocks hP hD hS (Nat.le_of_ble_eq_true rfl) (Nat.le_of_ble_eq_true rfl) d_Model_next_62 ⟨v_61, y_49, rfl, rfl, (zI.wk (l' := 0) (h' := 240) hv_59 (by decide)), (by have _l := li_0; omega)⟩
      · have _nhc_62 := hc_62
        have ni_70 := (fa_eq _ _).mp hc_62
        rw [li_32] at ni_70
        have hv_71 : zI v_61 32 32 := zI.eq_l (zI_all v_61) zc_32 hc_62
        refine lv_aload_n hx hb d_Model_next_25 rfl (lv_at hl 0 rfl) ?_
        refine lv_dup hx hb d_Model_next_26 rfl ?_
        refine va_get (D := G.1) (ci := 12) (v := .int y_49) (C := R_Model) (T := F_Model) (N := 54) hx hb hts i_Model hown hK hP 0 rfl rfl 8 (by decide) (hts _ q1117) (fun _ h9 => h9) rfl d_Model_next_27 ?_
        refine lv_iconst (v := 1) hx hb d_Model_next_30 (by decide) ?_
        refine lv_iadd hx hb d_Model_next_31 ?_
        refine lv_topi (fun v_72 ev_72 => ?_)
        obtain ⟨qv_72, hv_72⟩ := zI_add (l := 1) (h := 240) hv_59 zc_1 ev_72 (by decide)
        rw [li_1] at qv_72
        refine va_put (D := G.1) (ci := 12) (v := .int v_72) (ty := .int) (C := R_Model) (T := F_Model) (N := 54) hx hb hts i_Model t_Model t_Model_ok n_Model hown hK hP hD hS 0 rfl rfl 8 (by decide) (hts _ q1117) (fun _ h9 => h9) rfl (by decide +kernel) rfl rfl (Nat.le_of_ble_eq_true rfl) d_Model_next_32 (fun H locs hP hD hS => ?_)
        have hP : va_P G.1 classes [(b0, .inr (12, [.int b1, .ref b2, .ref b3, .ref b4, .ref b5, .int b6, .ref b7, .int b8, .int v_72, .int b10, .int b11, .ref b12, .ref b13, .ref b14, .int b15, .ref b16, .ref b17, .ref b18, .ref b19, .ref b20, .ref b21, .ref b22, .ref b23, .ref b24, .ref b25, .ref b26, .ref b27, .int b28, .ref b29, .ref b30, .int b31, .int b32, .int b33, .int b34, .ref b35, .ref b36, .ref b37, .ref b38, .ref b39, .ref b40, .ref b41, .int b42, .ref b43, .ref b44, .int b45, .ref b46, .ref b47, .ref b48, .ref b49, .ref b50, .int b51, .ref b52, .ref b53, .ref b54])), (b7, .inl (G.2 3, 240, .inl b55))] H := hP
        have hD := z_tie hP hD rfl
        refine lv_goto (tgt := 0) hx hb d_Model_next_35 (by decide) ?_
        exact ihk_48 (v_72) _ _ _ (zI.wk (l' := 0) (h' := 240) hv_72 (by decide)) (zm_up qv_72 hmk_48 (by decide)) hP hD hS (lv_sub hl [0] rfl)
theorem d_Model_remember_0 : decode prog_14_method_16_code 0 = .ok (.aload_n 0, 1) := by decide +kernel
theorem d_Model_remember_1 : decode prog_14_method_16_code 1 = .ok (.getfield 179, 3) := by decide +kernel
theorem d_Model_remember_4 : decode prog_14_method_16_code 4 = .ok (.bipush 8, 2) := by decide +kernel
theorem d_Model_remember_6 : decode prog_14_method_16_code 6 = .ok (.if_icmp .ne 49, 3) := by decide +kernel
theorem d_Model_remember_9 : decode prog_14_method_16_code 9 = .ok (.aload_n 0, 1) := by decide +kernel
theorem d_Model_remember_10 : decode prog_14_method_16_code 10 = .ok (.dup, 1) := by decide +kernel
theorem d_Model_remember_11 : decode prog_14_method_16_code 11 = .ok (.getfield 179, 3) := by decide +kernel
theorem d_Model_remember_14 : decode prog_14_method_16_code 14 = .ok (.iconst 1, 1) := by decide +kernel
theorem d_Model_remember_15 : decode prog_14_method_16_code 15 = .ok (.isub, 1) := by decide +kernel
theorem d_Model_remember_16 : decode prog_14_method_16_code 16 = .ok (.putfield 179, 3) := by decide +kernel
theorem d_Model_remember_19 : decode prog_14_method_16_code 19 = .ok (.iconst 0, 1) := by decide +kernel
theorem d_Model_remember_20 : decode prog_14_method_16_code 20 = .ok (.istore_n 1, 1) := by decide +kernel
theorem d_Model_remember_21 : decode prog_14_method_16_code 21 = .ok (.iload_n 1, 1) := by decide +kernel
theorem d_Model_remember_22 : decode prog_14_method_16_code 22 = .ok (.sipush 503, 3) := by decide +kernel
theorem d_Model_remember_25 : decode prog_14_method_16_code 25 = .ok (.aload_n 0, 1) := by decide +kernel
theorem d_Model_remember_26 : decode prog_14_method_16_code 26 = .ok (.getfield 179, 3) := by decide +kernel
theorem d_Model_remember_29 : decode prog_14_method_16_code 29 = .ok (.imul, 1) := by decide +kernel
theorem d_Model_remember_30 : decode prog_14_method_16_code 30 = .ok (.if_icmp .ge 25, 3) := by decide +kernel
theorem d_Model_remember_33 : decode prog_14_method_16_code 33 = .ok (.aload_n 0, 1) := by decide +kernel
theorem d_Model_remember_34 : decode prog_14_method_16_code 34 = .ok (.getfield 24, 3) := by decide +kernel
theorem d_Model_remember_37 : decode prog_14_method_16_code 37 = .ok (.iload_n 1, 1) := by decide +kernel
theorem d_Model_remember_38 : decode prog_14_method_16_code 38 = .ok (.aload_n 0, 1) := by decide +kernel
theorem d_Model_remember_39 : decode prog_14_method_16_code 39 = .ok (.getfield 24, 3) := by decide +kernel
theorem d_Model_remember_42 : decode prog_14_method_16_code 42 = .ok (.iload_n 1, 1) := by decide +kernel
theorem d_Model_remember_43 : decode prog_14_method_16_code 43 = .ok (.sipush 503, 3) := by decide +kernel
theorem d_Model_remember_46 : decode prog_14_method_16_code 46 = .ok (.iadd, 1) := by decide +kernel
theorem d_Model_remember_47 : decode prog_14_method_16_code 47 = .ok (.iaload, 1) := by decide +kernel
theorem d_Model_remember_48 : decode prog_14_method_16_code 48 = .ok (.iastore, 1) := by decide +kernel
theorem d_Model_remember_49 : decode prog_14_method_16_code 49 = .ok (.iinc 1 1, 3) := by decide +kernel
theorem d_Model_remember_52 : decode prog_14_method_16_code 52 = .ok (.goto (-31), 3) := by decide +kernel
theorem d_Model_remember_55 : decode prog_14_method_16_code 55 = .ok (.iconst 0, 1) := by decide +kernel
theorem d_Model_remember_56 : decode prog_14_method_16_code 56 = .ok (.istore_n 1, 1) := by decide +kernel
theorem d_Model_remember_57 : decode prog_14_method_16_code 57 = .ok (.iload_n 1, 1) := by decide +kernel
theorem d_Model_remember_58 : decode prog_14_method_16_code 58 = .ok (.sipush 503, 3) := by decide +kernel
theorem d_Model_remember_61 : decode prog_14_method_16_code 61 = .ok (.if_icmp .ge 30, 3) := by decide +kernel
theorem d_Model_remember_64 : decode prog_14_method_16_code 64 = .ok (.aload_n 0, 1) := by decide +kernel
theorem d_Model_remember_65 : decode prog_14_method_16_code 65 = .ok (.getfield 24, 3) := by decide +kernel
theorem d_Model_remember_68 : decode prog_14_method_16_code 68 = .ok (.sipush 503, 3) := by decide +kernel
theorem d_Model_remember_71 : decode prog_14_method_16_code 71 = .ok (.aload_n 0, 1) := by decide +kernel
theorem d_Model_remember_72 : decode prog_14_method_16_code 72 = .ok (.getfield 179, 3) := by decide +kernel
theorem d_Model_remember_75 : decode prog_14_method_16_code 75 = .ok (.imul, 1) := by decide +kernel
theorem d_Model_remember_76 : decode prog_14_method_16_code 76 = .ok (.iload_n 1, 1) := by decide +kernel
theorem d_Model_remember_77 : decode prog_14_method_16_code 77 = .ok (.iadd, 1) := by decide +kernel
theorem d_Model_remember_78 : decode prog_14_method_16_code 78 = .ok (.aload_n 0, 1) := by decide +kernel
theorem d_Model_remember_79 : decode prog_14_method_16_code 79 = .ok (.getfield 13, 3) := by decide +kernel
theorem d_Model_remember_82 : decode prog_14_method_16_code 82 = .ok (.iload_n 1, 1) := by decide +kernel
theorem d_Model_remember_83 : decode prog_14_method_16_code 83 = .ok (.iaload, 1) := by decide +kernel
theorem d_Model_remember_84 : decode prog_14_method_16_code 84 = .ok (.iastore, 1) := by decide +kernel
theorem d_Model_remember_85 : decode prog_14_method_16_code 85 = .ok (.iinc 1 1, 3) := by decide +kernel
theorem d_Model_remember_88 : decode prog_14_method_16_code 88 = .ok (.goto (-31), 3) := by decide +kernel
theorem d_Model_remember_91 : decode prog_14_method_16_code 91 = .ok (.aload_n 0, 1) := by decide +kernel
theorem d_Model_remember_92 : decode prog_14_method_16_code 92 = .ok (.dup, 1) := by decide +kernel
theorem d_Model_remember_93 : decode prog_14_method_16_code 93 = .ok (.getfield 179, 3) := by decide +kernel
theorem d_Model_remember_96 : decode prog_14_method_16_code 96 = .ok (.iconst 1, 1) := by decide +kernel
theorem d_Model_remember_97 : decode prog_14_method_16_code 97 = .ok (.iadd, 1) := by decide +kernel
theorem d_Model_remember_98 : decode prog_14_method_16_code 98 = .ok (.putfield 179, 3) := by decide +kernel
theorem d_Model_remember_101 : decode prog_14_method_16_code 101 = .ok (.return_, 1) := by decide +kernel
theorem zc_8 : zI 8 8 8 := ⟨by decide +kernel, by decide +kernel⟩
theorem li_8 : (8 : Int32).toInt = 8 := by decide +kernel
theorem zc_503 : zI 503 503 503 := ⟨by decide +kernel, by decide +kernel⟩
theorem li_503 : (503 : Int32).toInt = 503 := by decide +kernel
abbrev m_s1_Model_remember : Room := { frames := 0, cells := 0, slots := 0, locals := 0 }
set_option maxHeartbeats 4000000 in
set_option maxRecDepth 100000 in
theorem s1_Model_remember (l : Launch) (G : zG) (b0 : Nat) (b1 : Int32) (b2 : Nat) (b3 : Nat) (b4 : Nat) (b5 : Nat) (b6 : Int32) (b7 : Nat) (b8 : Int32) (b9 : Int32) (b10 : Int32) (b11 : Int32) (b12 : Nat) (b13 : Nat) (b14 : Nat) (b15 : Int32) (b16 : Nat) (b17 : Nat) (b18 : Nat) (b19 : Nat) (b20 : Nat) (b21 : Nat) (b22 : Nat) (b23 : Nat) (b24 : Nat) (b25 : Nat) (b26 : Nat) (b27 : Nat) (b28 : Int32) (b29 : Nat) (b30 : Nat) (b31 : Int32) (b32 : Int32) (b33 : Int32) (b34 : Int32) (b35 : Nat) (b36 : Nat) (b37 : Nat) (b38 : Nat) (b39 : Nat) (b40 : Nat) (b41 : Nat) (b42 : Int32) (b43 : Nat) (b44 : Nat) (b45 : Int32) (b46 : Nat) (b47 : Nat) (b48 : Nat) (b49 : Nat) (b50 : Nat) (b51 : Int32) (b52 : Nat) (b53 : Nat) (b54 : Nat) (b55 : Nat → Int32) (b56 : Nat → Int32) (hb6 : zI b6 0 8) (hb8 : zI b8 0 240) (hb9 : zI b9 0 240) (hb11 : zI b11 0 1) (hb15 : zI b15 0 12) (hb28 : zI b28 0 1) (hb31 : zI b31 0 1) (hb55 : zW5 b55) (hb56 : zW5 b56) : zM l G y_Model_remember prog_14_method_16_code 2 (Option.none : Option Jvm.ClassFile.FieldType) m_s1_Model_remember [.ref b0] [(b0, .inr (12, [.int b1, .ref b2, .ref b3, .ref b4, .ref b5, .int b6, .ref b7, .int b8, .int b9, .int b10, .int b11, .ref b12, .ref b13, .ref b14, .int b15, .ref b16, .ref b17, .ref b18, .ref b19, .ref b20, .ref b21, .ref b22, .ref b23, .ref b24, .ref b25, .ref b26, .ref b27, .int b28, .ref b29, .ref b30, .int b31, .int b32, .int b33, .int b34, .ref b35, .ref b36, .ref b37, .ref b38, .ref b39, .ref b40, .ref b41, .int b42, .ref b43, .ref b44, .int b45, .ref b46, .ref b47, .ref b48, .ref b49, .ref b50, .int b51, .ref b52, .ref b53, .ref b54])), (b2, .inl (G.2 0, 503, .inl b55)), (b5, .inl (G.2 0, 4024, .inl b56))] (fun v w => ∃ (e0 : Int32), ∃ (e1 : Nat → Int32), v = none ∧ w = [(b0, .inr (12, [.int b1, .ref b2, .ref b3, .ref b4, .ref b5, .int e0, .ref b7, .int b8, .int b9, .int b10, .int b11, .ref b12, .ref b13, .ref b14, .int b15, .ref b16, .ref b17, .ref b18, .ref b19, .ref b20, .ref b21, .ref b22, .ref b23, .ref b24, .ref b25, .ref b26, .ref b27, .int b28, .ref b29, .ref b30, .int b31, .int b32, .int b33, .int b34, .ref b35, .ref b36, .ref b37, .ref b38, .ref b39, .ref b40, .ref b41, .int b42, .ref b43, .ref b44, .int b45, .ref b46, .ref b47, .ref b48, .ref b49, .ref b50, .int b51, .ref b52, .ref b53, .ref b54])), (b2, .inl (G.2 0, 503, .inl b55)), (b5, .inl (G.2 0, 4024, .inl e1))] ∧ (zI e0 0 8) ∧ (zW5 e1)) := by
  refine z_start (by decide +kernel) (Nat.le_of_ble_eq_true rfl) ?_
  intro p e s m below meth c A Z hr hnm hA hP hD hS ls hl
  have Z : zC p s m _ meth c prog_14_method_16_code 2 "TraceMachinesModel" G := Z
  obtain ⟨hx, hb, hml, hown, hts, hK, hN, hlocks⟩ := id Z
  have hl : lv_has ls 2 [(0, .ref b0)] := hl
  refine lv_aload_n hx hb d_Model_remember_0 rfl (lv_at hl 0 rfl) ?_
  refine va_get (D := G.1) (ci := 12) (v := .int b6) (C := R_Model) (T := F_Model) (N := 54) hx hb hts i_Model hown hK hP 0 rfl rfl 5 (by decide) (hts _ q1114) (fun _ h9 => h9) rfl d_Model_remember_1 ?_
  refine lv_bipush (v := 8) hx hb d_Model_remember_4 (by decide) ?_
  refine lv_icmp_ne (tgt := 55) hx hb d_Model_remember_6 (by decide) (fun hc_1 => ?_) (fun hc_1 => ?_)
  · have _nhc_1 := hc_1
    have ni_2 : ¬ (b6 : Int32).toInt = (8 : Int32).toInt := fun z => hc_1 ((fa_eq _ _).mpr z)
    simp only [li_8] at ni_2
    have hv_3 : zI b6 0 7 := zI.ne_hi hb6 zc_8 hc_1 (by decide)
    refine lv_iconst (v := 0) hx hb d_Model_remember_55 (by decide) ?_
    refine lv_istore_n (lv' := [(1, .int 0), (0, .ref b0)]) hx hb d_Model_remember_56 rfl hl (by decide) rfl (fun ls hl => ?_)
    suffices key : ∀ (k_97 : Nat) (y_98 : Int32) (y_99 : Nat → Int32) (H : Heap) (locs : List Loc) (ls : Array Slot), (zI y_98 0 503) → (zW5 y_99) → (503 : Int) - y_98.toInt < (k_97 : Int) → va_P G.1 classes [(b0, .inr (12, [.int b1, .ref b2, .ref b3, .ref b4, .ref b5, .int b6, .ref b7, .int b8, .int b9, .int b10, .int b11, .ref b12, .ref b13, .ref b14, .int b15, .ref b16, .ref b17, .ref b18, .ref b19, .ref b20, .ref b21, .ref b22, .ref b23, .ref b24, .ref b25, .ref b26, .ref b27, .int b28, .ref b29, .ref b30, .int b31, .int b32, .int b33, .int b34, .ref b35, .ref b36, .ref b37, .ref b38, .ref b39, .ref b40, .ref b41, .int b42, .ref b43, .ref b44, .int b45, .ref b46, .ref b47, .ref b48, .ref b49, .ref b50, .int b51, .ref b52, .ref b53, .ref b54])), (b2, .inl (G.2 0, 503, .inl b55)), (b5, .inl (G.2 0, 4024, .inl y_99))] H → va_D A [(b0, .inr (12, [.int b1, .ref b2, .ref b3, .ref b4, .ref b5, .int b6, .ref b7, .int b8, .int b9, .int b10, .int b11, .ref b12, .ref b13, .ref b14, .int b15, .ref b16, .ref b17, .ref b18, .ref b19, .ref b20, .ref b21, .ref b22, .ref b23, .ref b24, .ref b25, .ref b26, .ref b27, .int b28, .ref b29, .ref b30, .int b31, .int b32, .int b33, .int b34, .ref b35, .ref b36, .ref b37, .ref b38, .ref b39, .ref b40, .ref b41, .int b42, .ref b43, .ref b44, .int b45, .ref b46, .ref b47, .ref b48, .ref b49, .ref b50, .int b51, .ref b52, .ref b53, .ref b54])), (b2, .inl (G.2 0, 503, .inl b55)), (b5, .inl (G.2 0, 4024, .inl y_99))] → va_S A s.heap H locs → lv_has ls 2 [(1, .int y_98), (0, .ref b0)] → W p l e m_s1_Model_remember s m ([.ref b0] : List Value).toArray below meth c H locs 0 0 (MQ below (zQ G (fun v w => ∃ (e0 : Int32), ∃ (e1 : Nat → Int32), v = none ∧ w = [(b0, .inr (12, [.int b1, .ref b2, .ref b3, .ref b4, .ref b5, .int e0, .ref b7, .int b8, .int b9, .int b10, .int b11, .ref b12, .ref b13, .ref b14, .int b15, .ref b16, .ref b17, .ref b18, .ref b19, .ref b20, .ref b21, .ref b22, .ref b23, .ref b24, .ref b25, .ref b26, .ref b27, .int b28, .ref b29, .ref b30, .int b31, .int b32, .int b33, .int b34, .ref b35, .ref b36, .ref b37, .ref b38, .ref b39, .ref b40, .ref b41, .int b42, .ref b43, .ref b44, .int b45, .ref b46, .ref b47, .ref b48, .ref b49, .ref b50, .int b51, .ref b52, .ref b53, .ref b54])), (b2, .inl (G.2 0, 503, .inl b55)), (b5, .inl (G.2 0, 4024, .inl e1))] ∧ (zI e0 0 8) ∧ (zW5 e1)) A) ([.ref b0] : List Value).toArray s m_s1_Model_remember.cells m_s1_Model_remember.slots A) (F0 m 57 ls []) by
      exact key 504 (0) (b56) _ _ _ (zI.wk (l' := 0) (h' := 503) zc_0 (by decide)) hb56 (zm_upi (zI.wk (l' := 0) (h' := 503) zc_0 (by decide)) (by decide)) hP hD hS (lv_sub hl [0, 1] rfl)
    intro k_97
    induction k_97 with
    | zero =>
      intro y_98 y_99 H locs ls hy_98 hy_99 hmk_97 hP hD hS hl
      exact (zm_up0 hy_98 hmk_97).elim
    | succ k_97 ihk_97 =>
      intro y_98 y_99 H locs ls hy_98 hy_99 hmk_97 hP hD hS hl
      refine lv_iload_n hx hb d_Model_remember_57 rfl (lv_at hl 0 rfl) ?_
      refine lv_sipush (v := 503) hx hb d_Model_remember_58 (by decide) ?_
      refine lv_icmp_ge (tgt := 91) hx hb d_Model_remember_61 (by decide) (fun hc_100 => ?_) (fun hc_100 => ?_)
      · have _nhc_100 := hc_100
        have ni_101 := (fa_le _ _).mp hc_100
        rw [li_503] at ni_101
        have hv_102 : zI y_98 503 503 := zI.le_r zc_503 hy_98 hc_100 (by decide)
        refine lv_aload_n hx hb d_Model_remember_91 rfl (lv_at hl 1 rfl) ?_
        refine lv_dup hx hb d_Model_remember_92 rfl ?_
        refine va_get (D := G.1) (ci := 12) (v := .int b6) (C := R_Model) (T := F_Model) (N := 54) hx hb hts i_Model hown hK hP 0 rfl rfl 5 (by decide) (hts _ q1114) (fun _ h9 => h9) rfl d_Model_remember_93 ?_
        refine lv_iconst (v := 1) hx hb d_Model_remember_96 (by decide) ?_
        refine lv_iadd hx hb d_Model_remember_97 ?_
        refine lv_topi (fun v_103 ev_103 => ?_)
        obtain ⟨qv_103, hv_103⟩ := zI_add (l := 1) (h := 8) hv_3 zc_1 ev_103 (by decide)
        rw [li_1] at qv_103
        refine va_put (D := G.1) (ci := 12) (v := .int v_103) (ty := .int) (C := R_Model) (T := F_Model) (N := 54) hx hb hts i_Model t_Model t_Model_ok n_Model hown hK hP hD hS 0 rfl rfl 5 (by decide) (hts _ q1114) (fun _ h9 => h9) rfl (by decide +kernel) rfl rfl (Nat.le_of_ble_eq_true rfl) d_Model_remember_98 (fun H locs hP hD hS => ?_)
        have hP : va_P G.1 classes [(b0, .inr (12, [.int b1, .ref b2, .ref b3, .ref b4, .ref b5, .int v_103, .ref b7, .int b8, .int b9, .int b10, .int b11, .ref b12, .ref b13, .ref b14, .int b15, .ref b16, .ref b17, .ref b18, .ref b19, .ref b20, .ref b21, .ref b22, .ref b23, .ref b24, .ref b25, .ref b26, .ref b27, .int b28, .ref b29, .ref b30, .int b31, .int b32, .int b33, .int b34, .ref b35, .ref b36, .ref b37, .ref b38, .ref b39, .ref b40, .ref b41, .int b42, .ref b43, .ref b44, .int b45, .ref b46, .ref b47, .ref b48, .ref b49, .ref b50, .int b51, .ref b52, .ref b53, .ref b54])), (b2, .inl (G.2 0, 503, .inl b55)), (b5, .inl (G.2 0, 4024, .inl y_99))] H := hP
        have hD := z_tie hP hD rfl
        exact z_vret hx hb hr hlocks hP hD hS (Nat.le_of_ble_eq_true rfl) (Nat.le_of_ble_eq_true rfl) d_Model_remember_101 ⟨v_103, y_99, rfl, rfl, (zI.wk (l' := 0) (h' := 8) hv_103 (by decide)), hy_99⟩
      · have _nhc_100 := hc_100
        have ni_104 := (fa_lt _ _).mp (zi_nle hc_100)
        rw [li_503] at ni_104
        have hv_105 : zI y_98 0 502 := zI.lt_l hy_98 zc_503 (zi_nle hc_100) (by decide)
        refine lv_aload_n hx hb d_Model_remember_64 rfl (lv_at hl 1 rfl) ?_
        refine va_get (D := G.1) (ci := 12) (v := .ref b5) (C := R_Model) (T := F_Model) (N := 54) hx hb hts i_Model hown hK hP 0 rfl rfl 4 (by decide) (hts _ q1113) (fun _ h9 => h9) rfl d_Model_remember_65 ?_
        refine lv_sipush (v := 503) hx hb d_Model_remember_68 (by decide) ?_
        refine lv_aload_n hx hb d_Model_remember_71 rfl (lv_at hl 1 rfl) ?_
        refine va_get (D := G.1) (ci := 12) (v := .int b6) (C := R_Model) (T := F_Model) (N := 54) hx hb hts i_Model hown hK hP 0 rfl rfl 5 (by decide) (hts _ q1114) (fun _ h9 => h9) rfl d_Model_remember_72 ?_
        refine lv_imul hx hb d_Model_remember_75 ?_
        refine lv_topi (fun v_106 ev_106 => ?_)
        obtain ⟨qv_106, hv_106⟩ := zI_mul (l := 0) (h := 3521) zc_503 hv_3 ev_106 (by decide)
        rw [li_503] at qv_106
        refine lv_iload_n hx hb d_Model_remember_76 rfl (lv_at hl 0 rfl) ?_
        refine lv_iadd hx hb d_Model_remember_77 ?_
        refine lv_topi (fun v_107 ev_107 => ?_)
        obtain ⟨qv_107, hv_107⟩ := zI_add (l := 0) (h := 4023) hv_106 hv_105 ev_107 (by decide)
        refine lv_aload_n hx hb d_Model_remember_78 rfl (lv_at hl 1 rfl) ?_
        refine va_get (D := G.1) (ci := 12) (v := .ref b2) (C := R_Model) (T := F_Model) (N := 54) hx hb hts i_Model hown hK hP 0 rfl rfl 1 (by decide) (hts _ q1110) (fun _ h9 => h9) rfl d_Model_remember_79 ?_
        refine lv_iload_n hx hb d_Model_remember_82 rfl (lv_at hl 0 rfl) ?_
        refine va_iald hx hb hK hP 1 0 rfl rfl (zI.inn hv_105 (by decide)) d_Model_remember_83 ?_
        refine lv_topi (fun v_108 ev_108 => ?_)
        refine va_iast hx hb hK hP hD hS 2 0 rfl rfl (zI.inn hv_107 (by decide)) d_Model_remember_84 (fun H locs hP hD hS => ?_)
        obtain ⟨f_109, hf_109, gf_109, uf_109, hP, hD⟩ := z_newfw 2 hP hD rfl hy_99 (zRk_s hb55 ev_108 hv_105 hv_107 (by decide) (by omega))
        have hP : va_P G.1 classes [(b0, .inr (12, [.int b1, .ref b2, .ref b3, .ref b4, .ref b5, .int b6, .ref b7, .int b8, .int b9, .int b10, .int b11, .ref b12, .ref b13, .ref b14, .int b15, .ref b16, .ref b17, .ref b18, .ref b19, .ref b20, .ref b21, .ref b22, .ref b23, .ref b24, .ref b25, .ref b26, .ref b27, .int b28, .ref b29, .ref b30, .int b31, .int b32, .int b33, .int b34, .ref b35, .ref b36, .ref b37, .ref b38, .ref b39, .ref b40, .ref b41, .int b42, .ref b43, .ref b44, .int b45, .ref b46, .ref b47, .ref b48, .ref b49, .ref b50, .int b51, .ref b52, .ref b53, .ref b54])), (b2, .inl (G.2 0, 503, .inl b55)), (b5, .inl (G.2 0, 4024, .inl f_109))] H := hP
        have hD := z_tie hP hD rfl
        obtain ⟨v_110, ev_110⟩ : ∃ z : Int32, z = y_98 + 1 := ⟨_, rfl⟩
        obtain ⟨qv_110, hv_110⟩ := zI_add (l := 1) (h := 503) hv_105 zc_1 ev_110 (by decide)
        rw [li_1] at qv_110
        refine lv_iinc (v := v_110) (lv' := [(1, .int v_110), (0, .ref b0)]) hx hb d_Model_remember_85 hl (k := 0) rfl (by rw [ev_110]; rfl) (by decide) rfl (fun ls hl => ?_)
        refine lv_goto (tgt := 57) hx hb d_Model_remember_88 (by decide) ?_
        exact ihk_97 (v_110) (f_109) _ _ _ (zI.wk (l' := 0) (h' := 503) hv_110 (by decide)) hf_109 (zm_up qv_110 hmk_97 (by decide)) hP hD hS (lv_sub hl [0, 1] rfl)
  · have _nhc_1 := hc_1
    have ni_111 := (fa_eq _ _).mp hc_1
    rw [li_8] at ni_111
    have hv_112 : zI b6 8 8 := zI.eq_l hb6 zc_8 hc_1
    refine lv_aload_n hx hb d_Model_remember_9 rfl (lv_at hl 0 rfl) ?_
    refine lv_dup hx hb d_Model_remember_10 rfl ?_
    refine va_get (D := G.1) (ci := 12) (v := .int b6) (C := R_Model) (T := F_Model) (N := 54) hx hb hts i_Model hown hK hP 0 rfl rfl 5 (by decide) (hts _ q1114) (fun _ h9 => h9) rfl d_Model_remember_11 ?_
    refine lv_iconst (v := 1) hx hb d_Model_remember_14 (by decide) ?_
    refine lv_isub hx hb d_Model_remember_15 ?_
    refine lv_topi (fun v_113 ev_113 => ?_)
    obtain ⟨qv_113, hv_113⟩ := zI_sub (l := 7) (h := 7) hv_112 zc_1 ev_113 (by decide)
    rw [li_1] at qv_113
    refine va_put (D := G.1) (ci := 12) (v := .int v_113) (ty := .int) (C := R_Model) (T := F_Model) (N := 54) hx hb hts i_Model t_Model t_Model_ok n_Model hown hK hP hD hS 0 rfl rfl 5 (by decide) (hts _ q1114) (fun _ h9 => h9) rfl (by decide +kernel) rfl rfl (Nat.le_of_ble_eq_true rfl) d_Model_remember_16 (fun H locs hP hD hS => ?_)
    have hP : va_P G.1 classes [(b0, .inr (12, [.int b1, .ref b2, .ref b3, .ref b4, .ref b5, .int v_113, .ref b7, .int b8, .int b9, .int b10, .int b11, .ref b12, .ref b13, .ref b14, .int b15, .ref b16, .ref b17, .ref b18, .ref b19, .ref b20, .ref b21, .ref b22, .ref b23, .ref b24, .ref b25, .ref b26, .ref b27, .int b28, .ref b29, .ref b30, .int b31, .int b32, .int b33, .int b34, .ref b35, .ref b36, .ref b37, .ref b38, .ref b39, .ref b40, .ref b41, .int b42, .ref b43, .ref b44, .int b45, .ref b46, .ref b47, .ref b48, .ref b49, .ref b50, .int b51, .ref b52, .ref b53, .ref b54])), (b2, .inl (G.2 0, 503, .inl b55)), (b5, .inl (G.2 0, 4024, .inl b56))] H := hP
    have hD := z_tie hP hD rfl
    refine lv_iconst (v := 0) hx hb d_Model_remember_19 (by decide) ?_
    refine lv_istore_n (lv' := [(1, .int 0), (0, .ref b0)]) hx hb d_Model_remember_20 rfl hl (by decide) rfl (fun ls hl => ?_)
    suffices key : ∀ (k_430 : Nat) (y_431 : Int32) (y_432 : Nat → Int32) (H : Heap) (locs : List Loc) (ls : Array Slot), (zI y_431 0 3521) → (zW5 y_432) → (3521 : Int) - y_431.toInt < (k_430 : Int) → va_P G.1 classes [(b0, .inr (12, [.int b1, .ref b2, .ref b3, .ref b4, .ref b5, .int v_113, .ref b7, .int b8, .int b9, .int b10, .int b11, .ref b12, .ref b13, .ref b14, .int b15, .ref b16, .ref b17, .ref b18, .ref b19, .ref b20, .ref b21, .ref b22, .ref b23, .ref b24, .ref b25, .ref b26, .ref b27, .int b28, .ref b29, .ref b30, .int b31, .int b32, .int b33, .int b34, .ref b35, .ref b36, .ref b37, .ref b38, .ref b39, .ref b40, .ref b41, .int b42, .ref b43, .ref b44, .int b45, .ref b46, .ref b47, .ref b48, .ref b49, .ref b50, .int b51, .ref b52, .ref b53, .ref b54])), (b2, .inl (G.2 0, 503, .inl b55)), (b5, .inl (G.2 0, 4024, .inl y_432))] H → va_D A [(b0, .inr (12, [.int b1, .ref b2, .ref b3, .ref b4, .ref b5, .int v_113, .ref b7, .int b8, .int b9, .int b10, .int b11, .ref b12, .ref b13, .ref b14, .int b15, .ref b16, .ref b17, .ref b18, .ref b19, .ref b20, .ref b21, .ref b22, .ref b23, .ref b24, .ref b25, .ref b26, .ref b27, .int b28, .ref b29, .ref b30, .int b31, .int b32, .int b33, .int b34, .ref b35, .ref b36, .ref b37, .ref b38, .ref b39, .ref b40, .ref b41, .int b42, .ref b43, .ref b44, .int b45, .ref b46, .ref b47, .ref b48, .ref b49, .ref b50, .int b51, .ref b52, .ref b53, .ref b54])), (b2, .inl (G.2 0, 503, .inl b55)), (b5, .inl (G.2 0, 4024, .inl y_432))] → va_S A s.heap H locs → lv_has ls 2 [(1, .int y_431), (0, .ref b0)] → W p l e m_s1_Model_remember s m ([.ref b0] : List Value).toArray below meth c H locs 0 0 (MQ below (zQ G (fun v w => ∃ (e0 : Int32), ∃ (e1 : Nat → Int32), v = none ∧ w = [(b0, .inr (12, [.int b1, .ref b2, .ref b3, .ref b4, .ref b5, .int e0, .ref b7, .int b8, .int b9, .int b10, .int b11, .ref b12, .ref b13, .ref b14, .int b15, .ref b16, .ref b17, .ref b18, .ref b19, .ref b20, .ref b21, .ref b22, .ref b23, .ref b24, .ref b25, .ref b26, .ref b27, .int b28, .ref b29, .ref b30, .int b31, .int b32, .int b33, .int b34, .ref b35, .ref b36, .ref b37, .ref b38, .ref b39, .ref b40, .ref b41, .int b42, .ref b43, .ref b44, .int b45, .ref b46, .ref b47, .ref b48, .ref b49, .ref b50, .int b51, .ref b52, .ref b53, .ref b54])), (b2, .inl (G.2 0, 503, .inl b55)), (b5, .inl (G.2 0, 4024, .inl e1))] ∧ (zI e0 0 8) ∧ (zW5 e1)) A) ([.ref b0] : List Value).toArray s m_s1_Model_remember.cells m_s1_Model_remember.slots A) (F0 m 21 ls []) by
      exact key 3522 (0) (b56) _ _ _ (zI.wk (l' := 0) (h' := 3521) zc_0 (by decide)) hb56 (zm_upi (zI.wk (l' := 0) (h' := 3521) zc_0 (by decide)) (by decide)) hP hD hS (lv_sub hl [0, 1] rfl)
    intro k_430
    induction k_430 with
    | zero =>
      intro y_431 y_432 H locs ls hy_431 hy_432 hmk_430 hP hD hS hl
      exact (zm_up0 hy_431 hmk_430).elim
    | succ k_430 ihk_430 =>
      intro y_431 y_432 H locs ls hy_431 hy_432 hmk_430 hP hD hS hl
      refine lv_iload_n hx hb d_Model_remember_21 rfl (lv_at hl 0 rfl) ?_
      refine lv_sipush (v := 503) hx hb d_Model_remember_22 (by decide) ?_
      refine lv_aload_n hx hb d_Model_remember_25 rfl (lv_at hl 1 rfl) ?_
      refine va_get (D := G.1) (ci := 12) (v := .int v_113) (C := R_Model) (T := F_Model) (N := 54) hx hb hts i_Model hown hK hP 0 rfl rfl 5 (by decide) (hts _ q1114) (fun _ h9 => h9) rfl d_Model_remember_26 ?_
      refine lv_imul hx hb d_Model_remember_29 ?_
      refine lv_topi (fun v_433 ev_433 => ?_)
      obtain ⟨qv_433, hv_433⟩ := zI_mul (l := 3521) (h := 3521) zc_503 hv_113 ev_433 (by decide)
      rw [li_503] at qv_433
      refine lv_icmp_ge (tgt := 55) hx hb d_Model_remember_30 (by decide) (fun hc_434 => ?_) (fun hc_434 => ?_)
      · have _nhc_434 := hc_434
        have ni_435 := (fa_le _ _).mp hc_434
        have hv_436 : zI y_431 3521 3521 := zI.le_r hv_433 hy_431 hc_434 (by decide)
        refine lv_iconst (v := 0) hx hb d_Model_remember_55 (by decide) ?_
        refine lv_istore_n (lv' := [(1, .int 0), (0, .ref b0)]) hx hb d_Model_remember_56 rfl hl (by decide) rfl (fun ls hl => ?_)
        suffices key : ∀ (k_530 : Nat) (y_531 : Int32) (y_532 : Nat → Int32) (H : Heap) (locs : List Loc) (ls : Array Slot), (zI y_531 0 503) → (zW5 y_532) → (503 : Int) - y_531.toInt < (k_530 : Int) → va_P G.1 classes [(b0, .inr (12, [.int b1, .ref b2, .ref b3, .ref b4, .ref b5, .int v_113, .ref b7, .int b8, .int b9, .int b10, .int b11, .ref b12, .ref b13, .ref b14, .int b15, .ref b16, .ref b17, .ref b18, .ref b19, .ref b20, .ref b21, .ref b22, .ref b23, .ref b24, .ref b25, .ref b26, .ref b27, .int b28, .ref b29, .ref b30, .int b31, .int b32, .int b33, .int b34, .ref b35, .ref b36, .ref b37, .ref b38, .ref b39, .ref b40, .ref b41, .int b42, .ref b43, .ref b44, .int b45, .ref b46, .ref b47, .ref b48, .ref b49, .ref b50, .int b51, .ref b52, .ref b53, .ref b54])), (b2, .inl (G.2 0, 503, .inl b55)), (b5, .inl (G.2 0, 4024, .inl y_532))] H → va_D A [(b0, .inr (12, [.int b1, .ref b2, .ref b3, .ref b4, .ref b5, .int v_113, .ref b7, .int b8, .int b9, .int b10, .int b11, .ref b12, .ref b13, .ref b14, .int b15, .ref b16, .ref b17, .ref b18, .ref b19, .ref b20, .ref b21, .ref b22, .ref b23, .ref b24, .ref b25, .ref b26, .ref b27, .int b28, .ref b29, .ref b30, .int b31, .int b32, .int b33, .int b34, .ref b35, .ref b36, .ref b37, .ref b38, .ref b39, .ref b40, .ref b41, .int b42, .ref b43, .ref b44, .int b45, .ref b46, .ref b47, .ref b48, .ref b49, .ref b50, .int b51, .ref b52, .ref b53, .ref b54])), (b2, .inl (G.2 0, 503, .inl b55)), (b5, .inl (G.2 0, 4024, .inl y_532))] → va_S A s.heap H locs → lv_has ls 2 [(1, .int y_531), (0, .ref b0)] → W p l e m_s1_Model_remember s m ([.ref b0] : List Value).toArray below meth c H locs 0 0 (MQ below (zQ G (fun v w => ∃ (e0 : Int32), ∃ (e1 : Nat → Int32), v = none ∧ w = [(b0, .inr (12, [.int b1, .ref b2, .ref b3, .ref b4, .ref b5, .int e0, .ref b7, .int b8, .int b9, .int b10, .int b11, .ref b12, .ref b13, .ref b14, .int b15, .ref b16, .ref b17, .ref b18, .ref b19, .ref b20, .ref b21, .ref b22, .ref b23, .ref b24, .ref b25, .ref b26, .ref b27, .int b28, .ref b29, .ref b30, .int b31, .int b32, .int b33, .int b34, .ref b35, .ref b36, .ref b37, .ref b38, .ref b39, .ref b40, .ref b41, .int b42, .ref b43, .ref b44, .int b45, .ref b46, .ref b47, .ref b48, .ref b49, .ref b50, .int b51, .ref b52, .ref b53, .ref b54])), (b2, .inl (G.2 0, 503, .inl b55)), (b5, .inl (G.2 0, 4024, .inl e1))] ∧ (zI e0 0 8) ∧ (zW5 e1)) A) ([.ref b0] : List Value).toArray s m_s1_Model_remember.cells m_s1_Model_remember.slots A) (F0 m 57 ls []) by
          exact key 504 (0) (y_432) _ _ _ (zI.wk (l' := 0) (h' := 503) zc_0 (by decide)) hy_432 (zm_upi (zI.wk (l' := 0) (h' := 503) zc_0 (by decide)) (by decide)) hP hD hS (lv_sub hl [0, 1] rfl)
        intro k_530
        induction k_530 with
        | zero =>
          intro y_531 y_532 H locs ls hy_531 hy_532 hmk_530 hP hD hS hl
          exact (zm_up0 hy_531 hmk_530).elim
        | succ k_530 ihk_530 =>
          intro y_531 y_532 H locs ls hy_531 hy_532 hmk_530 hP hD hS hl
          refine lv_iload_n hx hb d_Model_remember_57 rfl (lv_at hl 0 rfl) ?_
          refine lv_sipush (v := 503) hx hb d_Model_remember_58 (by decide) ?_
          refine lv_icmp_ge (tgt := 91) hx hb d_Model_remember_61 (by decide) (fun hc_533 => ?_) (fun hc_533 => ?_)
          · have _nhc_533 := hc_533
            have ni_534 := (fa_le _ _).mp hc_533
            rw [li_503] at ni_534
            have hv_535 : zI y_531 503 503 := zI.le_r zc_503 hy_531 hc_533 (by decide)
            refine lv_aload_n hx hb d_Model_remember_91 rfl (lv_at hl 1 rfl) ?_
            refine lv_dup hx hb d_Model_remember_92 rfl ?_
            refine va_get (D := G.1) (ci := 12) (v := .int v_113) (C := R_Model) (T := F_Model) (N := 54) hx hb hts i_Model hown hK hP 0 rfl rfl 5 (by decide) (hts _ q1114) (fun _ h9 => h9) rfl d_Model_remember_93 ?_
            refine lv_iconst (v := 1) hx hb d_Model_remember_96 (by decide) ?_
            refine lv_iadd hx hb d_Model_remember_97 ?_
            refine lv_topi (fun v_536 ev_536 => ?_)
            obtain ⟨qv_536, hv_536⟩ := zI_add (l := 8) (h := 8) hv_113 zc_1 ev_536 (by decide)
            rw [li_1] at qv_536
            refine va_put (D := G.1) (ci := 12) (v := .int v_536) (ty := .int) (C := R_Model) (T := F_Model) (N := 54) hx hb hts i_Model t_Model t_Model_ok n_Model hown hK hP hD hS 0 rfl rfl 5 (by decide) (hts _ q1114) (fun _ h9 => h9) rfl (by decide +kernel) rfl rfl (Nat.le_of_ble_eq_true rfl) d_Model_remember_98 (fun H locs hP hD hS => ?_)
            have hP : va_P G.1 classes [(b0, .inr (12, [.int b1, .ref b2, .ref b3, .ref b4, .ref b5, .int v_536, .ref b7, .int b8, .int b9, .int b10, .int b11, .ref b12, .ref b13, .ref b14, .int b15, .ref b16, .ref b17, .ref b18, .ref b19, .ref b20, .ref b21, .ref b22, .ref b23, .ref b24, .ref b25, .ref b26, .ref b27, .int b28, .ref b29, .ref b30, .int b31, .int b32, .int b33, .int b34, .ref b35, .ref b36, .ref b37, .ref b38, .ref b39, .ref b40, .ref b41, .int b42, .ref b43, .ref b44, .int b45, .ref b46, .ref b47, .ref b48, .ref b49, .ref b50, .int b51, .ref b52, .ref b53, .ref b54])), (b2, .inl (G.2 0, 503, .inl b55)), (b5, .inl (G.2 0, 4024, .inl y_532))] H := hP
            have hD := z_tie hP hD rfl
            exact z_vret hx hb hr hlocks hP hD hS (Nat.le_of_ble_eq_true rfl) (Nat.le_of_ble_eq_true rfl) d_Model_remember_101 ⟨v_536, y_532, rfl, rfl, (zI.wk (l' := 0) (h' := 8) hv_536 (by decide)), hy_532⟩
          · have _nhc_533 := hc_533
            have ni_537 := (fa_lt _ _).mp (zi_nle hc_533)
            rw [li_503] at ni_537
            have hv_538 : zI y_531 0 502 := zI.lt_l hy_531 zc_503 (zi_nle hc_533) (by decide)
            refine lv_aload_n hx hb d_Model_remember_64 rfl (lv_at hl 1 rfl) ?_
            refine va_get (D := G.1) (ci := 12) (v := .ref b5) (C := R_Model) (T := F_Model) (N := 54) hx hb hts i_Model hown hK hP 0 rfl rfl 4 (by decide) (hts _ q1113) (fun _ h9 => h9) rfl d_Model_remember_65 ?_
            refine lv_sipush (v := 503) hx hb d_Model_remember_68 (by decide) ?_
            refine lv_aload_n hx hb d_Model_remember_71 rfl (lv_at hl 1 rfl) ?_
            refine va_get (D := G.1) (ci := 12) (v := .int v_113) (C := R_Model) (T := F_Model) (N := 54) hx hb hts i_Model hown hK hP 0 rfl rfl 5 (by decide) (hts _ q1114) (fun _ h9 => h9) rfl d_Model_remember_72 ?_
            refine lv_imul hx hb d_Model_remember_75 ?_
            refine lv_topi (fun v_539 ev_539 => ?_)
            obtain rfl : v_433 = v_539 := ev_433.trans ev_539.symm
            refine lv_iload_n hx hb d_Model_remember_76 rfl (lv_at hl 0 rfl) ?_
            refine lv_iadd hx hb d_Model_remember_77 ?_
            refine lv_topi (fun v_540 ev_540 => ?_)
            obtain ⟨qv_540, hv_540⟩ := zI_add (l := 3521) (h := 4023) hv_433 hv_538 ev_540 (by decide)
            refine lv_aload_n hx hb d_Model_remember_78 rfl (lv_at hl 1 rfl) ?_
            refine va_get (D := G.1) (ci := 12) (v := .ref b2) (C := R_Model) (T := F_Model) (N := 54) hx hb hts i_Model hown hK hP 0 rfl rfl 1 (by decide) (hts _ q1110) (fun _ h9 => h9) rfl d_Model_remember_79 ?_
            refine lv_iload_n hx hb d_Model_remember_82 rfl (lv_at hl 0 rfl) ?_
            refine va_iald hx hb hK hP 1 0 rfl rfl (zI.inn hv_538 (by decide)) d_Model_remember_83 ?_
            refine lv_topi (fun v_541 ev_541 => ?_)
            refine va_iast hx hb hK hP hD hS 2 0 rfl rfl (zI.inn hv_540 (by decide)) d_Model_remember_84 (fun H locs hP hD hS => ?_)
            obtain ⟨f_542, hf_542, gf_542, uf_542, hP, hD⟩ := z_newfw 2 hP hD rfl hy_532 (zRk_s hb55 ev_541 hv_538 hv_540 (by decide) (by omega))
            have hP : va_P G.1 classes [(b0, .inr (12, [.int b1, .ref b2, .ref b3, .ref b4, .ref b5, .int v_113, .ref b7, .int b8, .int b9, .int b10, .int b11, .ref b12, .ref b13, .ref b14, .int b15, .ref b16, .ref b17, .ref b18, .ref b19, .ref b20, .ref b21, .ref b22, .ref b23, .ref b24, .ref b25, .ref b26, .ref b27, .int b28, .ref b29, .ref b30, .int b31, .int b32, .int b33, .int b34, .ref b35, .ref b36, .ref b37, .ref b38, .ref b39, .ref b40, .ref b41, .int b42, .ref b43, .ref b44, .int b45, .ref b46, .ref b47, .ref b48, .ref b49, .ref b50, .int b51, .ref b52, .ref b53, .ref b54])), (b2, .inl (G.2 0, 503, .inl b55)), (b5, .inl (G.2 0, 4024, .inl f_542))] H := hP
            have hD := z_tie hP hD rfl
            obtain ⟨v_543, ev_543⟩ : ∃ z : Int32, z = y_531 + 1 := ⟨_, rfl⟩
            obtain ⟨qv_543, hv_543⟩ := zI_add (l := 1) (h := 503) hv_538 zc_1 ev_543 (by decide)
            rw [li_1] at qv_543
            refine lv_iinc (v := v_543) (lv' := [(1, .int v_543), (0, .ref b0)]) hx hb d_Model_remember_85 hl (k := 0) rfl (by rw [ev_543]; rfl) (by decide) rfl (fun ls hl => ?_)
            refine lv_goto (tgt := 57) hx hb d_Model_remember_88 (by decide) ?_
            exact ihk_530 (v_543) (f_542) _ _ _ (zI.wk (l' := 0) (h' := 503) hv_543 (by decide)) hf_542 (zm_up qv_543 hmk_530 (by decide)) hP hD hS (lv_sub hl [0, 1] rfl)
      · have _nhc_434 := hc_434
        have ni_544 := (fa_lt _ _).mp (zi_nle hc_434)
        have hv_545 : zI y_431 0 3520 := zI.lt_l hy_431 hv_433 (zi_nle hc_434) (by decide)
        refine lv_aload_n hx hb d_Model_remember_33 rfl (lv_at hl 1 rfl) ?_
        refine va_get (D := G.1) (ci := 12) (v := .ref b5) (C := R_Model) (T := F_Model) (N := 54) hx hb hts i_Model hown hK hP 0 rfl rfl 4 (by decide) (hts _ q1113) (fun _ h9 => h9) rfl d_Model_remember_34 ?_
        refine lv_iload_n hx hb d_Model_remember_37 rfl (lv_at hl 0 rfl) ?_
        refine lv_aload_n hx hb d_Model_remember_38 rfl (lv_at hl 1 rfl) ?_
        refine va_get (D := G.1) (ci := 12) (v := .ref b5) (C := R_Model) (T := F_Model) (N := 54) hx hb hts i_Model hown hK hP 0 rfl rfl 4 (by decide) (hts _ q1113) (fun _ h9 => h9) rfl d_Model_remember_39 ?_
        refine lv_iload_n hx hb d_Model_remember_42 rfl (lv_at hl 0 rfl) ?_
        refine lv_sipush (v := 503) hx hb d_Model_remember_43 (by decide) ?_
        refine lv_iadd hx hb d_Model_remember_46 ?_
        refine lv_topi (fun v_546 ev_546 => ?_)
        obtain ⟨qv_546, hv_546⟩ := zI_add (l := 503) (h := 4023) hv_545 zc_503 ev_546 (by decide)
        rw [li_503] at qv_546
        refine va_iald hx hb hK hP 2 0 rfl rfl (zI.inn hv_546 (by decide)) d_Model_remember_47 ?_
        refine lv_topi (fun v_547 ev_547 => ?_)
        refine va_iast hx hb hK hP hD hS 2 0 rfl rfl (zI.inn hv_545 (by decide)) d_Model_remember_48 (fun H locs hP hD hS => ?_)
        obtain ⟨f_548, hf_548, gf_548, uf_548, hP, hD⟩ := z_newfw 2 hP hD rfl hy_432 (zRk_s hy_432 ev_547 hv_546 hv_545 (by decide) (by omega))
        have hP : va_P G.1 classes [(b0, .inr (12, [.int b1, .ref b2, .ref b3, .ref b4, .ref b5, .int v_113, .ref b7, .int b8, .int b9, .int b10, .int b11, .ref b12, .ref b13, .ref b14, .int b15, .ref b16, .ref b17, .ref b18, .ref b19, .ref b20, .ref b21, .ref b22, .ref b23, .ref b24, .ref b25, .ref b26, .ref b27, .int b28, .ref b29, .ref b30, .int b31, .int b32, .int b33, .int b34, .ref b35, .ref b36, .ref b37, .ref b38, .ref b39, .ref b40, .ref b41, .int b42, .ref b43, .ref b44, .int b45, .ref b46, .ref b47, .ref b48, .ref b49, .ref b50, .int b51, .ref b52, .ref b53, .ref b54])), (b2, .inl (G.2 0, 503, .inl b55)), (b5, .inl (G.2 0, 4024, .inl f_548))] H := hP
        have hD := z_tie hP hD rfl
        obtain ⟨v_549, ev_549⟩ : ∃ z : Int32, z = y_431 + 1 := ⟨_, rfl⟩
        obtain ⟨qv_549, hv_549⟩ := zI_add (l := 1) (h := 3521) hv_545 zc_1 ev_549 (by decide)
        rw [li_1] at qv_549
        refine lv_iinc (v := v_549) (lv' := [(1, .int v_549), (0, .ref b0)]) hx hb d_Model_remember_49 hl (k := 0) rfl (by rw [ev_549]; rfl) (by decide) rfl (fun ls hl => ?_)
        refine lv_goto (tgt := 21) hx hb d_Model_remember_52 (by decide) ?_
        exact ihk_430 (v_549) (f_548) _ _ _ (zI.wk (l' := 0) (h' := 3521) hv_549 (by decide)) hf_548 (zm_up qv_549 hmk_430 (by decide)) hP hD hS (lv_sub hl [0, 1] rfl)
theorem d_Model_undo_0 : decode prog_14_method_23_code 0 = .ok (.aload_n 0, 1) := by decide +kernel
theorem d_Model_undo_1 : decode prog_14_method_23_code 1 = .ok (.iconst 0, 1) := by decide +kernel
theorem d_Model_undo_2 : decode prog_14_method_23_code 2 = .ok (.putfield 1, 3) := by decide +kernel
theorem d_Model_undo_5 : decode prog_14_method_23_code 5 = .ok (.aload_n 0, 1) := by decide +kernel
theorem d_Model_undo_6 : decode prog_14_method_23_code 6 = .ok (.getfield 179, 3) := by decide +kernel
theorem d_Model_undo_9 : decode prog_14_method_23_code 9 = .ok (.ifCond .ne 6, 3) := by decide +kernel
theorem d_Model_undo_12 : decode prog_14_method_23_code 12 = .ok (.bipush (-3), 2) := by decide +kernel
theorem d_Model_undo_14 : decode prog_14_method_23_code 14 = .ok (.ireturn, 1) := by decide +kernel
theorem d_Model_undo_15 : decode prog_14_method_23_code 15 = .ok (.aload_n 0, 1) := by decide +kernel
theorem d_Model_undo_16 : decode prog_14_method_23_code 16 = .ok (.dup, 1) := by decide +kernel
theorem d_Model_undo_17 : decode prog_14_method_23_code 17 = .ok (.getfield 179, 3) := by decide +kernel
theorem d_Model_undo_20 : decode prog_14_method_23_code 20 = .ok (.iconst 1, 1) := by decide +kernel
theorem d_Model_undo_21 : decode prog_14_method_23_code 21 = .ok (.isub, 1) := by decide +kernel
theorem d_Model_undo_22 : decode prog_14_method_23_code 22 = .ok (.putfield 179, 3) := by decide +kernel
theorem d_Model_undo_25 : decode prog_14_method_23_code 25 = .ok (.iconst 0, 1) := by decide +kernel
theorem d_Model_undo_26 : decode prog_14_method_23_code 26 = .ok (.istore_n 1, 1) := by decide +kernel
theorem d_Model_undo_27 : decode prog_14_method_23_code 27 = .ok (.iload_n 1, 1) := by decide +kernel
theorem d_Model_undo_28 : decode prog_14_method_23_code 28 = .ok (.sipush 503, 3) := by decide +kernel
theorem d_Model_undo_31 : decode prog_14_method_23_code 31 = .ok (.if_icmp .ge 30, 3) := by decide +kernel
theorem d_Model_undo_34 : decode prog_14_method_23_code 34 = .ok (.aload_n 0, 1) := by decide +kernel
theorem d_Model_undo_35 : decode prog_14_method_23_code 35 = .ok (.getfield 13, 3) := by decide +kernel
theorem d_Model_undo_38 : decode prog_14_method_23_code 38 = .ok (.iload_n 1, 1) := by decide +kernel
theorem d_Model_undo_39 : decode prog_14_method_23_code 39 = .ok (.aload_n 0, 1) := by decide +kernel
theorem d_Model_undo_40 : decode prog_14_method_23_code 40 = .ok (.getfield 24, 3) := by decide +kernel
theorem d_Model_undo_43 : decode prog_14_method_23_code 43 = .ok (.sipush 503, 3) := by decide +kernel
theorem d_Model_undo_46 : decode prog_14_method_23_code 46 = .ok (.aload_n 0, 1) := by decide +kernel
theorem d_Model_undo_47 : decode prog_14_method_23_code 47 = .ok (.getfield 179, 3) := by decide +kernel
theorem d_Model_undo_50 : decode prog_14_method_23_code 50 = .ok (.imul, 1) := by decide +kernel
theorem d_Model_undo_51 : decode prog_14_method_23_code 51 = .ok (.iload_n 1, 1) := by decide +kernel
theorem d_Model_undo_52 : decode prog_14_method_23_code 52 = .ok (.iadd, 1) := by decide +kernel
theorem d_Model_undo_53 : decode prog_14_method_23_code 53 = .ok (.iaload, 1) := by decide +kernel
theorem d_Model_undo_54 : decode prog_14_method_23_code 54 = .ok (.iastore, 1) := by decide +kernel
theorem d_Model_undo_55 : decode prog_14_method_23_code 55 = .ok (.iinc 1 1, 3) := by decide +kernel
theorem d_Model_undo_58 : decode prog_14_method_23_code 58 = .ok (.goto (-31), 3) := by decide +kernel
theorem d_Model_undo_61 : decode prog_14_method_23_code 61 = .ok (.aload_n 0, 1) := by decide +kernel
theorem d_Model_undo_62 : decode prog_14_method_23_code 62 = .ok (.getfield 179, 3) := by decide +kernel
theorem d_Model_undo_65 : decode prog_14_method_23_code 65 = .ok (.ireturn, 1) := by decide +kernel
theorem zc_m3 : zI (-3) (-3) (-3) := ⟨by decide +kernel, by decide +kernel⟩
abbrev m_s1_Model_undo : Room := { frames := 0, cells := 0, slots := 0, locals := 0 }
set_option maxHeartbeats 4000000 in
set_option maxRecDepth 100000 in
theorem s1_Model_undo (l : Launch) (G : zG) (b0 : Nat) (b1 : Int32) (b2 : Nat) (b3 : Nat) (b4 : Nat) (b5 : Nat) (b6 : Int32) (b7 : Nat) (b8 : Int32) (b9 : Int32) (b10 : Int32) (b11 : Int32) (b12 : Nat) (b13 : Nat) (b14 : Nat) (b15 : Int32) (b16 : Nat) (b17 : Nat) (b18 : Nat) (b19 : Nat) (b20 : Nat) (b21 : Nat) (b22 : Nat) (b23 : Nat) (b24 : Nat) (b25 : Nat) (b26 : Nat) (b27 : Nat) (b28 : Int32) (b29 : Nat) (b30 : Nat) (b31 : Int32) (b32 : Int32) (b33 : Int32) (b34 : Int32) (b35 : Nat) (b36 : Nat) (b37 : Nat) (b38 : Nat) (b39 : Nat) (b40 : Nat) (b41 : Nat) (b42 : Int32) (b43 : Nat) (b44 : Nat) (b45 : Int32) (b46 : Nat) (b47 : Nat) (b48 : Nat) (b49 : Nat) (b50 : Nat) (b51 : Int32) (b52 : Nat) (b53 : Nat) (b54 : Nat) (b55 : Nat → Int32) (b56 : Nat → Int32) (hb6 : zI b6 0 8) (hb8 : zI b8 0 240) (hb9 : zI b9 0 240) (hb11 : zI b11 0 1) (hb15 : zI b15 0 12) (hb28 : zI b28 0 1) (hb31 : zI b31 0 1) (hb55 : zW5 b55) (hb56 : zW5 b56) : zM l G y_Model_undo prog_14_method_23_code 2 (Option.some Jvm.ClassFile.FieldType.int) m_s1_Model_undo [.ref b0] [(b0, .inr (12, [.int b1, .ref b2, .ref b3, .ref b4, .ref b5, .int b6, .ref b7, .int b8, .int b9, .int b10, .int b11, .ref b12, .ref b13, .ref b14, .int b15, .ref b16, .ref b17, .ref b18, .ref b19, .ref b20, .ref b21, .ref b22, .ref b23, .ref b24, .ref b25, .ref b26, .ref b27, .int b28, .ref b29, .ref b30, .int b31, .int b32, .int b33, .int b34, .ref b35, .ref b36, .ref b37, .ref b38, .ref b39, .ref b40, .ref b41, .int b42, .ref b43, .ref b44, .int b45, .ref b46, .ref b47, .ref b48, .ref b49, .ref b50, .int b51, .ref b52, .ref b53, .ref b54])), (b2, .inl (G.2 0, 503, .inl b55)), (b5, .inl (G.2 0, 4024, .inl b56))] (fun v w => ∃ (e0 : Int32), ∃ (e1 : Int32), ∃ (e2 : Nat → Int32), v = some (.int e0) ∧ w = [(b0, .inr (12, [.int 0, .ref b2, .ref b3, .ref b4, .ref b5, .int e1, .ref b7, .int b8, .int b9, .int b10, .int b11, .ref b12, .ref b13, .ref b14, .int b15, .ref b16, .ref b17, .ref b18, .ref b19, .ref b20, .ref b21, .ref b22, .ref b23, .ref b24, .ref b25, .ref b26, .ref b27, .int b28, .ref b29, .ref b30, .int b31, .int b32, .int b33, .int b34, .ref b35, .ref b36, .ref b37, .ref b38, .ref b39, .ref b40, .ref b41, .int b42, .ref b43, .ref b44, .int b45, .ref b46, .ref b47, .ref b48, .ref b49, .ref b50, .int b51, .ref b52, .ref b53, .ref b54])), (b2, .inl (G.2 0, 503, .inl e2)), (b5, .inl (G.2 0, 4024, .inl b56))] ∧ (zI e0 (-3) 7) ∧ (zI e1 0 8) ∧ (zW5 e2)) := by
  refine z_start (by decide +kernel) (Nat.le_of_ble_eq_true rfl) ?_
  intro p e s m below meth c A Z hr hnm hA hP hD hS ls hl
  have Z : zC p s m _ meth c prog_14_method_23_code 2 "TraceMachinesModel" G := Z
  obtain ⟨hx, hb, hml, hown, hts, hK, hN, hlocks⟩ := id Z
  have hl : lv_has ls 2 [(0, .ref b0)] := hl
  refine lv_aload_n hx hb d_Model_undo_0 rfl (lv_at hl 0 rfl) ?_
  refine lv_iconst (v := 0) hx hb d_Model_undo_1 (by decide) ?_
  refine va_put (D := G.1) (ci := 12) (v := .int 0) (ty := .int) (C := R_Model) (T := F_Model) (N := 54) hx hb hts i_Model t_Model t_Model_ok n_Model hown hK hP hD hS 0 rfl rfl 0 (by decide) (hts _ q1109) (fun _ h9 => h9) rfl (by decide +kernel) rfl rfl (Nat.le_of_ble_eq_true rfl) d_Model_undo_2 (fun H locs hP hD hS => ?_)
  have hP : va_P G.1 classes [(b0, .inr (12, [.int 0, .ref b2, .ref b3, .ref b4, .ref b5, .int b6, .ref b7, .int b8, .int b9, .int b10, .int b11, .ref b12, .ref b13, .ref b14, .int b15, .ref b16, .ref b17, .ref b18, .ref b19, .ref b20, .ref b21, .ref b22, .ref b23, .ref b24, .ref b25, .ref b26, .ref b27, .int b28, .ref b29, .ref b30, .int b31, .int b32, .int b33, .int b34, .ref b35, .ref b36, .ref b37, .ref b38, .ref b39, .ref b40, .ref b41, .int b42, .ref b43, .ref b44, .int b45, .ref b46, .ref b47, .ref b48, .ref b49, .ref b50, .int b51, .ref b52, .ref b53, .ref b54])), (b2, .inl (G.2 0, 503, .inl b55)), (b5, .inl (G.2 0, 4024, .inl b56))] H := hP
  have hD := z_tie hP hD rfl
  refine lv_aload_n hx hb d_Model_undo_5 rfl (lv_at hl 0 rfl) ?_
  refine va_get (D := G.1) (ci := 12) (v := .int b6) (C := R_Model) (T := F_Model) (N := 54) hx hb hts i_Model hown hK hP 0 rfl rfl 5 (by decide) (hts _ q1114) (fun _ h9 => h9) rfl d_Model_undo_6 ?_
  refine lv_if_ne (tgt := 15) hx hb d_Model_undo_9 (by decide) (fun hc_1 => ?_) (fun hc_1 => ?_)
  · have _nhc_1 := hc_1
    have ni_2 : ¬ (b6 : Int32).toInt = (0 : Int32).toInt := fun z => hc_1 ((fa_eq _ _).mpr z)
    simp only [li_0] at ni_2
    have hv_3 : zI b6 1 8 := zI.ne_lo hb6 zc_0 hc_1 (by decide)
    refine lv_aload_n hx hb d_Model_undo_15 rfl (lv_at hl 0 rfl) ?_
    refine lv_dup hx hb d_Model_undo_16 rfl ?_
    refine va_get (D := G.1) (ci := 12) (v := .int b6) (C := R_Model) (T := F_Model) (N := 54) hx hb hts i_Model hown hK hP 0 rfl rfl 5 (by decide) (hts _ q1114) (fun _ h9 => h9) rfl d_Model_undo_17 ?_
    refine lv_iconst (v := 1) hx hb d_Model_undo_20 (by decide) ?_
    refine lv_isub hx hb d_Model_undo_21 ?_
    refine lv_topi (fun v_4 ev_4 => ?_)
    obtain ⟨qv_4, hv_4⟩ := zI_sub (l := 0) (h := 7) hv_3 zc_1 ev_4 (by decide)
    rw [li_1] at qv_4
    refine va_put (D := G.1) (ci := 12) (v := .int v_4) (ty := .int) (C := R_Model) (T := F_Model) (N := 54) hx hb hts i_Model t_Model t_Model_ok n_Model hown hK hP hD hS 0 rfl rfl 5 (by decide) (hts _ q1114) (fun _ h9 => h9) rfl (by decide +kernel) rfl rfl (Nat.le_of_ble_eq_true rfl) d_Model_undo_22 (fun H locs hP hD hS => ?_)
    have hP : va_P G.1 classes [(b0, .inr (12, [.int 0, .ref b2, .ref b3, .ref b4, .ref b5, .int v_4, .ref b7, .int b8, .int b9, .int b10, .int b11, .ref b12, .ref b13, .ref b14, .int b15, .ref b16, .ref b17, .ref b18, .ref b19, .ref b20, .ref b21, .ref b22, .ref b23, .ref b24, .ref b25, .ref b26, .ref b27, .int b28, .ref b29, .ref b30, .int b31, .int b32, .int b33, .int b34, .ref b35, .ref b36, .ref b37, .ref b38, .ref b39, .ref b40, .ref b41, .int b42, .ref b43, .ref b44, .int b45, .ref b46, .ref b47, .ref b48, .ref b49, .ref b50, .int b51, .ref b52, .ref b53, .ref b54])), (b2, .inl (G.2 0, 503, .inl b55)), (b5, .inl (G.2 0, 4024, .inl b56))] H := hP
    have hD := z_tie hP hD rfl
    refine lv_iconst (v := 0) hx hb d_Model_undo_25 (by decide) ?_
    refine lv_istore_n (lv' := [(1, .int 0), (0, .ref b0)]) hx hb d_Model_undo_26 rfl hl (by decide) rfl (fun ls hl => ?_)
    suffices key : ∀ (k_96 : Nat) (y_97 : Int32) (y_98 : Nat → Int32) (H : Heap) (locs : List Loc) (ls : Array Slot), (zI y_97 0 503) → (zW5 y_98) → (503 : Int) - y_97.toInt < (k_96 : Int) → va_P G.1 classes [(b0, .inr (12, [.int 0, .ref b2, .ref b3, .ref b4, .ref b5, .int v_4, .ref b7, .int b8, .int b9, .int b10, .int b11, .ref b12, .ref b13, .ref b14, .int b15, .ref b16, .ref b17, .ref b18, .ref b19, .ref b20, .ref b21, .ref b22, .ref b23, .ref b24, .ref b25, .ref b26, .ref b27, .int b28, .ref b29, .ref b30, .int b31, .int b32, .int b33, .int b34, .ref b35, .ref b36, .ref b37, .ref b38, .ref b39, .ref b40, .ref b41, .int b42, .ref b43, .ref b44, .int b45, .ref b46, .ref b47, .ref b48, .ref b49, .ref b50, .int b51, .ref b52, .ref b53, .ref b54])), (b2, .inl (G.2 0, 503, .inl y_98)), (b5, .inl (G.2 0, 4024, .inl b56))] H → va_D A [(b0, .inr (12, [.int 0, .ref b2, .ref b3, .ref b4, .ref b5, .int v_4, .ref b7, .int b8, .int b9, .int b10, .int b11, .ref b12, .ref b13, .ref b14, .int b15, .ref b16, .ref b17, .ref b18, .ref b19, .ref b20, .ref b21, .ref b22, .ref b23, .ref b24, .ref b25, .ref b26, .ref b27, .int b28, .ref b29, .ref b30, .int b31, .int b32, .int b33, .int b34, .ref b35, .ref b36, .ref b37, .ref b38, .ref b39, .ref b40, .ref b41, .int b42, .ref b43, .ref b44, .int b45, .ref b46, .ref b47, .ref b48, .ref b49, .ref b50, .int b51, .ref b52, .ref b53, .ref b54])), (b2, .inl (G.2 0, 503, .inl y_98)), (b5, .inl (G.2 0, 4024, .inl b56))] → va_S A s.heap H locs → lv_has ls 2 [(1, .int y_97), (0, .ref b0)] → W p l e m_s1_Model_undo s m ([.ref b0] : List Value).toArray below meth c H locs 0 0 (MQ below (zQ G (fun v w => ∃ (e0 : Int32), ∃ (e1 : Int32), ∃ (e2 : Nat → Int32), v = some (.int e0) ∧ w = [(b0, .inr (12, [.int 0, .ref b2, .ref b3, .ref b4, .ref b5, .int e1, .ref b7, .int b8, .int b9, .int b10, .int b11, .ref b12, .ref b13, .ref b14, .int b15, .ref b16, .ref b17, .ref b18, .ref b19, .ref b20, .ref b21, .ref b22, .ref b23, .ref b24, .ref b25, .ref b26, .ref b27, .int b28, .ref b29, .ref b30, .int b31, .int b32, .int b33, .int b34, .ref b35, .ref b36, .ref b37, .ref b38, .ref b39, .ref b40, .ref b41, .int b42, .ref b43, .ref b44, .int b45, .ref b46, .ref b47, .ref b48, .ref b49, .ref b50, .int b51, .ref b52, .ref b53, .ref b54])), (b2, .inl (G.2 0, 503, .inl e2)), (b5, .inl (G.2 0, 4024, .inl b56))] ∧ (zI e0 (-3) 7) ∧ (zI e1 0 8) ∧ (zW5 e2)) A) ([.ref b0] : List Value).toArray s m_s1_Model_undo.cells m_s1_Model_undo.slots A) (F0 m 27 ls []) by
      exact key 504 (0) (b55) _ _ _ (zI.wk (l' := 0) (h' := 503) zc_0 (by decide)) hb55 (zm_upi (zI.wk (l' := 0) (h' := 503) zc_0 (by decide)) (by decide)) hP hD hS (lv_sub hl [0, 1] rfl)
    intro k_96
    induction k_96 with
    | zero =>
      intro y_97 y_98 H locs ls hy_97 hy_98 hmk_96 hP hD hS hl
      exact (zm_up0 hy_97 hmk_96).elim
    | succ k_96 ihk_96 =>
      intro y_97 y_98 H locs ls hy_97 hy_98 hmk_96 hP hD hS hl
      refine lv_iload_n hx hb d_Model_undo_27 rfl (lv_at hl 0 rfl) ?_
      refine lv_sipush (v := 503) hx hb d_Model_undo_28 (by decide) ?_
      refine lv_icmp_ge (tgt := 61) hx hb d_Model_undo_31 (by decide) (fun hc_99 => ?_) (fun hc_99 => ?_)
      · have _nhc_99 := hc_99
        have ni_100 := (fa_le _ _).mp hc_99
        rw [li_503] at ni_100
        have hv_101 : zI y_97 503 503 := zI.le_r zc_503 hy_97 hc_99 (by decide)
        refine lv_aload_n hx hb d_Model_undo_61 rfl (lv_at hl 1 rfl) ?_
        refine va_get (D := G.1) (ci := 12) (v := .int v_4) (C := R_Model) (T := F_Model) (N := 54) hx hb hts i_Model hown hK hP 0 rfl rfl 5 (by decide) (hts _ q1114) (fun _ h9 => h9) rfl d_Model_undo_62 ?_
        exact z_iret hx hb hr hlocks hP hD hS (Nat.le_of_ble_eq_true rfl) (Nat.le_of_ble_eq_true rfl) d_Model_undo_65 ⟨v_4, v_4, y_98, rfl, rfl, (zI.wk (l' := (-3)) (h' := 7) hv_4 (by decide)), (zI.wk (l' := 0) (h' := 8) hv_4 (by decide)), hy_98⟩
      · have _nhc_99 := hc_99
        have ni_102 := (fa_lt _ _).mp (zi_nle hc_99)
        rw [li_503] at ni_102
        have hv_103 : zI y_97 0 502 := zI.lt_l hy_97 zc_503 (zi_nle hc_99) (by decide)
        refine lv_aload_n hx hb d_Model_undo_34 rfl (lv_at hl 1 rfl) ?_
        refine va_get (D := G.1) (ci := 12) (v := .ref b2) (C := R_Model) (T := F_Model) (N := 54) hx hb hts i_Model hown hK hP 0 rfl rfl 1 (by decide) (hts _ q1110) (fun _ h9 => h9) rfl d_Model_undo_35 ?_
        refine lv_iload_n hx hb d_Model_undo_38 rfl (lv_at hl 0 rfl) ?_
        refine lv_aload_n hx hb d_Model_undo_39 rfl (lv_at hl 1 rfl) ?_
        refine va_get (D := G.1) (ci := 12) (v := .ref b5) (C := R_Model) (T := F_Model) (N := 54) hx hb hts i_Model hown hK hP 0 rfl rfl 4 (by decide) (hts _ q1113) (fun _ h9 => h9) rfl d_Model_undo_40 ?_
        refine lv_sipush (v := 503) hx hb d_Model_undo_43 (by decide) ?_
        refine lv_aload_n hx hb d_Model_undo_46 rfl (lv_at hl 1 rfl) ?_
        refine va_get (D := G.1) (ci := 12) (v := .int v_4) (C := R_Model) (T := F_Model) (N := 54) hx hb hts i_Model hown hK hP 0 rfl rfl 5 (by decide) (hts _ q1114) (fun _ h9 => h9) rfl d_Model_undo_47 ?_
        refine lv_imul hx hb d_Model_undo_50 ?_
        refine lv_topi (fun v_104 ev_104 => ?_)
        obtain ⟨qv_104, hv_104⟩ := zI_mul (l := 0) (h := 3521) zc_503 hv_4 ev_104 (by decide)
        rw [li_503] at qv_104
        refine lv_iload_n hx hb d_Model_undo_51 rfl (lv_at hl 0 rfl) ?_
        refine lv_iadd hx hb d_Model_undo_52 ?_
        refine lv_topi (fun v_105 ev_105 => ?_)
        obtain ⟨qv_105, hv_105⟩ := zI_add (l := 0) (h := 4023) hv_104 hv_103 ev_105 (by decide)
        refine va_iald hx hb hK hP 2 0 rfl rfl (zI.inn hv_105 (by decide)) d_Model_undo_53 ?_
        refine lv_topi (fun v_106 ev_106 => ?_)
        refine va_iast hx hb hK hP hD hS 1 0 rfl rfl (zI.inn hv_103 (by decide)) d_Model_undo_54 (fun H locs hP hD hS => ?_)
        obtain ⟨f_107, hf_107, gf_107, uf_107, hP, hD⟩ := z_newfw 1 hP hD rfl hy_98 (zRk_s hb56 ev_106 hv_105 hv_103 (by decide) (by omega))
        have hP : va_P G.1 classes [(b0, .inr (12, [.int 0, .ref b2, .ref b3, .ref b4, .ref b5, .int v_4, .ref b7, .int b8, .int b9, .int b10, .int b11, .ref b12, .ref b13, .ref b14, .int b15, .ref b16, .ref b17, .ref b18, .ref b19, .ref b20, .ref b21, .ref b22, .ref b23, .ref b24, .ref b25, .ref b26, .ref b27, .int b28, .ref b29, .ref b30, .int b31, .int b32, .int b33, .int b34, .ref b35, .ref b36, .ref b37, .ref b38, .ref b39, .ref b40, .ref b41, .int b42, .ref b43, .ref b44, .int b45, .ref b46, .ref b47, .ref b48, .ref b49, .ref b50, .int b51, .ref b52, .ref b53, .ref b54])), (b2, .inl (G.2 0, 503, .inl f_107)), (b5, .inl (G.2 0, 4024, .inl b56))] H := hP
        have hD := z_tie hP hD rfl
        obtain ⟨v_108, ev_108⟩ : ∃ z : Int32, z = y_97 + 1 := ⟨_, rfl⟩
        obtain ⟨qv_108, hv_108⟩ := zI_add (l := 1) (h := 503) hv_103 zc_1 ev_108 (by decide)
        rw [li_1] at qv_108
        refine lv_iinc (v := v_108) (lv' := [(1, .int v_108), (0, .ref b0)]) hx hb d_Model_undo_55 hl (k := 0) rfl (by rw [ev_108]; rfl) (by decide) rfl (fun ls hl => ?_)
        refine lv_goto (tgt := 27) hx hb d_Model_undo_58 (by decide) ?_
        exact ihk_96 (v_108) (f_107) _ _ _ (zI.wk (l' := 0) (h' := 503) hv_108 (by decide)) hf_107 (zm_up qv_108 hmk_96 (by decide)) hP hD hS (lv_sub hl [0, 1] rfl)
  · have _nhc_1 := hc_1
    have ni_109 := (fa_eq _ _).mp hc_1
    rw [li_0] at ni_109
    have hv_110 : zI b6 0 0 := zI.eq_l hb6 zc_0 hc_1
    refine lv_bipush (v := (-3)) hx hb d_Model_undo_12 (by decide) ?_
    exact z_iret hx hb hr hlocks hP hD hS (Nat.le_of_ble_eq_true rfl) (Nat.le_of_ble_eq_true rfl) d_Model_undo_14 ⟨(-3), b6, b55, rfl, rfl, (zI.wk (l' := (-3)) (h' := 7) zc_m3 (by decide)), (zI.wk (l' := 0) (h' := 8) hv_110 (by decide)), hb55⟩
theorem d_Model_hasLetter_0 : decode prog_14_method_70_code 0 = .ok (.iconst 0, 1) := by decide +kernel
theorem d_Model_hasLetter_1 : decode prog_14_method_70_code 1 = .ok (.istore_n 3, 1) := by decide +kernel
theorem d_Model_hasLetter_2 : decode prog_14_method_70_code 2 = .ok (.iconst 0, 1) := by decide +kernel
theorem d_Model_hasLetter_3 : decode prog_14_method_70_code 3 = .ok (.istore 4, 2) := by decide +kernel
theorem d_Model_hasLetter_5 : decode prog_14_method_70_code 5 = .ok (.iload 4, 2) := by decide +kernel
theorem d_Model_hasLetter_7 : decode prog_14_method_70_code 7 = .ok (.aload_n 0, 1) := by decide +kernel
theorem d_Model_hasLetter_8 : decode prog_14_method_70_code 8 = .ok (.iload_n 1, 1) := by decide +kernel
theorem d_Model_hasLetter_9 : decode prog_14_method_70_code 9 = .ok (.invokevirtual 203, 3) := by decide +kernel
theorem d_Model_hasLetter_12 : decode prog_14_method_70_code 12 = .ok (.if_icmp .ge 30, 3) := by decide +kernel
theorem d_Model_hasLetter_15 : decode prog_14_method_70_code 15 = .ok (.iload_n 3, 1) := by decide +kernel
theorem d_Model_hasLetter_16 : decode prog_14_method_70_code 16 = .ok (.ifCond .ne 14, 3) := by decide +kernel
theorem d_Model_hasLetter_19 : decode prog_14_method_70_code 19 = .ok (.aload_n 0, 1) := by decide +kernel
theorem d_Model_hasLetter_20 : decode prog_14_method_70_code 20 = .ok (.iload_n 1, 1) := by decide +kernel
theorem d_Model_hasLetter_21 : decode prog_14_method_70_code 21 = .ok (.iload 4, 2) := by decide +kernel
theorem d_Model_hasLetter_23 : decode prog_14_method_70_code 23 = .ok (.invokevirtual 207, 3) := by decide +kernel
theorem d_Model_hasLetter_26 : decode prog_14_method_70_code 26 = .ok (.iload_n 2, 1) := by decide +kernel
theorem d_Model_hasLetter_27 : decode prog_14_method_70_code 27 = .ok (.if_icmp .ne 7, 3) := by decide +kernel
theorem d_Model_hasLetter_30 : decode prog_14_method_70_code 30 = .ok (.iconst 1, 1) := by decide +kernel
theorem d_Model_hasLetter_31 : decode prog_14_method_70_code 31 = .ok (.goto 4, 3) := by decide +kernel
theorem d_Model_hasLetter_34 : decode prog_14_method_70_code 34 = .ok (.iconst 0, 1) := by decide +kernel
theorem d_Model_hasLetter_35 : decode prog_14_method_70_code 35 = .ok (.istore_n 3, 1) := by decide +kernel
theorem d_Model_hasLetter_36 : decode prog_14_method_70_code 36 = .ok (.iinc 4 1, 3) := by decide +kernel
theorem d_Model_hasLetter_39 : decode prog_14_method_70_code 39 = .ok (.goto (-34), 3) := by decide +kernel
theorem d_Model_hasLetter_42 : decode prog_14_method_70_code 42 = .ok (.iload_n 3, 1) := by decide +kernel
theorem d_Model_hasLetter_43 : decode prog_14_method_70_code 43 = .ok (.ireturn, 1) := by decide +kernel
abbrev m_s1_Model_hasLetter : Room := { frames := 1, cells := 0, slots := 0, locals := 22 }
set_option maxHeartbeats 4000000 in
set_option maxRecDepth 100000 in
theorem s1_Model_hasLetter (l : Launch) (G : zG) (b0 : Nat) (b1 : Int32) (b2 : Int32) (b3 : Int32) (b4 : Nat) (b5 : Nat) (b6 : Nat) (b7 : Nat) (b8 : Int32) (b9 : Nat) (b10 : Int32) (b11 : Int32) (b12 : Int32) (b13 : Int32) (b14 : Nat) (b15 : Nat) (b16 : Nat) (b17 : Int32) (b18 : Nat) (b19 : Nat) (b20 : Nat) (b21 : Nat) (b22 : Nat) (b23 : Nat) (b24 : Nat) (b25 : Nat) (b26 : Nat) (b27 : Nat) (b28 : Nat) (b29 : Nat) (b30 : Int32) (b31 : Nat) (b32 : Nat) (b33 : Int32) (b34 : Int32) (b35 : Int32) (b36 : Int32) (b37 : Nat) (b38 : Nat) (b39 : Nat) (b40 : Nat) (b41 : Nat) (b42 : Nat) (b43 : Nat) (b44 : Int32) (b45 : Nat) (b46 : Nat) (b47 : Int32) (b48 : Nat) (b49 : Nat) (b50 : Nat) (b51 : Nat) (b52 : Nat) (b53 : Int32) (b54 : Nat) (b55 : Nat) (b56 : Nat) (b57 : Nat → Int32) (hb1 : zI b1 0 19) (hb8 : zI b8 0 8) (hb10 : zI b10 0 240) (hb11 : zI b11 0 240) (hb13 : zI b13 0 1) (hb17 : zI b17 0 12) (hb30 : zI b30 0 1) (hb33 : zI b33 0 1) (hb57 : zW5 b57) : zM l G y_Model_hasLetter prog_14_method_70_code 5 (Option.some Jvm.ClassFile.FieldType.boolean) m_s1_Model_hasLetter [.ref b0, .int b1, .int b2] [(b0, .inr (12, [.int b3, .ref b4, .ref b5, .ref b6, .ref b7, .int b8, .ref b9, .int b10, .int b11, .int b12, .int b13, .ref b14, .ref b15, .ref b16, .int b17, .ref b18, .ref b19, .ref b20, .ref b21, .ref b22, .ref b23, .ref b24, .ref b25, .ref b26, .ref b27, .ref b28, .ref b29, .int b30, .ref b31, .ref b32, .int b33, .int b34, .int b35, .int b36, .ref b37, .ref b38, .ref b39, .ref b40, .ref b41, .ref b42, .ref b43, .int b44, .ref b45, .ref b46, .int b47, .ref b48, .ref b49, .ref b50, .ref b51, .ref b52, .int b53, .ref b54, .ref b55, .ref b56])), (b4, .inl (G.2 0, 503, .inl b57))] (fun v w => ∃ (e0 : Int32), v = some (.int e0) ∧ w = [(b0, .inr (12, [.int b3, .ref b4, .ref b5, .ref b6, .ref b7, .int b8, .ref b9, .int b10, .int b11, .int b12, .int b13, .ref b14, .ref b15, .ref b16, .int b17, .ref b18, .ref b19, .ref b20, .ref b21, .ref b22, .ref b23, .ref b24, .ref b25, .ref b26, .ref b27, .ref b28, .ref b29, .int b30, .ref b31, .ref b32, .int b33, .int b34, .int b35, .int b36, .ref b37, .ref b38, .ref b39, .ref b40, .ref b41, .ref b42, .ref b43, .int b44, .ref b45, .ref b46, .int b47, .ref b48, .ref b49, .ref b50, .ref b51, .ref b52, .int b53, .ref b54, .ref b55, .ref b56])), (b4, .inl (G.2 0, 503, .inl b57))] ∧ (zI e0 0 1)) := by
  refine z_start (by decide +kernel) (Nat.le_of_ble_eq_true rfl) ?_
  intro p e s m below meth c A Z hr hnm hA hP hD hS ls hl
  have Z : zC p s m _ meth c prog_14_method_70_code 5 "TraceMachinesModel" G := Z
  obtain ⟨hx, hb, hml, hown, hts, hK, hN, hlocks⟩ := id Z
  have hl : lv_has ls 5 [(0, .ref b0), (1, .int b1), (2, .int b2)] := hl
  refine lv_iconst (v := 0) hx hb d_Model_hasLetter_0 (by decide) ?_
  refine lv_istore_n (lv' := [(3, .int 0), (0, .ref b0), (1, .int b1), (2, .int b2)]) hx hb d_Model_hasLetter_1 rfl hl (by decide) rfl (fun ls hl => ?_)
  refine lv_iconst (v := 0) hx hb d_Model_hasLetter_2 (by decide) ?_
  refine lv_istore (lv' := [(4, .int 0), (3, .int 0), (0, .ref b0), (1, .int b1), (2, .int b2)]) hx hb d_Model_hasLetter_3 hl (by decide) rfl (fun ls hl => ?_)
  suffices key : ∀ (k_106 : Nat) (y_107 : Int32) (y_108 : Int32) (H : Heap) (locs : List Loc) (ls : Array Slot), (zI y_107 0 12) → (zI y_108 0 1) → (12 : Int) - y_107.toInt < (k_106 : Int) → va_P G.1 classes [(b0, .inr (12, [.int b3, .ref b4, .ref b5, .ref b6, .ref b7, .int b8, .ref b9, .int b10, .int b11, .int b12, .int b13, .ref b14, .ref b15, .ref b16, .int b17, .ref b18, .ref b19, .ref b20, .ref b21, .ref b22, .ref b23, .ref b24, .ref b25, .ref b26, .ref b27, .ref b28, .ref b29, .int b30, .ref b31, .ref b32, .int b33, .int b34, .int b35, .int b36, .ref b37, .ref b38, .ref b39, .ref b40, .ref b41, .ref b42, .ref b43, .int b44, .ref b45, .ref b46, .int b47, .ref b48, .ref b49, .ref b50, .ref b51, .ref b52, .int b53, .ref b54, .ref b55, .ref b56])), (b4, .inl (G.2 0, 503, .inl b57))] H → va_D A [(b0, .inr (12, [.int b3, .ref b4, .ref b5, .ref b6, .ref b7, .int b8, .ref b9, .int b10, .int b11, .int b12, .int b13, .ref b14, .ref b15, .ref b16, .int b17, .ref b18, .ref b19, .ref b20, .ref b21, .ref b22, .ref b23, .ref b24, .ref b25, .ref b26, .ref b27, .ref b28, .ref b29, .int b30, .ref b31, .ref b32, .int b33, .int b34, .int b35, .int b36, .ref b37, .ref b38, .ref b39, .ref b40, .ref b41, .ref b42, .ref b43, .int b44, .ref b45, .ref b46, .int b47, .ref b48, .ref b49, .ref b50, .ref b51, .ref b52, .int b53, .ref b54, .ref b55, .ref b56])), (b4, .inl (G.2 0, 503, .inl b57))] → va_S A s.heap H locs → lv_has ls 5 [(4, .int y_107), (3, .int y_108), (0, .ref b0), (1, .int b1), (2, .int b2)] → W p l e m_s1_Model_hasLetter s m ([.ref b0, .int b1, .int b2] : List Value).toArray below meth c H locs 0 0 (MQ below (zQ G (fun v w => ∃ (e0 : Int32), v = some (.int e0) ∧ w = [(b0, .inr (12, [.int b3, .ref b4, .ref b5, .ref b6, .ref b7, .int b8, .ref b9, .int b10, .int b11, .int b12, .int b13, .ref b14, .ref b15, .ref b16, .int b17, .ref b18, .ref b19, .ref b20, .ref b21, .ref b22, .ref b23, .ref b24, .ref b25, .ref b26, .ref b27, .ref b28, .ref b29, .int b30, .ref b31, .ref b32, .int b33, .int b34, .int b35, .int b36, .ref b37, .ref b38, .ref b39, .ref b40, .ref b41, .ref b42, .ref b43, .int b44, .ref b45, .ref b46, .int b47, .ref b48, .ref b49, .ref b50, .ref b51, .ref b52, .int b53, .ref b54, .ref b55, .ref b56])), (b4, .inl (G.2 0, 503, .inl b57))] ∧ (zI e0 0 1)) A) ([.ref b0, .int b1, .int b2] : List Value).toArray s m_s1_Model_hasLetter.cells m_s1_Model_hasLetter.slots A) (F0 m 5 ls []) by
    exact key 13 (0) (0) _ _ _ (zI.wk (l' := 0) (h' := 12) zc_0 (by decide)) (zI.wk (l' := 0) (h' := 1) zc_0 (by decide)) (zm_upi (zI.wk (l' := 0) (h' := 12) zc_0 (by decide)) (by decide)) hP hD hS (lv_sub hl [0, 1, 2, 3, 4] rfl)
  intro k_106
  induction k_106 with
  | zero =>
    intro y_107 y_108 H locs ls hy_107 hy_108 hmk_106 hP hD hS hl
    exact (zm_up0 hy_107 hmk_106).elim
  | succ k_106 ihk_106 =>
    intro y_107 y_108 H locs ls hy_107 hy_108 hmk_106 hP hD hS hl
    refine lv_iload hx hb d_Model_hasLetter_5 (lv_at hl 0 rfl) ?_
    refine lv_aload_n hx hb d_Model_hasLetter_7 rfl (lv_at hl 2 rfl) ?_
    refine lv_iload_n hx hb d_Model_hasLetter_8 rfl (lv_at hl 3 rfl) ?_
    refine z_callV (index := 203) (As := [.int b1]) (rest := [.int y_107]) (wr := []) Z (s1_Model_calls l G (b0) (b1) (b3) (b4) (b5) (b6) (b7) (b8) (b9) (b10) (b11) (b12) (b13) (b14) (b15) (b16) (b17) (b18) (b19) (b20) (b21) (b22) (b23) (b24) (b25) (b26) (b27) (b28) (b29) (b30) (b31) (b32) (b33) (b34) (b35) (b36) (b37) (b38) (b39) (b40) (b41) (b42) (b43) (b44) (b45) (b46) (b47) (b48) (b49) (b50) (b51) (b52) (b53) (b54) (b55) (b56) (b57) hb1 hb8 hb10 hb11 hb13 hb17 hb30 hb33 hb57) hl.1 q1352 q1354 qs54 q14 q1355 ⟨by decide, by decide, by show _ = some 1; decide +kernel⟩ ⟨Nat.le_of_ble_eq_true rfl, Nat.le_of_ble_eq_true rfl⟩ ⟨Nat.le_of_ble_eq_true rfl, Nat.le_of_ble_eq_true rfl⟩ rfl (Nat.le_of_ble_eq_true rfl) d_Model_hasLetter_9 hP hD hS hA 0 12 rfl rfl rfl [0, 1] [] rfl rfl rfl rfl (by decide) (fun v w1 H locs hw_109 hP hD hS => ?_)
    obtain ⟨x_110, rfl, rfl, hx_110⟩ := hw_109
    have hP : va_P G.1 classes [(b0, .inr (12, [.int b3, .ref b4, .ref b5, .ref b6, .ref b7, .int b8, .ref b9, .int b10, .int b11, .int b12, .int b13, .ref b14, .ref b15, .ref b16, .int b17, .ref b18, .ref b19, .ref b20, .ref b21, .ref b22, .ref b23, .ref b24, .ref b25, .ref b26, .ref b27, .ref b28, .ref b29, .int b30, .ref b31, .ref b32, .int b33, .int b34, .int b35, .int b36, .ref b37, .ref b38, .ref b39, .ref b40, .ref b41, .ref b42, .ref b43, .int b44, .ref b45, .ref b46, .int b47, .ref b48, .ref b49, .ref b50, .ref b51, .ref b52, .int b53, .ref b54, .ref b55, .ref b56])), (b4, .inl (G.2 0, 503, .inl b57))] H := hP
    have hD := z_tie hP hD rfl
    refine W.widen (k := 0) (n := 0) (Nat.le_of_ble_eq_true rfl) (Nat.le_of_ble_eq_true rfl) ?_
    refine lv_icmp_ge (tgt := 42) hx hb d_Model_hasLetter_12 (by decide) (fun hc_111 => ?_) (fun hc_111 => ?_)
    · have _nhc_111 := hc_111
      have ni_112 := (fa_le _ _).mp hc_111
      refine lv_iload_n hx hb d_Model_hasLetter_42 rfl (lv_at hl 1 rfl) ?_
      exact z_zret hx hb hr hlocks (zi_nb hy_108) hP hD hS (Nat.le_of_ble_eq_true rfl) (Nat.le_of_ble_eq_true rfl) d_Model_hasLetter_43 ⟨y_108, rfl, rfl, hy_108⟩
    · have _nhc_111 := hc_111
      have ni_113 := (fa_lt _ _).mp (zi_nle hc_111)
      have hv_114 : zI y_107 0 11 := zI.lt_l hy_107 hx_110 (zi_nle hc_111) (by decide)
      have hv_115 : zI x_110 1 12 := zI.lt_r hy_107 hx_110 (zi_nle hc_111) (by decide)
      refine lv_iload_n hx hb d_Model_hasLetter_15 rfl (lv_at hl 1 rfl) ?_
      refine lv_if_ne (tgt := 30) hx hb d_Model_hasLetter_16 (by decide) (fun hc_116 => ?_) (fun hc_116 => ?_)
      · have _nhc_116 := hc_116
        have ni_117 : ¬ (y_108 : Int32).toInt = (0 : Int32).toInt := fun z => hc_116 ((fa_eq _ _).mpr z)
        simp only [li_0] at ni_117
        have hv_118 : zI y_108 1 1 := zI.ne_lo hy_108 zc_0 hc_116 (by decide)
        refine lv_iconst (v := 1) hx hb d_Model_hasLetter_30 (by decide) ?_
        refine lv_goto (tgt := 35) hx hb d_Model_hasLetter_31 (by decide) ?_
        refine lv_istore_n (lv' := [(3, .int 1), (4, .int y_107), (0, .ref b0), (1, .int b1), (2, .int b2)]) hx hb d_Model_hasLetter_35 rfl hl (by decide) rfl (fun ls hl => ?_)
        obtain ⟨v_119, ev_119⟩ : ∃ z : Int32, z = y_107 + 1 := ⟨_, rfl⟩
        obtain ⟨qv_119, hv_119⟩ := zI_add (l := 1) (h := 12) hv_114 zc_1 ev_119 (by decide)
        rw [li_1] at qv_119
        refine lv_iinc (v := v_119) (lv' := [(4, .int v_119), (3, .int 1), (0, .ref b0), (1, .int b1), (2, .int b2)]) hx hb d_Model_hasLetter_36 hl (k := 1) rfl (by rw [ev_119]; rfl) (by decide) rfl (fun ls hl => ?_)
        refine lv_goto (tgt := 5) hx hb d_Model_hasLetter_39 (by decide) ?_
        exact ihk_106 (v_119) (1) _ _ _ (zI.wk (l' := 0) (h' := 12) hv_119 (by decide)) (zI.wk (l' := 0) (h' := 1) zc_1 (by decide)) (zm_up qv_119 hmk_106 (by decide)) hP hD hS (lv_sub hl [0, 1, 2, 3, 4] rfl)
      · have _nhc_116 := hc_116
        have ni_120 := (fa_eq _ _).mp hc_116
        rw [li_0] at ni_120
        have hv_121 : zI y_108 0 0 := zI.eq_l hy_108 zc_0 hc_116
        refine lv_aload_n hx hb d_Model_hasLetter_19 rfl (lv_at hl 2 rfl) ?_
        refine lv_iload_n hx hb d_Model_hasLetter_20 rfl (lv_at hl 3 rfl) ?_
        refine lv_iload hx hb d_Model_hasLetter_21 (lv_at hl 0 rfl) ?_
        refine z_callV (index := 207) (As := [.int b1, .int y_107]) (rest := []) (wr := []) Z (s1_Model_letterAt l G (b0) (b1) (y_107) (b3) (b4) (b5) (b6) (b7) (b8) (b9) (b10) (b11) (b12) (b13) (b14) (b15) (b16) (b17) (b18) (b19) (b20) (b21) (b22) (b23) (b24) (b25) (b26) (b27) (b28) (b29) (b30) (b31) (b32) (b33) (b34) (b35) (b36) (b37) (b38) (b39) (b40) (b41) (b42) (b43) (b44) (b45) (b46) (b47) (b48) (b49) (b50) (b51) (b52) (b53) (b54) (b55) (b56) (b57) hb1 hv_114 hb8 hb10 hb11 hb13 hb17 hb30 hb33 hb57) hl.1 q1372 q1374 qs59 q14 q1375 ⟨by decide, by decide, by show _ = some 2; decide +kernel⟩ ⟨Nat.le_of_ble_eq_true rfl, Nat.le_of_ble_eq_true rfl⟩ ⟨Nat.le_of_ble_eq_true rfl, Nat.le_of_ble_eq_true rfl⟩ rfl (Nat.le_of_ble_eq_true rfl) d_Model_hasLetter_23 hP hD hS hA 0 12 rfl rfl rfl [0, 1] [] rfl rfl rfl rfl (by decide) (fun v w1 H locs hw_122 hP hD hS => ?_)
        obtain ⟨x_123, rfl, rfl, hx_123⟩ := hw_122
        have hP : va_P G.1 classes [(b0, .inr (12, [.int b3, .ref b4, .ref b5, .ref b6, .ref b7, .int b8, .ref b9, .int b10, .int b11, .int b12, .int b13, .ref b14, .ref b15, .ref b16, .int b17, .ref b18, .ref b19, .ref b20, .ref b21, .ref b22, .ref b23, .ref b24, .ref b25, .ref b26, .ref b27, .ref b28, .ref b29, .int b30, .ref b31, .ref b32, .int b33, .int b34, .int b35, .int b36, .ref b37, .ref b38, .ref b39, .ref b40, .ref b41, .ref b42, .ref b43, .int b44, .ref b45, .ref b46, .int b47, .ref b48, .ref b49, .ref b50, .ref b51, .ref b52, .int b53, .ref b54, .ref b55, .ref b56])), (b4, .inl (G.2 0, 503, .inl b57))] H := hP
        have hD := z_tie hP hD rfl
        refine W.widen (k := 0) (n := 0) (Nat.le_of_ble_eq_true rfl) (Nat.le_of_ble_eq_true rfl) ?_
        refine lv_iload_n hx hb d_Model_hasLetter_26 rfl (lv_at hl 4 rfl) ?_
        refine lv_icmp_ne (tgt := 34) hx hb d_Model_hasLetter_27 (by decide) (fun hc_124 => ?_) (fun hc_124 => ?_)
        · have _nhc_124 := hc_124
          have ni_125 : ¬ (x_123 : Int32).toInt = (b2 : Int32).toInt := fun z => hc_124 ((fa_eq _ _).mpr z)
          refine lv_iconst (v := 0) hx hb d_Model_hasLetter_34 (by decide) ?_
          refine lv_istore_n (lv' := [(3, .int 0), (4, .int y_107), (0, .ref b0), (1, .int b1), (2, .int b2)]) hx hb d_Model_hasLetter_35 rfl hl (by decide) rfl (fun ls hl => ?_)
          obtain ⟨v_126, ev_126⟩ : ∃ z : Int32, z = y_107 + 1 := ⟨_, rfl⟩
          obtain ⟨qv_126, hv_126⟩ := zI_add (l := 1) (h := 12) hv_114 zc_1 ev_126 (by decide)
          rw [li_1] at qv_126
          refine lv_iinc (v := v_126) (lv' := [(4, .int v_126), (3, .int 0), (0, .ref b0), (1, .int b1), (2, .int b2)]) hx hb d_Model_hasLetter_36 hl (k := 1) rfl (by rw [ev_126]; rfl) (by decide) rfl (fun ls hl => ?_)
          refine lv_goto (tgt := 5) hx hb d_Model_hasLetter_39 (by decide) ?_
          exact ihk_106 (v_126) (0) _ _ _ (zI.wk (l' := 0) (h' := 12) hv_126 (by decide)) (zI.wk (l' := 0) (h' := 1) zc_0 (by decide)) (zm_up qv_126 hmk_106 (by decide)) hP hD hS (lv_sub hl [0, 1, 2, 3, 4] rfl)
        · have _nhc_124 := hc_124
          have ni_127 := (fa_eq _ _).mp hc_124
          have hv_128 : zI b2 0 9 := zI.eq_l (zI_all b2) hx_123 hc_124.symm
          refine lv_iconst (v := 1) hx hb d_Model_hasLetter_30 (by decide) ?_
          refine lv_goto (tgt := 35) hx hb d_Model_hasLetter_31 (by decide) ?_
          refine lv_istore_n (lv' := [(3, .int 1), (4, .int y_107), (0, .ref b0), (1, .int b1), (2, .int b2)]) hx hb d_Model_hasLetter_35 rfl hl (by decide) rfl (fun ls hl => ?_)
          obtain ⟨v_129, ev_129⟩ : ∃ z : Int32, z = y_107 + 1 := ⟨_, rfl⟩
          obtain ⟨qv_129, hv_129⟩ := zI_add (l := 1) (h := 12) hv_114 zc_1 ev_129 (by decide)
          rw [li_1] at qv_129
          refine lv_iinc (v := v_129) (lv' := [(4, .int v_129), (3, .int 1), (0, .ref b0), (1, .int b1), (2, .int b2)]) hx hb d_Model_hasLetter_36 hl (k := 1) rfl (by rw [ev_129]; rfl) (by decide) rfl (fun ls hl => ?_)
          refine lv_goto (tgt := 5) hx hb d_Model_hasLetter_39 (by decide) ?_
          exact ihk_106 (v_129) (1) _ _ _ (zI.wk (l' := 0) (h' := 12) hv_129 (by decide)) (zI.wk (l' := 0) (h' := 1) zc_1 (by decide)) (zm_up qv_129 hmk_106 (by decide)) hP hD hS (lv_sub hl [0, 1, 2, 3, 4] rfl)
theorem d_Model_firstOf_0 : decode prog_14_method_72_code 0 = .ok (.iconst 0, 1) := by decide +kernel
theorem d_Model_firstOf_1 : decode prog_14_method_72_code 1 = .ok (.istore_n 3, 1) := by decide +kernel
theorem d_Model_firstOf_2 : decode prog_14_method_72_code 2 = .ok (.iload_n 3, 1) := by decide +kernel
theorem d_Model_firstOf_3 : decode prog_14_method_72_code 3 = .ok (.aload_n 0, 1) := by decide +kernel
theorem d_Model_firstOf_4 : decode prog_14_method_72_code 4 = .ok (.iload_n 1, 1) := by decide +kernel
theorem d_Model_firstOf_5 : decode prog_14_method_72_code 5 = .ok (.invokevirtual 203, 3) := by decide +kernel
theorem d_Model_firstOf_8 : decode prog_14_method_72_code 8 = .ok (.if_icmp .ge 19, 3) := by decide +kernel
theorem d_Model_firstOf_11 : decode prog_14_method_72_code 11 = .ok (.aload_n 0, 1) := by decide +kernel
theorem d_Model_firstOf_12 : decode prog_14_method_72_code 12 = .ok (.iload_n 1, 1) := by decide +kernel
theorem d_Model_firstOf_13 : decode prog_14_method_72_code 13 = .ok (.iload_n 3, 1) := by decide +kernel
theorem d_Model_firstOf_14 : decode prog_14_method_72_code 14 = .ok (.invokevirtual 207, 3) := by decide +kernel
theorem d_Model_firstOf_17 : decode prog_14_method_72_code 17 = .ok (.iload_n 2, 1) := by decide +kernel
theorem d_Model_firstOf_18 : decode prog_14_method_72_code 18 = .ok (.if_icmp .eq 9, 3) := by decide +kernel
theorem d_Model_firstOf_21 : decode prog_14_method_72_code 21 = .ok (.iinc 3 1, 3) := by decide +kernel
theorem d_Model_firstOf_24 : decode prog_14_method_72_code 24 = .ok (.goto (-22), 3) := by decide +kernel
theorem d_Model_firstOf_27 : decode prog_14_method_72_code 27 = .ok (.iload_n 3, 1) := by decide +kernel
theorem d_Model_firstOf_28 : decode prog_14_method_72_code 28 = .ok (.ireturn, 1) := by decide +kernel
abbrev m_s1_Model_firstOf : Room := { frames := 1, cells := 0, slots := 0, locals := 22 }
set_option maxHeartbeats 4000000 in
set_option maxRecDepth 100000 in
theorem s1_Model_firstOf (l : Launch) (G : zG) (b0 : Nat) (b1 : Int32) (b2 : Int32) (b3 : Int32) (b4 : Nat) (b5 : Nat) (b6 : Nat) (b7 : Nat) (b8 : Int32) (b9 : Nat) (b10 : Int32) (b11 : Int32) (b12 : Int32) (b13 : Int32) (b14 : Nat) (b15 : Nat) (b16 : Nat) (b17 : Int32) (b18 : Nat) (b19 : Nat) (b20 : Nat) (b21 : Nat) (b22 : Nat) (b23 : Nat) (b24 : Nat) (b25 : Nat) (b26 : Nat) (b27 : Nat) (b28 : Nat) (b29 : Nat) (b30 : Int32) (b31 : Nat) (b32 : Nat) (b33 : Int32) (b34 : Int32) (b35 : Int32) (b36 : Int32) (b37 : Nat) (b38 : Nat) (b39 : Nat) (b40 : Nat) (b41 : Nat) (b42 : Nat) (b43 : Nat) (b44 : Int32) (b45 : Nat) (b46 : Nat) (b47 : Int32) (b48 : Nat) (b49 : Nat) (b50 : Nat) (b51 : Nat) (b52 : Nat) (b53 : Int32) (b54 : Nat) (b55 : Nat) (b56 : Nat) (b57 : Nat → Int32) (hb1 : zI b1 0 19) (hb8 : zI b8 0 8) (hb10 : zI b10 0 240) (hb11 : zI b11 0 240) (hb13 : zI b13 0 1) (hb17 : zI b17 0 12) (hb30 : zI b30 0 1) (hb33 : zI b33 0 1) (hb57 : zW5 b57) : zM l G y_Model_firstOf prog_14_method_72_code 4 (Option.some Jvm.ClassFile.FieldType.int) m_s1_Model_firstOf [.ref b0, .int b1, .int b2] [(b0, .inr (12, [.int b3, .ref b4, .ref b5, .ref b6, .ref b7, .int b8, .ref b9, .int b10, .int b11, .int b12, .int b13, .ref b14, .ref b15, .ref b16, .int b17, .ref b18, .ref b19, .ref b20, .ref b21, .ref b22, .ref b23, .ref b24, .ref b25, .ref b26, .ref b27, .ref b28, .ref b29, .int b30, .ref b31, .ref b32, .int b33, .int b34, .int b35, .int b36, .ref b37, .ref b38, .ref b39, .ref b40, .ref b41, .ref b42, .ref b43, .int b44, .ref b45, .ref b46, .int b47, .ref b48, .ref b49, .ref b50, .ref b51, .ref b52, .int b53, .ref b54, .ref b55, .ref b56])), (b4, .inl (G.2 0, 503, .inl b57))] (fun v w => ∃ (e0 : Int32), v = some (.int e0) ∧ w = [(b0, .inr (12, [.int b3, .ref b4, .ref b5, .ref b6, .ref b7, .int b8, .ref b9, .int b10, .int b11, .int b12, .int b13, .ref b14, .ref b15, .ref b16, .int b17, .ref b18, .ref b19, .ref b20, .ref b21, .ref b22, .ref b23, .ref b24, .ref b25, .ref b26, .ref b27, .ref b28, .ref b29, .int b30, .ref b31, .ref b32, .int b33, .int b34, .int b35, .int b36, .ref b37, .ref b38, .ref b39, .ref b40, .ref b41, .ref b42, .ref b43, .int b44, .ref b45, .ref b46, .int b47, .ref b48, .ref b49, .ref b50, .ref b51, .ref b52, .int b53, .ref b54, .ref b55, .ref b56])), (b4, .inl (G.2 0, 503, .inl b57))] ∧ (zI e0 0 12)) := by
  refine z_start (by decide +kernel) (Nat.le_of_ble_eq_true rfl) ?_
  intro p e s m below meth c A Z hr hnm hA hP hD hS ls hl
  have Z : zC p s m _ meth c prog_14_method_72_code 4 "TraceMachinesModel" G := Z
  obtain ⟨hx, hb, hml, hown, hts, hK, hN, hlocks⟩ := id Z
  have hl : lv_has ls 4 [(0, .ref b0), (1, .int b1), (2, .int b2)] := hl
  refine lv_iconst (v := 0) hx hb d_Model_firstOf_0 (by decide) ?_
  refine lv_istore_n (lv' := [(3, .int 0), (0, .ref b0), (1, .int b1), (2, .int b2)]) hx hb d_Model_firstOf_1 rfl hl (by decide) rfl (fun ls hl => ?_)
  suffices key : ∀ (k_74 : Nat) (y_75 : Int32) (H : Heap) (locs : List Loc) (ls : Array Slot), (zI y_75 0 12) → (12 : Int) - y_75.toInt < (k_74 : Int) → va_P G.1 classes [(b0, .inr (12, [.int b3, .ref b4, .ref b5, .ref b6, .ref b7, .int b8, .ref b9, .int b10, .int b11, .int b12, .int b13, .ref b14, .ref b15, .ref b16, .int b17, .ref b18, .ref b19, .ref b20, .ref b21, .ref b22, .ref b23, .ref b24, .ref b25, .ref b26, .ref b27, .ref b28, .ref b29, .int b30, .ref b31, .ref b32, .int b33, .int b34, .int b35, .int b36, .ref b37, .ref b38, .ref b39, .ref b40, .ref b41, .ref b42, .ref b43, .int b44, .ref b45, .ref b46, .int b47, .ref b48, .ref b49, .ref b50, .ref b51, .ref b52, .int b53, .ref b54, .ref b55, .ref b56])), (b4, .inl (G.2 0, 503, .inl b57))] H → va_D A [(b0, .inr (12, [.int b3, .ref b4, .ref b5, .ref b6, .ref b7, .int b8, .ref b9, .int b10, .int b11, .int b12, .int b13, .ref b14, .ref b15, .ref b16, .int b17, .ref b18, .ref b19, .ref b20, .ref b21, .ref b22, .ref b23, .ref b24, .ref b25, .ref b26, .ref b27, .ref b28, .ref b29, .int b30, .ref b31, .ref b32, .int b33, .int b34, .int b35, .int b36, .ref b37, .ref b38, .ref b39, .ref b40, .ref b41, .ref b42, .ref b43, .int b44, .ref b45, .ref b46, .int b47, .ref b48, .ref b49, .ref b50, .ref b51, .ref b52, .int b53, .ref b54, .ref b55, .ref b56])), (b4, .inl (G.2 0, 503, .inl b57))] → va_S A s.heap H locs → lv_has ls 4 [(3, .int y_75), (0, .ref b0), (1, .int b1), (2, .int b2)] → W p l e m_s1_Model_firstOf s m ([.ref b0, .int b1, .int b2] : List Value).toArray below meth c H locs 0 0 (MQ below (zQ G (fun v w => ∃ (e0 : Int32), v = some (.int e0) ∧ w = [(b0, .inr (12, [.int b3, .ref b4, .ref b5, .ref b6, .ref b7, .int b8, .ref b9, .int b10, .int b11, .int b12, .int b13, .ref b14, .ref b15, .ref b16, .int b17, .ref b18, .ref b19, .ref b20, .ref b21, .ref b22, .ref b23, .ref b24, .ref b25, .ref b26, .ref b27, .ref b28, .ref b29, .int b30, .ref b31, .ref b32, .int b33, .int b34, .int b35, .int b36, .ref b37, .ref b38, .ref b39, .ref b40, .ref b41, .ref b42, .ref b43, .int b44, .ref b45, .ref b46, .int b47, .ref b48, .ref b49, .ref b50, .ref b51, .ref b52, .int b53, .ref b54, .ref b55, .ref b56])), (b4, .inl (G.2 0, 503, .inl b57))] ∧ (zI e0 0 12)) A) ([.ref b0, .int b1, .int b2] : List Value).toArray s m_s1_Model_firstOf.cells m_s1_Model_firstOf.slots A) (F0 m 2 ls []) by
    exact key 13 (0) _ _ _ (zI.wk (l' := 0) (h' := 12) zc_0 (by decide)) (zm_upi (zI.wk (l' := 0) (h' := 12) zc_0 (by decide)) (by decide)) hP hD hS (lv_sub hl [0, 1, 2, 3] rfl)
  intro k_74
  induction k_74 with
  | zero =>
    intro y_75 H locs ls hy_75 hmk_74 hP hD hS hl
    exact (zm_up0 hy_75 hmk_74).elim
  | succ k_74 ihk_74 =>
    intro y_75 H locs ls hy_75 hmk_74 hP hD hS hl
    refine lv_iload_n hx hb d_Model_firstOf_2 rfl (lv_at hl 0 rfl) ?_
    refine lv_aload_n hx hb d_Model_firstOf_3 rfl (lv_at hl 1 rfl) ?_
    refine lv_iload_n hx hb d_Model_firstOf_4 rfl (lv_at hl 2 rfl) ?_
    refine z_callV (index := 203) (As := [.int b1]) (rest := [.int y_75]) (wr := []) Z (s1_Model_calls l G (b0) (b1) (b3) (b4) (b5) (b6) (b7) (b8) (b9) (b10) (b11) (b12) (b13) (b14) (b15) (b16) (b17) (b18) (b19) (b20) (b21) (b22) (b23) (b24) (b25) (b26) (b27) (b28) (b29) (b30) (b31) (b32) (b33) (b34) (b35) (b36) (b37) (b38) (b39) (b40) (b41) (b42) (b43) (b44) (b45) (b46) (b47) (b48) (b49) (b50) (b51) (b52) (b53) (b54) (b55) (b56) (b57) hb1 hb8 hb10 hb11 hb13 hb17 hb30 hb33 hb57) hl.1 q1352 q1354 qs54 q14 q1355 ⟨by decide, by decide, by show _ = some 1; decide +kernel⟩ ⟨Nat.le_of_ble_eq_true rfl, Nat.le_of_ble_eq_true rfl⟩ ⟨Nat.le_of_ble_eq_true rfl, Nat.le_of_ble_eq_true rfl⟩ rfl (Nat.le_of_ble_eq_true rfl) d_Model_firstOf_5 hP hD hS hA 0 12 rfl rfl rfl [0, 1] [] rfl rfl rfl rfl (by decide) (fun v w1 H locs hw_76 hP hD hS => ?_)
    obtain ⟨x_77, rfl, rfl, hx_77⟩ := hw_76
    have hP : va_P G.1 classes [(b0, .inr (12, [.int b3, .ref b4, .ref b5, .ref b6, .ref b7, .int b8, .ref b9, .int b10, .int b11, .int b12, .int b13, .ref b14, .ref b15, .ref b16, .int b17, .ref b18, .ref b19, .ref b20, .ref b21, .ref b22, .ref b23, .ref b24, .ref b25, .ref b26, .ref b27, .ref b28, .ref b29, .int b30, .ref b31, .ref b32, .int b33, .int b34, .int b35, .int b36, .ref b37, .ref b38, .ref b39, .ref b40, .ref b41, .ref b42, .ref b43, .int b44, .ref b45, .ref b46, .int b47, .ref b48, .ref b49, .ref b50, .ref b51, .ref b52, .int b53, .ref b54, .ref b55, .ref b56])), (b4, .inl (G.2 0, 503, .inl b57))] H := hP
    have hD := z_tie hP hD rfl
    refine W.widen (k := 0) (n := 0) (Nat.le_of_ble_eq_true rfl) (Nat.le_of_ble_eq_true rfl) ?_
    refine lv_icmp_ge (tgt := 27) hx hb d_Model_firstOf_8 (by decide) (fun hc_78 => ?_) (fun hc_78 => ?_)
    · have _nhc_78 := hc_78
      have ni_79 := (fa_le _ _).mp hc_78
      refine lv_iload_n hx hb d_Model_firstOf_27 rfl (lv_at hl 0 rfl) ?_
      exact z_iret hx hb hr hlocks hP hD hS (Nat.le_of_ble_eq_true rfl) (Nat.le_of_ble_eq_true rfl) d_Model_firstOf_28 ⟨y_75, rfl, rfl, hy_75⟩
    · have _nhc_78 := hc_78
      have ni_80 := (fa_lt _ _).mp (zi_nle hc_78)
      have hv_81 : zI y_75 0 11 := zI.lt_l hy_75 hx_77 (zi_nle hc_78) (by decide)
      have hv_82 : zI x_77 1 12 := zI.lt_r hy_75 hx_77 (zi_nle hc_78) (by decide)
      refine lv_aload_n hx hb d_Model_firstOf_11 rfl (lv_at hl 1 rfl) ?_
      refine lv_iload_n hx hb d_Model_firstOf_12 rfl (lv_at hl 2 rfl) ?_
      refine lv_iload_n hx hb d_Model_firstOf_13 rfl (lv_at hl 0 rfl) ?_
      refine z_callV (index := 207) (As := [.int b1, .int y_75]) (rest := []) (wr := []) Z (s1_Model_letterAt l G (b0) (b1) (y_75) (b3) (b4) (b5) (b6) (b7) (b8) (b9) (b10) (b11) (b12) (b13) (b14) (b15) (b16) (b17) (b18) (b19) (b20) (b21) (b22) (b23) (b24) (b25) (b26) (b27) (b28) (b29) (b30) (b31) (b32) (b33) (b34) (b35) (b36) (b37) (b38) (b39) (b40) (b41) (b42) (b43) (b44) (b45) (b46) (b47) (b48) (b49) (b50) (b51) (b52) (b53) (b54) (b55) (b56) (b57) hb1 hv_81 hb8 hb10 hb11 hb13 hb17 hb30 hb33 hb57) hl.1 q1372 q1374 qs59 q14 q1375 ⟨by decide, by decide, by show _ = some 2; decide +kernel⟩ ⟨Nat.le_of_ble_eq_true rfl, Nat.le_of_ble_eq_true rfl⟩ ⟨Nat.le_of_ble_eq_true rfl, Nat.le_of_ble_eq_true rfl⟩ rfl (Nat.le_of_ble_eq_true rfl) d_Model_firstOf_14 hP hD hS hA 0 12 rfl rfl rfl [0, 1] [] rfl rfl rfl rfl (by decide) (fun v w1 H locs hw_83 hP hD hS => ?_)
      obtain ⟨x_84, rfl, rfl, hx_84⟩ := hw_83
      have hP : va_P G.1 classes [(b0, .inr (12, [.int b3, .ref b4, .ref b5, .ref b6, .ref b7, .int b8, .ref b9, .int b10, .int b11, .int b12, .int b13, .ref b14, .ref b15, .ref b16, .int b17, .ref b18, .ref b19, .ref b20, .ref b21, .ref b22, .ref b23, .ref b24, .ref b25, .ref b26, .ref b27, .ref b28, .ref b29, .int b30, .ref b31, .ref b32, .int b33, .int b34, .int b35, .int b36, .ref b37, .ref b38, .ref b39, .ref b40, .ref b41, .ref b42, .ref b43, .int b44, .ref b45, .ref b46, .int b47, .ref b48, .ref b49, .ref b50, .ref b51, .ref b52, .int b53, .ref b54, .ref b55, .ref b56])), (b4, .inl (G.2 0, 503, .inl b57))] H := hP
      have hD := z_tie hP hD rfl
      refine W.widen (k := 0) (n := 0) (Nat.le_of_ble_eq_true rfl) (Nat.le_of_ble_eq_true rfl) ?_
      refine lv_iload_n hx hb d_Model_firstOf_17 rfl (lv_at hl 3 rfl) ?_
      refine lv_icmp_eq (tgt := 27) hx hb d_Model_firstOf_18 (by decide) (fun hc_85 => ?_) (fun hc_85 => ?_)
      · have _nhc_85 := hc_85
        have ni_86 := (fa_eq _ _).mp hc_85
        have hv_87 : zI b2 0 9 := zI.eq_l (zI_all b2) hx_84 hc_85.symm
        refine lv_iload_n hx hb d_Model_firstOf_27 rfl (lv_at hl 0 rfl) ?_
        exact z_iret hx hb hr hlocks hP hD hS (Nat.le_of_ble_eq_true rfl) (Nat.le_of_ble_eq_true rfl) d_Model_firstOf_28 ⟨y_75, rfl, rfl, (zI.wk (l' := 0) (h' := 12) hv_81 (by decide))⟩
      · have _nhc_85 := hc_85
        have ni_88 : ¬ (x_84 : Int32).toInt = (b2 : Int32).toInt := fun z => hc_85 ((fa_eq _ _).mpr z)
        obtain ⟨v_89, ev_89⟩ : ∃ z : Int32, z = y_75 + 1 := ⟨_, rfl⟩
        obtain ⟨qv_89, hv_89⟩ := zI_add (l := 1) (h := 12) hv_81 zc_1 ev_89 (by decide)
        rw [li_1] at qv_89
        refine lv_iinc (v := v_89) (lv' := [(3, .int v_89), (0, .ref b0), (1, .int b1), (2, .int b2)]) hx hb d_Model_firstOf_21 hl (k := 0) rfl (by rw [ev_89]; rfl) (by decide) rfl (fun ls hl => ?_)
        refine lv_goto (tgt := 2) hx hb d_Model_firstOf_24 (by decide) ?_
        exact ihk_74 (v_89) _ _ _ (zI.wk (l' := 0) (h' := 12) hv_89 (by decide)) (zm_up qv_89 hmk_74 (by decide)) hP hD hS (lv_sub hl [0, 1, 2, 3] rfl)
theorem d_Model_lastOf_0 : decode prog_14_method_73_code 0 = .ok (.aload_n 0, 1) := by decide +kernel
theorem d_Model_lastOf_1 : decode prog_14_method_73_code 1 = .ok (.iload_n 1, 1) := by decide +kernel
theorem d_Model_lastOf_2 : decode prog_14_method_73_code 2 = .ok (.invokevirtual 203, 3) := by decide +kernel
theorem d_Model_lastOf_5 : decode prog_14_method_73_code 5 = .ok (.iconst 1, 1) := by decide +kernel
theorem d_Model_lastOf_6 : decode prog_14_method_73_code 6 = .ok (.isub, 1) := by decide +kernel
theorem d_Model_lastOf_7 : decode prog_14_method_73_code 7 = .ok (.istore_n 3, 1) := by decide +kernel
theorem d_Model_lastOf_8 : decode prog_14_method_73_code 8 = .ok (.iload_n 3, 1) := by decide +kernel
theorem d_Model_lastOf_9 : decode prog_14_method_73_code 9 = .ok (.ifCond .lt 19, 3) := by decide +kernel
theorem d_Model_lastOf_12 : decode prog_14_method_73_code 12 = .ok (.aload_n 0, 1) := by decide +kernel
theorem d_Model_lastOf_13 : decode prog_14_method_73_code 13 = .ok (.iload_n 1, 1) := by decide +kernel
theorem d_Model_lastOf_14 : decode prog_14_method_73_code 14 = .ok (.iload_n 3, 1) := by decide +kernel
theorem d_Model_lastOf_15 : decode prog_14_method_73_code 15 = .ok (.invokevirtual 207, 3) := by decide +kernel
theorem d_Model_lastOf_18 : decode prog_14_method_73_code 18 = .ok (.iload_n 2, 1) := by decide +kernel
theorem d_Model_lastOf_19 : decode prog_14_method_73_code 19 = .ok (.if_icmp .eq 9, 3) := by decide +kernel
theorem d_Model_lastOf_22 : decode prog_14_method_73_code 22 = .ok (.iinc 3 (-1), 3) := by decide +kernel
theorem d_Model_lastOf_25 : decode prog_14_method_73_code 25 = .ok (.goto (-17), 3) := by decide +kernel
theorem d_Model_lastOf_28 : decode prog_14_method_73_code 28 = .ok (.iload_n 3, 1) := by decide +kernel
theorem d_Model_lastOf_29 : decode prog_14_method_73_code 29 = .ok (.ireturn, 1) := by decide +kernel
abbrev m_s1_Model_lastOf : Room := { frames := 1, cells := 0, slots := 0, locals := 22 }
set_option maxHeartbeats 4000000 in
set_option maxRecDepth 100000 in
theorem s1_Model_lastOf (l : Launch) (G : zG) (b0 : Nat) (b1 : Int32) (b2 : Int32) (b3 : Int32) (b4 : Nat) (b5 : Nat) (b6 : Nat) (b7 : Nat) (b8 : Int32) (b9 : Nat) (b10 : Int32) (b11 : Int32) (b12 : Int32) (b13 : Int32) (b14 : Nat) (b15 : Nat) (b16 : Nat) (b17 : Int32) (b18 : Nat) (b19 : Nat) (b20 : Nat) (b21 : Nat) (b22 : Nat) (b23 : Nat) (b24 : Nat) (b25 : Nat) (b26 : Nat) (b27 : Nat) (b28 : Nat) (b29 : Nat) (b30 : Int32) (b31 : Nat) (b32 : Nat) (b33 : Int32) (b34 : Int32) (b35 : Int32) (b36 : Int32) (b37 : Nat) (b38 : Nat) (b39 : Nat) (b40 : Nat) (b41 : Nat) (b42 : Nat) (b43 : Nat) (b44 : Int32) (b45 : Nat) (b46 : Nat) (b47 : Int32) (b48 : Nat) (b49 : Nat) (b50 : Nat) (b51 : Nat) (b52 : Nat) (b53 : Int32) (b54 : Nat) (b55 : Nat) (b56 : Nat) (b57 : Nat → Int32) (hb1 : zI b1 0 19) (hb8 : zI b8 0 8) (hb10 : zI b10 0 240) (hb11 : zI b11 0 240) (hb13 : zI b13 0 1) (hb17 : zI b17 0 12) (hb30 : zI b30 0 1) (hb33 : zI b33 0 1) (hb57 : zW5 b57) : zM l G y_Model_lastOf prog_14_method_73_code 4 (Option.some Jvm.ClassFile.FieldType.int) m_s1_Model_lastOf [.ref b0, .int b1, .int b2] [(b0, .inr (12, [.int b3, .ref b4, .ref b5, .ref b6, .ref b7, .int b8, .ref b9, .int b10, .int b11, .int b12, .int b13, .ref b14, .ref b15, .ref b16, .int b17, .ref b18, .ref b19, .ref b20, .ref b21, .ref b22, .ref b23, .ref b24, .ref b25, .ref b26, .ref b27, .ref b28, .ref b29, .int b30, .ref b31, .ref b32, .int b33, .int b34, .int b35, .int b36, .ref b37, .ref b38, .ref b39, .ref b40, .ref b41, .ref b42, .ref b43, .int b44, .ref b45, .ref b46, .int b47, .ref b48, .ref b49, .ref b50, .ref b51, .ref b52, .int b53, .ref b54, .ref b55, .ref b56])), (b4, .inl (G.2 0, 503, .inl b57))] (fun v w => ∃ (e0 : Int32), v = some (.int e0) ∧ w = [(b0, .inr (12, [.int b3, .ref b4, .ref b5, .ref b6, .ref b7, .int b8, .ref b9, .int b10, .int b11, .int b12, .int b13, .ref b14, .ref b15, .ref b16, .int b17, .ref b18, .ref b19, .ref b20, .ref b21, .ref b22, .ref b23, .ref b24, .ref b25, .ref b26, .ref b27, .ref b28, .ref b29, .int b30, .ref b31, .ref b32, .int b33, .int b34, .int b35, .int b36, .ref b37, .ref b38, .ref b39, .ref b40, .ref b41, .ref b42, .ref b43, .int b44, .ref b45, .ref b46, .int b47, .ref b48, .ref b49, .ref b50, .ref b51, .ref b52, .int b53, .ref b54, .ref b55, .ref b56])), (b4, .inl (G.2 0, 503, .inl b57))] ∧ (zI e0 (-1) 11)) := by
  refine z_start (by decide +kernel) (Nat.le_of_ble_eq_true rfl) ?_
  intro p e s m below meth c A Z hr hnm hA hP hD hS ls hl
  have Z : zC p s m _ meth c prog_14_method_73_code 4 "TraceMachinesModel" G := Z
  obtain ⟨hx, hb, hml, hown, hts, hK, hN, hlocks⟩ := id Z
  have hl : lv_has ls 4 [(0, .ref b0), (1, .int b1), (2, .int b2)] := hl
  refine lv_aload_n hx hb d_Model_lastOf_0 rfl (lv_at hl 0 rfl) ?_
  refine lv_iload_n hx hb d_Model_lastOf_1 rfl (lv_at hl 1 rfl) ?_
  refine z_callV (index := 203) (As := [.int b1]) (rest := []) (wr := []) Z (s1_Model_calls l G (b0) (b1) (b3) (b4) (b5) (b6) (b7) (b8) (b9) (b10) (b11) (b12) (b13) (b14) (b15) (b16) (b17) (b18) (b19) (b20) (b21) (b22) (b23) (b24) (b25) (b26) (b27) (b28) (b29) (b30) (b31) (b32) (b33) (b34) (b35) (b36) (b37) (b38) (b39) (b40) (b41) (b42) (b43) (b44) (b45) (b46) (b47) (b48) (b49) (b50) (b51) (b52) (b53) (b54) (b55) (b56) (b57) hb1 hb8 hb10 hb11 hb13 hb17 hb30 hb33 hb57) hl.1 q1352 q1354 qs54 q14 q1355 ⟨by decide, by decide, by show _ = some 1; decide +kernel⟩ ⟨Nat.le_of_ble_eq_true rfl, Nat.le_of_ble_eq_true rfl⟩ ⟨Nat.le_of_ble_eq_true rfl, Nat.le_of_ble_eq_true rfl⟩ rfl (Nat.le_of_ble_eq_true rfl) d_Model_lastOf_2 hP hD hS hA 0 12 rfl rfl rfl [0, 1] [] rfl rfl rfl rfl (by decide) (fun v w1 H locs hw_1 hP hD hS => ?_)
  obtain ⟨x_2, rfl, rfl, hx_2⟩ := hw_1
  have hP : va_P G.1 classes [(b0, .inr (12, [.int b3, .ref b4, .ref b5, .ref b6, .ref b7, .int b8, .ref b9, .int b10, .int b11, .int b12, .int b13, .ref b14, .ref b15, .ref b16, .int b17, .ref b18, .ref b19, .ref b20, .ref b21, .ref b22, .ref b23, .ref b24, .ref b25, .ref b26, .ref b27, .ref b28, .ref b29, .int b30, .ref b31, .ref b32, .int b33, .int b34, .int b35, .int b36, .ref b37, .ref b38, .ref b39, .ref b40, .ref b41, .ref b42, .ref b43, .int b44, .ref b45, .ref b46, .int b47, .ref b48, .ref b49, .ref b50, .ref b51, .ref b52, .int b53, .ref b54, .ref b55, .ref b56])), (b4, .inl (G.2 0, 503, .inl b57))] H := hP
  have hD := z_tie hP hD rfl
  refine W.widen (k := 0) (n := 0) (Nat.le_of_ble_eq_true rfl) (Nat.le_of_ble_eq_true rfl) ?_
  refine lv_iconst (v := 1) hx hb d_Model_lastOf_5 (by decide) ?_
  refine lv_isub hx hb d_Model_lastOf_6 ?_
  refine lv_topi (fun v_3 ev_3 => ?_)
  obtain ⟨qv_3, hv_3⟩ := zI_sub (l := -1) (h := 11) hx_2 zc_1 ev_3 (by decide)
  rw [li_1] at qv_3
  refine lv_istore_n (lv' := [(3, .int v_3), (0, .ref b0), (1, .int b1), (2, .int b2)]) hx hb d_Model_lastOf_7 rfl hl (by decide) rfl (fun ls hl => ?_)
  suffices key : ∀ (k_29 : Nat) (y_30 : Int32) (H : Heap) (locs : List Loc) (ls : Array Slot), (zI y_30 (-1) 11) → y_30.toInt - ((-1)) < (k_29 : Int) → va_P G.1 classes [(b0, .inr (12, [.int b3, .ref b4, .ref b5, .ref b6, .ref b7, .int b8, .ref b9, .int b10, .int b11, .int b12, .int b13, .ref b14, .ref b15, .ref b16, .int b17, .ref b18, .ref b19, .ref b20, .ref b21, .ref b22, .ref b23, .ref b24, .ref b25, .ref b26, .ref b27, .ref b28, .ref b29, .int b30, .ref b31, .ref b32, .int b33, .int b34, .int b35, .int b36, .ref b37, .ref b38, .ref b39, .ref b40, .ref b41, .ref b42, .ref b43, .int b44, .ref b45, .ref b46, .int b47, .ref b48, .ref b49, .ref b50, .ref b51, .ref b52, .int b53, .ref b54, .ref b55, .ref b56])), (b4, .inl (G.2 0, 503, .inl b57))] H → va_D A [(b0, .inr (12, [.int b3, .ref b4, .ref b5, .ref b6, .ref b7, .int b8, .ref b9, .int b10, .int b11, .int b12, .int b13, .ref b14, .ref b15, .ref b16, .int b17, .ref b18, .ref b19, .ref b20, .ref b21, .ref b22, .ref b23, .ref b24, .ref b25, .ref b26, .ref b27, .ref b28, .ref b29, .int b30, .ref b31, .ref b32, .int b33, .int b34, .int b35, .int b36, .ref b37, .ref b38, .ref b39, .ref b40, .ref b41, .ref b42, .ref b43, .int b44, .ref b45, .ref b46, .int b47, .ref b48, .ref b49, .ref b50, .ref b51, .ref b52, .int b53, .ref b54, .ref b55, .ref b56])), (b4, .inl (G.2 0, 503, .inl b57))] → va_S A s.heap H locs → lv_has ls 4 [(3, .int y_30), (0, .ref b0), (1, .int b1), (2, .int b2)] → W p l e m_s1_Model_lastOf s m ([.ref b0, .int b1, .int b2] : List Value).toArray below meth c H locs 0 0 (MQ below (zQ G (fun v w => ∃ (e0 : Int32), v = some (.int e0) ∧ w = [(b0, .inr (12, [.int b3, .ref b4, .ref b5, .ref b6, .ref b7, .int b8, .ref b9, .int b10, .int b11, .int b12, .int b13, .ref b14, .ref b15, .ref b16, .int b17, .ref b18, .ref b19, .ref b20, .ref b21, .ref b22, .ref b23, .ref b24, .ref b25, .ref b26, .ref b27, .ref b28, .ref b29, .int b30, .ref b31, .ref b32, .int b33, .int b34, .int b35, .int b36, .ref b37, .ref b38, .ref b39, .ref b40, .ref b41, .ref b42, .ref b43, .int b44, .ref b45, .ref b46, .int b47, .ref b48, .ref b49, .ref b50, .ref b51, .ref b52, .int b53, .ref b54, .ref b55, .ref b56])), (b4, .inl (G.2 0, 503, .inl b57))] ∧ (zI e0 (-1) 11)) A) ([.ref b0, .int b1, .int b2] : List Value).toArray s m_s1_Model_lastOf.cells m_s1_Model_lastOf.slots A) (F0 m 8 ls []) by
    exact key 13 (v_3) _ _ _ hv_3 (zm_dni hv_3 (by decide)) hP hD hS (lv_sub hl [0, 1, 2, 3] rfl)
  intro k_29
  induction k_29 with
  | zero =>
    intro y_30 H locs ls hy_30 hmk_29 hP hD hS hl
    exact (zm_dn0 hy_30 hmk_29).elim
  | succ k_29 ihk_29 =>
    intro y_30 H locs ls hy_30 hmk_29 hP hD hS hl
    refine lv_iload_n hx hb d_Model_lastOf_8 rfl (lv_at hl 0 rfl) ?_
    refine lv_if_lt (tgt := 28) hx hb d_Model_lastOf_9 (by decide) (fun hc_31 => ?_) (fun hc_31 => ?_)
    · have _nhc_31 := hc_31
      have ni_32 := (fa_lt _ _).mp hc_31
      rw [li_0] at ni_32
      have hv_33 : zI y_30 (-1) (-1) := zI.lt_l hy_30 zc_0 hc_31 (by decide)
      refine lv_iload_n hx hb d_Model_lastOf_28 rfl (lv_at hl 0 rfl) ?_
      exact z_iret hx hb hr hlocks hP hD hS (Nat.le_of_ble_eq_true rfl) (Nat.le_of_ble_eq_true rfl) d_Model_lastOf_29 ⟨y_30, rfl, rfl, (zI.wk (l' := (-1)) (h' := 11) hv_33 (by decide))⟩
    · have _nhc_31 := hc_31
      have ni_34 := (fa_le _ _).mp (zi_nlt hc_31)
      rw [li_0] at ni_34
      have hv_35 : zI y_30 0 11 := zI.le_r zc_0 hy_30 (zi_nlt hc_31) (by decide)
      refine lv_aload_n hx hb d_Model_lastOf_12 rfl (lv_at hl 1 rfl) ?_
      refine lv_iload_n hx hb d_Model_lastOf_13 rfl (lv_at hl 2 rfl) ?_
      refine lv_iload_n hx hb d_Model_lastOf_14 rfl (lv_at hl 0 rfl) ?_
      refine z_callV (index := 207) (As := [.int b1, .int y_30]) (rest := []) (wr := []) Z (s1_Model_letterAt l G (b0) (b1) (y_30) (b3) (b4) (b5) (b6) (b7) (b8) (b9) (b10) (b11) (b12) (b13) (b14) (b15) (b16) (b17) (b18) (b19) (b20) (b21) (b22) (b23) (b24) (b25) (b26) (b27) (b28) (b29) (b30) (b31) (b32) (b33) (b34) (b35) (b36) (b37) (b38) (b39) (b40) (b41) (b42) (b43) (b44) (b45) (b46) (b47) (b48) (b49) (b50) (b51) (b52) (b53) (b54) (b55) (b56) (b57) hb1 hv_35 hb8 hb10 hb11 hb13 hb17 hb30 hb33 hb57) hl.1 q1372 q1374 qs59 q14 q1375 ⟨by decide, by decide, by show _ = some 2; decide +kernel⟩ ⟨Nat.le_of_ble_eq_true rfl, Nat.le_of_ble_eq_true rfl⟩ ⟨Nat.le_of_ble_eq_true rfl, Nat.le_of_ble_eq_true rfl⟩ rfl (Nat.le_of_ble_eq_true rfl) d_Model_lastOf_15 hP hD hS hA 0 12 rfl rfl rfl [0, 1] [] rfl rfl rfl rfl (by decide) (fun v w1 H locs hw_36 hP hD hS => ?_)
      obtain ⟨x_37, rfl, rfl, hx_37⟩ := hw_36
      have hP : va_P G.1 classes [(b0, .inr (12, [.int b3, .ref b4, .ref b5, .ref b6, .ref b7, .int b8, .ref b9, .int b10, .int b11, .int b12, .int b13, .ref b14, .ref b15, .ref b16, .int b17, .ref b18, .ref b19, .ref b20, .ref b21, .ref b22, .ref b23, .ref b24, .ref b25, .ref b26, .ref b27, .ref b28, .ref b29, .int b30, .ref b31, .ref b32, .int b33, .int b34, .int b35, .int b36, .ref b37, .ref b38, .ref b39, .ref b40, .ref b41, .ref b42, .ref b43, .int b44, .ref b45, .ref b46, .int b47, .ref b48, .ref b49, .ref b50, .ref b51, .ref b52, .int b53, .ref b54, .ref b55, .ref b56])), (b4, .inl (G.2 0, 503, .inl b57))] H := hP
      have hD := z_tie hP hD rfl
      refine W.widen (k := 0) (n := 0) (Nat.le_of_ble_eq_true rfl) (Nat.le_of_ble_eq_true rfl) ?_
      refine lv_iload_n hx hb d_Model_lastOf_18 rfl (lv_at hl 3 rfl) ?_
      refine lv_icmp_eq (tgt := 28) hx hb d_Model_lastOf_19 (by decide) (fun hc_38 => ?_) (fun hc_38 => ?_)
      · have _nhc_38 := hc_38
        have ni_39 := (fa_eq _ _).mp hc_38
        have hv_40 : zI b2 0 9 := zI.eq_l (zI_all b2) hx_37 hc_38.symm
        refine lv_iload_n hx hb d_Model_lastOf_28 rfl (lv_at hl 0 rfl) ?_
        exact z_iret hx hb hr hlocks hP hD hS (Nat.le_of_ble_eq_true rfl) (Nat.le_of_ble_eq_true rfl) d_Model_lastOf_29 ⟨y_30, rfl, rfl, (zI.wk (l' := (-1)) (h' := 11) hv_35 (by decide))⟩
      · have _nhc_38 := hc_38
        have ni_41 : ¬ (x_37 : Int32).toInt = (b2 : Int32).toInt := fun z => hc_38 ((fa_eq _ _).mpr z)
        obtain ⟨v_42, ev_42⟩ : ∃ z : Int32, z = y_30 + (-1) := ⟨_, rfl⟩
        obtain ⟨qv_42, hv_42⟩ := zI_add (l := -1) (h := 10) hv_35 zc_m1 ev_42 (by decide)
        rw [li_m1] at qv_42
        refine lv_iinc (v := v_42) (lv' := [(3, .int v_42), (0, .ref b0), (1, .int b1), (2, .int b2)]) hx hb d_Model_lastOf_22 hl (k := 0) rfl (by rw [ev_42]; rfl) (by decide) rfl (fun ls hl => ?_)
        refine lv_goto (tgt := 8) hx hb d_Model_lastOf_25 (by decide) ?_
        exact ihk_29 (v_42) _ _ _ (zI.wk (l' := (-1)) (h' := 11) hv_42 (by decide)) (zm_dn qv_42 hmk_29 (by decide)) hP hD hS (lv_sub hl [0, 1, 2, 3] rfl)
theorem d_Model_howOften_0 : decode prog_14_method_74_code 0 = .ok (.iconst 0, 1) := by decide +kernel
theorem d_Model_howOften_1 : decode prog_14_method_74_code 1 = .ok (.istore_n 3, 1) := by decide +kernel
theorem d_Model_howOften_2 : decode prog_14_method_74_code 2 = .ok (.iconst 0, 1) := by decide +kernel
theorem d_Model_howOften_3 : decode prog_14_method_74_code 3 = .ok (.istore 4, 2) := by decide +kernel
theorem d_Model_howOften_5 : decode prog_14_method_74_code 5 = .ok (.iload 4, 2) := by decide +kernel
theorem d_Model_howOften_7 : decode prog_14_method_74_code 7 = .ok (.aload_n 0, 1) := by decide +kernel
theorem d_Model_howOften_8 : decode prog_14_method_74_code 8 = .ok (.iload_n 1, 1) := by decide +kernel
theorem d_Model_howOften_9 : decode prog_14_method_74_code 9 = .ok (.invokevirtual 203, 3) := by decide +kernel
theorem d_Model_howOften_12 : decode prog_14_method_74_code 12 = .ok (.if_icmp .ge 28, 3) := by decide +kernel
theorem d_Model_howOften_15 : decode prog_14_method_74_code 15 = .ok (.iload_n 3, 1) := by decide +kernel
theorem d_Model_howOften_16 : decode prog_14_method_74_code 16 = .ok (.aload_n 0, 1) := by decide +kernel
theorem d_Model_howOften_17 : decode prog_14_method_74_code 17 = .ok (.iload_n 1, 1) := by decide +kernel
theorem d_Model_howOften_18 : decode prog_14_method_74_code 18 = .ok (.iload 4, 2) := by decide +kernel
theorem d_Model_howOften_20 : decode prog_14_method_74_code 20 = .ok (.invokevirtual 207, 3) := by decide +kernel
theorem d_Model_howOften_23 : decode prog_14_method_74_code 23 = .ok (.iload_n 2, 1) := by decide +kernel
theorem d_Model_howOften_24 : decode prog_14_method_74_code 24 = .ok (.if_icmp .ne 7, 3) := by decide +kernel
theorem d_Model_howOften_27 : decode prog_14_method_74_code 27 = .ok (.iconst 1, 1) := by decide +kernel
theorem d_Model_howOften_28 : decode prog_14_method_74_code 28 = .ok (.goto 4, 3) := by decide +kernel
theorem d_Model_howOften_31 : decode prog_14_method_74_code 31 = .ok (.iconst 0, 1) := by decide +kernel
theorem d_Model_howOften_32 : decode prog_14_method_74_code 32 = .ok (.iadd, 1) := by decide +kernel
theorem d_Model_howOften_33 : decode prog_14_method_74_code 33 = .ok (.istore_n 3, 1) := by decide +kernel
theorem d_Model_howOften_34 : decode prog_14_method_74_code 34 = .ok (.iinc 4 1, 3) := by decide +kernel
theorem d_Model_howOften_37 : decode prog_14_method_74_code 37 = .ok (.goto (-32), 3) := by decide +kernel
theorem d_Model_howOften_40 : decode prog_14_method_74_code 40 = .ok (.iload_n 3, 1) := by decide +kernel
theorem d_Model_howOften_41 : decode prog_14_method_74_code 41 = .ok (.ireturn, 1) := by decide +kernel
abbrev m_s1_Model_howOften : Room := { frames := 1, cells := 0, slots := 0, locals := 22 }
set_option maxHeartbeats 4000000 in
set_option maxRecDepth 100000 in
theorem s1_Model_howOften (l : Launch) (G : zG) (b0 : Nat) (b1 : Int32) (b2 : Int32) (b3 : Int32) (b4 : Nat) (b5 : Nat) (b6 : Nat) (b7 : Nat) (b8 : Int32) (b9 : Nat) (b10 : Int32) (b11 : Int32) (b12 : Int32) (b13 : Int32) (b14 : Nat) (b15 : Nat) (b16 : Nat) (b17 : Int32) (b18 : Nat) (b19 : Nat) (b20 : Nat) (b21 : Nat) (b22 : Nat) (b23 : Nat) (b24 : Nat) (b25 : Nat) (b26 : Nat) (b27 : Nat) (b28 : Nat) (b29 : Nat) (b30 : Int32) (b31 : Nat) (b32 : Nat) (b33 : Int32) (b34 : Int32) (b35 : Int32) (b36 : Int32) (b37 : Nat) (b38 : Nat) (b39 : Nat) (b40 : Nat) (b41 : Nat) (b42 : Nat) (b43 : Nat) (b44 : Int32) (b45 : Nat) (b46 : Nat) (b47 : Int32) (b48 : Nat) (b49 : Nat) (b50 : Nat) (b51 : Nat) (b52 : Nat) (b53 : Int32) (b54 : Nat) (b55 : Nat) (b56 : Nat) (b57 : Nat → Int32) (hb1 : zI b1 0 19) (hb8 : zI b8 0 8) (hb10 : zI b10 0 240) (hb11 : zI b11 0 240) (hb13 : zI b13 0 1) (hb17 : zI b17 0 12) (hb30 : zI b30 0 1) (hb33 : zI b33 0 1) (hb57 : zW5 b57) : zM l G y_Model_howOften prog_14_method_74_code 5 (Option.some Jvm.ClassFile.FieldType.int) m_s1_Model_howOften [.ref b0, .int b1, .int b2] [(b0, .inr (12, [.int b3, .ref b4, .ref b5, .ref b6, .ref b7, .int b8, .ref b9, .int b10, .int b11, .int b12, .int b13, .ref b14, .ref b15, .ref b16, .int b17, .ref b18, .ref b19, .ref b20, .ref b21, .ref b22, .ref b23, .ref b24, .ref b25, .ref b26, .ref b27, .ref b28, .ref b29, .int b30, .ref b31, .ref b32, .int b33, .int b34, .int b35, .int b36, .ref b37, .ref b38, .ref b39, .ref b40, .ref b41, .ref b42, .ref b43, .int b44, .ref b45, .ref b46, .int b47, .ref b48, .ref b49, .ref b50, .ref b51, .ref b52, .int b53, .ref b54, .ref b55, .ref b56])), (b4, .inl (G.2 0, 503, .inl b57))] (fun v w => ∃ (e0 : Int32), v = some (.int e0) ∧ w = [(b0, .inr (12, [.int b3, .ref b4, .ref b5, .ref b6, .ref b7, .int b8, .ref b9, .int b10, .int b11, .int b12, .int b13, .ref b14, .ref b15, .ref b16, .int b17, .ref b18, .ref b19, .ref b20, .ref b21, .ref b22, .ref b23, .ref b24, .ref b25, .ref b26, .ref b27, .ref b28, .ref b29, .int b30, .ref b31, .ref b32, .int b33, .int b34, .int b35, .int b36, .ref b37, .ref b38, .ref b39, .ref b40, .ref b41, .ref b42, .ref b43, .int b44, .ref b45, .ref b46, .int b47, .ref b48, .ref b49, .ref b50, .ref b51, .ref b52, .int b53, .ref b54, .ref b55, .ref b56])), (b4, .inl (G.2 0, 503, .inl b57))]) := by
  refine z_start (by decide +kernel) (Nat.le_of_ble_eq_true rfl) ?_
  intro p e s m below meth c A Z hr hnm hA hP hD hS ls hl
  have Z : zC p s m _ meth c prog_14_method_74_code 5 "TraceMachinesModel" G := Z
  obtain ⟨hx, hb, hml, hown, hts, hK, hN, hlocks⟩ := id Z
  have hl : lv_has ls 5 [(0, .ref b0), (1, .int b1), (2, .int b2)] := hl
  refine lv_iconst (v := 0) hx hb d_Model_howOften_0 (by decide) ?_
  refine lv_istore_n (lv' := [(3, .int 0), (0, .ref b0), (1, .int b1), (2, .int b2)]) hx hb d_Model_howOften_1 rfl hl (by decide) rfl (fun ls hl => ?_)
  refine lv_iconst (v := 0) hx hb d_Model_howOften_2 (by decide) ?_
  refine lv_istore (lv' := [(4, .int 0), (3, .int 0), (0, .ref b0), (1, .int b1), (2, .int b2)]) hx hb d_Model_howOften_3 hl (by decide) rfl (fun ls hl => ?_)
  suffices key : ∀ (k_318 : Nat) (y_319 : Int32) (y_320 : Int32) (H : Heap) (locs : List Loc) (ls : Array Slot), (zI y_319 0 12) → (12 : Int) - y_319.toInt < (k_318 : Int) → va_P G.1 classes [(b0, .inr (12, [.int b3, .ref b4, .ref b5, .ref b6, .ref b7, .int b8, .ref b9, .int b10, .int b11, .int b12, .int b13, .ref b14, .ref b15, .ref b16, .int b17, .ref b18, .ref b19, .ref b20, .ref b21, .ref b22, .ref b23, .ref b24, .ref b25, .ref b26, .ref b27, .ref b28, .ref b29, .int b30, .ref b31, .ref b32, .int b33, .int b34, .int b35, .int b36, .ref b37, .ref b38, .ref b39, .ref b40, .ref b41, .ref b42, .ref b43, .int b44, .ref b45, .ref b46, .int b47, .ref b48, .ref b49, .ref b50, .ref b51, .ref b52, .int b53, .ref b54, .ref b55, .ref b56])), (b4, .inl (G.2 0, 503, .inl b57))] H → va_D A [(b0, .inr (12, [.int b3, .ref b4, .ref b5, .ref b6, .ref b7, .int b8, .ref b9, .int b10, .int b11, .int b12, .int b13, .ref b14, .ref b15, .ref b16, .int b17, .ref b18, .ref b19, .ref b20, .ref b21, .ref b22, .ref b23, .ref b24, .ref b25, .ref b26, .ref b27, .ref b28, .ref b29, .int b30, .ref b31, .ref b32, .int b33, .int b34, .int b35, .int b36, .ref b37, .ref b38, .ref b39, .ref b40, .ref b41, .ref b42, .ref b43, .int b44, .ref b45, .ref b46, .int b47, .ref b48, .ref b49, .ref b50, .ref b51, .ref b52, .int b53, .ref b54, .ref b55, .ref b56])), (b4, .inl (G.2 0, 503, .inl b57))] → va_S A s.heap H locs → lv_has ls 5 [(4, .int y_319), (3, .int y_320), (0, .ref b0), (1, .int b1), (2, .int b2)] → W p l e m_s1_Model_howOften s m ([.ref b0, .int b1, .int b2] : List Value).toArray below meth c H locs 0 0 (MQ below (zQ G (fun v w => ∃ (e0 : Int32), v = some (.int e0) ∧ w = [(b0, .inr (12, [.int b3, .ref b4, .ref b5, .ref b6, .ref b7, .int b8, .ref b9, .int b10, .int b11, .int b12, .int b13, .ref b14, .ref b15, .ref b16, .int b17, .ref b18, .ref b19, .ref b20, .ref b21, .ref b22, .ref b23, .ref b24, .ref b25, .ref b26, .ref b27, .ref b28, .ref b29, .int b30, .ref b31, .ref b32, .int b33, .int b34, .int b35, .int b36, .ref b37, .ref b38, .ref b39, .ref b40, .ref b41, .ref b42, .ref b43, .int b44, .ref b45, .ref b46, .int b47, .ref b48, .ref b49, .ref b50, .ref b51, .ref b52, .int b53, .ref b54, .ref b55, .ref b56])), (b4, .inl (G.2 0, 503, .inl b57))]) A) ([.ref b0, .int b1, .int b2] : List Value).toArray s m_s1_Model_howOften.cells m_s1_Model_howOften.slots A) (F0 m 5 ls []) by
    exact key 13 (0) (0) _ _ _ (zI.wk (l' := 0) (h' := 12) zc_0 (by decide)) (zm_upi (zI.wk (l' := 0) (h' := 12) zc_0 (by decide)) (by decide)) hP hD hS (lv_sub hl [0, 1, 2, 3, 4] rfl)
  intro k_318
  induction k_318 with
  | zero =>
    intro y_319 y_320 H locs ls hy_319 hmk_318 hP hD hS hl
    exact (zm_up0 hy_319 hmk_318).elim
  | succ k_318 ihk_318 =>
    intro y_319 y_320 H locs ls hy_319 hmk_318 hP hD hS hl
    refine lv_iload hx hb d_Model_howOften_5 (lv_at hl 0 rfl) ?_
    refine lv_aload_n hx hb d_Model_howOften_7 rfl (lv_at hl 2 rfl) ?_
    refine lv_iload_n hx hb d_Model_howOften_8 rfl (lv_at hl 3 rfl) ?_
    refine z_callV (index := 203) (As := [.int b1]) (rest := [.int y_319]) (wr := []) Z (s1_Model_calls l G (b0) (b1) (b3) (b4) (b5) (b6) (b7) (b8) (b9) (b10) (b11) (b12) (b13) (b14) (b15) (b16) (b17) (b18) (b19) (b20) (b21) (b22) (b23) (b24) (b25) (b26) (b27) (b28) (b29) (b30) (b31) (b32) (b33) (b34) (b35) (b36) (b37) (b38) (b39) (b40) (b41) (b42) (b43) (b44) (b45) (b46) (b47) (b48) (b49) (b50) (b51) (b52) (b53) (b54) (b55) (b56) (b57) hb1 hb8 hb10 hb11 hb13 hb17 hb30 hb33 hb57) hl.1 q1352 q1354 qs54 q14 q1355 ⟨by decide, by decide, by show _ = some 1; decide +kernel⟩ ⟨Nat.le_of_ble_eq_true rfl, Nat.le_of_ble_eq_true rfl⟩ ⟨Nat.le_of_ble_eq_true rfl, Nat.le_of_ble_eq_true rfl⟩ rfl (Nat.le_of_ble_eq_true rfl) d_Model_howOften_9 hP hD hS hA 0 12 rfl rfl rfl [0, 1] [] rfl rfl rfl rfl (by decide) (fun v w1 H locs hw_321 hP hD hS => ?_)
    obtain ⟨x_322, rfl, rfl, hx_322⟩ := hw_321
    have hP : va_P G.1 classes [(b0, .inr (12, [.int b3, .ref b4, .ref b5, .ref b6, .ref b7, .int b8, .ref b9, .int b10, .int b11, .int b12, .int b13, .ref b14, .ref b15, .ref b16, .int b17, .ref b18, .ref b19, .ref b20, .ref b21, .ref b22, .ref b23, .ref b24, .ref b25, .ref b26, .ref b27, .ref b28, .ref b29, .int b30, .ref b31, .ref b32, .int b33, .int b34, .int b35, .int b36, .ref b37, .ref b38, .ref b39, .ref b40, .ref b41, .ref b42, .ref b43, .int b44, .ref b45, .ref b46, .int b47, .ref b48, .ref b49, .ref b50, .ref b51, .ref b52, .int b53, .ref b54, .ref b55, .ref b56])), (b4, .inl (G.2 0, 503, .inl b57))] H := hP
    have hD := z_tie hP hD rfl
    refine W.widen (k := 0) (n := 0) (Nat.le_of_ble_eq_true rfl) (Nat.le_of_ble_eq_true rfl) ?_
    refine lv_icmp_ge (tgt := 40) hx hb d_Model_howOften_12 (by decide) (fun hc_323 => ?_) (fun hc_323 => ?_)
    · have _nhc_323 := hc_323
      have ni_324 := (fa_le _ _).mp hc_323
      refine lv_iload_n hx hb d_Model_howOften_40 rfl (lv_at hl 1 rfl) ?_
      exact z_iret hx hb hr hlocks hP hD hS (Nat.le_of_ble_eq_true rfl) (Nat.le_of_ble_eq_true rfl) d_Model_howOften_41 ⟨y_320, rfl, rfl⟩
    · have _nhc_323 := hc_323
      have ni_325 := (fa_lt _ _).mp (zi_nle hc_323)
      have hv_326 : zI y_319 0 11 := zI.lt_l hy_319 hx_322 (zi_nle hc_323) (by decide)
      have hv_327 : zI x_322 1 12 := zI.lt_r hy_319 hx_322 (zi_nle hc_323) (by decide)
      refine lv_iload_n hx hb d_Model_howOften_15 rfl (lv_at hl 1 rfl) ?_
      refine lv_aload_n hx hb d_Model_howOften_16 rfl (lv_at hl 2 rfl) ?_
      refine lv_iload_n hx hb d_Model_howOften_17 rfl (lv_at hl 3 rfl) ?_
      refine lv_iload hx hb d_Model_howOften_18 (lv_at hl 0 rfl) ?_
      refine z_callV (index := 207) (As := [.int b1, .int y_319]) (rest := [.int y_320]) (wr := []) Z (s1_Model_letterAt l G (b0) (b1) (y_319) (b3) (b4) (b5) (b6) (b7) (b8) (b9) (b10) (b11) (b12) (b13) (b14) (b15) (b16) (b17) (b18) (b19) (b20) (b21) (b22) (b23) (b24) (b25) (b26) (b27) (b28) (b29) (b30) (b31) (b32) (b33) (b34) (b35) (b36) (b37) (b38) (b39) (b40) (b41) (b42) (b43) (b44) (b45) (b46) (b47) (b48) (b49) (b50) (b51) (b52) (b53) (b54) (b55) (b56) (b57) hb1 hv_326 hb8 hb10 hb11 hb13 hb17 hb30 hb33 hb57) hl.1 q1372 q1374 qs59 q14 q1375 ⟨by decide, by decide, by show _ = some 2; decide +kernel⟩ ⟨Nat.le_of_ble_eq_true rfl, Nat.le_of_ble_eq_true rfl⟩ ⟨Nat.le_of_ble_eq_true rfl, Nat.le_of_ble_eq_true rfl⟩ rfl (Nat.le_of_ble_eq_true rfl) d_Model_howOften_20 hP hD hS hA 0 12 rfl rfl rfl [0, 1] [] rfl rfl rfl rfl (by decide) (fun v w1 H locs hw_328 hP hD hS => ?_)
      obtain ⟨x_329, rfl, rfl, hx_329⟩ := hw_328
      have hP : va_P G.1 classes [(b0, .inr (12, [.int b3, .ref b4, .ref b5, .ref b6, .ref b7, .int b8, .ref b9, .int b10, .int b11, .int b12, .int b13, .ref b14, .ref b15, .ref b16, .int b17, .ref b18, .ref b19, .ref b20, .ref b21, .ref b22, .ref b23, .ref b24, .ref b25, .ref b26, .ref b27, .ref b28, .ref b29, .int b30, .ref b31, .ref b32, .int b33, .int b34, .int b35, .int b36, .ref b37, .ref b38, .ref b39, .ref b40, .ref b41, .ref b42, .ref b43, .int b44, .ref b45, .ref b46, .int b47, .ref b48, .ref b49, .ref b50, .ref b51, .ref b52, .int b53, .ref b54, .ref b55, .ref b56])), (b4, .inl (G.2 0, 503, .inl b57))] H := hP
      have hD := z_tie hP hD rfl
      refine W.widen (k := 0) (n := 0) (Nat.le_of_ble_eq_true rfl) (Nat.le_of_ble_eq_true rfl) ?_
      refine lv_iload_n hx hb d_Model_howOften_23 rfl (lv_at hl 4 rfl) ?_
      refine lv_icmp_ne (tgt := 31) hx hb d_Model_howOften_24 (by decide) (fun hc_330 => ?_) (fun hc_330 => ?_)
      · have _nhc_330 := hc_330
        have ni_331 : ¬ (x_329 : Int32).toInt = (b2 : Int32).toInt := fun z => hc_330 ((fa_eq _ _).mpr z)
        refine lv_iconst (v := 0) hx hb d_Model_howOften_31 (by decide) ?_
        refine lv_iadd hx hb d_Model_howOften_32 ?_
        refine lv_topi (fun v_332 ev_332 => ?_)
        obtain ⟨qv_332, hv_332⟩ := zI_add (l := -2147483648) (h := 2147483647) (zI_all y_320) zc_0 ev_332 (by decide)
        rw [li_0] at qv_332
        refine lv_istore_n (lv' := [(3, .int v_332), (4, .int y_319), (0, .ref b0), (1, .int b1), (2, .int b2)]) hx hb d_Model_howOften_33 rfl hl (by decide) rfl (fun ls hl => ?_)
        obtain ⟨v_333, ev_333⟩ : ∃ z : Int32, z = y_319 + 1 := ⟨_, rfl⟩
        obtain ⟨qv_333, hv_333⟩ := zI_add (l := 1) (h := 12) hv_326 zc_1 ev_333 (by decide)
        rw [li_1] at qv_333
        refine lv_iinc (v := v_333) (lv' := [(4, .int v_333), (3, .int v_332), (0, .ref b0), (1, .int b1), (2, .int b2)]) hx hb d_Model_howOften_34 hl (k := 1) rfl (by rw [ev_333]; rfl) (by decide) rfl (fun ls hl => ?_)
        refine lv_goto (tgt := 5) hx hb d_Model_howOften_37 (by decide) ?_
        exact ihk_318 (v_333) (v_332) _ _ _ (zI.wk (l' := 0) (h' := 12) hv_333 (by decide)) (zm_up qv_333 hmk_318 (by decide)) hP hD hS (lv_sub hl [0, 1, 2, 3, 4] rfl)
      · have _nhc_330 := hc_330
        have ni_334 := (fa_eq _ _).mp hc_330
        have hv_335 : zI b2 0 9 := zI.eq_l (zI_all b2) hx_329 hc_330.symm
        refine lv_iconst (v := 1) hx hb d_Model_howOften_27 (by decide) ?_
        refine lv_goto (tgt := 32) hx hb d_Model_howOften_28 (by decide) ?_
        refine lv_iadd hx hb d_Model_howOften_32 ?_
        refine lv_topi (fun v_336 ev_336 => ?_)
        refine lv_istore_n (lv' := [(3, .int v_336), (4, .int y_319), (0, .ref b0), (1, .int b1), (2, .int b2)]) hx hb d_Model_howOften_33 rfl hl (by decide) rfl (fun ls hl => ?_)
        obtain ⟨v_337, ev_337⟩ : ∃ z : Int32, z = y_319 + 1 := ⟨_, rfl⟩
        obtain ⟨qv_337, hv_337⟩ := zI_add (l := 1) (h := 12) hv_326 zc_1 ev_337 (by decide)
        rw [li_1] at qv_337
        refine lv_iinc (v := v_337) (lv' := [(4, .int v_337), (3, .int v_336), (0, .ref b0), (1, .int b1), (2, .int b2)]) hx hb d_Model_howOften_34 hl (k := 1) rfl (by rw [ev_337]; rfl) (by decide) rfl (fun ls hl => ?_)
        refine lv_goto (tgt := 5) hx hb d_Model_howOften_37 (by decide) ?_
        exact ihk_318 (v_337) (v_336) _ _ _ (zI.wk (l' := 0) (h' := 12) hv_337 (by decide)) (zm_up qv_337 hmk_318 (by decide)) hP hD hS (lv_sub hl [0, 1, 2, 3, 4] rfl)
theorem d_Model_rightBehind_0 : decode prog_14_method_75_code 0 = .ok (.iconst 1, 1) := by decide +kernel
theorem d_Model_rightBehind_1 : decode prog_14_method_75_code 1 = .ok (.istore 4, 2) := by decide +kernel
theorem d_Model_rightBehind_3 : decode prog_14_method_75_code 3 = .ok (.iconst 0, 1) := by decide +kernel
theorem d_Model_rightBehind_4 : decode prog_14_method_75_code 4 = .ok (.istore 5, 2) := by decide +kernel
theorem d_Model_rightBehind_6 : decode prog_14_method_75_code 6 = .ok (.iload 5, 2) := by decide +kernel
theorem d_Model_rightBehind_8 : decode prog_14_method_75_code 8 = .ok (.aload_n 0, 1) := by decide +kernel
theorem d_Model_rightBehind_9 : decode prog_14_method_75_code 9 = .ok (.iload_n 1, 1) := by decide +kernel
theorem d_Model_rightBehind_10 : decode prog_14_method_75_code 10 = .ok (.invokevirtual 203, 3) := by decide +kernel
theorem d_Model_rightBehind_13 : decode prog_14_method_75_code 13 = .ok (.if_icmp .ge 57, 3) := by decide +kernel
theorem d_Model_rightBehind_16 : decode prog_14_method_75_code 16 = .ok (.iload 4, 2) := by decide +kernel
theorem d_Model_rightBehind_18 : decode prog_14_method_75_code 18 = .ok (.ifCond .eq 43, 3) := by decide +kernel
theorem d_Model_rightBehind_21 : decode prog_14_method_75_code 21 = .ok (.aload_n 0, 1) := by decide +kernel
theorem d_Model_rightBehind_22 : decode prog_14_method_75_code 22 = .ok (.iload_n 1, 1) := by decide +kernel
theorem d_Model_rightBehind_23 : decode prog_14_method_75_code 23 = .ok (.iload 5, 2) := by decide +kernel
theorem d_Model_rightBehind_25 : decode prog_14_method_75_code 25 = .ok (.invokevirtual 207, 3) := by decide +kernel
theorem d_Model_rightBehind_28 : decode prog_14_method_75_code 28 = .ok (.iload_n 2, 1) := by decide +kernel
theorem d_Model_rightBehind_29 : decode prog_14_method_75_code 29 = .ok (.if_icmp .ne 28, 3) := by decide +kernel
theorem d_Model_rightBehind_32 : decode prog_14_method_75_code 32 = .ok (.iload 5, 2) := by decide +kernel
theorem d_Model_rightBehind_34 : decode prog_14_method_75_code 34 = .ok (.iconst 1, 1) := by decide +kernel
theorem d_Model_rightBehind_35 : decode prog_14_method_75_code 35 = .ok (.iadd, 1) := by decide +kernel
theorem d_Model_rightBehind_36 : decode prog_14_method_75_code 36 = .ok (.aload_n 0, 1) := by decide +kernel
theorem d_Model_rightBehind_37 : decode prog_14_method_75_code 37 = .ok (.iload_n 1, 1) := by decide +kernel
theorem d_Model_rightBehind_38 : decode prog_14_method_75_code 38 = .ok (.invokevirtual 203, 3) := by decide +kernel
theorem d_Model_rightBehind_41 : decode prog_14_method_75_code 41 = .ok (.if_icmp .ge 20, 3) := by decide +kernel
theorem d_Model_rightBehind_44 : decode prog_14_method_75_code 44 = .ok (.aload_n 0, 1) := by decide +kernel
theorem d_Model_rightBehind_45 : decode prog_14_method_75_code 45 = .ok (.iload_n 1, 1) := by decide +kernel
theorem d_Model_rightBehind_46 : decode prog_14_method_75_code 46 = .ok (.iload 5, 2) := by decide +kernel
theorem d_Model_rightBehind_48 : decode prog_14_method_75_code 48 = .ok (.iconst 1, 1) := by decide +kernel
theorem d_Model_rightBehind_49 : decode prog_14_method_75_code 49 = .ok (.iadd, 1) := by decide +kernel
theorem d_Model_rightBehind_50 : decode prog_14_method_75_code 50 = .ok (.invokevirtual 207, 3) := by decide +kernel
theorem d_Model_rightBehind_53 : decode prog_14_method_75_code 53 = .ok (.iload_n 3, 1) := by decide +kernel
theorem d_Model_rightBehind_54 : decode prog_14_method_75_code 54 = .ok (.if_icmp .ne 7, 3) := by decide +kernel
theorem d_Model_rightBehind_57 : decode prog_14_method_75_code 57 = .ok (.iconst 1, 1) := by decide +kernel
theorem d_Model_rightBehind_58 : decode prog_14_method_75_code 58 = .ok (.goto 4, 3) := by decide +kernel
theorem d_Model_rightBehind_61 : decode prog_14_method_75_code 61 = .ok (.iconst 0, 1) := by decide +kernel
theorem d_Model_rightBehind_62 : decode prog_14_method_75_code 62 = .ok (.istore 4, 2) := by decide +kernel
theorem d_Model_rightBehind_64 : decode prog_14_method_75_code 64 = .ok (.iinc 5 1, 3) := by decide +kernel
theorem d_Model_rightBehind_67 : decode prog_14_method_75_code 67 = .ok (.goto (-61), 3) := by decide +kernel
theorem d_Model_rightBehind_70 : decode prog_14_method_75_code 70 = .ok (.iload 4, 2) := by decide +kernel
theorem d_Model_rightBehind_72 : decode prog_14_method_75_code 72 = .ok (.ireturn, 1) := by decide +kernel
abbrev m_s1_Model_rightBehind : Room := { frames := 1, cells := 0, slots := 0, locals := 22 }
set_option maxHeartbeats 4000000 in
set_option maxRecDepth 100000 in
theorem s1_Model_rightBehind (l : Launch) (G : zG) (b0 : Nat) (b1 : Int32) (b2 : Int32) (b3 : Int32) (b4 : Int32) (b5 : Nat) (b6 : Nat) (b7 : Nat) (b8 : Nat) (b9 : Int32) (b10 : Nat) (b11 : Int32) (b12 : Int32) (b13 : Int32) (b14 : Int32) (b15 : Nat) (b16 : Nat) (b17 : Nat) (b18 : Int32) (b19 : Nat) (b20 : Nat) (b21 : Nat) (b22 : Nat) (b23 : Nat) (b24 : Nat) (b25 : Nat) (b26 : Nat) (b27 : Nat) (b28 : Nat) (b29 : Nat) (b30 : Nat) (b31 : Int32) (b32 : Nat) (b33 : Nat) (b34 : Int32) (b35 : Int32) (b36 : Int32) (b37 : Int32) (b38 : Nat) (b39 : Nat) (b40 : Nat) (b41 : Nat) (b42 : Nat) (b43 : Nat) (b44 : Nat) (b45 : Int32) (b46 : Nat) (b47 : Nat) (b48 : Int32) (b49 : Nat) (b50 : Nat) (b51 : Nat) (b52 : Nat) (b53 : Nat) (b54 : Int32) (b55 : Nat) (b56 : Nat) (b57 : Nat) (b58 : Nat → Int32) (hb1 : zI b1 0 19) (hb9 : zI b9 0 8) (hb11 : zI b11 0 240) (hb12 : zI b12 0 240) (hb14 : zI b14 0 1) (hb18 : zI b18 0 12) (hb31 : zI b31 0 1) (hb34 : zI b34 0 1) (hb58 : zW5 b58) : zM l G y_Model_rightBehind prog_14_method_75_code 6 (Option.some Jvm.ClassFile.FieldType.boolean) m_s1_Model_rightBehind [.ref b0, .int b1, .int b2, .int b3] [(b0, .inr (12, [.int b4, .ref b5, .ref b6, .ref b7, .ref b8, .int b9, .ref b10, .int b11, .int b12, .int b13, .int b14, .ref b15, .ref b16, .ref b17, .int b18, .ref b19, .ref b20, .ref b21, .ref b22, .ref b23, .ref b24, .ref b25, .ref b26, .ref b27, .ref b28, .ref b29, .ref b30, .int b31, .ref b32, .ref b33, .int b34, .int b35, .int b36, .int b37, .ref b38, .ref b39, .ref b40, .ref b41, .ref b42, .ref b43, .ref b44, .int b45, .ref b46, .ref b47, .int b48, .ref b49, .ref b50, .ref b51, .ref b52, .ref b53, .int b54, .ref b55, .ref b56, .ref b57])), (b5, .inl (G.2 0, 503, .inl b58))] (fun v w => ∃ (e0 : Int32), v = some (.int e0) ∧ w = [(b0, .inr (12, [.int b4, .ref b5, .ref b6, .ref b7, .ref b8, .int b9, .ref b10, .int b11, .int b12, .int b13, .int b14, .ref b15, .ref b16, .ref b17, .int b18, .ref b19, .ref b20, .ref b21, .ref b22, .ref b23, .ref b24, .ref b25, .ref b26, .ref b27, .ref b28, .ref b29, .ref b30, .int b31, .ref b32, .ref b33, .int b34, .int b35, .int b36, .int b37, .ref b38, .ref b39, .ref b40, .ref b41, .ref b42, .ref b43, .ref b44, .int b45, .ref b46, .ref b47, .int b48, .ref b49, .ref b50, .ref b51, .ref b52, .ref b53, .int b54, .ref b55, .ref b56, .ref b57])), (b5, .inl (G.2 0, 503, .inl b58))] ∧ (zI e0 0 1)) := by
  refine z_start (by decide +kernel) (Nat.le_of_ble_eq_true rfl) ?_
  intro p e s m below meth c A Z hr hnm hA hP hD hS ls hl
  have Z : zC p s m _ meth c prog_14_method_75_code 6 "TraceMachinesModel" G := Z
  obtain ⟨hx, hb, hml, hown, hts, hK, hN, hlocks⟩ := id Z
  have hl : lv_has ls 6 [(0, .ref b0), (1, .int b1), (2, .int b2), (3, .int b3)] := hl
  refine lv_iconst (v := 1) hx hb d_Model_rightBehind_0 (by decide) ?_
  refine lv_istore (lv' := [(4, .int 1), (0, .ref b0), (1, .int b1), (2, .int b2), (3, .int b3)]) hx hb d_Model_rightBehind_1 hl (by decide) rfl (fun ls hl => ?_)
  refine lv_iconst (v := 0) hx hb d_Model_rightBehind_3 (by decide) ?_
  refine lv_istore (lv' := [(5, .int 0), (4, .int 1), (0, .ref b0), (1, .int b1), (2, .int b2), (3, .int b3)]) hx hb d_Model_rightBehind_4 hl (by decide) rfl (fun ls hl => ?_)
  suffices key : ∀ (k_188 : Nat) (y_189 : Int32) (y_190 : Int32) (H : Heap) (locs : List Loc) (ls : Array Slot), (zI y_189 0 12) → (zI y_190 0 1) → (12 : Int) - y_189.toInt < (k_188 : Int) → va_P G.1 classes [(b0, .inr (12, [.int b4, .ref b5, .ref b6, .ref b7, .ref b8, .int b9, .ref b10, .int b11, .int b12, .int b13, .int b14, .ref b15, .ref b16, .ref b17, .int b18, .ref b19, .ref b20, .ref b21, .ref b22, .ref b23, .ref b24, .ref b25, .ref b26, .ref b27, .ref b28, .ref b29, .ref b30, .int b31, .ref b32, .ref b33, .int b34, .int b35, .int b36, .int b37, .ref b38, .ref b39, .ref b40, .ref b41, .ref b42, .ref b43, .ref b44, .int b45, .ref b46, .ref b47, .int b48, .ref b49, .ref b50, .ref b51, .ref b52, .ref b53, .int b54, .ref b55, .ref b56, .ref b57])), (b5, .inl (G.2 0, 503, .inl b58))] H → va_D A [(b0, .inr (12, [.int b4, .ref b5, .ref b6, .ref b7, .ref b8, .int b9, .ref b10, .int b11, .int b12, .int b13, .int b14, .ref b15, .ref b16, .ref b17, .int b18, .ref b19, .ref b20, .ref b21, .ref b22, .ref b23, .ref b24, .ref b25, .ref b26, .ref b27, .ref b28, .ref b29, .ref b30, .int b31, .ref b32, .ref b33, .int b34, .int b35, .int b36, .int b37, .ref b38, .ref b39, .ref b40, .ref b41, .ref b42, .ref b43, .ref b44, .int b45, .ref b46, .ref b47, .int b48, .ref b49, .ref b50, .ref b51, .ref b52, .ref b53, .int b54, .ref b55, .ref b56, .ref b57])), (b5, .inl (G.2 0, 503, .inl b58))] → va_S A s.heap H locs → lv_has ls 6 [(5, .int y_189), (4, .int y_190), (0, .ref b0), (1, .int b1), (2, .int b2), (3, .int b3)] → W p l e m_s1_Model_rightBehind s m ([.ref b0, .int b1, .int b2, .int b3] : List Value).toArray below meth c H locs 0 0 (MQ below (zQ G (fun v w => ∃ (e0 : Int32), v = some (.int e0) ∧ w = [(b0, .inr (12, [.int b4, .ref b5, .ref b6, .ref b7, .ref b8, .int b9, .ref b10, .int b11, .int b12, .int b13, .int b14, .ref b15, .ref b16, .ref b17, .int b18, .ref b19, .ref b20, .ref b21, .ref b22, .ref b23, .ref b24, .ref b25, .ref b26, .ref b27, .ref b28, .ref b29, .ref b30, .int b31, .ref b32, .ref b33, .int b34, .int b35, .int b36, .int b37, .ref b38, .ref b39, .ref b40, .ref b41, .ref b42, .ref b43, .ref b44, .int b45, .ref b46, .ref b47, .int b48, .ref b49, .ref b50, .ref b51, .ref b52, .ref b53, .int b54, .ref b55, .ref b56, .ref b57])), (b5, .inl (G.2 0, 503, .inl b58))] ∧ (zI e0 0 1)) A) ([.ref b0, .int b1, .int b2, .int b3] : List Value).toArray s m_s1_Model_rightBehind.cells m_s1_Model_rightBehind.slots A) (F0 m 6 ls []) by
    exact key 13 (0) (1) _ _ _ (zI.wk (l' := 0) (h' := 12) zc_0 (by decide)) (zI.wk (l' := 0) (h' := 1) zc_1 (by decide)) (zm_upi (zI.wk (l' := 0) (h' := 12) zc_0 (by decide)) (by decide)) hP hD hS (lv_sub hl [0, 1, 2, 3, 4, 5] rfl)
  intro k_188
  induction k_188 with
  | zero =>
    intro y_189 y_190 H locs ls hy_189 hy_190 hmk_188 hP hD hS hl
    exact (zm_up0 hy_189 hmk_188).elim
  | succ k_188 ihk_188 =>
    intro y_189 y_190 H locs ls hy_189 hy_190 hmk_188 hP hD hS hl
    refine lv_iload hx hb d_Model_rightBehind_6 (lv_at hl 0 rfl) ?_
    refine lv_aload_n hx hb d_Model_rightBehind_8 rfl (lv_at hl 2 rfl) ?_
    refine lv_iload_n hx hb d_Model_rightBehind_9 rfl (lv_at hl 3 rfl) ?_
    refine z_callV (index := 203) (As := [.int b1]) (rest := [.int y_189]) (wr := []) Z (s1_Model_calls l G (b0) (b1) (b4) (b5) (b6) (b7) (b8) (b9) (b10) (b11) (b12) (b13) (b14) (b15) (b16) (b17) (b18) (b19) (b20) (b21) (b22) (b23) (b24) (b25) (b26) (b27) (b28) (b29) (b30) (b31) (b32) (b33) (b34) (b35) (b36) (b37) (b38) (b39) (b40) (b41) (b42) (b43) (b44) (b45) (b46) (b47) (b48) (b49) (b50) (b51) (b52) (b53) (b54) (b55) (b56) (b57) (b58) hb1 hb9 hb11 hb12 hb14 hb18 hb31 hb34 hb58) hl.1 q1352 q1354 qs54 q14 q1355 ⟨by decide, by decide, by show _ = some 1; decide +kernel⟩ ⟨Nat.le_of_ble_eq_true rfl, Nat.le_of_ble_eq_true rfl⟩ ⟨Nat.le_of_ble_eq_true rfl, Nat.le_of_ble_eq_true rfl⟩ rfl (Nat.le_of_ble_eq_true rfl) d_Model_rightBehind_10 hP hD hS hA 0 12 rfl rfl rfl [0, 1] [] rfl rfl rfl rfl (by decide) (fun v w1 H locs hw_191 hP hD hS => ?_)
    obtain ⟨x_192, rfl, rfl, hx_192⟩ := hw_191
    have hP : va_P G.1 classes [(b0, .inr (12, [.int b4, .ref b5, .ref b6, .ref b7, .ref b8, .int b9, .ref b10, .int b11, .int b12, .int b13, .int b14, .ref b15, .ref b16, .ref b17, .int b18, .ref b19, .ref b20, .ref b21, .ref b22, .ref b23, .ref b24, .ref b25, .ref b26, .ref b27, .ref b28, .ref b29, .ref b30, .int b31, .ref b32, .ref b33, .int b34, .int b35, .int b36, .int b37, .ref b38, .ref b39, .ref b40, .ref b41, .ref b42, .ref b43, .ref b44, .int b45, .ref b46, .ref b47, .int b48, .ref b49, .ref b50, .ref b51, .ref b52, .ref b53, .int b54, .ref b55, .ref b56, .ref b57])), (b5, .inl (G.2 0, 503, .inl b58))] H := hP
    have hD := z_tie hP hD rfl
    refine W.widen (k := 0) (n := 0) (Nat.le_of_ble_eq_true rfl) (Nat.le_of_ble_eq_true rfl) ?_
    refine lv_icmp_ge (tgt := 70) hx hb d_Model_rightBehind_13 (by decide) (fun hc_193 => ?_) (fun hc_193 => ?_)
    · have _nhc_193 := hc_193
      have ni_194 := (fa_le _ _).mp hc_193
      refine lv_iload hx hb d_Model_rightBehind_70 (lv_at hl 1 rfl) ?_
      exact z_zret hx hb hr hlocks (zi_nb hy_190) hP hD hS (Nat.le_of_ble_eq_true rfl) (Nat.le_of_ble_eq_true rfl) d_Model_rightBehind_72 ⟨y_190, rfl, rfl, hy_190⟩
    · have _nhc_193 := hc_193
      have ni_195 := (fa_lt _ _).mp (zi_nle hc_193)
      have hv_196 : zI y_189 0 11 := zI.lt_l hy_189 hx_192 (zi_nle hc_193) (by decide)
      have hv_197 : zI x_192 1 12 := zI.lt_r hy_189 hx_192 (zi_nle hc_193) (by decide)
      refine lv_iload hx hb d_Model_rightBehind_16 (lv_at hl 1 rfl) ?_
      refine lv_if_eq (tgt := 61) hx hb d_Model_rightBehind_18 (by decide) (fun hc_198 => ?_) (fun hc_198 => ?_)
      · have _nhc_198 := hc_198
        have ni_199 := (fa_eq _ _).mp hc_198
        rw [li_0] at ni_199
        have hv_200 : zI y_190 0 0 := zI.eq_l hy_190 zc_0 hc_198
        refine lv_iconst (v := 0) hx hb d_Model_rightBehind_61 (by decide) ?_
        refine lv_istore (lv' := [(4, .int 0), (5, .int y_189), (0, .ref b0), (1, .int b1), (2, .int b2), (3, .int b3)]) hx hb d_Model_rightBehind_62 hl (by decide) rfl (fun ls hl => ?_)
        obtain ⟨v_201, ev_201⟩ : ∃ z : Int32, z = y_189 + 1 := ⟨_, rfl⟩
        obtain ⟨qv_201, hv_201⟩ := zI_add (l := 1) (h := 12) hv_196 zc_1 ev_201 (by decide)
        rw [li_1] at qv_201
        refine lv_iinc (v := v_201) (lv' := [(5, .int v_201), (4, .int 0), (0, .ref b0), (1, .int b1), (2, .int b2), (3, .int b3)]) hx hb d_Model_rightBehind_64 hl (k := 1) rfl (by rw [ev_201]; rfl) (by decide) rfl (fun ls hl => ?_)
        refine lv_goto (tgt := 6) hx hb d_Model_rightBehind_67 (by decide) ?_
        exact ihk_188 (v_201) (0) _ _ _ (zI.wk (l' := 0) (h' := 12) hv_201 (by decide)) (zI.wk (l' := 0) (h' := 1) zc_0 (by decide)) (zm_up qv_201 hmk_188 (by decide)) hP hD hS (lv_sub hl [0, 1, 2, 3, 4, 5] rfl)
      · have _nhc_198 := hc_198
        have ni_202 : ¬ (y_190 : Int32).toInt = (0 : Int32).toInt := fun z => hc_198 ((fa_eq _ _).mpr z)
        simp only [li_0] at ni_202
        have hv_203 : zI y_190 1 1 := zI.ne_lo hy_190 zc_0 hc_198 (by decide)
        refine lv_aload_n hx hb d_Model_rightBehind_21 rfl (lv_at hl 2 rfl) ?_
        refine lv_iload_n hx hb d_Model_rightBehind_22 rfl (lv_at hl 3 rfl) ?_
        refine lv_iload hx hb d_Model_rightBehind_23 (lv_at hl 0 rfl) ?_
        refine z_callV (index := 207) (As := [.int b1, .int y_189]) (rest := []) (wr := []) Z (s1_Model_letterAt l G (b0) (b1) (y_189) (b4) (b5) (b6) (b7) (b8) (b9) (b10) (b11) (b12) (b13) (b14) (b15) (b16) (b17) (b18) (b19) (b20) (b21) (b22) (b23) (b24) (b25) (b26) (b27) (b28) (b29) (b30) (b31) (b32) (b33) (b34) (b35) (b36) (b37) (b38) (b39) (b40) (b41) (b42) (b43) (b44) (b45) (b46) (b47) (b48) (b49) (b50) (b51) (b52) (b53) (b54) (b55) (b56) (b57) (b58) hb1 hv_196 hb9 hb11 hb12 hb14 hb18 hb31 hb34 hb58) hl.1 q1372 q1374 qs59 q14 q1375 ⟨by decide, by decide, by show _ = some 2; decide +kernel⟩ ⟨Nat.le_of_ble_eq_true rfl, Nat.le_of_ble_eq_true rfl⟩ ⟨Nat.le_of_ble_eq_true rfl, Nat.le_of_ble_eq_true rfl⟩ rfl (Nat.le_of_ble_eq_true rfl) d_Model_rightBehind_25 hP hD hS hA 0 12 rfl rfl rfl [0, 1] [] rfl rfl rfl rfl (by decide) (fun v w1 H locs hw_204 hP hD hS => ?_)
        obtain ⟨x_205, rfl, rfl, hx_205⟩ := hw_204
        have hP : va_P G.1 classes [(b0, .inr (12, [.int b4, .ref b5, .ref b6, .ref b7, .ref b8, .int b9, .ref b10, .int b11, .int b12, .int b13, .int b14, .ref b15, .ref b16, .ref b17, .int b18, .ref b19, .ref b20, .ref b21, .ref b22, .ref b23, .ref b24, .ref b25, .ref b26, .ref b27, .ref b28, .ref b29, .ref b30, .int b31, .ref b32, .ref b33, .int b34, .int b35, .int b36, .int b37, .ref b38, .ref b39, .ref b40, .ref b41, .ref b42, .ref b43, .ref b44, .int b45, .ref b46, .ref b47, .int b48, .ref b49, .ref b50, .ref b51, .ref b52, .ref b53, .int b54, .ref b55, .ref b56, .ref b57])), (b5, .inl (G.2 0, 503, .inl b58))] H := hP
        have hD := z_tie hP hD rfl
        refine W.widen (k := 0) (n := 0) (Nat.le_of_ble_eq_true rfl) (Nat.le_of_ble_eq_true rfl) ?_
        refine lv_iload_n hx hb d_Model_rightBehind_28 rfl (lv_at hl 4 rfl) ?_
        refine lv_icmp_ne (tgt := 57) hx hb d_Model_rightBehind_29 (by decide) (fun hc_206 => ?_) (fun hc_206 => ?_)
        · have _nhc_206 := hc_206
          have ni_207 : ¬ (x_205 : Int32).toInt = (b2 : Int32).toInt := fun z => hc_206 ((fa_eq _ _).mpr z)
          refine lv_iconst (v := 1) hx hb d_Model_rightBehind_57 (by decide) ?_
          refine lv_goto (tgt := 62) hx hb d_Model_rightBehind_58 (by decide) ?_
          refine lv_istore (lv' := [(4, .int 1), (5, .int y_189), (0, .ref b0), (1, .int b1), (2, .int b2), (3, .int b3)]) hx hb d_Model_rightBehind_62 hl (by decide) rfl (fun ls hl => ?_)
          obtain ⟨v_208, ev_208⟩ : ∃ z : Int32, z = y_189 + 1 := ⟨_, rfl⟩
          obtain ⟨qv_208, hv_208⟩ := zI_add (l := 1) (h := 12) hv_196 zc_1 ev_208 (by decide)
          rw [li_1] at qv_208
          refine lv_iinc (v := v_208) (lv' := [(5, .int v_208), (4, .int 1), (0, .ref b0), (1, .int b1), (2, .int b2), (3, .int b3)]) hx hb d_Model_rightBehind_64 hl (k := 1) rfl (by rw [ev_208]; rfl) (by decide) rfl (fun ls hl => ?_)
          refine lv_goto (tgt := 6) hx hb d_Model_rightBehind_67 (by decide) ?_
          exact ihk_188 (v_208) (1) _ _ _ (zI.wk (l' := 0) (h' := 12) hv_208 (by decide)) (zI.wk (l' := 0) (h' := 1) zc_1 (by decide)) (zm_up qv_208 hmk_188 (by decide)) hP hD hS (lv_sub hl [0, 1, 2, 3, 4, 5] rfl)
        · have _nhc_206 := hc_206
          have ni_209 := (fa_eq _ _).mp hc_206
          have hv_210 : zI b2 0 9 := zI.eq_l (zI_all b2) hx_205 hc_206.symm
          refine lv_iload hx hb d_Model_rightBehind_32 (lv_at hl 0 rfl) ?_
          refine lv_iconst (v := 1) hx hb d_Model_rightBehind_34 (by decide) ?_
          refine lv_iadd hx hb d_Model_rightBehind_35 ?_
          refine lv_topi (fun v_211 ev_211 => ?_)
          obtain ⟨qv_211, hv_211⟩ := zI_add (l := 1) (h := 12) hv_196 zc_1 ev_211 (by decide)
          rw [li_1] at qv_211
          refine lv_aload_n hx hb d_Model_rightBehind_36 rfl (lv_at hl 2 rfl) ?_
          refine lv_iload_n hx hb d_Model_rightBehind_37 rfl (lv_at hl 3 rfl) ?_
          refine z_callV (index := 203) (As := [.int b1]) (rest := [.int v_211]) (wr := []) Z (s1_Model_calls l G (b0) (b1) (b4) (b5) (b6) (b7) (b8) (b9) (b10) (b11) (b12) (b13) (b14) (b15) (b16) (b17) (b18) (b19) (b20) (b21) (b22) (b23) (b24) (b25) (b26) (b27) (b28) (b29) (b30) (b31) (b32) (b33) (b34) (b35) (b36) (b37) (b38) (b39) (b40) (b41) (b42) (b43) (b44) (b45) (b46) (b47) (b48) (b49) (b50) (b51) (b52) (b53) (b54) (b55) (b56) (b57) (b58) hb1 hb9 hb11 hb12 hb14 hb18 hb31 hb34 hb58) hl.1 q1352 q1354 qs54 q14 q1355 ⟨by decide, by decide, by show _ = some 1; decide +kernel⟩ ⟨Nat.le_of_ble_eq_true rfl, Nat.le_of_ble_eq_true rfl⟩ ⟨Nat.le_of_ble_eq_true rfl, Nat.le_of_ble_eq_true rfl⟩ rfl (Nat.le_of_ble_eq_true rfl) d_Model_rightBehind_38 hP hD hS hA 0 12 rfl rfl rfl [0, 1] [] rfl rfl rfl rfl (by decide) (fun v w1 H locs hw_212 hP hD hS => ?_)
          obtain ⟨x_213, rfl, rfl, hx_213⟩ := hw_212
          have hP : va_P G.1 classes [(b0, .inr (12, [.int b4, .ref b5, .ref b6, .ref b7, .ref b8, .int b9, .ref b10, .int b11, .int b12, .int b13, .int b14, .ref b15, .ref b16, .ref b17, .int b18, .ref b19, .ref b20, .ref b21, .ref b22, .ref b23, .ref b24, .ref b25, .ref b26, .ref b27, .ref b28, .ref b29, .ref b30, .int b31, .ref b32, .ref b33, .int b34, .int b35, .int b36, .int b37, .ref b38, .ref b39, .ref b40, .ref b41, .ref b42, .ref b43, .ref b44, .int b45, .ref b46, .ref b47, .int b48, .ref b49, .ref b50, .ref b51, .ref b52, .ref b53, .int b54, .ref b55, .ref b56, .ref b57])), (b5, .inl (G.2 0, 503, .inl b58))] H := hP
          have hD := z_tie hP hD rfl
          refine W.widen (k := 0) (n := 0) (Nat.le_of_ble_eq_true rfl) (Nat.le_of_ble_eq_true rfl) ?_
          refine lv_icmp_ge (tgt := 61) hx hb d_Model_rightBehind_41 (by decide) (fun hc_214 => ?_) (fun hc_214 => ?_)
          · have _nhc_214 := hc_214
            have ni_215 := (fa_le _ _).mp hc_214
            refine lv_iconst (v := 0) hx hb d_Model_rightBehind_61 (by decide) ?_
            refine lv_istore (lv' := [(4, .int 0), (5, .int y_189), (0, .ref b0), (1, .int b1), (2, .int b2), (3, .int b3)]) hx hb d_Model_rightBehind_62 hl (by decide) rfl (fun ls hl => ?_)
            obtain ⟨v_216, ev_216⟩ : ∃ z : Int32, z = y_189 + 1 := ⟨_, rfl⟩
            obtain ⟨qv_216, hv_216⟩ := zI_add (l := 1) (h := 12) hv_196 zc_1 ev_216 (by decide)
            rw [li_1] at qv_216
            refine lv_iinc (v := v_216) (lv' := [(5, .int v_216), (4, .int 0), (0, .ref b0), (1, .int b1), (2, .int b2), (3, .int b3)]) hx hb d_Model_rightBehind_64 hl (k := 1) rfl (by rw [ev_216]; rfl) (by decide) rfl (fun ls hl => ?_)
            refine lv_goto (tgt := 6) hx hb d_Model_rightBehind_67 (by decide) ?_
            exact ihk_188 (v_216) (0) _ _ _ (zI.wk (l' := 0) (h' := 12) hv_216 (by decide)) (zI.wk (l' := 0) (h' := 1) zc_0 (by decide)) (zm_up qv_216 hmk_188 (by decide)) hP hD hS (lv_sub hl [0, 1, 2, 3, 4, 5] rfl)
          · have _nhc_214 := hc_214
            have ni_217 := (fa_lt _ _).mp (zi_nle hc_214)
            have hv_218 : zI v_211 1 11 := zI.lt_l hv_211 hx_213 (zi_nle hc_214) (by decide)
            have hv_219 : zI y_189 0 10 := by have _a := hv_218; have _b := qv_211; have _c := zc_1; have _d := hv_196; exact ⟨by omega, by omega⟩
            have hv_220 : zI x_213 2 12 := zI.lt_r hv_211 hx_213 (zi_nle hc_214) (by decide)
            refine lv_aload_n hx hb d_Model_rightBehind_44 rfl (lv_at hl 2 rfl) ?_
            refine lv_iload_n hx hb d_Model_rightBehind_45 rfl (lv_at hl 3 rfl) ?_
            refine lv_iload hx hb d_Model_rightBehind_46 (lv_at hl 0 rfl) ?_
            refine lv_iconst (v := 1) hx hb d_Model_rightBehind_48 (by decide) ?_
            refine lv_iadd hx hb d_Model_rightBehind_49 ?_
            refine lv_topi (fun v_221 ev_221 => ?_)
            obtain rfl : v_211 = v_221 := ev_211.trans ev_221.symm
            refine z_callV (index := 207) (As := [.int b1, .int v_211]) (rest := []) (wr := []) Z (s1_Model_letterAt l G (b0) (b1) (v_211) (b4) (b5) (b6) (b7) (b8) (b9) (b10) (b11) (b12) (b13) (b14) (b15) (b16) (b17) (b18) (b19) (b20) (b21) (b22) (b23) (b24) (b25) (b26) (b27) (b28) (b29) (b30) (b31) (b32) (b33) (b34) (b35) (b36) (b37) (b38) (b39) (b40) (b41) (b42) (b43) (b44) (b45) (b46) (b47) (b48) (b49) (b50) (b51) (b52) (b53) (b54) (b55) (b56) (b57) (b58) hb1 (zI.wk (l' := 0) (h' := 11) hv_218 (by decide)) hb9 hb11 hb12 hb14 hb18 hb31 hb34 hb58) hl.1 q1372 q1374 qs59 q14 q1375 ⟨by decide, by decide, by show _ = some 2; decide +kernel⟩ ⟨Nat.le_of_ble_eq_true rfl, Nat.le_of_ble_eq_true rfl⟩ ⟨Nat.le_of_ble_eq_true rfl, Nat.le_of_ble_eq_true rfl⟩ rfl (Nat.le_of_ble_eq_true rfl) d_Model_rightBehind_50 hP hD hS hA 0 12 rfl rfl rfl [0, 1] [] rfl rfl rfl rfl (by decide) (fun v w1 H locs hw_222 hP hD hS => ?_)
            obtain ⟨x_223, rfl, rfl, hx_223⟩ := hw_222
            have hP : va_P G.1 classes [(b0, .inr (12, [.int b4, .ref b5, .ref b6, .ref b7, .ref b8, .int b9, .ref b10, .int b11, .int b12, .int b13, .int b14, .ref b15, .ref b16, .ref b17, .int b18, .ref b19, .ref b20, .ref b21, .ref b22, .ref b23, .ref b24, .ref b25, .ref b26, .ref b27, .ref b28, .ref b29, .ref b30, .int b31, .ref b32, .ref b33, .int b34, .int b35, .int b36, .int b37, .ref b38, .ref b39, .ref b40, .ref b41, .ref b42, .ref b43, .ref b44, .int b45, .ref b46, .ref b47, .int b48, .ref b49, .ref b50, .ref b51, .ref b52, .ref b53, .int b54, .ref b55, .ref b56, .ref b57])), (b5, .inl (G.2 0, 503, .inl b58))] H := hP
            have hD := z_tie hP hD rfl
            refine W.widen (k := 0) (n := 0) (Nat.le_of_ble_eq_true rfl) (Nat.le_of_ble_eq_true rfl) ?_
            refine lv_iload_n hx hb d_Model_rightBehind_53 rfl (lv_at hl 5 rfl) ?_
            refine lv_icmp_ne (tgt := 61) hx hb d_Model_rightBehind_54 (by decide) (fun hc_224 => ?_) (fun hc_224 => ?_)
            · have _nhc_224 := hc_224
              have ni_225 : ¬ (x_223 : Int32).toInt = (b3 : Int32).toInt := fun z => hc_224 ((fa_eq _ _).mpr z)
              refine lv_iconst (v := 0) hx hb d_Model_rightBehind_61 (by decide) ?_
              refine lv_istore (lv' := [(4, .int 0), (5, .int y_189), (0, .ref b0), (1, .int b1), (2, .int b2), (3, .int b3)]) hx hb d_Model_rightBehind_62 hl (by decide) rfl (fun ls hl => ?_)
              obtain ⟨v_226, ev_226⟩ : ∃ z : Int32, z = y_189 + 1 := ⟨_, rfl⟩
              obtain ⟨qv_226, hv_226⟩ := zI_add (l := 1) (h := 11) hv_219 zc_1 ev_226 (by decide)
              rw [li_1] at qv_226
              refine lv_iinc (v := v_226) (lv' := [(5, .int v_226), (4, .int 0), (0, .ref b0), (1, .int b1), (2, .int b2), (3, .int b3)]) hx hb d_Model_rightBehind_64 hl (k := 1) rfl (by rw [ev_226]; rfl) (by decide) rfl (fun ls hl => ?_)
              refine lv_goto (tgt := 6) hx hb d_Model_rightBehind_67 (by decide) ?_
              exact ihk_188 (v_226) (0) _ _ _ (zI.wk (l' := 0) (h' := 12) hv_226 (by decide)) (zI.wk (l' := 0) (h' := 1) zc_0 (by decide)) (zm_up qv_226 hmk_188 (by decide)) hP hD hS (lv_sub hl [0, 1, 2, 3, 4, 5] rfl)
            · have _nhc_224 := hc_224
              have ni_227 := (fa_eq _ _).mp hc_224
              have hv_228 : zI b3 0 9 := zI.eq_l (zI_all b3) hx_223 hc_224.symm
              refine lv_iconst (v := 1) hx hb d_Model_rightBehind_57 (by decide) ?_
              refine lv_goto (tgt := 62) hx hb d_Model_rightBehind_58 (by decide) ?_
              refine lv_istore (lv' := [(4, .int 1), (5, .int y_189), (0, .ref b0), (1, .int b1), (2, .int b2), (3, .int b3)]) hx hb d_Model_rightBehind_62 hl (by decide) rfl (fun ls hl => ?_)
              obtain ⟨v_229, ev_229⟩ : ∃ z : Int32, z = y_189 + 1 := ⟨_, rfl⟩
              obtain ⟨qv_229, hv_229⟩ := zI_add (l := 1) (h := 11) hv_219 zc_1 ev_229 (by decide)
              rw [li_1] at qv_229
              refine lv_iinc (v := v_229) (lv' := [(5, .int v_229), (4, .int 1), (0, .ref b0), (1, .int b1), (2, .int b2), (3, .int b3)]) hx hb d_Model_rightBehind_64 hl (k := 1) rfl (by rw [ev_229]; rfl) (by decide) rfl (fun ls hl => ?_)
              refine lv_goto (tgt := 6) hx hb d_Model_rightBehind_67 (by decide) ?_
              exact ihk_188 (v_229) (1) _ _ _ (zI.wk (l' := 0) (h' := 12) hv_229 (by decide)) (zI.wk (l' := 0) (h' := 1) zc_1 (by decide)) (zm_up qv_229 hmk_188 (by decide)) hP hD hS (lv_sub hl [0, 1, 2, 3, 4, 5] rfl)
theorem d_Model_inTurn_0 : decode prog_14_method_76_code 0 = .ok (.iconst 1, 1) := by decide +kernel
theorem d_Model_inTurn_1 : decode prog_14_method_76_code 1 = .ok (.istore 4, 2) := by decide +kernel
theorem d_Model_inTurn_3 : decode prog_14_method_76_code 3 = .ok (.iload_n 2, 1) := by decide +kernel
theorem d_Model_inTurn_4 : decode prog_14_method_76_code 4 = .ok (.istore 5, 2) := by decide +kernel
theorem d_Model_inTurn_6 : decode prog_14_method_76_code 6 = .ok (.iconst 0, 1) := by decide +kernel
theorem d_Model_inTurn_7 : decode prog_14_method_76_code 7 = .ok (.istore 6, 2) := by decide +kernel
theorem d_Model_inTurn_9 : decode prog_14_method_76_code 9 = .ok (.iload 6, 2) := by decide +kernel
theorem d_Model_inTurn_11 : decode prog_14_method_76_code 11 = .ok (.aload_n 0, 1) := by decide +kernel
theorem d_Model_inTurn_12 : decode prog_14_method_76_code 12 = .ok (.iload_n 1, 1) := by decide +kernel
theorem d_Model_inTurn_13 : decode prog_14_method_76_code 13 = .ok (.invokevirtual 203, 3) := by decide +kernel
theorem d_Model_inTurn_16 : decode prog_14_method_76_code 16 = .ok (.if_icmp .ge 62, 3) := by decide +kernel
theorem d_Model_inTurn_19 : decode prog_14_method_76_code 19 = .ok (.aload_n 0, 1) := by decide +kernel
theorem d_Model_inTurn_20 : decode prog_14_method_76_code 20 = .ok (.iload_n 1, 1) := by decide +kernel
theorem d_Model_inTurn_21 : decode prog_14_method_76_code 21 = .ok (.iload 6, 2) := by decide +kernel
theorem d_Model_inTurn_23 : decode prog_14_method_76_code 23 = .ok (.invokevirtual 207, 3) := by decide +kernel
theorem d_Model_inTurn_26 : decode prog_14_method_76_code 26 = .ok (.istore 7, 2) := by decide +kernel
theorem d_Model_inTurn_28 : decode prog_14_method_76_code 28 = .ok (.iload 7, 2) := by decide +kernel
theorem d_Model_inTurn_30 : decode prog_14_method_76_code 30 = .ok (.iload_n 2, 1) := by decide +kernel
theorem d_Model_inTurn_31 : decode prog_14_method_76_code 31 = .ok (.if_icmp .eq 9, 3) := by decide +kernel
theorem d_Model_inTurn_34 : decode prog_14_method_76_code 34 = .ok (.iload 7, 2) := by decide +kernel
theorem d_Model_inTurn_36 : decode prog_14_method_76_code 36 = .ok (.iload_n 3, 1) := by decide +kernel
theorem d_Model_inTurn_37 : decode prog_14_method_76_code 37 = .ok (.if_icmp .ne 35, 3) := by decide +kernel
theorem d_Model_inTurn_40 : decode prog_14_method_76_code 40 = .ok (.iload 4, 2) := by decide +kernel
theorem d_Model_inTurn_42 : decode prog_14_method_76_code 42 = .ok (.ifCond .eq 14, 3) := by decide +kernel
theorem d_Model_inTurn_45 : decode prog_14_method_76_code 45 = .ok (.iload 7, 2) := by decide +kernel
theorem d_Model_inTurn_47 : decode prog_14_method_76_code 47 = .ok (.iload 5, 2) := by decide +kernel
theorem d_Model_inTurn_49 : decode prog_14_method_76_code 49 = .ok (.if_icmp .ne 7, 3) := by decide +kernel
theorem d_Model_inTurn_52 : decode prog_14_method_76_code 52 = .ok (.iconst 1, 1) := by decide +kernel
theorem d_Model_inTurn_53 : decode prog_14_method_76_code 53 = .ok (.goto 4, 3) := by decide +kernel
theorem d_Model_inTurn_56 : decode prog_14_method_76_code 56 = .ok (.iconst 0, 1) := by decide +kernel
theorem d_Model_inTurn_57 : decode prog_14_method_76_code 57 = .ok (.istore 4, 2) := by decide +kernel
theorem d_Model_inTurn_59 : decode prog_14_method_76_code 59 = .ok (.iload 7, 2) := by decide +kernel
theorem d_Model_inTurn_61 : decode prog_14_method_76_code 61 = .ok (.iload_n 2, 1) := by decide +kernel
theorem d_Model_inTurn_62 : decode prog_14_method_76_code 62 = .ok (.if_icmp .ne 7, 3) := by decide +kernel
theorem d_Model_inTurn_65 : decode prog_14_method_76_code 65 = .ok (.iload_n 3, 1) := by decide +kernel
theorem d_Model_inTurn_66 : decode prog_14_method_76_code 66 = .ok (.goto 4, 3) := by decide +kernel
theorem d_Model_inTurn_69 : decode prog_14_method_76_code 69 = .ok (.iload_n 2, 1) := by decide +kernel
theorem d_Model_inTurn_70 : decode prog_14_method_76_code 70 = .ok (.istore 5, 2) := by decide +kernel
theorem d_Model_inTurn_72 : decode prog_14_method_76_code 72 = .ok (.iinc 6 1, 3) := by decide +kernel
theorem d_Model_inTurn_75 : decode prog_14_method_76_code 75 = .ok (.goto (-66), 3) := by decide +kernel
theorem d_Model_inTurn_78 : decode prog_14_method_76_code 78 = .ok (.iload 4, 2) := by decide +kernel
theorem d_Model_inTurn_80 : decode prog_14_method_76_code 80 = .ok (.ifCond .eq 13, 3) := by decide +kernel
theorem d_Model_inTurn_83 : decode prog_14_method_76_code 83 = .ok (.iload 5, 2) := by decide +kernel
theorem d_Model_inTurn_85 : decode prog_14_method_76_code 85 = .ok (.iload_n 2, 1) := by decide +kernel
theorem d_Model_inTurn_86 : decode prog_14_method_76_code 86 = .ok (.if_icmp .ne 7, 3) := by decide +kernel
theorem d_Model_inTurn_89 : decode prog_14_method_76_code 89 = .ok (.iconst 1, 1) := by decide +kernel
theorem d_Model_inTurn_90 : decode prog_14_method_76_code 90 = .ok (.goto 4, 3) := by decide +kernel
theorem d_Model_inTurn_93 : decode prog_14_method_76_code 93 = .ok (.iconst 0, 1) := by decide +kernel
theorem d_Model_inTurn_94 : decode prog_14_method_76_code 94 = .ok (.ireturn, 1) := by decide +kernel
abbrev m_s1_Model_inTurn : Room := { frames := 1, cells := 0, slots := 0, locals := 22 }
set_option maxHeartbeats 4000000 in
set_option maxRecDepth 100000 in
theorem s1_Model_inTurn (l : Launch) (G : zG) (b0 : Nat) (b1 : Int32) (b2 : Int32) (b3 : Int32) (b4 : Int32) (b5 : Nat) (b6 : Nat) (b7 : Nat) (b8 : Nat) (b9 : Int32) (b10 : Nat) (b11 : Int32) (b12 : Int32) (b13 : Int32) (b14 : Int32) (b15 : Nat) (b16 : Nat) (b17 : Nat) (b18 : Int32) (b19 : Nat) (b20 : Nat) (b21 : Nat) (b22 : Nat) (b23 : Nat) (b24 : Nat) (b25 : Nat) (b26 : Nat) (b27 : Nat) (b28 : Nat) (b29 : Nat) (b30 : Nat) (b31 : Int32) (b32 : Nat) (b33 : Nat) (b34 : Int32) (b35 : Int32) (b36 : Int32) (b37 : Int32) (b38 : Nat) (b39 : Nat) (b40 : Nat) (b41 : Nat) (b42 : Nat) (b43 : Nat) (b44 : Nat) (b45 : Int32) (b46 : Nat) (b47 : Nat) (b48 : Int32) (b49 : Nat) (b50 : Nat) (b51 : Nat) (b52 : Nat) (b53 : Nat) (b54 : Int32) (b55 : Nat) (b56 : Nat) (b57 : Nat) (b58 : Nat → Int32) (hb1 : zI b1 0 19) (hb9 : zI b9 0 8) (hb11 : zI b11 0 240) (hb12 : zI b12 0 240) (hb14 : zI b14 0 1) (hb18 : zI b18 0 12) (hb31 : zI b31 0 1) (hb34 : zI b34 0 1) (hb58 : zW5 b58) : zM l G y_Model_inTurn prog_14_method_76_code 8 (Option.some Jvm.ClassFile.FieldType.boolean) m_s1_Model_inTurn [.ref b0, .int b1, .int b2, .int b3] [(b0, .inr (12, [.int b4, .ref b5, .ref b6, .ref b7, .ref b8, .int b9, .ref b10, .int b11, .int b12, .int b13, .int b14, .ref b15, .ref b16, .ref b17, .int b18, .ref b19, .ref b20, .ref b21, .ref b22, .ref b23, .ref b24, .ref b25, .ref b26, .ref b27, .ref b28, .ref b29, .ref b30, .int b31, .ref b32, .ref b33, .int b34, .int b35, .int b36, .int b37, .ref b38, .ref b39, .ref b40, .ref b41, .ref b42, .ref b43, .ref b44, .int b45, .ref b46, .ref b47, .int b48, .ref b49, .ref b50, .ref b51, .ref b52, .ref b53, .int b54, .ref b55, .ref b56, .ref b57])), (b5, .inl (G.2 0, 503, .inl b58))] (fun v w => ∃ (e0 : Int32), v = some (.int e0) ∧ w = [(b0, .inr (12, [.int b4, .ref b5, .ref b6, .ref b7, .ref b8, .int b9, .ref b10, .int b11, .int b12, .int b13, .int b14, .ref b15, .ref b16, .ref b17, .int b18, .ref b19, .ref b20, .ref b21, .ref b22, .ref b23, .ref b24, .ref b25, .ref b26, .ref b27, .ref b28, .ref b29, .ref b30, .int b31, .ref b32, .ref b33, .int b34, .int b35, .int b36, .int b37, .ref b38, .ref b39, .ref b40, .ref b41, .ref b42, .ref b43, .ref b44, .int b45, .ref b46, .ref b47, .int b48, .ref b49, .ref b50, .ref b51, .ref b52, .ref b53, .int b54, .ref b55, .ref b56, .ref b57])), (b5, .inl (G.2 0, 503, .inl b58))] ∧ (zI e0 0 1)) := by
  refine z_start (by decide +kernel) (Nat.le_of_ble_eq_true rfl) ?_
  intro p e s m below meth c A Z hr hnm hA hP hD hS ls hl
  have Z : zC p s m _ meth c prog_14_method_76_code 8 "TraceMachinesModel" G := Z
  obtain ⟨hx, hb, hml, hown, hts, hK, hN, hlocks⟩ := id Z
  have hl : lv_has ls 8 [(0, .ref b0), (1, .int b1), (2, .int b2), (3, .int b3)] := hl
  refine lv_iconst (v := 1) hx hb d_Model_inTurn_0 (by decide) ?_
  refine lv_istore (lv' := [(4, .int 1), (0, .ref b0), (1, .int b1), (2, .int b2), (3, .int b3)]) hx hb d_Model_inTurn_1 hl (by decide) rfl (fun ls hl => ?_)
  refine lv_iload_n hx hb d_Model_inTurn_3 rfl (lv_at hl 3 rfl) ?_
  refine lv_istore (lv' := [(5, .int b2), (4, .int 1), (0, .ref b0), (1, .int b1), (2, .int b2), (3, .int b3)]) hx hb d_Model_inTurn_4 hl (by decide) rfl (fun ls hl => ?_)
  refine lv_iconst (v := 0) hx hb d_Model_inTurn_6 (by decide) ?_
  refine lv_istore (lv' := [(6, .int 0), (5, .int b2), (4, .int 1), (0, .ref b0), (1, .int b1), (2, .int b2), (3, .int b3)]) hx hb d_Model_inTurn_7 hl (by decide) rfl (fun ls hl => ?_)
  suffices key : ∀ (k_361 : Nat) (y_362 : Int32) (y_363 : Int32) (y_364 : Int32) (H : Heap) (locs : List Loc) (ls : Array Slot), (zI y_362 0 12) → (zI y_363 0 1) → (12 : Int) - y_362.toInt < (k_361 : Int) → va_P G.1 classes [(b0, .inr (12, [.int b4, .ref b5, .ref b6, .ref b7, .ref b8, .int b9, .ref b10, .int b11, .int b12, .int b13, .int b14, .ref b15, .ref b16, .ref b17, .int b18, .ref b19, .ref b20, .ref b21, .ref b22, .ref b23, .ref b24, .ref b25, .ref b26, .ref b27, .ref b28, .ref b29, .ref b30, .int b31, .ref b32, .ref b33, .int b34, .int b35, .int b36, .int b37, .ref b38, .ref b39, .ref b40, .ref b41, .ref b42, .ref b43, .ref b44, .int b45, .ref b46, .ref b47, .int b48, .ref b49, .ref b50, .ref b51, .ref b52, .ref b53, .int b54, .ref b55, .ref b56, .ref b57])), (b5, .inl (G.2 0, 503, .inl b58))] H → va_D A [(b0, .inr (12, [.int b4, .ref b5, .ref b6, .ref b7, .ref b8, .int b9, .ref b10, .int b11, .int b12, .int b13, .int b14, .ref b15, .ref b16, .ref b17, .int b18, .ref b19, .ref b20, .ref b21, .ref b22, .ref b23, .ref b24, .ref b25, .ref b26, .ref b27, .ref b28, .ref b29, .ref b30, .int b31, .ref b32, .ref b33, .int b34, .int b35, .int b36, .int b37, .ref b38, .ref b39, .ref b40, .ref b41, .ref b42, .ref b43, .ref b44, .int b45, .ref b46, .ref b47, .int b48, .ref b49, .ref b50, .ref b51, .ref b52, .ref b53, .int b54, .ref b55, .ref b56, .ref b57])), (b5, .inl (G.2 0, 503, .inl b58))] → va_S A s.heap H locs → lv_has ls 8 [(6, .int y_362), (5, .int y_364), (4, .int y_363), (0, .ref b0), (1, .int b1), (2, .int b2), (3, .int b3)] → W p l e m_s1_Model_inTurn s m ([.ref b0, .int b1, .int b2, .int b3] : List Value).toArray below meth c H locs 0 0 (MQ below (zQ G (fun v w => ∃ (e0 : Int32), v = some (.int e0) ∧ w = [(b0, .inr (12, [.int b4, .ref b5, .ref b6, .ref b7, .ref b8, .int b9, .ref b10, .int b11, .int b12, .int b13, .int b14, .ref b15, .ref b16, .ref b17, .int b18, .ref b19, .ref b20, .ref b21, .ref b22, .ref b23, .ref b24, .ref b25, .ref b26, .ref b27, .ref b28, .ref b29, .ref b30, .int b31, .ref b32, .ref b33, .int b34, .int b35, .int b36, .int b37, .ref b38, .ref b39, .ref b40, .ref b41, .ref b42, .ref b43, .ref b44, .int b45, .ref b46, .ref b47, .int b48, .ref b49, .ref b50, .ref b51, .ref b52, .ref b53, .int b54, .ref b55, .ref b56, .ref b57])), (b5, .inl (G.2 0, 503, .inl b58))] ∧ (zI e0 0 1)) A) ([.ref b0, .int b1, .int b2, .int b3] : List Value).toArray s m_s1_Model_inTurn.cells m_s1_Model_inTurn.slots A) (F0 m 9 ls []) by
    exact key 13 (0) (1) (b2) _ _ _ (zI.wk (l' := 0) (h' := 12) zc_0 (by decide)) (zI.wk (l' := 0) (h' := 1) zc_1 (by decide)) (zm_upi (zI.wk (l' := 0) (h' := 12) zc_0 (by decide)) (by decide)) hP hD hS (lv_sub hl [0, 1, 2, 3, 4, 5, 6] rfl)
  intro k_361
  induction k_361 with
  | zero =>
    intro y_362 y_363 y_364 H locs ls hy_362 hy_363 hmk_361 hP hD hS hl
    exact (zm_up0 hy_362 hmk_361).elim
  | succ k_361 ihk_361 =>
    intro y_362 y_363 y_364 H locs ls hy_362 hy_363 hmk_361 hP hD hS hl
    refine lv_iload hx hb d_Model_inTurn_9 (lv_at hl 0 rfl) ?_
    refine lv_aload_n hx hb d_Model_inTurn_11 rfl (lv_at hl 3 rfl) ?_
    refine lv_iload_n hx hb d_Model_inTurn_12 rfl (lv_at hl 4 rfl) ?_
    refine z_callV (index := 203) (As := [.int b1]) (rest := [.int y_362]) (wr := []) Z (s1_Model_calls l G (b0) (b1) (b4) (b5) (b6) (b7) (b8) (b9) (b10) (b11) (b12) (b13) (b14) (b15) (b16) (b17) (b18) (b19) (b20) (b21) (b22) (b23) (b24) (b25) (b26) (b27) (b28) (b29) (b30) (b31) (b32) (b33) (b34) (b35) (b36) (b37) (b38) (b39) (b40) (b41) (b42) (b43) (b44) (b45) (b46) (b47) (b48) (b49) (b50) (b51) (b52) (b53) (b54) (b55) (b56) (b57) (b58) hb1 hb9 hb11 hb12 hb14 hb18 hb31 hb34 hb58) hl.1 q1352 q1354 qs54 q14 q1355 ⟨by decide, by decide, by show _ = some 1; decide +kernel⟩ ⟨Nat.le_of_ble_eq_true rfl, Nat.le_of_ble_eq_true rfl⟩ ⟨Nat.le_of_ble_eq_true rfl, Nat.le_of_ble_eq_true rfl⟩ rfl (Nat.le_of_ble_eq_true rfl) d_Model_inTurn_13 hP hD hS hA 0 12 rfl rfl rfl [0, 1] [] rfl rfl rfl rfl (by decide) (fun v w1 H locs hw_365 hP hD hS => ?_)
    obtain ⟨x_366, rfl, rfl, hx_366⟩ := hw_365
    have hP : va_P G.1 classes [(b0, .inr (12, [.int b4, .ref b5, .ref b6, .ref b7, .ref b8, .int b9, .ref b10, .int b11, .int b12, .int b13, .int b14, .ref b15, .ref b16, .ref b17, .int b18, .ref b19, .ref b20, .ref b21, .ref b22, .ref b23, .ref b24, .ref b25, .ref b26, .ref b27, .ref b28, .ref b29, .ref b30, .int b31, .ref b32, .ref b33, .int b34, .int b35, .int b36, .int b37, .ref b38, .ref b39, .ref b40, .ref b41, .ref b42, .ref b43, .ref b44, .int b45, .ref b46, .ref b47, .int b48, .ref b49, .ref b50, .ref b51, .ref b52, .ref b53, .int b54, .ref b55, .ref b56, .ref b57])), (b5, .inl (G.2 0, 503, .inl b58))] H := hP
    have hD := z_tie hP hD rfl
    refine W.widen (k := 0) (n := 0) (Nat.le_of_ble_eq_true rfl) (Nat.le_of_ble_eq_true rfl) ?_
    refine lv_icmp_ge (tgt := 78) hx hb d_Model_inTurn_16 (by decide) (fun hc_367 => ?_) (fun hc_367 => ?_)
    · have _nhc_367 := hc_367
      have ni_368 := (fa_le _ _).mp hc_367
      refine lv_iload hx hb d_Model_inTurn_78 (lv_at hl 2 rfl) ?_
      refine lv_if_eq (tgt := 93) hx hb d_Model_inTurn_80 (by decide) (fun hc_369 => ?_) (fun hc_369 => ?_)
      · have _nhc_369 := hc_369
        have ni_370 := (fa_eq _ _).mp hc_369
        rw [li_0] at ni_370
        have hv_371 : zI y_363 0 0 := zI.eq_l hy_363 zc_0 hc_369
        refine lv_iconst (v := 0) hx hb d_Model_inTurn_93 (by decide) ?_
        exact z_zret hx hb hr hlocks rfl hP hD hS (Nat.le_of_ble_eq_true rfl) (Nat.le_of_ble_eq_true rfl) d_Model_inTurn_94 ⟨0, rfl, rfl, (zI.wk (l' := 0) (h' := 1) zc_0 (by decide))⟩
      · have _nhc_369 := hc_369
        have ni_372 : ¬ (y_363 : Int32).toInt = (0 : Int32).toInt := fun z => hc_369 ((fa_eq _ _).mpr z)
        simp only [li_0] at ni_372
        have hv_373 : zI y_363 1 1 := zI.ne_lo hy_363 zc_0 hc_369 (by decide)
        refine lv_iload hx hb d_Model_inTurn_83 (lv_at hl 1 rfl) ?_
        refine lv_iload_n hx hb d_Model_inTurn_85 rfl (lv_at hl 5 rfl) ?_
        refine lv_icmp_ne (tgt := 93) hx hb d_Model_inTurn_86 (by decide) (fun hc_374 => ?_) (fun hc_374 => ?_)
        · have _nhc_374 := hc_374
          have ni_375 : ¬ (y_364 : Int32).toInt = (b2 : Int32).toInt := fun z => hc_374 ((fa_eq _ _).mpr z)
          refine lv_iconst (v := 0) hx hb d_Model_inTurn_93 (by decide) ?_
          exact z_zret hx hb hr hlocks rfl hP hD hS (Nat.le_of_ble_eq_true rfl) (Nat.le_of_ble_eq_true rfl) d_Model_inTurn_94 ⟨0, rfl, rfl, (zI.wk (l' := 0) (h' := 1) zc_0 (by decide))⟩
        · have _nhc_374 := hc_374
          have ni_376 := (fa_eq _ _).mp hc_374
          refine lv_iconst (v := 1) hx hb d_Model_inTurn_89 (by decide) ?_
          refine lv_goto (tgt := 94) hx hb d_Model_inTurn_90 (by decide) ?_
          exact z_zret hx hb hr hlocks rfl hP hD hS (Nat.le_of_ble_eq_true rfl) (Nat.le_of_ble_eq_true rfl) d_Model_inTurn_94 ⟨1, rfl, rfl, (zI.wk (l' := 0) (h' := 1) zc_1 (by decide))⟩
    · have _nhc_367 := hc_367
      have ni_377 := (fa_lt _ _).mp (zi_nle hc_367)
      have hv_378 : zI y_362 0 11 := zI.lt_l hy_362 hx_366 (zi_nle hc_367) (by decide)
      have hv_379 : zI x_366 1 12 := zI.lt_r hy_362 hx_366 (zi_nle hc_367) (by decide)
      refine lv_aload_n hx hb d_Model_inTurn_19 rfl (lv_at hl 3 rfl) ?_
      refine lv_iload_n hx hb d_Model_inTurn_20 rfl (lv_at hl 4 rfl) ?_
      refine lv_iload hx hb d_Model_inTurn_21 (lv_at hl 0 rfl) ?_
      refine z_callV (index := 207) (As := [.int b1, .int y_362]) (rest := []) (wr := []) Z (s1_Model_letterAt l G (b0) (b1) (y_362) (b4) (b5) (b6) (b7) (b8) (b9) (b10) (b11) (b12) (b13) (b14) (b15) (b16) (b17) (b18) (b19) (b20) (b21) (b22) (b23) (b24) (b25) (b26) (b27) (b28) (b29) (b30) (b31) (b32) (b33) (b34) (b35) (b36) (b37) (b38) (b39) (b40) (b41) (b42) (b43) (b44) (b45) (b46) (b47) (b48) (b49) (b50) (b51) (b52) (b53) (b54) (b55) (b56) (b57) (b58) hb1 hv_378 hb9 hb11 hb12 hb14 hb18 hb31 hb34 hb58) hl.1 q1372 q1374 qs59 q14 q1375 ⟨by decide, by decide, by show _ = some 2; decide +kernel⟩ ⟨Nat.le_of_ble_eq_true rfl, Nat.le_of_ble_eq_true rfl⟩ ⟨Nat.le_of_ble_eq_true rfl, Nat.le_of_ble_eq_true rfl⟩ rfl (Nat.le_of_ble_eq_true rfl) d_Model_inTurn_23 hP hD hS hA 0 12 rfl rfl rfl [0, 1] [] rfl rfl rfl rfl (by decide) (fun v w1 H locs hw_380 hP hD hS => ?_)
      obtain ⟨x_381, rfl, rfl, hx_381⟩ := hw_380
      have hP : va_P G.1 classes [(b0, .inr (12, [.int b4, .ref b5, .ref b6, .ref b7, .ref b8, .int b9, .ref b10, .int b11, .int b12, .int b13, .int b14, .ref b15, .ref b16, .ref b17, .int b18, .ref b19, .ref b20, .ref b21, .ref b22, .ref b23, .ref b24, .ref b25, .ref b26, .ref b27, .ref b28, .ref b29, .ref b30, .int b31, .ref b32, .ref b33, .int b34, .int b35, .int b36, .int b37, .ref b38, .ref b39, .ref b40, .ref b41, .ref b42, .ref b43, .ref b44, .int b45, .ref b46, .ref b47, .int b48, .ref b49, .ref b50, .ref b51, .ref b52, .ref b53, .int b54, .ref b55, .ref b56, .ref b57])), (b5, .inl (G.2 0, 503, .inl b58))] H := hP
      have hD := z_tie hP hD rfl
      refine W.widen (k := 0) (n := 0) (Nat.le_of_ble_eq_true rfl) (Nat.le_of_ble_eq_true rfl) ?_
      refine lv_istore (lv' := [(7, .int x_381), (6, .int y_362), (5, .int y_364), (4, .int y_363), (0, .ref b0), (1, .int b1), (2, .int b2), (3, .int b3)]) hx hb d_Model_inTurn_26 hl (by decide) rfl (fun ls hl => ?_)
      refine lv_iload hx hb d_Model_inTurn_28 (lv_at hl 0 rfl) ?_
      refine lv_iload_n hx hb d_Model_inTurn_30 rfl (lv_at hl 6 rfl) ?_
      refine lv_icmp_eq (tgt := 40) hx hb d_Model_inTurn_31 (by decide) (fun hc_382 => ?_) (fun hc_382 => ?_)
      · have _nhc_382 := hc_382
        have ni_383 := (fa_eq _ _).mp hc_382
        have hv_384 : zI b2 0 9 := zI.eq_l (zI_all b2) hx_381 hc_382.symm
        refine lv_iload hx hb d_Model_inTurn_40 (lv_at hl 3 rfl) ?_
        refine lv_if_eq (tgt := 56) hx hb d_Model_inTurn_42 (by decide) (fun hc_385 => ?_) (fun hc_385 => ?_)
        · have _nhc_385 := hc_385
          have ni_386 := (fa_eq _ _).mp hc_385
          rw [li_0] at ni_386
          have hv_387 : zI y_363 0 0 := zI.eq_l hy_363 zc_0 hc_385
          refine lv_iconst (v := 0) hx hb d_Model_inTurn_56 (by decide) ?_
          refine lv_istore (lv' := [(4, .int 0), (7, .int x_381), (6, .int y_362), (5, .int y_364), (0, .ref b0), (1, .int b1), (2, .int b2), (3, .int b3)]) hx hb d_Model_inTurn_57 hl (by decide) rfl (fun ls hl => ?_)
          refine lv_iload hx hb d_Model_inTurn_59 (lv_at hl 1 rfl) ?_
          refine lv_iload_n hx hb d_Model_inTurn_61 rfl (lv_at hl 6 rfl) ?_
          refine lv_icmp_ne (tgt := 69) hx hb d_Model_inTurn_62 (by decide) (fun hc_388 => ?_) (fun hc_388 => ?_)
          · have _nhc_388 := hc_388
            have ni_389 : ¬ (x_381 : Int32).toInt = (b2 : Int32).toInt := fun z => hc_388 ((fa_eq _ _).mpr z)
            refine lv_iload_n hx hb d_Model_inTurn_69 rfl (lv_at hl 6 rfl) ?_
            refine lv_istore (lv' := [(5, .int b2), (4, .int 0), (7, .int x_381), (6, .int y_362), (0, .ref b0), (1, .int b1), (2, .int b2), (3, .int b3)]) hx hb d_Model_inTurn_70 hl (by decide) rfl (fun ls hl => ?_)
            obtain ⟨v_390, ev_390⟩ : ∃ z : Int32, z = y_362 + 1 := ⟨_, rfl⟩
            obtain ⟨qv_390, hv_390⟩ := zI_add (l := 1) (h := 12) hv_378 zc_1 ev_390 (by decide)
            rw [li_1] at qv_390
            refine lv_iinc (v := v_390) (lv' := [(6, .int v_390), (5, .int b2), (4, .int 0), (7, .int x_381), (0, .ref b0), (1, .int b1), (2, .int b2), (3, .int b3)]) hx hb d_Model_inTurn_72 hl (k := 3) rfl (by rw [ev_390]; rfl) (by decide) rfl (fun ls hl => ?_)
            refine lv_goto (tgt := 9) hx hb d_Model_inTurn_75 (by decide) ?_
            exact ihk_361 (v_390) (0) (b2) _ _ _ (zI.wk (l' := 0) (h' := 12) hv_390 (by decide)) (zI.wk (l' := 0) (h' := 1) zc_0 (by decide)) (zm_up qv_390 hmk_361 (by decide)) hP hD hS (lv_sub hl [0, 1, 2, 4, 5, 6, 7] rfl)
          · have _nhc_388 := hc_388
            have ni_391 := (fa_eq _ _).mp hc_388
            refine lv_iload_n hx hb d_Model_inTurn_65 rfl (lv_at hl 7 rfl) ?_
            refine lv_goto (tgt := 70) hx hb d_Model_inTurn_66 (by decide) ?_
            refine lv_istore (lv' := [(5, .int b3), (4, .int 0), (7, .int x_381), (6, .int y_362), (0, .ref b0), (1, .int b1), (2, .int b2), (3, .int b3)]) hx hb d_Model_inTurn_70 hl (by decide) rfl (fun ls hl => ?_)
            obtain ⟨v_392, ev_392⟩ : ∃ z : Int32, z = y_362 + 1 := ⟨_, rfl⟩
            obtain ⟨qv_392, hv_392⟩ := zI_add (l := 1) (h := 12) hv_378 zc_1 ev_392 (by decide)
            rw [li_1] at qv_392
            refine lv_iinc (v := v_392) (lv' := [(6, .int v_392), (5, .int b3), (4, .int 0), (7, .int x_381), (0, .ref b0), (1, .int b1), (2, .int b2), (3, .int b3)]) hx hb d_Model_inTurn_72 hl (k := 3) rfl (by rw [ev_392]; rfl) (by decide) rfl (fun ls hl => ?_)
            refine lv_goto (tgt := 9) hx hb d_Model_inTurn_75 (by decide) ?_
            exact ihk_361 (v_392) (0) (b3) _ _ _ (zI.wk (l' := 0) (h' := 12) hv_392 (by decide)) (zI.wk (l' := 0) (h' := 1) zc_0 (by decide)) (zm_up qv_392 hmk_361 (by decide)) hP hD hS (lv_sub hl [0, 1, 2, 4, 5, 6, 7] rfl)
        · have _nhc_385 := hc_385
          have ni_393 : ¬ (y_363 : Int32).toInt = (0 : Int32).toInt := fun z => hc_385 ((fa_eq _ _).mpr z)
          simp only [li_0] at ni_393
          have hv_394 : zI y_363 1 1 := zI.ne_lo hy_363 zc_0 hc_385 (by decide)
          refine lv_iload hx hb d_Model_inTurn_45 (lv_at hl 0 rfl) ?_
          refine lv_iload hx hb d_Model_inTurn_47 (lv_at hl 2 rfl) ?_
          refine lv_icmp_ne (tgt := 56) hx hb d_Model_inTurn_49 (by decide) (fun hc_395 => ?_) (fun hc_395 => ?_)
          · have _nhc_395 := hc_395
            have ni_396 : ¬ (x_381 : Int32).toInt = (y_364 : Int32).toInt := fun z => hc_395 ((fa_eq _ _).mpr z)
            refine lv_iconst (v := 0) hx hb d_Model_inTurn_56 (by decide) ?_
            refine lv_istore (lv' := [(4, .int 0), (7, .int x_381), (6, .int y_362), (5, .int y_364), (0, .ref b0), (1, .int b1), (2, .int b2), (3, .int b3)]) hx hb d_Model_inTurn_57 hl (by decide) rfl (fun ls hl => ?_)
            refine lv_iload hx hb d_Model_inTurn_59 (lv_at hl 1 rfl) ?_
            refine lv_iload_n hx hb d_Model_inTurn_61 rfl (lv_at hl 6 rfl) ?_
            refine lv_icmp_ne (tgt := 69) hx hb d_Model_inTurn_62 (by decide) (fun hc_397 => ?_) (fun hc_397 => ?_)
            · have _nhc_397 := hc_397
              have ni_398 : ¬ (x_381 : Int32).toInt = (b2 : Int32).toInt := fun z => hc_397 ((fa_eq _ _).mpr z)
              refine lv_iload_n hx hb d_Model_inTurn_69 rfl (lv_at hl 6 rfl) ?_
              refine lv_istore (lv' := [(5, .int b2), (4, .int 0), (7, .int x_381), (6, .int y_362), (0, .ref b0), (1, .int b1), (2, .int b2), (3, .int b3)]) hx hb d_Model_inTurn_70 hl (by decide) rfl (fun ls hl => ?_)
              obtain ⟨v_399, ev_399⟩ : ∃ z : Int32, z = y_362 + 1 := ⟨_, rfl⟩
              obtain ⟨qv_399, hv_399⟩ := zI_add (l := 1) (h := 12) hv_378 zc_1 ev_399 (by decide)
              rw [li_1] at qv_399
              refine lv_iinc (v := v_399) (lv' := [(6, .int v_399), (5, .int b2), (4, .int 0), (7, .int x_381), (0, .ref b0), (1, .int b1), (2, .int b2), (3, .int b3)]) hx hb d_Model_inTurn_72 hl (k := 3) rfl (by rw [ev_399]; rfl) (by decide) rfl (fun ls hl => ?_)
              refine lv_goto (tgt := 9) hx hb d_Model_inTurn_75 (by decide) ?_
              exact ihk_361 (v_399) (0) (b2) _ _ _ (zI.wk (l' := 0) (h' := 12) hv_399 (by decide)) (zI.wk (l' := 0) (h' := 1) zc_0 (by decide)) (zm_up qv_399 hmk_361 (by decide)) hP hD hS (lv_sub hl [0, 1, 2, 4, 5, 6, 7] rfl)
            · have _nhc_397 := hc_397
              have ni_400 := (fa_eq _ _).mp hc_397
              refine lv_iload_n hx hb d_Model_inTurn_65 rfl (lv_at hl 7 rfl) ?_
              refine lv_goto (tgt := 70) hx hb d_Model_inTurn_66 (by decide) ?_
              refine lv_istore (lv' := [(5, .int b3), (4, .int 0), (7, .int x_381), (6, .int y_362), (0, .ref b0), (1, .int b1), (2, .int b2), (3, .int b3)]) hx hb d_Model_inTurn_70 hl (by decide) rfl (fun ls hl => ?_)
              obtain ⟨v_401, ev_401⟩ : ∃ z : Int32, z = y_362 + 1 := ⟨_, rfl⟩
              obtain ⟨qv_401, hv_401⟩ := zI_add (l := 1) (h := 12) hv_378 zc_1 ev_401 (by decide)
              rw [li_1] at qv_401
              refine lv_iinc (v := v_401) (lv' := [(6, .int v_401), (5, .int b3), (4, .int 0), (7, .int x_381), (0, .ref b0), (1, .int b1), (2, .int b2), (3, .int b3)]) hx hb d_Model_inTurn_72 hl (k := 3) rfl (by rw [ev_401]; rfl) (by decide) rfl (fun ls hl => ?_)
              refine lv_goto (tgt := 9) hx hb d_Model_inTurn_75 (by decide) ?_
              exact ihk_361 (v_401) (0) (b3) _ _ _ (zI.wk (l' := 0) (h' := 12) hv_401 (by decide)) (zI.wk (l' := 0) (h' := 1) zc_0 (by decide)) (zm_up qv_401 hmk_361 (by decide)) hP hD hS (lv_sub hl [0, 1, 2, 4, 5, 6, 7] rfl)
          · have _nhc_395 := hc_395
            have ni_402 := (fa_eq _ _).mp hc_395
            have hv_403 : zI y_364 0 9 := zI.eq_l (zI_all y_364) hx_381 hc_395.symm
            refine lv_iconst (v := 1) hx hb d_Model_inTurn_52 (by decide) ?_
            refine lv_goto (tgt := 57) hx hb d_Model_inTurn_53 (by decide) ?_
            refine lv_istore (lv' := [(4, .int 1), (7, .int x_381), (6, .int y_362), (5, .int y_364), (0, .ref b0), (1, .int b1), (2, .int b2), (3, .int b3)]) hx hb d_Model_inTurn_57 hl (by decide) rfl (fun ls hl => ?_)
            refine lv_iload hx hb d_Model_inTurn_59 (lv_at hl 1 rfl) ?_
            refine lv_iload_n hx hb d_Model_inTurn_61 rfl (lv_at hl 6 rfl) ?_
            refine lv_icmp_ne (tgt := 69) hx hb d_Model_inTurn_62 (by decide) (fun hc_404 => ?_) (fun hc_404 => ?_)
            · have _nhc_404 := hc_404
              have ni_405 : ¬ (x_381 : Int32).toInt = (b2 : Int32).toInt := fun z => hc_404 ((fa_eq _ _).mpr z)
              refine lv_iload_n hx hb d_Model_inTurn_69 rfl (lv_at hl 6 rfl) ?_
              refine lv_istore (lv' := [(5, .int b2), (4, .int 1), (7, .int x_381), (6, .int y_362), (0, .ref b0), (1, .int b1), (2, .int b2), (3, .int b3)]) hx hb d_Model_inTurn_70 hl (by decide) rfl (fun ls hl => ?_)
              obtain ⟨v_406, ev_406⟩ : ∃ z : Int32, z = y_362 + 1 := ⟨_, rfl⟩
              obtain ⟨qv_406, hv_406⟩ := zI_add (l := 1) (h := 12) hv_378 zc_1 ev_406 (by decide)
              rw [li_1] at qv_406
              refine lv_iinc (v := v_406) (lv' := [(6, .int v_406), (5, .int b2), (4, .int 1), (7, .int x_381), (0, .ref b0), (1, .int b1), (2, .int b2), (3, .int b3)]) hx hb d_Model_inTurn_72 hl (k := 3) rfl (by rw [ev_406]; rfl) (by decide) rfl (fun ls hl => ?_)
              refine lv_goto (tgt := 9) hx hb d_Model_inTurn_75 (by decide) ?_
              exact ihk_361 (v_406) (1) (b2) _ _ _ (zI.wk (l' := 0) (h' := 12) hv_406 (by decide)) (zI.wk (l' := 0) (h' := 1) zc_1 (by decide)) (zm_up qv_406 hmk_361 (by decide)) hP hD hS (lv_sub hl [0, 1, 2, 4, 5, 6, 7] rfl)
            · have _nhc_404 := hc_404
              have ni_407 := (fa_eq _ _).mp hc_404
              refine lv_iload_n hx hb d_Model_inTurn_65 rfl (lv_at hl 7 rfl) ?_
              refine lv_goto (tgt := 70) hx hb d_Model_inTurn_66 (by decide) ?_
              refine lv_istore (lv' := [(5, .int b3), (4, .int 1), (7, .int x_381), (6, .int y_362), (0, .ref b0), (1, .int b1), (2, .int b2), (3, .int b3)]) hx hb d_Model_inTurn_70 hl (by decide) rfl (fun ls hl => ?_)
              obtain ⟨v_408, ev_408⟩ : ∃ z : Int32, z = y_362 + 1 := ⟨_, rfl⟩
              obtain ⟨qv_408, hv_408⟩ := zI_add (l := 1) (h := 12) hv_378 zc_1 ev_408 (by decide)
              rw [li_1] at qv_408
              refine lv_iinc (v := v_408) (lv' := [(6, .int v_408), (5, .int b3), (4, .int 1), (7, .int x_381), (0, .ref b0), (1, .int b1), (2, .int b2), (3, .int b3)]) hx hb d_Model_inTurn_72 hl (k := 3) rfl (by rw [ev_408]; rfl) (by decide) rfl (fun ls hl => ?_)
              refine lv_goto (tgt := 9) hx hb d_Model_inTurn_75 (by decide) ?_
              exact ihk_361 (v_408) (1) (b3) _ _ _ (zI.wk (l' := 0) (h' := 12) hv_408 (by decide)) (zI.wk (l' := 0) (h' := 1) zc_1 (by decide)) (zm_up qv_408 hmk_361 (by decide)) hP hD hS (lv_sub hl [0, 1, 2, 4, 5, 6, 7] rfl)
      · have _nhc_382 := hc_382
        have ni_409 : ¬ (x_381 : Int32).toInt = (b2 : Int32).toInt := fun z => hc_382 ((fa_eq _ _).mpr z)
        refine lv_iload hx hb d_Model_inTurn_34 (lv_at hl 0 rfl) ?_
        refine lv_iload_n hx hb d_Model_inTurn_36 rfl (lv_at hl 7 rfl) ?_
        refine lv_icmp_ne (tgt := 72) hx hb d_Model_inTurn_37 (by decide) (fun hc_410 => ?_) (fun hc_410 => ?_)
        · have _nhc_410 := hc_410
          have ni_411 : ¬ (x_381 : Int32).toInt = (b3 : Int32).toInt := fun z => hc_410 ((fa_eq _ _).mpr z)
          obtain ⟨v_412, ev_412⟩ : ∃ z : Int32, z = y_362 + 1 := ⟨_, rfl⟩
          obtain ⟨qv_412, hv_412⟩ := zI_add (l := 1) (h := 12) hv_378 zc_1 ev_412 (by decide)
          rw [li_1] at qv_412
          refine lv_iinc (v := v_412) (lv' := [(6, .int v_412), (7, .int x_381), (5, .int y_364), (4, .int y_363), (0, .ref b0), (1, .int b1), (2, .int b2), (3, .int b3)]) hx hb d_Model_inTurn_72 hl (k := 1) rfl (by rw [ev_412]; rfl) (by decide) rfl (fun ls hl => ?_)
          refine lv_goto (tgt := 9) hx hb d_Model_inTurn_75 (by decide) ?_
          exact ihk_361 (v_412) (y_363) (y_364) _ _ _ (zI.wk (l' := 0) (h' := 12) hv_412 (by decide)) hy_363 (zm_up qv_412 hmk_361 (by decide)) hP hD hS (lv_sub hl [0, 2, 3, 4, 5, 6, 7] rfl)
        · have _nhc_410 := hc_410
          have ni_413 := (fa_eq _ _).mp hc_410
          have hv_414 : zI b3 0 9 := zI.eq_l (zI_all b3) hx_381 hc_410.symm
          refine lv_iload hx hb d_Model_inTurn_40 (lv_at hl 3 rfl) ?_
          refine lv_if_eq (tgt := 56) hx hb d_Model_inTurn_42 (by decide) (fun hc_415 => ?_) (fun hc_415 => ?_)
          · have _nhc_415 := hc_415
            have ni_416 := (fa_eq _ _).mp hc_415
            rw [li_0] at ni_416
            have hv_417 : zI y_363 0 0 := zI.eq_l hy_363 zc_0 hc_415
            refine lv_iconst (v := 0) hx hb d_Model_inTurn_56 (by decide) ?_
            refine lv_istore (lv' := [(4, .int 0), (7, .int x_381), (6, .int y_362), (5, .int y_364), (0, .ref b0), (1, .int b1), (2, .int b2), (3, .int b3)]) hx hb d_Model_inTurn_57 hl (by decide) rfl (fun ls hl => ?_)
            refine lv_iload hx hb d_Model_inTurn_59 (lv_at hl 1 rfl) ?_
            refine lv_iload_n hx hb d_Model_inTurn_61 rfl (lv_at hl 6 rfl) ?_
            refine lv_icmp_ne (tgt := 69) hx hb d_Model_inTurn_62 (by decide) (fun hc_418 => ?_) (fun hc_418 => ?_)
            · have _nhc_418 := hc_418
              have ni_419 : ¬ (x_381 : Int32).toInt = (b2 : Int32).toInt := fun z => hc_418 ((fa_eq _ _).mpr z)
              refine lv_iload_n hx hb d_Model_inTurn_69 rfl (lv_at hl 6 rfl) ?_
              refine lv_istore (lv' := [(5, .int b2), (4, .int 0), (7, .int x_381), (6, .int y_362), (0, .ref b0), (1, .int b1), (2, .int b2), (3, .int b3)]) hx hb d_Model_inTurn_70 hl (by decide) rfl (fun ls hl => ?_)
              obtain ⟨v_420, ev_420⟩ : ∃ z : Int32, z = y_362 + 1 := ⟨_, rfl⟩
              obtain ⟨qv_420, hv_420⟩ := zI_add (l := 1) (h := 12) hv_378 zc_1 ev_420 (by decide)
              rw [li_1] at qv_420
              refine lv_iinc (v := v_420) (lv' := [(6, .int v_420), (5, .int b2), (4, .int 0), (7, .int x_381), (0, .ref b0), (1, .int b1), (2, .int b2), (3, .int b3)]) hx hb d_Model_inTurn_72 hl (k := 3) rfl (by rw [ev_420]; rfl) (by decide) rfl (fun ls hl => ?_)
              refine lv_goto (tgt := 9) hx hb d_Model_inTurn_75 (by decide) ?_
              exact ihk_361 (v_420) (0) (b2) _ _ _ (zI.wk (l' := 0) (h' := 12) hv_420 (by decide)) (zI.wk (l' := 0) (h' := 1) zc_0 (by decide)) (zm_up qv_420 hmk_361 (by decide)) hP hD hS (lv_sub hl [0, 1, 2, 4, 5, 6, 7] rfl)
            · have _nhc_418 := hc_418
              have ni_421 := (fa_eq _ _).mp hc_418
              have hv_422 : zI b2 0 9 := zI.eq_l (zI_all b2) hx_381 hc_418.symm
              refine lv_iload_n hx hb d_Model_inTurn_65 rfl (lv_at hl 7 rfl) ?_
              refine lv_goto (tgt := 70) hx hb d_Model_inTurn_66 (by decide) ?_
              refine lv_istore (lv' := [(5, .int b3), (4, .int 0), (7, .int x_381), (6, .int y_362), (0, .ref b0), (1, .int b1), (2, .int b2), (3, .int b3)]) hx hb d_Model_inTurn_70 hl (by decide) rfl (fun ls hl => ?_)
              obtain ⟨v_423, ev_423⟩ : ∃ z : Int32, z = y_362 + 1 := ⟨_, rfl⟩
              obtain ⟨qv_423, hv_423⟩ := zI_add (l := 1) (h := 12) hv_378 zc_1 ev_423 (by decide)
              rw [li_1] at qv_423
              refine lv_iinc (v := v_423) (lv' := [(6, .int v_423), (5, .int b3), (4, .int 0), (7, .int x_381), (0, .ref b0), (1, .int b1), (2, .int b2), (3, .int b3)]) hx hb d_Model_inTurn_72 hl (k := 3) rfl (by rw [ev_423]; rfl) (by decide) rfl (fun ls hl => ?_)
              refine lv_goto (tgt := 9) hx hb d_Model_inTurn_75 (by decide) ?_
              exact ihk_361 (v_423) (0) (b3) _ _ _ (zI.wk (l' := 0) (h' := 12) hv_423 (by decide)) (zI.wk (l' := 0) (h' := 1) zc_0 (by decide)) (zm_up qv_423 hmk_361 (by decide)) hP hD hS (lv_sub hl [0, 1, 2, 4, 5, 6, 7] rfl)
          · have _nhc_415 := hc_415
            have ni_424 : ¬ (y_363 : Int32).toInt = (0 : Int32).toInt := fun z => hc_415 ((fa_eq _ _).mpr z)
            simp only [li_0] at ni_424
            have hv_425 : zI y_363 1 1 := zI.ne_lo hy_363 zc_0 hc_415 (by decide)
            refine lv_iload hx hb d_Model_inTurn_45 (lv_at hl 0 rfl) ?_
            refine lv_iload hx hb d_Model_inTurn_47 (lv_at hl 2 rfl) ?_
            refine lv_icmp_ne (tgt := 56) hx hb d_Model_inTurn_49 (by decide) (fun hc_426 => ?_) (fun hc_426 => ?_)
            · have _nhc_426 := hc_426
              have ni_427 : ¬ (x_381 : Int32).toInt = (y_364 : Int32).toInt := fun z => hc_426 ((fa_eq _ _).mpr z)
              refine lv_iconst (v := 0) hx hb d_Model_inTurn_56 (by decide) ?_
              refine lv_istore (lv' := [(4, .int 0), (7, .int x_381), (6, .int y_362), (5, .int y_364), (0, .ref b0), (1, .int b1), (2, .int b2), (3, .int b3)]) hx hb d_Model_inTurn_57 hl (by decide) rfl (fun ls hl => ?_)
              refine lv_iload hx hb d_Model_inTurn_59 (lv_at hl 1 rfl) ?_
              refine lv_iload_n hx hb d_Model_inTurn_61 rfl (lv_at hl 6 rfl) ?_
              refine lv_icmp_ne (tgt := 69) hx hb d_Model_inTurn_62 (by decide) (fun hc_428 => ?_) (fun hc_428 => ?_)
              · have _nhc_428 := hc_428
                have ni_429 : ¬ (x_381 : Int32).toInt = (b2 : Int32).toInt := fun z => hc_428 ((fa_eq _ _).mpr z)
                refine lv_iload_n hx hb d_Model_inTurn_69 rfl (lv_at hl 6 rfl) ?_
                refine lv_istore (lv' := [(5, .int b2), (4, .int 0), (7, .int x_381), (6, .int y_362), (0, .ref b0), (1, .int b1), (2, .int b2), (3, .int b3)]) hx hb d_Model_inTurn_70 hl (by decide) rfl (fun ls hl => ?_)
                obtain ⟨v_430, ev_430⟩ : ∃ z : Int32, z = y_362 + 1 := ⟨_, rfl⟩
                obtain ⟨qv_430, hv_430⟩ := zI_add (l := 1) (h := 12) hv_378 zc_1 ev_430 (by decide)
                rw [li_1] at qv_430
                refine lv_iinc (v := v_430) (lv' := [(6, .int v_430), (5, .int b2), (4, .int 0), (7, .int x_381), (0, .ref b0), (1, .int b1), (2, .int b2), (3, .int b3)]) hx hb d_Model_inTurn_72 hl (k := 3) rfl (by rw [ev_430]; rfl) (by decide) rfl (fun ls hl => ?_)
                refine lv_goto (tgt := 9) hx hb d_Model_inTurn_75 (by decide) ?_
                exact ihk_361 (v_430) (0) (b2) _ _ _ (zI.wk (l' := 0) (h' := 12) hv_430 (by decide)) (zI.wk (l' := 0) (h' := 1) zc_0 (by decide)) (zm_up qv_430 hmk_361 (by decide)) hP hD hS (lv_sub hl [0, 1, 2, 4, 5, 6, 7] rfl)
              · have _nhc_428 := hc_428
                have ni_431 := (fa_eq _ _).mp hc_428
                have hv_432 : zI b2 0 9 := zI.eq_l (zI_all b2) hx_381 hc_428.symm
                refine lv_iload_n hx hb d_Model_inTurn_65 rfl (lv_at hl 7 rfl) ?_
                refine lv_goto (tgt := 70) hx hb d_Model_inTurn_66 (by decide) ?_
                refine lv_istore (lv' := [(5, .int b3), (4, .int 0), (7, .int x_381), (6, .int y_362), (0, .ref b0), (1, .int b1), (2, .int b2), (3, .int b3)]) hx hb d_Model_inTurn_70 hl (by decide) rfl (fun ls hl => ?_)
                obtain ⟨v_433, ev_433⟩ : ∃ z : Int32, z = y_362 + 1 := ⟨_, rfl⟩
                obtain ⟨qv_433, hv_433⟩ := zI_add (l := 1) (h := 12) hv_378 zc_1 ev_433 (by decide)
                rw [li_1] at qv_433
                refine lv_iinc (v := v_433) (lv' := [(6, .int v_433), (5, .int b3), (4, .int 0), (7, .int x_381), (0, .ref b0), (1, .int b1), (2, .int b2), (3, .int b3)]) hx hb d_Model_inTurn_72 hl (k := 3) rfl (by rw [ev_433]; rfl) (by decide) rfl (fun ls hl => ?_)
                refine lv_goto (tgt := 9) hx hb d_Model_inTurn_75 (by decide) ?_
                exact ihk_361 (v_433) (0) (b3) _ _ _ (zI.wk (l' := 0) (h' := 12) hv_433 (by decide)) (zI.wk (l' := 0) (h' := 1) zc_0 (by decide)) (zm_up qv_433 hmk_361 (by decide)) hP hD hS (lv_sub hl [0, 1, 2, 4, 5, 6, 7] rfl)
            · have _nhc_426 := hc_426
              have ni_434 := (fa_eq _ _).mp hc_426
              have hv_435 : zI y_364 0 9 := zI.eq_l (zI_all y_364) hx_381 hc_426.symm
              refine lv_iconst (v := 1) hx hb d_Model_inTurn_52 (by decide) ?_
              refine lv_goto (tgt := 57) hx hb d_Model_inTurn_53 (by decide) ?_
              refine lv_istore (lv' := [(4, .int 1), (7, .int x_381), (6, .int y_362), (5, .int y_364), (0, .ref b0), (1, .int b1), (2, .int b2), (3, .int b3)]) hx hb d_Model_inTurn_57 hl (by decide) rfl (fun ls hl => ?_)
              refine lv_iload hx hb d_Model_inTurn_59 (lv_at hl 1 rfl) ?_
              refine lv_iload_n hx hb d_Model_inTurn_61 rfl (lv_at hl 6 rfl) ?_
              refine lv_icmp_ne (tgt := 69) hx hb d_Model_inTurn_62 (by decide) (fun hc_436 => ?_) (fun hc_436 => ?_)
              · have _nhc_436 := hc_436
                have ni_437 : ¬ (x_381 : Int32).toInt = (b2 : Int32).toInt := fun z => hc_436 ((fa_eq _ _).mpr z)
                refine lv_iload_n hx hb d_Model_inTurn_69 rfl (lv_at hl 6 rfl) ?_
                refine lv_istore (lv' := [(5, .int b2), (4, .int 1), (7, .int x_381), (6, .int y_362), (0, .ref b0), (1, .int b1), (2, .int b2), (3, .int b3)]) hx hb d_Model_inTurn_70 hl (by decide) rfl (fun ls hl => ?_)
                obtain ⟨v_438, ev_438⟩ : ∃ z : Int32, z = y_362 + 1 := ⟨_, rfl⟩
                obtain ⟨qv_438, hv_438⟩ := zI_add (l := 1) (h := 12) hv_378 zc_1 ev_438 (by decide)
                rw [li_1] at qv_438
                refine lv_iinc (v := v_438) (lv' := [(6, .int v_438), (5, .int b2), (4, .int 1), (7, .int x_381), (0, .ref b0), (1, .int b1), (2, .int b2), (3, .int b3)]) hx hb d_Model_inTurn_72 hl (k := 3) rfl (by rw [ev_438]; rfl) (by decide) rfl (fun ls hl => ?_)
                refine lv_goto (tgt := 9) hx hb d_Model_inTurn_75 (by decide) ?_
                exact ihk_361 (v_438) (1) (b2) _ _ _ (zI.wk (l' := 0) (h' := 12) hv_438 (by decide)) (zI.wk (l' := 0) (h' := 1) zc_1 (by decide)) (zm_up qv_438 hmk_361 (by decide)) hP hD hS (lv_sub hl [0, 1, 2, 4, 5, 6, 7] rfl)
              · have _nhc_436 := hc_436
                have ni_439 := (fa_eq _ _).mp hc_436
                have hv_440 : zI b2 0 9 := zI.eq_l (zI_all b2) hx_381 hc_436.symm
                refine lv_iload_n hx hb d_Model_inTurn_65 rfl (lv_at hl 7 rfl) ?_
                refine lv_goto (tgt := 70) hx hb d_Model_inTurn_66 (by decide) ?_
                refine lv_istore (lv' := [(5, .int b3), (4, .int 1), (7, .int x_381), (6, .int y_362), (0, .ref b0), (1, .int b1), (2, .int b2), (3, .int b3)]) hx hb d_Model_inTurn_70 hl (by decide) rfl (fun ls hl => ?_)
                obtain ⟨v_441, ev_441⟩ : ∃ z : Int32, z = y_362 + 1 := ⟨_, rfl⟩
                obtain ⟨qv_441, hv_441⟩ := zI_add (l := 1) (h := 12) hv_378 zc_1 ev_441 (by decide)
                rw [li_1] at qv_441
                refine lv_iinc (v := v_441) (lv' := [(6, .int v_441), (5, .int b3), (4, .int 1), (7, .int x_381), (0, .ref b0), (1, .int b1), (2, .int b2), (3, .int b3)]) hx hb d_Model_inTurn_72 hl (k := 3) rfl (by rw [ev_441]; rfl) (by decide) rfl (fun ls hl => ?_)
                refine lv_goto (tgt := 9) hx hb d_Model_inTurn_75 (by decide) ?_
                exact ihk_361 (v_441) (1) (b3) _ _ _ (zI.wk (l' := 0) (h' := 12) hv_441 (by decide)) (zI.wk (l' := 0) (h' := 1) zc_1 (by decide)) (zm_up qv_441 hmk_361 (by decide)) hP hD hS (lv_sub hl [0, 1, 2, 4, 5, 6, 7] rfl)
theorem d_Model_isSo_0 : decode prog_14_method_77_code 0 = .ok (.iload_n 2, 1) := by decide +kernel
theorem d_Model_isSo_1 : decode prog_14_method_77_code 1 = .ok (.tableswitch 132 0 4 #[35, 57, 79, 101, 110], 35) := by decide +kernel
theorem d_Model_isSo_36 : decode prog_14_method_77_code 36 = .ok (.aload_n 0, 1) := by decide +kernel
theorem d_Model_isSo_37 : decode prog_14_method_77_code 37 = .ok (.iload_n 1, 1) := by decide +kernel
theorem d_Model_isSo_38 : decode prog_14_method_77_code 38 = .ok (.iload 4, 2) := by decide +kernel
theorem d_Model_isSo_40 : decode prog_14_method_77_code 40 = .ok (.invokevirtual 366, 3) := by decide +kernel
theorem d_Model_isSo_43 : decode prog_14_method_77_code 43 = .ok (.aload_n 0, 1) := by decide +kernel
theorem d_Model_isSo_44 : decode prog_14_method_77_code 44 = .ok (.iload_n 1, 1) := by decide +kernel
theorem d_Model_isSo_45 : decode prog_14_method_77_code 45 = .ok (.iload_n 3, 1) := by decide +kernel
theorem d_Model_isSo_46 : decode prog_14_method_77_code 46 = .ok (.invokevirtual 366, 3) := by decide +kernel
theorem d_Model_isSo_49 : decode prog_14_method_77_code 49 = .ok (.if_icmp .le 7, 3) := by decide +kernel
theorem d_Model_isSo_52 : decode prog_14_method_77_code 52 = .ok (.iconst 1, 1) := by decide +kernel
theorem d_Model_isSo_53 : decode prog_14_method_77_code 53 = .ok (.goto 4, 3) := by decide +kernel
theorem d_Model_isSo_56 : decode prog_14_method_77_code 56 = .ok (.iconst 0, 1) := by decide +kernel
theorem d_Model_isSo_57 : decode prog_14_method_77_code 57 = .ok (.ireturn, 1) := by decide +kernel
theorem d_Model_isSo_58 : decode prog_14_method_77_code 58 = .ok (.aload_n 0, 1) := by decide +kernel
theorem d_Model_isSo_59 : decode prog_14_method_77_code 59 = .ok (.iload_n 1, 1) := by decide +kernel
theorem d_Model_isSo_60 : decode prog_14_method_77_code 60 = .ok (.iload_n 3, 1) := by decide +kernel
theorem d_Model_isSo_61 : decode prog_14_method_77_code 61 = .ok (.invokevirtual 369, 3) := by decide +kernel
theorem d_Model_isSo_64 : decode prog_14_method_77_code 64 = .ok (.aload_n 0, 1) := by decide +kernel
theorem d_Model_isSo_65 : decode prog_14_method_77_code 65 = .ok (.iload_n 1, 1) := by decide +kernel
theorem d_Model_isSo_66 : decode prog_14_method_77_code 66 = .ok (.iload 4, 2) := by decide +kernel
theorem d_Model_isSo_68 : decode prog_14_method_77_code 68 = .ok (.invokevirtual 369, 3) := by decide +kernel
theorem d_Model_isSo_71 : decode prog_14_method_77_code 71 = .ok (.if_icmp .ge 7, 3) := by decide +kernel
theorem d_Model_isSo_74 : decode prog_14_method_77_code 74 = .ok (.iconst 1, 1) := by decide +kernel
theorem d_Model_isSo_75 : decode prog_14_method_77_code 75 = .ok (.goto 4, 3) := by decide +kernel
theorem d_Model_isSo_78 : decode prog_14_method_77_code 78 = .ok (.iconst 0, 1) := by decide +kernel
theorem d_Model_isSo_79 : decode prog_14_method_77_code 79 = .ok (.ireturn, 1) := by decide +kernel
theorem d_Model_isSo_80 : decode prog_14_method_77_code 80 = .ok (.aload_n 0, 1) := by decide +kernel
theorem d_Model_isSo_81 : decode prog_14_method_77_code 81 = .ok (.iload_n 1, 1) := by decide +kernel
theorem d_Model_isSo_82 : decode prog_14_method_77_code 82 = .ok (.iload 4, 2) := by decide +kernel
theorem d_Model_isSo_84 : decode prog_14_method_77_code 84 = .ok (.invokevirtual 366, 3) := by decide +kernel
theorem d_Model_isSo_87 : decode prog_14_method_77_code 87 = .ok (.aload_n 0, 1) := by decide +kernel
theorem d_Model_isSo_88 : decode prog_14_method_77_code 88 = .ok (.iload_n 1, 1) := by decide +kernel
theorem d_Model_isSo_89 : decode prog_14_method_77_code 89 = .ok (.iload_n 3, 1) := by decide +kernel
theorem d_Model_isSo_90 : decode prog_14_method_77_code 90 = .ok (.invokevirtual 369, 3) := by decide +kernel
theorem d_Model_isSo_93 : decode prog_14_method_77_code 93 = .ok (.if_icmp .ge 7, 3) := by decide +kernel
theorem d_Model_isSo_96 : decode prog_14_method_77_code 96 = .ok (.iconst 1, 1) := by decide +kernel
theorem d_Model_isSo_97 : decode prog_14_method_77_code 97 = .ok (.goto 4, 3) := by decide +kernel
theorem d_Model_isSo_100 : decode prog_14_method_77_code 100 = .ok (.iconst 0, 1) := by decide +kernel
theorem d_Model_isSo_101 : decode prog_14_method_77_code 101 = .ok (.ireturn, 1) := by decide +kernel
theorem d_Model_isSo_102 : decode prog_14_method_77_code 102 = .ok (.aload_n 0, 1) := by decide +kernel
theorem d_Model_isSo_103 : decode prog_14_method_77_code 103 = .ok (.iload_n 1, 1) := by decide +kernel
theorem d_Model_isSo_104 : decode prog_14_method_77_code 104 = .ok (.iload_n 3, 1) := by decide +kernel
theorem d_Model_isSo_105 : decode prog_14_method_77_code 105 = .ok (.iload 4, 2) := by decide +kernel
theorem d_Model_isSo_107 : decode prog_14_method_77_code 107 = .ok (.invokevirtual 372, 3) := by decide +kernel
theorem d_Model_isSo_110 : decode prog_14_method_77_code 110 = .ok (.ireturn, 1) := by decide +kernel
theorem d_Model_isSo_111 : decode prog_14_method_77_code 111 = .ok (.aload_n 0, 1) := by decide +kernel
theorem d_Model_isSo_112 : decode prog_14_method_77_code 112 = .ok (.iload_n 1, 1) := by decide +kernel
theorem d_Model_isSo_113 : decode prog_14_method_77_code 113 = .ok (.iload_n 3, 1) := by decide +kernel
theorem d_Model_isSo_114 : decode prog_14_method_77_code 114 = .ok (.invokevirtual 376, 3) := by decide +kernel
theorem d_Model_isSo_117 : decode prog_14_method_77_code 117 = .ok (.aload_n 0, 1) := by decide +kernel
theorem d_Model_isSo_118 : decode prog_14_method_77_code 118 = .ok (.iload_n 1, 1) := by decide +kernel
theorem d_Model_isSo_119 : decode prog_14_method_77_code 119 = .ok (.iload 4, 2) := by decide +kernel
theorem d_Model_isSo_121 : decode prog_14_method_77_code 121 = .ok (.invokevirtual 376, 3) := by decide +kernel
theorem d_Model_isSo_124 : decode prog_14_method_77_code 124 = .ok (.if_icmp .ne 7, 3) := by decide +kernel
theorem d_Model_isSo_127 : decode prog_14_method_77_code 127 = .ok (.iconst 1, 1) := by decide +kernel
theorem d_Model_isSo_128 : decode prog_14_method_77_code 128 = .ok (.goto 4, 3) := by decide +kernel
theorem d_Model_isSo_131 : decode prog_14_method_77_code 131 = .ok (.iconst 0, 1) := by decide +kernel
theorem d_Model_isSo_132 : decode prog_14_method_77_code 132 = .ok (.ireturn, 1) := by decide +kernel
theorem d_Model_isSo_133 : decode prog_14_method_77_code 133 = .ok (.aload_n 0, 1) := by decide +kernel
theorem d_Model_isSo_134 : decode prog_14_method_77_code 134 = .ok (.iload_n 1, 1) := by decide +kernel
theorem d_Model_isSo_135 : decode prog_14_method_77_code 135 = .ok (.iload_n 3, 1) := by decide +kernel
theorem d_Model_isSo_136 : decode prog_14_method_77_code 136 = .ok (.iload 4, 2) := by decide +kernel
theorem d_Model_isSo_138 : decode prog_14_method_77_code 138 = .ok (.invokevirtual 379, 3) := by decide +kernel
theorem d_Model_isSo_141 : decode prog_14_method_77_code 141 = .ok (.ireturn, 1) := by decide +kernel
abbrev m_s1_Model_isSo : Room := { frames := 2, cells := 0, slots := 0, locals := 49 }
set_option maxHeartbeats 4000000 in
set_option maxRecDepth 100000 in
theorem s1_Model_isSo (l : Launch) (G : zG) (b0 : Nat) (b1 : Int32) (b2 : Int32) (b3 : Int32) (b4 : Int32) (b5 : Int32) (b6 : Nat) (b7 : Nat) (b8 : Nat) (b9 : Nat) (b10 : Int32) (b11 : Nat) (b12 : Int32) (b13 : Int32) (b14 : Int32) (b15 : Int32) (b16 : Nat) (b17 : Nat) (b18 : Nat) (b19 : Int32) (b20 : Nat) (b21 : Nat) (b22 : Nat) (b23 : Nat) (b24 : Nat) (b25 : Nat) (b26 : Nat) (b27 : Nat) (b28 : Nat) (b29 : Nat) (b30 : Nat) (b31 : Nat) (b32 : Int32) (b33 : Nat) (b34 : Nat) (b35 : Int32) (b36 : Int32) (b37 : Int32) (b38 : Int32) (b39 : Nat) (b40 : Nat) (b41 : Nat) (b42 : Nat) (b43 : Nat) (b44 : Nat) (b45 : Nat) (b46 : Int32) (b47 : Nat) (b48 : Nat) (b49 : Int32) (b50 : Nat) (b51 : Nat) (b52 : Nat) (b53 : Nat) (b54 : Nat) (b55 : Int32) (b56 : Nat) (b57 : Nat) (b58 : Nat) (b59 : Nat → Int32) (hb1 : zI b1 0 19) (hb10 : zI b10 0 8) (hb12 : zI b12 0 240) (hb13 : zI b13 0 240) (hb15 : zI b15 0 1) (hb19 : zI b19 0 12) (hb32 : zI b32 0 1) (hb35 : zI b35 0 1) (hb59 : zW5 b59) : zM l G y_Model_isSo prog_14_method_77_code 5 (Option.some Jvm.ClassFile.FieldType.boolean) m_s1_Model_isSo [.ref b0, .int b1, .int b2, .int b3, .int b4] [(b0, .inr (12, [.int b5, .ref b6, .ref b7, .ref b8, .ref b9, .int b10, .ref b11, .int b12, .int b13, .int b14, .int b15, .ref b16, .ref b17, .ref b18, .int b19, .ref b20, .ref b21, .ref b22, .ref b23, .ref b24, .ref b25, .ref b26, .ref b27, .ref b28, .ref b29, .ref b30, .ref b31, .int b32, .ref b33, .ref b34, .int b35, .int b36, .int b37, .int b38, .ref b39, .ref b40, .ref b41, .ref b42, .ref b43, .ref b44, .ref b45, .int b46, .ref b47, .ref b48, .int b49, .ref b50, .ref b51, .ref b52, .ref b53, .ref b54, .int b55, .ref b56, .ref b57, .ref b58])), (b6, .inl (G.2 0, 503, .inl b59))] (fun v w => ∃ (e0 : Int32), v = some (.int e0) ∧ w = [(b0, .inr (12, [.int b5, .ref b6, .ref b7, .ref b8, .ref b9, .int b10, .ref b11, .int b12, .int b13, .int b14, .int b15, .ref b16, .ref b17, .ref b18, .int b19, .ref b20, .ref b21, .ref b22, .ref b23, .ref b24, .ref b25, .ref b26, .ref b27, .ref b28, .ref b29, .ref b30, .ref b31, .int b32, .ref b33, .ref b34, .int b35, .int b36, .int b37, .int b38, .ref b39, .ref b40, .ref b41, .ref b42, .ref b43, .ref b44, .ref b45, .int b46, .ref b47, .ref b48, .int b49, .ref b50, .ref b51, .ref b52, .ref b53, .ref b54, .int b55, .ref b56, .ref b57, .ref b58])), (b6, .inl (G.2 0, 503, .inl b59))] ∧ (zI e0 0 1)) := by
  refine z_start (by decide +kernel) (Nat.le_of_ble_eq_true rfl) ?_
  intro p e s m below meth c A Z hr hnm hA hP hD hS ls hl
  have Z : zC p s m _ meth c prog_14_method_77_code 5 "TraceMachinesModel" G := Z
  obtain ⟨hx, hb, hml, hown, hts, hK, hN, hlocks⟩ := id Z
  have hl : lv_has ls 5 [(0, .ref b0), (1, .int b1), (2, .int b2), (3, .int b3), (4, .int b4)] := hl
  refine lv_iload_n hx hb d_Model_isSo_0 rfl (lv_at hl 2 rfl) ?_
  by_cases hs_1 : b2 = 0
  · subst hs_1
    refine lv_tableIn (off := 35) (tgt := 36) hx hb d_Model_isSo_1 (by decide +kernel) (by decide +kernel) rfl (by decide) ?_
    refine lv_aload_n hx hb d_Model_isSo_36 rfl (lv_at hl 0 rfl) ?_
    refine lv_iload_n hx hb d_Model_isSo_37 rfl (lv_at hl 1 rfl) ?_
    refine lv_iload hx hb d_Model_isSo_38 (lv_at hl 4 rfl) ?_
    refine z_callV (index := 366) (As := [.int b1, .int b4]) (rest := []) (wr := []) Z (s1_Model_lastOf l G (b0) (b1) (b4) (b5) (b6) (b7) (b8) (b9) (b10) (b11) (b12) (b13) (b14) (b15) (b16) (b17) (b18) (b19) (b20) (b21) (b22) (b23) (b24) (b25) (b26) (b27) (b28) (b29) (b30) (b31) (b32) (b33) (b34) (b35) (b36) (b37) (b38) (b39) (b40) (b41) (b42) (b43) (b44) (b45) (b46) (b47) (b48) (b49) (b50) (b51) (b52) (b53) (b54) (b55) (b56) (b57) (b58) (b59) hb1 hb10 hb12 hb13 hb15 hb19 hb32 hb35 hb59) hl.1 q1569 q1571 qs91 q14 q1572 ⟨by decide, by decide, by show _ = some 2; decide +kernel⟩ ⟨Nat.le_of_ble_eq_true rfl, Nat.le_of_ble_eq_true rfl⟩ ⟨Nat.le_of_ble_eq_true rfl, Nat.le_of_ble_eq_true rfl⟩ rfl (Nat.le_of_ble_eq_true rfl) d_Model_isSo_40 hP hD hS hA 0 12 rfl rfl rfl [0, 1] [] rfl rfl rfl rfl (by decide) (fun v w1 H locs hw_2 hP hD hS => ?_)
    obtain ⟨x_3, rfl, rfl, hx_3⟩ := hw_2
    have hP : va_P G.1 classes [(b0, .inr (12, [.int b5, .ref b6, .ref b7, .ref b8, .ref b9, .int b10, .ref b11, .int b12, .int b13, .int b14, .int b15, .ref b16, .ref b17, .ref b18, .int b19, .ref b20, .ref b21, .ref b22, .ref b23, .ref b24, .ref b25, .ref b26, .ref b27, .ref b28, .ref b29, .ref b30, .ref b31, .int b32, .ref b33, .ref b34, .int b35, .int b36, .int b37, .int b38, .ref b39, .ref b40, .ref b41, .ref b42, .ref b43, .ref b44, .ref b45, .int b46, .ref b47, .ref b48, .int b49, .ref b50, .ref b51, .ref b52, .ref b53, .ref b54, .int b55, .ref b56, .ref b57, .ref b58])), (b6, .inl (G.2 0, 503, .inl b59))] H := hP
    have hD := z_tie hP hD rfl
    refine W.widen (k := 0) (n := 0) (Nat.le_of_ble_eq_true rfl) (Nat.le_of_ble_eq_true rfl) ?_
    refine lv_aload_n hx hb d_Model_isSo_43 rfl (lv_at hl 0 rfl) ?_
    refine lv_iload_n hx hb d_Model_isSo_44 rfl (lv_at hl 1 rfl) ?_
    refine lv_iload_n hx hb d_Model_isSo_45 rfl (lv_at hl 3 rfl) ?_
    refine z_callV (index := 366) (As := [.int b1, .int b3]) (rest := [.int x_3]) (wr := []) Z (s1_Model_lastOf l G (b0) (b1) (b3) (b5) (b6) (b7) (b8) (b9) (b10) (b11) (b12) (b13) (b14) (b15) (b16) (b17) (b18) (b19) (b20) (b21) (b22) (b23) (b24) (b25) (b26) (b27) (b28) (b29) (b30) (b31) (b32) (b33) (b34) (b35) (b36) (b37) (b38) (b39) (b40) (b41) (b42) (b43) (b44) (b45) (b46) (b47) (b48) (b49) (b50) (b51) (b52) (b53) (b54) (b55) (b56) (b57) (b58) (b59) hb1 hb10 hb12 hb13 hb15 hb19 hb32 hb35 hb59) hl.1 q1569 q1571 qs91 q14 q1572 ⟨by decide, by decide, by show _ = some 2; decide +kernel⟩ ⟨Nat.le_of_ble_eq_true rfl, Nat.le_of_ble_eq_true rfl⟩ ⟨Nat.le_of_ble_eq_true rfl, Nat.le_of_ble_eq_true rfl⟩ rfl (Nat.le_of_ble_eq_true rfl) d_Model_isSo_46 hP hD hS hA 0 12 rfl rfl rfl [0, 1] [] rfl rfl rfl rfl (by decide) (fun v w1 H locs hw_4 hP hD hS => ?_)
    obtain ⟨x_5, rfl, rfl, hx_5⟩ := hw_4
    have hP : va_P G.1 classes [(b0, .inr (12, [.int b5, .ref b6, .ref b7, .ref b8, .ref b9, .int b10, .ref b11, .int b12, .int b13, .int b14, .int b15, .ref b16, .ref b17, .ref b18, .int b19, .ref b20, .ref b21, .ref b22, .ref b23, .ref b24, .ref b25, .ref b26, .ref b27, .ref b28, .ref b29, .ref b30, .ref b31, .int b32, .ref b33, .ref b34, .int b35, .int b36, .int b37, .int b38, .ref b39, .ref b40, .ref b41, .ref b42, .ref b43, .ref b44, .ref b45, .int b46, .ref b47, .ref b48, .int b49, .ref b50, .ref b51, .ref b52, .ref b53, .ref b54, .int b55, .ref b56, .ref b57, .ref b58])), (b6, .inl (G.2 0, 503, .inl b59))] H := hP
    have hD := z_tie hP hD rfl
    refine W.widen (k := 0) (n := 0) (Nat.le_of_ble_eq_true rfl) (Nat.le_of_ble_eq_true rfl) ?_
    refine lv_icmp_le (tgt := 56) hx hb d_Model_isSo_49 (by decide) (fun hc_6 => ?_) (fun hc_6 => ?_)
    · have _nhc_6 := hc_6
      have ni_7 := (fa_le _ _).mp hc_6
      refine lv_iconst (v := 0) hx hb d_Model_isSo_56 (by decide) ?_
      exact z_zret hx hb hr hlocks rfl hP hD hS (Nat.le_of_ble_eq_true rfl) (Nat.le_of_ble_eq_true rfl) d_Model_isSo_57 ⟨0, rfl, rfl, (zI.wk (l' := 0) (h' := 1) zc_0 (by decide))⟩
    · have _nhc_6 := hc_6
      have ni_8 := (fa_lt _ _).mp (zi_nle hc_6)
      have hv_9 : zI x_5 (-1) 10 := zI.lt_l hx_5 hx_3 (zi_nle hc_6) (by decide)
      have hv_10 : zI x_3 0 11 := zI.lt_r hx_5 hx_3 (zi_nle hc_6) (by decide)
      refine lv_iconst (v := 1) hx hb d_Model_isSo_52 (by decide) ?_
      refine lv_goto (tgt := 57) hx hb d_Model_isSo_53 (by decide) ?_
      exact z_zret hx hb hr hlocks rfl hP hD hS (Nat.le_of_ble_eq_true rfl) (Nat.le_of_ble_eq_true rfl) d_Model_isSo_57 ⟨1, rfl, rfl, (zI.wk (l' := 0) (h' := 1) zc_1 (by decide))⟩
  simp only [fa_lt, fa_le, fa_eq, Int32.toInt_toInt64, li_0] at hs_1
  by_cases hs_11 : b2 = 1
  · subst hs_11
    refine lv_tableIn (off := 57) (tgt := 58) hx hb d_Model_isSo_1 (by decide +kernel) (by decide +kernel) rfl (by decide) ?_
    refine lv_aload_n hx hb d_Model_isSo_58 rfl (lv_at hl 0 rfl) ?_
    refine lv_iload_n hx hb d_Model_isSo_59 rfl (lv_at hl 1 rfl) ?_
    refine lv_iload_n hx hb d_Model_isSo_60 rfl (lv_at hl 3 rfl) ?_
    refine z_callV (index := 369) (As := [.int b1, .int b3]) (rest := []) (wr := []) Z (s1_Model_firstOf l G (b0) (b1) (b3) (b5) (b6) (b7) (b8) (b9) (b10) (b11) (b12) (b13) (b14) (b15) (b16) (b17) (b18) (b19) (b20) (b21) (b22) (b23) (b24) (b25) (b26) (b27) (b28) (b29) (b30) (b31) (b32) (b33) (b34) (b35) (b36) (b37) (b38) (b39) (b40) (b41) (b42) (b43) (b44) (b45) (b46) (b47) (b48) (b49) (b50) (b51) (b52) (b53) (b54) (b55) (b56) (b57) (b58) (b59) hb1 hb10 hb12 hb13 hb15 hb19 hb32 hb35 hb59) hl.1 q1573 q1575 qs92 q14 q1576 ⟨by decide, by decide, by show _ = some 2; decide +kernel⟩ ⟨Nat.le_of_ble_eq_true rfl, Nat.le_of_ble_eq_true rfl⟩ ⟨Nat.le_of_ble_eq_true rfl, Nat.le_of_ble_eq_true rfl⟩ rfl (Nat.le_of_ble_eq_true rfl) d_Model_isSo_61 hP hD hS hA 0 12 rfl rfl rfl [0, 1] [] rfl rfl rfl rfl (by decide) (fun v w1 H locs hw_12 hP hD hS => ?_)
    obtain ⟨x_13, rfl, rfl, hx_13⟩ := hw_12
    have hP : va_P G.1 classes [(b0, .inr (12, [.int b5, .ref b6, .ref b7, .ref b8, .ref b9, .int b10, .ref b11, .int b12, .int b13, .int b14, .int b15, .ref b16, .ref b17, .ref b18, .int b19, .ref b20, .ref b21, .ref b22, .ref b23, .ref b24, .ref b25, .ref b26, .ref b27, .ref b28, .ref b29, .ref b30, .ref b31, .int b32, .ref b33, .ref b34, .int b35, .int b36, .int b37, .int b38, .ref b39, .ref b40, .ref b41, .ref b42, .ref b43, .ref b44, .ref b45, .int b46, .ref b47, .ref b48, .int b49, .ref b50, .ref b51, .ref b52, .ref b53, .ref b54, .int b55, .ref b56, .ref b57, .ref b58])), (b6, .inl (G.2 0, 503, .inl b59))] H := hP
    have hD := z_tie hP hD rfl
    refine W.widen (k := 0) (n := 0) (Nat.le_of_ble_eq_true rfl) (Nat.le_of_ble_eq_true rfl) ?_
    refine lv_aload_n hx hb d_Model_isSo_64 rfl (lv_at hl 0 rfl) ?_
    refine lv_iload_n hx hb d_Model_isSo_65 rfl (lv_at hl 1 rfl) ?_
    refine lv_iload hx hb d_Model_isSo_66 (lv_at hl 4 rfl) ?_
    refine z_callV (index := 369) (As := [.int b1, .int b4]) (rest := [.int x_13]) (wr := []) Z (s1_Model_firstOf l G (b0) (b1) (b4) (b5) (b6) (b7) (b8) (b9) (b10) (b11) (b12) (b13) (b14) (b15) (b16) (b17) (b18) (b19) (b20) (b21) (b22) (b23) (b24) (b25) (b26) (b27) (b28) (b29) (b30) (b31) (b32) (b33) (b34) (b35) (b36) (b37) (b38) (b39) (b40) (b41) (b42) (b43) (b44) (b45) (b46) (b47) (b48) (b49) (b50) (b51) (b52) (b53) (b54) (b55) (b56) (b57) (b58) (b59) hb1 hb10 hb12 hb13 hb15 hb19 hb32 hb35 hb59) hl.1 q1573 q1575 qs92 q14 q1576 ⟨by decide, by decide, by show _ = some 2; decide +kernel⟩ ⟨Nat.le_of_ble_eq_true rfl, Nat.le_of_ble_eq_true rfl⟩ ⟨Nat.le_of_ble_eq_true rfl, Nat.le_of_ble_eq_true rfl⟩ rfl (Nat.le_of_ble_eq_true rfl) d_Model_isSo_68 hP hD hS hA 0 12 rfl rfl rfl [0, 1] [] rfl rfl rfl rfl (by decide) (fun v w1 H locs hw_14 hP hD hS => ?_)
    obtain ⟨x_15, rfl, rfl, hx_15⟩ := hw_14
    have hP : va_P G.1 classes [(b0, .inr (12, [.int b5, .ref b6, .ref b7, .ref b8, .ref b9, .int b10, .ref b11, .int b12, .int b13, .int b14, .int b15, .ref b16, .ref b17, .ref b18, .int b19, .ref b20, .ref b21, .ref b22, .ref b23, .ref b24, .ref b25, .ref b26, .ref b27, .ref b28, .ref b29, .ref b30, .ref b31, .int b32, .ref b33, .ref b34, .int b35, .int b36, .int b37, .int b38, .ref b39, .ref b40, .ref b41, .ref b42, .ref b43, .ref b44, .ref b45, .int b46, .ref b47, .ref b48, .int b49, .ref b50, .ref b51, .ref b52, .ref b53, .ref b54, .int b55, .ref b56, .ref b57, .ref b58])), (b6, .inl (G.2 0, 503, .inl b59))] H := hP
    have hD := z_tie hP hD rfl
    refine W.widen (k := 0) (n := 0) (Nat.le_of_ble_eq_true rfl) (Nat.le_of_ble_eq_true rfl) ?_
    refine lv_icmp_ge (tgt := 78) hx hb d_Model_isSo_71 (by decide) (fun hc_16 => ?_) (fun hc_16 => ?_)
    · have _nhc_16 := hc_16
      have ni_17 := (fa_le _ _).mp hc_16
      refine lv_iconst (v := 0) hx hb d_Model_isSo_78 (by decide) ?_
      exact z_zret hx hb hr hlocks rfl hP hD hS (Nat.le_of_ble_eq_true rfl) (Nat.le_of_ble_eq_true rfl) d_Model_isSo_79 ⟨0, rfl, rfl, (zI.wk (l' := 0) (h' := 1) zc_0 (by decide))⟩
    · have _nhc_16 := hc_16
      have ni_18 := (fa_lt _ _).mp (zi_nle hc_16)
      have hv_19 : zI x_13 0 11 := zI.lt_l hx_13 hx_15 (zi_nle hc_16) (by decide)
      have hv_20 : zI x_15 1 12 := zI.lt_r hx_13 hx_15 (zi_nle hc_16) (by decide)
      refine lv_iconst (v := 1) hx hb d_Model_isSo_74 (by decide) ?_
      refine lv_goto (tgt := 79) hx hb d_Model_isSo_75 (by decide) ?_
      exact z_zret hx hb hr hlocks rfl hP hD hS (Nat.le_of_ble_eq_true rfl) (Nat.le_of_ble_eq_true rfl) d_Model_isSo_79 ⟨1, rfl, rfl, (zI.wk (l' := 0) (h' := 1) zc_1 (by decide))⟩
  simp only [fa_lt, fa_le, fa_eq, Int32.toInt_toInt64, li_1] at hs_11
  by_cases hs_21 : b2 = 2
  · subst hs_21
    refine lv_tableIn (off := 79) (tgt := 80) hx hb d_Model_isSo_1 (by decide +kernel) (by decide +kernel) rfl (by decide) ?_
    refine lv_aload_n hx hb d_Model_isSo_80 rfl (lv_at hl 0 rfl) ?_
    refine lv_iload_n hx hb d_Model_isSo_81 rfl (lv_at hl 1 rfl) ?_
    refine lv_iload hx hb d_Model_isSo_82 (lv_at hl 4 rfl) ?_
    refine z_callV (index := 366) (As := [.int b1, .int b4]) (rest := []) (wr := []) Z (s1_Model_lastOf l G (b0) (b1) (b4) (b5) (b6) (b7) (b8) (b9) (b10) (b11) (b12) (b13) (b14) (b15) (b16) (b17) (b18) (b19) (b20) (b21) (b22) (b23) (b24) (b25) (b26) (b27) (b28) (b29) (b30) (b31) (b32) (b33) (b34) (b35) (b36) (b37) (b38) (b39) (b40) (b41) (b42) (b43) (b44) (b45) (b46) (b47) (b48) (b49) (b50) (b51) (b52) (b53) (b54) (b55) (b56) (b57) (b58) (b59) hb1 hb10 hb12 hb13 hb15 hb19 hb32 hb35 hb59) hl.1 q1569 q1571 qs91 q14 q1572 ⟨by decide, by decide, by show _ = some 2; decide +kernel⟩ ⟨Nat.le_of_ble_eq_true rfl, Nat.le_of_ble_eq_true rfl⟩ ⟨Nat.le_of_ble_eq_true rfl, Nat.le_of_ble_eq_true rfl⟩ rfl (Nat.le_of_ble_eq_true rfl) d_Model_isSo_84 hP hD hS hA 0 12 rfl rfl rfl [0, 1] [] rfl rfl rfl rfl (by decide) (fun v w1 H locs hw_22 hP hD hS => ?_)
    obtain ⟨x_23, rfl, rfl, hx_23⟩ := hw_22
    have hP : va_P G.1 classes [(b0, .inr (12, [.int b5, .ref b6, .ref b7, .ref b8, .ref b9, .int b10, .ref b11, .int b12, .int b13, .int b14, .int b15, .ref b16, .ref b17, .ref b18, .int b19, .ref b20, .ref b21, .ref b22, .ref b23, .ref b24, .ref b25, .ref b26, .ref b27, .ref b28, .ref b29, .ref b30, .ref b31, .int b32, .ref b33, .ref b34, .int b35, .int b36, .int b37, .int b38, .ref b39, .ref b40, .ref b41, .ref b42, .ref b43, .ref b44, .ref b45, .int b46, .ref b47, .ref b48, .int b49, .ref b50, .ref b51, .ref b52, .ref b53, .ref b54, .int b55, .ref b56, .ref b57, .ref b58])), (b6, .inl (G.2 0, 503, .inl b59))] H := hP
    have hD := z_tie hP hD rfl
    refine W.widen (k := 0) (n := 0) (Nat.le_of_ble_eq_true rfl) (Nat.le_of_ble_eq_true rfl) ?_
    refine lv_aload_n hx hb d_Model_isSo_87 rfl (lv_at hl 0 rfl) ?_
    refine lv_iload_n hx hb d_Model_isSo_88 rfl (lv_at hl 1 rfl) ?_
    refine lv_iload_n hx hb d_Model_isSo_89 rfl (lv_at hl 3 rfl) ?_
    refine z_callV (index := 369) (As := [.int b1, .int b3]) (rest := [.int x_23]) (wr := []) Z (s1_Model_firstOf l G (b0) (b1) (b3) (b5) (b6) (b7) (b8) (b9) (b10) (b11) (b12) (b13) (b14) (b15) (b16) (b17) (b18) (b19) (b20) (b21) (b22) (b23) (b24) (b25) (b26) (b27) (b28) (b29) (b30) (b31) (b32) (b33) (b34) (b35) (b36) (b37) (b38) (b39) (b40) (b41) (b42) (b43) (b44) (b45) (b46) (b47) (b48) (b49) (b50) (b51) (b52) (b53) (b54) (b55) (b56) (b57) (b58) (b59) hb1 hb10 hb12 hb13 hb15 hb19 hb32 hb35 hb59) hl.1 q1573 q1575 qs92 q14 q1576 ⟨by decide, by decide, by show _ = some 2; decide +kernel⟩ ⟨Nat.le_of_ble_eq_true rfl, Nat.le_of_ble_eq_true rfl⟩ ⟨Nat.le_of_ble_eq_true rfl, Nat.le_of_ble_eq_true rfl⟩ rfl (Nat.le_of_ble_eq_true rfl) d_Model_isSo_90 hP hD hS hA 0 12 rfl rfl rfl [0, 1] [] rfl rfl rfl rfl (by decide) (fun v w1 H locs hw_24 hP hD hS => ?_)
    obtain ⟨x_25, rfl, rfl, hx_25⟩ := hw_24
    have hP : va_P G.1 classes [(b0, .inr (12, [.int b5, .ref b6, .ref b7, .ref b8, .ref b9, .int b10, .ref b11, .int b12, .int b13, .int b14, .int b15, .ref b16, .ref b17, .ref b18, .int b19, .ref b20, .ref b21, .ref b22, .ref b23, .ref b24, .ref b25, .ref b26, .ref b27, .ref b28, .ref b29, .ref b30, .ref b31, .int b32, .ref b33, .ref b34, .int b35, .int b36, .int b37, .int b38, .ref b39, .ref b40, .ref b41, .ref b42, .ref b43, .ref b44, .ref b45, .int b46, .ref b47, .ref b48, .int b49, .ref b50, .ref b51, .ref b52, .ref b53, .ref b54, .int b55, .ref b56, .ref b57, .ref b58])), (b6, .inl (G.2 0, 503, .inl b59))] H := hP
    have hD := z_tie hP hD rfl
    refine W.widen (k := 0) (n := 0) (Nat.le_of_ble_eq_true rfl) (Nat.le_of_ble_eq_true rfl) ?_
    refine lv_icmp_ge (tgt := 100) hx hb d_Model_isSo_93 (by decide) (fun hc_26 => ?_) (fun hc_26 => ?_)
    · have _nhc_26 := hc_26
      have ni_27 := (fa_le _ _).mp hc_26
      have hv_28 : zI x_25 0 11 := zI.le_l hx_25 hx_23 hc_26 (by decide)
      have hv_29 : zI x_23 0 11 := zI.le_r hx_25 hx_23 hc_26 (by decide)
      refine lv_iconst (v := 0) hx hb d_Model_isSo_100 (by decide) ?_
      exact z_zret hx hb hr hlocks rfl hP hD hS (Nat.le_of_ble_eq_true rfl) (Nat.le_of_ble_eq_true rfl) d_Model_isSo_101 ⟨0, rfl, rfl, (zI.wk (l' := 0) (h' := 1) zc_0 (by decide))⟩
    · have _nhc_26 := hc_26
      have ni_30 := (fa_lt _ _).mp (zi_nle hc_26)
      refine lv_iconst (v := 1) hx hb d_Model_isSo_96 (by decide) ?_
      refine lv_goto (tgt := 101) hx hb d_Model_isSo_97 (by decide) ?_
      exact z_zret hx hb hr hlocks rfl hP hD hS (Nat.le_of_ble_eq_true rfl) (Nat.le_of_ble_eq_true rfl) d_Model_isSo_101 ⟨1, rfl, rfl, (zI.wk (l' := 0) (h' := 1) zc_1 (by decide))⟩
  simp only [fa_lt, fa_le, fa_eq, Int32.toInt_toInt64, li_2] at hs_21
  by_cases hs_31 : b2 = 3
  · subst hs_31
    refine lv_tableIn (off := 101) (tgt := 102) hx hb d_Model_isSo_1 (by decide +kernel) (by decide +kernel) rfl (by decide) ?_
    refine lv_aload_n hx hb d_Model_isSo_102 rfl (lv_at hl 0 rfl) ?_
    refine lv_iload_n hx hb d_Model_isSo_103 rfl (lv_at hl 1 rfl) ?_
    refine lv_iload_n hx hb d_Model_isSo_104 rfl (lv_at hl 3 rfl) ?_
    refine lv_iload hx hb d_Model_isSo_105 (lv_at hl 4 rfl) ?_
    refine z_callV (index := 372) (As := [.int b1, .int b3, .int b4]) (rest := []) (wr := []) Z (s1_Model_rightBehind l G (b0) (b1) (b3) (b4) (b5) (b6) (b7) (b8) (b9) (b10) (b11) (b12) (b13) (b14) (b15) (b16) (b17) (b18) (b19) (b20) (b21) (b22) (b23) (b24) (b25) (b26) (b27) (b28) (b29) (b30) (b31) (b32) (b33) (b34) (b35) (b36) (b37) (b38) (b39) (b40) (b41) (b42) (b43) (b44) (b45) (b46) (b47) (b48) (b49) (b50) (b51) (b52) (b53) (b54) (b55) (b56) (b57) (b58) (b59) hb1 hb10 hb12 hb13 hb15 hb19 hb32 hb35 hb59) hl.1 q1577 q1579 qs93 q14 q1580 ⟨by decide, by decide, by show _ = some 3; decide +kernel⟩ ⟨Nat.le_of_ble_eq_true rfl, Nat.le_of_ble_eq_true rfl⟩ ⟨Nat.le_of_ble_eq_true rfl, Nat.le_of_ble_eq_true rfl⟩ rfl (Nat.le_of_ble_eq_true rfl) d_Model_isSo_107 hP hD hS hA 0 12 rfl rfl rfl [0, 1] [] rfl rfl rfl rfl (by decide) (fun v w1 H locs hw_32 hP hD hS => ?_)
    obtain ⟨x_33, rfl, rfl, hx_33⟩ := hw_32
    have hP : va_P G.1 classes [(b0, .inr (12, [.int b5, .ref b6, .ref b7, .ref b8, .ref b9, .int b10, .ref b11, .int b12, .int b13, .int b14, .int b15, .ref b16, .ref b17, .ref b18, .int b19, .ref b20, .ref b21, .ref b22, .ref b23, .ref b24, .ref b25, .ref b26, .ref b27, .ref b28, .ref b29, .ref b30, .ref b31, .int b32, .ref b33, .ref b34, .int b35, .int b36, .int b37, .int b38, .ref b39, .ref b40, .ref b41, .ref b42, .ref b43, .ref b44, .ref b45, .int b46, .ref b47, .ref b48, .int b49, .ref b50, .ref b51, .ref b52, .ref b53, .ref b54, .int b55, .ref b56, .ref b57, .ref b58])), (b6, .inl (G.2 0, 503, .inl b59))] H := hP
    have hD := z_tie hP hD rfl
    refine W.widen (k := 0) (n := 0) (Nat.le_of_ble_eq_true rfl) (Nat.le_of_ble_eq_true rfl) ?_
    exact z_zret hx hb hr hlocks (zi_nb hx_33) hP hD hS (Nat.le_of_ble_eq_true rfl) (Nat.le_of_ble_eq_true rfl) d_Model_isSo_110 ⟨x_33, rfl, rfl, hx_33⟩
  simp only [fa_lt, fa_le, fa_eq, Int32.toInt_toInt64, li_3] at hs_31
  by_cases hs_34 : b2 = 4
  · subst hs_34
    refine lv_tableIn (off := 110) (tgt := 111) hx hb d_Model_isSo_1 (by decide +kernel) (by decide +kernel) rfl (by decide) ?_
    refine lv_aload_n hx hb d_Model_isSo_111 rfl (lv_at hl 0 rfl) ?_
    refine lv_iload_n hx hb d_Model_isSo_112 rfl (lv_at hl 1 rfl) ?_
    refine lv_iload_n hx hb d_Model_isSo_113 rfl (lv_at hl 3 rfl) ?_
    refine z_callV (index := 376) (As := [.int b1, .int b3]) (rest := []) (wr := []) Z (s1_Model_howOften l G (b0) (b1) (b3) (b5) (b6) (b7) (b8) (b9) (b10) (b11) (b12) (b13) (b14) (b15) (b16) (b17) (b18) (b19) (b20) (b21) (b22) (b23) (b24) (b25) (b26) (b27) (b28) (b29) (b30) (b31) (b32) (b33) (b34) (b35) (b36) (b37) (b38) (b39) (b40) (b41) (b42) (b43) (b44) (b45) (b46) (b47) (b48) (b49) (b50) (b51) (b52) (b53) (b54) (b55) (b56) (b57) (b58) (b59) hb1 hb10 hb12 hb13 hb15 hb19 hb32 hb35 hb59) hl.1 q1581 q1583 qs94 q14 q1584 ⟨by decide, by decide, by show _ = some 2; decide +kernel⟩ ⟨Nat.le_of_ble_eq_true rfl, Nat.le_of_ble_eq_true rfl⟩ ⟨Nat.le_of_ble_eq_true rfl, Nat.le_of_ble_eq_true rfl⟩ rfl (Nat.le_of_ble_eq_true rfl) d_Model_isSo_114 hP hD hS hA 0 12 rfl rfl rfl [0, 1] [] rfl rfl rfl rfl (by decide) (fun v w1 H locs hw_35 hP hD hS => ?_)
    obtain ⟨x_36, rfl, rfl⟩ := hw_35
    have hP : va_P G.1 classes [(b0, .inr (12, [.int b5, .ref b6, .ref b7, .ref b8, .ref b9, .int b10, .ref b11, .int b12, .int b13, .int b14, .int b15, .ref b16, .ref b17, .ref b18, .int b19, .ref b20, .ref b21, .ref b22, .ref b23, .ref b24, .ref b25, .ref b26, .ref b27, .ref b28, .ref b29, .ref b30, .ref b31, .int b32, .ref b33, .ref b34, .int b35, .int b36, .int b37, .int b38, .ref b39, .ref b40, .ref b41, .ref b42, .ref b43, .ref b44, .ref b45, .int b46, .ref b47, .ref b48, .int b49, .ref b50, .ref b51, .ref b52, .ref b53, .ref b54, .int b55, .ref b56, .ref b57, .ref b58])), (b6, .inl (G.2 0, 503, .inl b59))] H := hP
    have hD := z_tie hP hD rfl
    refine W.widen (k := 0) (n := 0) (Nat.le_of_ble_eq_true rfl) (Nat.le_of_ble_eq_true rfl) ?_
    refine lv_aload_n hx hb d_Model_isSo_117 rfl (lv_at hl 0 rfl) ?_
    refine lv_iload_n hx hb d_Model_isSo_118 rfl (lv_at hl 1 rfl) ?_
    refine lv_iload hx hb d_Model_isSo_119 (lv_at hl 4 rfl) ?_
    refine z_callV (index := 376) (As := [.int b1, .int b4]) (rest := [.int x_36]) (wr := []) Z (s1_Model_howOften l G (b0) (b1) (b4) (b5) (b6) (b7) (b8) (b9) (b10) (b11) (b12) (b13) (b14) (b15) (b16) (b17) (b18) (b19) (b20) (b21) (b22) (b23) (b24) (b25) (b26) (b27) (b28) (b29) (b30) (b31) (b32) (b33) (b34) (b35) (b36) (b37) (b38) (b39) (b40) (b41) (b42) (b43) (b44) (b45) (b46) (b47) (b48) (b49) (b50) (b51) (b52) (b53) (b54) (b55) (b56) (b57) (b58) (b59) hb1 hb10 hb12 hb13 hb15 hb19 hb32 hb35 hb59) hl.1 q1581 q1583 qs94 q14 q1584 ⟨by decide, by decide, by show _ = some 2; decide +kernel⟩ ⟨Nat.le_of_ble_eq_true rfl, Nat.le_of_ble_eq_true rfl⟩ ⟨Nat.le_of_ble_eq_true rfl, Nat.le_of_ble_eq_true rfl⟩ rfl (Nat.le_of_ble_eq_true rfl) d_Model_isSo_121 hP hD hS hA 0 12 rfl rfl rfl [0, 1] [] rfl rfl rfl rfl (by decide) (fun v w1 H locs hw_37 hP hD hS => ?_)
    obtain ⟨x_38, rfl, rfl⟩ := hw_37
    have hP : va_P G.1 classes [(b0, .inr (12, [.int b5, .ref b6, .ref b7, .ref b8, .ref b9, .int b10, .ref b11, .int b12, .int b13, .int b14, .int b15, .ref b16, .ref b17, .ref b18, .int b19, .ref b20, .ref b21, .ref b22, .ref b23, .ref b24, .ref b25, .ref b26, .ref b27, .ref b28, .ref b29, .ref b30, .ref b31, .int b32, .ref b33, .ref b34, .int b35, .int b36, .int b37, .int b38, .ref b39, .ref b40, .ref b41, .ref b42, .ref b43, .ref b44, .ref b45, .int b46, .ref b47, .ref b48, .int b49, .ref b50, .ref b51, .ref b52, .ref b53, .ref b54, .int b55, .ref b56, .ref b57, .ref b58])), (b6, .inl (G.2 0, 503, .inl b59))] H := hP
    have hD := z_tie hP hD rfl
    refine W.widen (k := 0) (n := 0) (Nat.le_of_ble_eq_true rfl) (Nat.le_of_ble_eq_true rfl) ?_
    refine lv_icmp_ne (tgt := 131) hx hb d_Model_isSo_124 (by decide) (fun hc_39 => ?_) (fun hc_39 => ?_)
    · have _nhc_39 := hc_39
      have ni_40 : ¬ (x_36 : Int32).toInt = (x_38 : Int32).toInt := fun z => hc_39 ((fa_eq _ _).mpr z)
      refine lv_iconst (v := 0) hx hb d_Model_isSo_131 (by decide) ?_
      exact z_zret hx hb hr hlocks rfl hP hD hS (Nat.le_of_ble_eq_true rfl) (Nat.le_of_ble_eq_true rfl) d_Model_isSo_132 ⟨0, rfl, rfl, (zI.wk (l' := 0) (h' := 1) zc_0 (by decide))⟩
    · have _nhc_39 := hc_39
      have ni_41 := (fa_eq _ _).mp hc_39
      refine lv_iconst (v := 1) hx hb d_Model_isSo_127 (by decide) ?_
      refine lv_goto (tgt := 132) hx hb d_Model_isSo_128 (by decide) ?_
      exact z_zret hx hb hr hlocks rfl hP hD hS (Nat.le_of_ble_eq_true rfl) (Nat.le_of_ble_eq_true rfl) d_Model_isSo_132 ⟨1, rfl, rfl, (zI.wk (l' := 0) (h' := 1) zc_1 (by decide))⟩
  simp only [fa_lt, fa_le, fa_eq, Int32.toInt_toInt64, li_4] at hs_34
  refine lv_tableOut (tgt := 133) hx hb d_Model_isSo_1 (by omega) (by decide) ?_
  refine lv_aload_n hx hb d_Model_isSo_133 rfl (lv_at hl 0 rfl) ?_
  refine lv_iload_n hx hb d_Model_isSo_134 rfl (lv_at hl 1 rfl) ?_
  refine lv_iload_n hx hb d_Model_isSo_135 rfl (lv_at hl 3 rfl) ?_
  refine lv_iload hx hb d_Model_isSo_136 (lv_at hl 4 rfl) ?_
  refine z_callV (index := 379) (As := [.int b1, .int b3, .int b4]) (rest := []) (wr := []) Z (s1_Model_inTurn l G (b0) (b1) (b3) (b4) (b5) (b6) (b7) (b8) (b9) (b10) (b11) (b12) (b13) (b14) (b15) (b16) (b17) (b18) (b19) (b20) (b21) (b22) (b23) (b24) (b25) (b26) (b27) (b28) (b29) (b30) (b31) (b32) (b33) (b34) (b35) (b36) (b37) (b38) (b39) (b40) (b41) (b42) (b43) (b44) (b45) (b46) (b47) (b48) (b49) (b50) (b51) (b52) (b53) (b54) (b55) (b56) (b57) (b58) (b59) hb1 hb10 hb12 hb13 hb15 hb19 hb32 hb35 hb59) hl.1 q1585 q1587 qs95 q14 q1588 ⟨by decide, by decide, by show _ = some 3; decide +kernel⟩ ⟨Nat.le_of_ble_eq_true rfl, Nat.le_of_ble_eq_true rfl⟩ ⟨Nat.le_of_ble_eq_true rfl, Nat.le_of_ble_eq_true rfl⟩ rfl (Nat.le_of_ble_eq_true rfl) d_Model_isSo_138 hP hD hS hA 0 12 rfl rfl rfl [0, 1] [] rfl rfl rfl rfl (by decide) (fun v w1 H locs hw_42 hP hD hS => ?_)
  obtain ⟨x_43, rfl, rfl, hx_43⟩ := hw_42
  have hP : va_P G.1 classes [(b0, .inr (12, [.int b5, .ref b6, .ref b7, .ref b8, .ref b9, .int b10, .ref b11, .int b12, .int b13, .int b14, .int b15, .ref b16, .ref b17, .ref b18, .int b19, .ref b20, .ref b21, .ref b22, .ref b23, .ref b24, .ref b25, .ref b26, .ref b27, .ref b28, .ref b29, .ref b30, .ref b31, .int b32, .ref b33, .ref b34, .int b35, .int b36, .int b37, .int b38, .ref b39, .ref b40, .ref b41, .ref b42, .ref b43, .ref b44, .ref b45, .int b46, .ref b47, .ref b48, .int b49, .ref b50, .ref b51, .ref b52, .ref b53, .ref b54, .int b55, .ref b56, .ref b57, .ref b58])), (b6, .inl (G.2 0, 503, .inl b59))] H := hP
  have hD := z_tie hP hD rfl
  refine W.widen (k := 0) (n := 0) (Nat.le_of_ble_eq_true rfl) (Nat.le_of_ble_eq_true rfl) ?_
  exact z_zret hx hb hr hlocks (zi_nb hx_43) hP hD hS (Nat.le_of_ble_eq_true rfl) (Nat.le_of_ble_eq_true rfl) d_Model_isSo_141 ⟨x_43, rfl, rfl, hx_43⟩
theorem d_Model_asked_0 : decode prog_14_method_78_code 0 = .ok (.iconst 0, 1) := by decide +kernel
theorem d_Model_asked_1 : decode prog_14_method_78_code 1 = .ok (.istore 5, 2) := by decide +kernel
theorem d_Model_asked_3 : decode prog_14_method_78_code 3 = .ok (.iconst 0, 1) := by decide +kernel
theorem d_Model_asked_4 : decode prog_14_method_78_code 4 = .ok (.istore 6, 2) := by decide +kernel
theorem d_Model_asked_6 : decode prog_14_method_78_code 6 = .ok (.iload 6, 2) := by decide +kernel
theorem d_Model_asked_8 : decode prog_14_method_78_code 8 = .ok (.aload_n 0, 1) := by decide +kernel
theorem d_Model_asked_9 : decode prog_14_method_78_code 9 = .ok (.invokevirtual 134, 3) := by decide +kernel
theorem d_Model_asked_12 : decode prog_14_method_78_code 12 = .ok (.if_icmp .ge 48, 3) := by decide +kernel
theorem d_Model_asked_15 : decode prog_14_method_78_code 15 = .ok (.iload 5, 2) := by decide +kernel
theorem d_Model_asked_17 : decode prog_14_method_78_code 17 = .ok (.aload_n 0, 1) := by decide +kernel
theorem d_Model_asked_18 : decode prog_14_method_78_code 18 = .ok (.iload 6, 2) := by decide +kernel
theorem d_Model_asked_20 : decode prog_14_method_78_code 20 = .ok (.iload_n 1, 1) := by decide +kernel
theorem d_Model_asked_21 : decode prog_14_method_78_code 21 = .ok (.iload_n 2, 1) := by decide +kernel
theorem d_Model_asked_22 : decode prog_14_method_78_code 22 = .ok (.iload_n 3, 1) := by decide +kernel
theorem d_Model_asked_23 : decode prog_14_method_78_code 23 = .ok (.invokevirtual 382, 3) := by decide +kernel
theorem d_Model_asked_26 : decode prog_14_method_78_code 26 = .ok (.ifCond .eq 24, 3) := by decide +kernel
theorem d_Model_asked_29 : decode prog_14_method_78_code 29 = .ok (.iload 4, 2) := by decide +kernel
theorem d_Model_asked_31 : decode prog_14_method_78_code 31 = .ok (.ifCond .eq 15, 3) := by decide +kernel
theorem d_Model_asked_34 : decode prog_14_method_78_code 34 = .ok (.aload_n 0, 1) := by decide +kernel
theorem d_Model_asked_35 : decode prog_14_method_78_code 35 = .ok (.iload 6, 2) := by decide +kernel
theorem d_Model_asked_37 : decode prog_14_method_78_code 37 = .ok (.iload_n 1, 1) := by decide +kernel
theorem d_Model_asked_38 : decode prog_14_method_78_code 38 = .ok (.iload_n 2, 1) := by decide +kernel
theorem d_Model_asked_39 : decode prog_14_method_78_code 39 = .ok (.iload_n 3, 1) := by decide +kernel
theorem d_Model_asked_40 : decode prog_14_method_78_code 40 = .ok (.invokevirtual 386, 3) := by decide +kernel
theorem d_Model_asked_43 : decode prog_14_method_78_code 43 = .ok (.ifCond .eq 7, 3) := by decide +kernel
theorem d_Model_asked_46 : decode prog_14_method_78_code 46 = .ok (.iconst 1, 1) := by decide +kernel
theorem d_Model_asked_47 : decode prog_14_method_78_code 47 = .ok (.goto 4, 3) := by decide +kernel
theorem d_Model_asked_50 : decode prog_14_method_78_code 50 = .ok (.iconst 0, 1) := by decide +kernel
theorem d_Model_asked_51 : decode prog_14_method_78_code 51 = .ok (.iadd, 1) := by decide +kernel
theorem d_Model_asked_52 : decode prog_14_method_78_code 52 = .ok (.istore 5, 2) := by decide +kernel
theorem d_Model_asked_54 : decode prog_14_method_78_code 54 = .ok (.iinc 6 1, 3) := by decide +kernel
theorem d_Model_asked_57 : decode prog_14_method_78_code 57 = .ok (.goto (-51), 3) := by decide +kernel
theorem d_Model_asked_60 : decode prog_14_method_78_code 60 = .ok (.iload 5, 2) := by decide +kernel
theorem d_Model_asked_62 : decode prog_14_method_78_code 62 = .ok (.ireturn, 1) := by decide +kernel
theorem d_Model_isAsked_0 : decode prog_14_method_71_code 0 = .ok (.iload_n 2, 1) := by decide +kernel
theorem d_Model_isAsked_1 : decode prog_14_method_71_code 1 = .ok (.iconst 1, 1) := by decide +kernel
theorem d_Model_isAsked_2 : decode prog_14_method_71_code 2 = .ok (.if_icmp .ne 13, 3) := by decide +kernel
theorem d_Model_isAsked_5 : decode prog_14_method_71_code 5 = .ok (.aload_n 0, 1) := by decide +kernel
theorem d_Model_isAsked_6 : decode prog_14_method_71_code 6 = .ok (.iload_n 1, 1) := by decide +kernel
theorem d_Model_isAsked_7 : decode prog_14_method_71_code 7 = .ok (.iload 4, 2) := by decide +kernel
theorem d_Model_isAsked_9 : decode prog_14_method_71_code 9 = .ok (.invokevirtual 363, 3) := by decide +kernel
theorem d_Model_isAsked_12 : decode prog_14_method_71_code 12 = .ok (.goto 32, 3) := by decide +kernel
theorem d_Model_isAsked_15 : decode prog_14_method_71_code 15 = .ok (.aload_n 0, 1) := by decide +kernel
theorem d_Model_isAsked_16 : decode prog_14_method_71_code 16 = .ok (.iload_n 1, 1) := by decide +kernel
theorem d_Model_isAsked_17 : decode prog_14_method_71_code 17 = .ok (.iload_n 3, 1) := by decide +kernel
theorem d_Model_isAsked_18 : decode prog_14_method_71_code 18 = .ok (.invokevirtual 363, 3) := by decide +kernel
theorem d_Model_isAsked_21 : decode prog_14_method_71_code 21 = .ok (.ifCond .ne 18, 3) := by decide +kernel
theorem d_Model_isAsked_24 : decode prog_14_method_71_code 24 = .ok (.iload_n 2, 1) := by decide +kernel
theorem d_Model_isAsked_25 : decode prog_14_method_71_code 25 = .ok (.iconst 3, 1) := by decide +kernel
theorem d_Model_isAsked_26 : decode prog_14_method_71_code 26 = .ok (.if_icmp .le 17, 3) := by decide +kernel
theorem d_Model_isAsked_29 : decode prog_14_method_71_code 29 = .ok (.aload_n 0, 1) := by decide +kernel
theorem d_Model_isAsked_30 : decode prog_14_method_71_code 30 = .ok (.iload_n 1, 1) := by decide +kernel
theorem d_Model_isAsked_31 : decode prog_14_method_71_code 31 = .ok (.iload 4, 2) := by decide +kernel
theorem d_Model_isAsked_33 : decode prog_14_method_71_code 33 = .ok (.invokevirtual 363, 3) := by decide +kernel
theorem d_Model_isAsked_36 : decode prog_14_method_71_code 36 = .ok (.ifCond .eq 7, 3) := by decide +kernel
theorem d_Model_isAsked_39 : decode prog_14_method_71_code 39 = .ok (.iconst 1, 1) := by decide +kernel
theorem d_Model_isAsked_40 : decode prog_14_method_71_code 40 = .ok (.goto 4, 3) := by decide +kernel
theorem d_Model_isAsked_43 : decode prog_14_method_71_code 43 = .ok (.iconst 0, 1) := by decide +kernel
theorem d_Model_isAsked_44 : decode prog_14_method_71_code 44 = .ok (.ireturn, 1) := by decide +kernel
theorem zc_3 : zI 3 3 3 := ⟨by decide +kernel, by decide +kernel⟩
abbrev m_s7_Model_isAsked : Room := { frames := 2, cells := 0, slots := 0, locals := 46 }
set_option maxHeartbeats 4000000 in
set_option maxRecDepth 100000 in
theorem s7_Model_isAsked (l : Launch) (G : zG) (b0 : Nat) (b1 : Int32) (b2 : Int32) (b3 : Int32) (b4 : Int32) (b5 : Int32) (b6 : Nat) (b7 : Nat) (b8 : Nat) (b9 : Nat) (b10 : Int32) (b11 : Nat) (b12 : Int32) (b13 : Int32) (b14 : Int32) (b15 : Int32) (b16 : Nat) (b17 : Nat) (b18 : Nat) (b19 : Int32) (b20 : Nat) (b21 : Nat) (b22 : Nat) (b23 : Nat) (b24 : Nat) (b25 : Nat) (b26 : Nat) (b27 : Nat) (b28 : Nat) (b29 : Nat) (b30 : Nat) (b31 : Nat) (b32 : Int32) (b33 : Nat) (b34 : Nat) (b35 : Int32) (b36 : Int32) (b37 : Int32) (b38 : Int32) (b39 : Nat) (b40 : Nat) (b41 : Nat) (b42 : Nat) (b43 : Nat) (b44 : Nat) (b45 : Nat) (b46 : Int32) (b47 : Nat) (b48 : Nat) (b49 : Int32) (b50 : Nat) (b51 : Nat) (b52 : Nat) (b53 : Nat) (b54 : Nat) (b55 : Int32) (b56 : Nat) (b57 : Nat) (b58 : Nat) (b59 : Nat → Int32) (hb1 : zI b1 0 19) (hb10 : zI b10 0 8) (hb12 : zI b12 0 240) (hb13 : zI b13 0 240) (hb15 : zI b15 0 1) (hb19 : zI b19 0 12) (hb32 : zI b32 0 1) (hb35 : zI b35 0 1) (hb59 : zW5 b59) : zM l G y_Model_isAsked prog_14_method_71_code 5 (Option.some Jvm.ClassFile.FieldType.boolean) m_s7_Model_isAsked [.ref b0, .int b1, .int b2, .int b3, .int b4] [(b0, .inr (12, [.int b5, .ref b6, .ref b7, .ref b8, .ref b9, .int b10, .ref b11, .int b12, .int b13, .int b14, .int b15, .ref b16, .ref b17, .ref b18, .int b19, .ref b20, .ref b21, .ref b22, .ref b23, .ref b24, .ref b25, .ref b26, .ref b27, .ref b28, .ref b29, .ref b30, .ref b31, .int b32, .ref b33, .ref b34, .int b35, .int b36, .int b37, .int b38, .ref b39, .ref b40, .ref b41, .ref b42, .ref b43, .ref b44, .ref b45, .int b46, .ref b47, .ref b48, .int b49, .ref b50, .ref b51, .ref b52, .ref b53, .ref b54, .int b55, .ref b56, .ref b57, .ref b58])), (b6, .inl (G.2 0, 503, .inl b59))] (fun v w => ∃ (e0 : Int32), v = some (.int e0) ∧ w = [(b0, .inr (12, [.int b5, .ref b6, .ref b7, .ref b8, .ref b9, .int b10, .ref b11, .int b12, .int b13, .int b14, .int b15, .ref b16, .ref b17, .ref b18, .int b19, .ref b20, .ref b21, .ref b22, .ref b23, .ref b24, .ref b25, .ref b26, .ref b27, .ref b28, .ref b29, .ref b30, .ref b31, .int b32, .ref b33, .ref b34, .int b35, .int b36, .int b37, .int b38, .ref b39, .ref b40, .ref b41, .ref b42, .ref b43, .ref b44, .ref b45, .int b46, .ref b47, .ref b48, .int b49, .ref b50, .ref b51, .ref b52, .ref b53, .ref b54, .int b55, .ref b56, .ref b57, .ref b58])), (b6, .inl (G.2 0, 503, .inl b59))] ∧ (zI e0 0 1)) := by
  refine z_start (by decide +kernel) (Nat.le_of_ble_eq_true rfl) ?_
  intro p e s m below meth c A Z hr hnm hA hP hD hS ls hl
  have Z : zC p s m _ meth c prog_14_method_71_code 5 "TraceMachinesModel" G := Z
  obtain ⟨hx, hb, hml, hown, hts, hK, hN, hlocks⟩ := id Z
  have hl : lv_has ls 5 [(0, .ref b0), (1, .int b1), (2, .int b2), (3, .int b3), (4, .int b4)] := hl
  refine lv_iload_n hx hb d_Model_isAsked_0 rfl (lv_at hl 2 rfl) ?_
  refine lv_iconst (v := 1) hx hb d_Model_isAsked_1 (by decide) ?_
  refine lv_icmp_ne (tgt := 15) hx hb d_Model_isAsked_2 (by decide) (fun hc_1 => ?_) (fun hc_1 => ?_)
  · have _nhc_1 := hc_1
    have ni_2 : ¬ (b2 : Int32).toInt = (1 : Int32).toInt := fun z => hc_1 ((fa_eq _ _).mpr z)
    simp only [li_1] at ni_2
    refine lv_aload_n hx hb d_Model_isAsked_15 rfl (lv_at hl 0 rfl) ?_
    refine lv_iload_n hx hb d_Model_isAsked_16 rfl (lv_at hl 1 rfl) ?_
    refine lv_iload_n hx hb d_Model_isAsked_17 rfl (lv_at hl 3 rfl) ?_
    refine z_callV (index := 363) (As := [.int b1, .int b3]) (rest := []) (wr := []) Z (s1_Model_hasLetter l G (b0) (b1) (b3) (b5) (b6) (b7) (b8) (b9) (b10) (b11) (b12) (b13) (b14) (b15) (b16) (b17) (b18) (b19) (b20) (b21) (b22) (b23) (b24) (b25) (b26) (b27) (b28) (b29) (b30) (b31) (b32) (b33) (b34) (b35) (b36) (b37) (b38) (b39) (b40) (b41) (b42) (b43) (b44) (b45) (b46) (b47) (b48) (b49) (b50) (b51) (b52) (b53) (b54) (b55) (b56) (b57) (b58) (b59) hb1 hb10 hb12 hb13 hb15 hb19 hb32 hb35 hb59) hl.1 q1561 q1563 qs89 q14 q1564 ⟨by decide, by decide, by show _ = some 2; decide +kernel⟩ ⟨Nat.le_of_ble_eq_true rfl, Nat.le_of_ble_eq_true rfl⟩ ⟨Nat.le_of_ble_eq_true rfl, Nat.le_of_ble_eq_true rfl⟩ rfl (Nat.le_of_ble_eq_true rfl) d_Model_isAsked_18 hP hD hS hA 0 12 rfl rfl rfl [0, 1] [] rfl rfl rfl rfl (by decide) (fun v w1 H locs hw_3 hP hD hS => ?_)
    obtain ⟨x_4, rfl, rfl, hx_4⟩ := hw_3
    have hP : va_P G.1 classes [(b0, .inr (12, [.int b5, .ref b6, .ref b7, .ref b8, .ref b9, .int b10, .ref b11, .int b12, .int b13, .int b14, .int b15, .ref b16, .ref b17, .ref b18, .int b19, .ref b20, .ref b21, .ref b22, .ref b23, .ref b24, .ref b25, .ref b26, .ref b27, .ref b28, .ref b29, .ref b30, .ref b31, .int b32, .ref b33, .ref b34, .int b35, .int b36, .int b37, .int b38, .ref b39, .ref b40, .ref b41, .ref b42, .ref b43, .ref b44, .ref b45, .int b46, .ref b47, .ref b48, .int b49, .ref b50, .ref b51, .ref b52, .ref b53, .ref b54, .int b55, .ref b56, .ref b57, .ref b58])), (b6, .inl (G.2 0, 503, .inl b59))] H := hP
    have hD := z_tie hP hD rfl
    refine W.widen (k := 0) (n := 0) (Nat.le_of_ble_eq_true rfl) (Nat.le_of_ble_eq_true rfl) ?_
    refine lv_if_ne (tgt := 39) hx hb d_Model_isAsked_21 (by decide) (fun hc_5 => ?_) (fun hc_5 => ?_)
    · have _nhc_5 := hc_5
      have ni_6 : ¬ (x_4 : Int32).toInt = (0 : Int32).toInt := fun z => hc_5 ((fa_eq _ _).mpr z)
      simp only [li_0] at ni_6
      have hv_7 : zI x_4 1 1 := zI.ne_lo hx_4 zc_0 hc_5 (by decide)
      refine lv_iconst (v := 1) hx hb d_Model_isAsked_39 (by decide) ?_
      refine lv_goto (tgt := 44) hx hb d_Model_isAsked_40 (by decide) ?_
      exact z_zret hx hb hr hlocks rfl hP hD hS (Nat.le_of_ble_eq_true rfl) (Nat.le_of_ble_eq_true rfl) d_Model_isAsked_44 ⟨1, rfl, rfl, (zI.wk (l' := 0) (h' := 1) zc_1 (by decide))⟩
    · have _nhc_5 := hc_5
      have ni_8 := (fa_eq _ _).mp hc_5
      rw [li_0] at ni_8
      have hv_9 : zI x_4 0 0 := zI.eq_l hx_4 zc_0 hc_5
      refine lv_iload_n hx hb d_Model_isAsked_24 rfl (lv_at hl 2 rfl) ?_
      refine lv_iconst (v := 3) hx hb d_Model_isAsked_25 (by decide) ?_
      refine lv_icmp_le (tgt := 43) hx hb d_Model_isAsked_26 (by decide) (fun hc_10 => ?_) (fun hc_10 => ?_)
      · have _nhc_10 := hc_10
        have ni_11 := (fa_le _ _).mp hc_10
        rw [li_3] at ni_11
        have hv_12 : zI b2 (-2147483648) 3 := zI.le_l (zI_all b2) zc_3 hc_10 (by decide)
        refine lv_iconst (v := 0) hx hb d_Model_isAsked_43 (by decide) ?_
        exact z_zret hx hb hr hlocks rfl hP hD hS (Nat.le_of_ble_eq_true rfl) (Nat.le_of_ble_eq_true rfl) d_Model_isAsked_44 ⟨0, rfl, rfl, (zI.wk (l' := 0) (h' := 1) zc_0 (by decide))⟩
      · have _nhc_10 := hc_10
        have ni_13 := (fa_lt _ _).mp (zi_nle hc_10)
        rw [li_3] at ni_13
        have hv_14 : zI b2 4 2147483647 := zI.lt_r zc_3 (zI_all b2) (zi_nle hc_10) (by decide)
        refine lv_aload_n hx hb d_Model_isAsked_29 rfl (lv_at hl 0 rfl) ?_
        refine lv_iload_n hx hb d_Model_isAsked_30 rfl (lv_at hl 1 rfl) ?_
        refine lv_iload hx hb d_Model_isAsked_31 (lv_at hl 4 rfl) ?_
        refine z_callV (index := 363) (As := [.int b1, .int b4]) (rest := []) (wr := []) Z (s1_Model_hasLetter l G (b0) (b1) (b4) (b5) (b6) (b7) (b8) (b9) (b10) (b11) (b12) (b13) (b14) (b15) (b16) (b17) (b18) (b19) (b20) (b21) (b22) (b23) (b24) (b25) (b26) (b27) (b28) (b29) (b30) (b31) (b32) (b33) (b34) (b35) (b36) (b37) (b38) (b39) (b40) (b41) (b42) (b43) (b44) (b45) (b46) (b47) (b48) (b49) (b50) (b51) (b52) (b53) (b54) (b55) (b56) (b57) (b58) (b59) hb1 hb10 hb12 hb13 hb15 hb19 hb32 hb35 hb59) hl.1 q1561 q1563 qs89 q14 q1564 ⟨by decide, by decide, by show _ = some 2; decide +kernel⟩ ⟨Nat.le_of_ble_eq_true rfl, Nat.le_of_ble_eq_true rfl⟩ ⟨Nat.le_of_ble_eq_true rfl, Nat.le_of_ble_eq_true rfl⟩ rfl (Nat.le_of_ble_eq_true rfl) d_Model_isAsked_33 hP hD hS hA 0 12 rfl rfl rfl [0, 1] [] rfl rfl rfl rfl (by decide) (fun v w1 H locs hw_15 hP hD hS => ?_)
        obtain ⟨x_16, rfl, rfl, hx_16⟩ := hw_15
        have hP : va_P G.1 classes [(b0, .inr (12, [.int b5, .ref b6, .ref b7, .ref b8, .ref b9, .int b10, .ref b11, .int b12, .int b13, .int b14, .int b15, .ref b16, .ref b17, .ref b18, .int b19, .ref b20, .ref b21, .ref b22, .ref b23, .ref b24, .ref b25, .ref b26, .ref b27, .ref b28, .ref b29, .ref b30, .ref b31, .int b32, .ref b33, .ref b34, .int b35, .int b36, .int b37, .int b38, .ref b39, .ref b40, .ref b41, .ref b42, .ref b43, .ref b44, .ref b45, .int b46, .ref b47, .ref b48, .int b49, .ref b50, .ref b51, .ref b52, .ref b53, .ref b54, .int b55, .ref b56, .ref b57, .ref b58])), (b6, .inl (G.2 0, 503, .inl b59))] H := hP
        have hD := z_tie hP hD rfl
        refine W.widen (k := 0) (n := 0) (Nat.le_of_ble_eq_true rfl) (Nat.le_of_ble_eq_true rfl) ?_
        refine lv_if_eq (tgt := 43) hx hb d_Model_isAsked_36 (by decide) (fun hc_17 => ?_) (fun hc_17 => ?_)
        · have _nhc_17 := hc_17
          have ni_18 := (fa_eq _ _).mp hc_17
          rw [li_0] at ni_18
          have hv_19 : zI x_16 0 0 := zI.eq_l hx_16 zc_0 hc_17
          refine lv_iconst (v := 0) hx hb d_Model_isAsked_43 (by decide) ?_
          exact z_zret hx hb hr hlocks rfl hP hD hS (Nat.le_of_ble_eq_true rfl) (Nat.le_of_ble_eq_true rfl) d_Model_isAsked_44 ⟨0, rfl, rfl, (zI.wk (l' := 0) (h' := 1) zc_0 (by decide))⟩
        · have _nhc_17 := hc_17
          have ni_20 : ¬ (x_16 : Int32).toInt = (0 : Int32).toInt := fun z => hc_17 ((fa_eq _ _).mpr z)
          simp only [li_0] at ni_20
          have hv_21 : zI x_16 1 1 := zI.ne_lo hx_16 zc_0 hc_17 (by decide)
          refine lv_iconst (v := 1) hx hb d_Model_isAsked_39 (by decide) ?_
          refine lv_goto (tgt := 44) hx hb d_Model_isAsked_40 (by decide) ?_
          exact z_zret hx hb hr hlocks rfl hP hD hS (Nat.le_of_ble_eq_true rfl) (Nat.le_of_ble_eq_true rfl) d_Model_isAsked_44 ⟨1, rfl, rfl, (zI.wk (l' := 0) (h' := 1) zc_1 (by decide))⟩
  · have _nhc_1 := hc_1
    have ni_22 := (fa_eq _ _).mp hc_1
    rw [li_1] at ni_22
    have hv_23 : zI b2 1 1 := zI.eq_l (zI_all b2) zc_1 hc_1
    refine lv_aload_n hx hb d_Model_isAsked_5 rfl (lv_at hl 0 rfl) ?_
    refine lv_iload_n hx hb d_Model_isAsked_6 rfl (lv_at hl 1 rfl) ?_
    refine lv_iload hx hb d_Model_isAsked_7 (lv_at hl 4 rfl) ?_
    refine z_callV (index := 363) (As := [.int b1, .int b4]) (rest := []) (wr := []) Z (s1_Model_hasLetter l G (b0) (b1) (b4) (b5) (b6) (b7) (b8) (b9) (b10) (b11) (b12) (b13) (b14) (b15) (b16) (b17) (b18) (b19) (b20) (b21) (b22) (b23) (b24) (b25) (b26) (b27) (b28) (b29) (b30) (b31) (b32) (b33) (b34) (b35) (b36) (b37) (b38) (b39) (b40) (b41) (b42) (b43) (b44) (b45) (b46) (b47) (b48) (b49) (b50) (b51) (b52) (b53) (b54) (b55) (b56) (b57) (b58) (b59) hb1 hb10 hb12 hb13 hb15 hb19 hb32 hb35 hb59) hl.1 q1561 q1563 qs89 q14 q1564 ⟨by decide, by decide, by show _ = some 2; decide +kernel⟩ ⟨Nat.le_of_ble_eq_true rfl, Nat.le_of_ble_eq_true rfl⟩ ⟨Nat.le_of_ble_eq_true rfl, Nat.le_of_ble_eq_true rfl⟩ rfl (Nat.le_of_ble_eq_true rfl) d_Model_isAsked_9 hP hD hS hA 0 12 rfl rfl rfl [0, 1] [] rfl rfl rfl rfl (by decide) (fun v w1 H locs hw_24 hP hD hS => ?_)
    obtain ⟨x_25, rfl, rfl, hx_25⟩ := hw_24
    have hP : va_P G.1 classes [(b0, .inr (12, [.int b5, .ref b6, .ref b7, .ref b8, .ref b9, .int b10, .ref b11, .int b12, .int b13, .int b14, .int b15, .ref b16, .ref b17, .ref b18, .int b19, .ref b20, .ref b21, .ref b22, .ref b23, .ref b24, .ref b25, .ref b26, .ref b27, .ref b28, .ref b29, .ref b30, .ref b31, .int b32, .ref b33, .ref b34, .int b35, .int b36, .int b37, .int b38, .ref b39, .ref b40, .ref b41, .ref b42, .ref b43, .ref b44, .ref b45, .int b46, .ref b47, .ref b48, .int b49, .ref b50, .ref b51, .ref b52, .ref b53, .ref b54, .int b55, .ref b56, .ref b57, .ref b58])), (b6, .inl (G.2 0, 503, .inl b59))] H := hP
    have hD := z_tie hP hD rfl
    refine W.widen (k := 0) (n := 0) (Nat.le_of_ble_eq_true rfl) (Nat.le_of_ble_eq_true rfl) ?_
    refine lv_goto (tgt := 44) hx hb d_Model_isAsked_12 (by decide) ?_
    exact z_zret hx hb hr hlocks (zi_nb hx_25) hP hD hS (Nat.le_of_ble_eq_true rfl) (Nat.le_of_ble_eq_true rfl) d_Model_isAsked_44 ⟨x_25, rfl, rfl, hx_25⟩
abbrev m_s1_Model_asked : Room := { frames := 3, cells := 0, slots := 0, locals := 73 }
set_option maxHeartbeats 4000000 in
set_option maxRecDepth 100000 in
theorem s1_Model_asked (l : Launch) (G : zG) (b0 : Nat) (b1 : Int32) (b2 : Int32) (b3 : Int32) (b4 : Int32) (b5 : Int32) (b6 : Nat) (b7 : Nat) (b8 : Nat) (b9 : Nat) (b10 : Int32) (b11 : Nat) (b12 : Int32) (b13 : Int32) (b14 : Int32) (b15 : Int32) (b16 : Nat) (b17 : Nat) (b18 : Nat) (b19 : Int32) (b20 : Nat) (b21 : Nat) (b22 : Nat) (b23 : Nat) (b24 : Nat) (b25 : Nat) (b26 : Nat) (b27 : Nat) (b28 : Nat) (b29 : Nat) (b30 : Nat) (b31 : Nat) (b32 : Int32) (b33 : Nat) (b34 : Nat) (b35 : Int32) (b36 : Int32) (b37 : Int32) (b38 : Int32) (b39 : Nat) (b40 : Nat) (b41 : Nat) (b42 : Nat) (b43 : Nat) (b44 : Nat) (b45 : Nat) (b46 : Int32) (b47 : Nat) (b48 : Nat) (b49 : Int32) (b50 : Nat) (b51 : Nat) (b52 : Nat) (b53 : Nat) (b54 : Nat) (b55 : Int32) (b56 : Nat) (b57 : Nat) (b58 : Nat) (b59 : Nat → Int32) (hb10 : zI b10 0 8) (hb12 : zI b12 0 240) (hb13 : zI b13 0 240) (hb15 : zI b15 0 1) (hb19 : zI b19 0 12) (hb32 : zI b32 0 1) (hb35 : zI b35 0 1) (hb59 : zW5 b59) : zM l G y_Model_asked prog_14_method_78_code 7 (Option.some Jvm.ClassFile.FieldType.int) m_s1_Model_asked [.ref b0, .int b1, .int b2, .int b3, .int b4] [(b0, .inr (12, [.int b5, .ref b6, .ref b7, .ref b8, .ref b9, .int b10, .ref b11, .int b12, .int b13, .int b14, .int b15, .ref b16, .ref b17, .ref b18, .int b19, .ref b20, .ref b21, .ref b22, .ref b23, .ref b24, .ref b25, .ref b26, .ref b27, .ref b28, .ref b29, .ref b30, .ref b31, .int b32, .ref b33, .ref b34, .int b35, .int b36, .int b37, .int b38, .ref b39, .ref b40, .ref b41, .ref b42, .ref b43, .ref b44, .ref b45, .int b46, .ref b47, .ref b48, .int b49, .ref b50, .ref b51, .ref b52, .ref b53, .ref b54, .int b55, .ref b56, .ref b57, .ref b58])), (b6, .inl (G.2 0, 503, .inl b59))] (fun v w => ∃ (e0 : Int32), v = some (.int e0) ∧ w = [(b0, .inr (12, [.int b5, .ref b6, .ref b7, .ref b8, .ref b9, .int b10, .ref b11, .int b12, .int b13, .int b14, .int b15, .ref b16, .ref b17, .ref b18, .int b19, .ref b20, .ref b21, .ref b22, .ref b23, .ref b24, .ref b25, .ref b26, .ref b27, .ref b28, .ref b29, .ref b30, .ref b31, .int b32, .ref b33, .ref b34, .int b35, .int b36, .int b37, .int b38, .ref b39, .ref b40, .ref b41, .ref b42, .ref b43, .ref b44, .ref b45, .int b46, .ref b47, .ref b48, .int b49, .ref b50, .ref b51, .ref b52, .ref b53, .ref b54, .int b55, .ref b56, .ref b57, .ref b58])), (b6, .inl (G.2 0, 503, .inl b59))]) := by
  refine z_start (by decide +kernel) (Nat.le_of_ble_eq_true rfl) ?_
  intro p e s m below meth c A Z hr hnm hA hP hD hS ls hl
  have Z : zC p s m _ meth c prog_14_method_78_code 7 "TraceMachinesModel" G := Z
  obtain ⟨hx, hb, hml, hown, hts, hK, hN, hlocks⟩ := id Z
  have hl : lv_has ls 7 [(0, .ref b0), (1, .int b1), (2, .int b2), (3, .int b3), (4, .int b4)] := hl
  refine lv_iconst (v := 0) hx hb d_Model_asked_0 (by decide) ?_
  refine lv_istore (lv' := [(5, .int 0), (0, .ref b0), (1, .int b1), (2, .int b2), (3, .int b3), (4, .int b4)]) hx hb d_Model_asked_1 hl (by decide) rfl (fun ls hl => ?_)
  refine lv_iconst (v := 0) hx hb d_Model_asked_3 (by decide) ?_
  refine lv_istore (lv' := [(6, .int 0), (5, .int 0), (0, .ref b0), (1, .int b1), (2, .int b2), (3, .int b3), (4, .int b4)]) hx hb d_Model_asked_4 hl (by decide) rfl (fun ls hl => ?_)
  suffices key : ∀ (k_586 : Nat) (y_587 : Int32) (y_588 : Int32) (H : Heap) (locs : List Loc) (ls : Array Slot), (zI y_587 0 20) → (20 : Int) - y_587.toInt < (k_586 : Int) → va_P G.1 classes [(b0, .inr (12, [.int b5, .ref b6, .ref b7, .ref b8, .ref b9, .int b10, .ref b11, .int b12, .int b13, .int b14, .int b15, .ref b16, .ref b17, .ref b18, .int b19, .ref b20, .ref b21, .ref b22, .ref b23, .ref b24, .ref b25, .ref b26, .ref b27, .ref b28, .ref b29, .ref b30, .ref b31, .int b32, .ref b33, .ref b34, .int b35, .int b36, .int b37, .int b38, .ref b39, .ref b40, .ref b41, .ref b42, .ref b43, .ref b44, .ref b45, .int b46, .ref b47, .ref b48, .int b49, .ref b50, .ref b51, .ref b52, .ref b53, .ref b54, .int b55, .ref b56, .ref b57, .ref b58])), (b6, .inl (G.2 0, 503, .inl b59))] H → va_D A [(b0, .inr (12, [.int b5, .ref b6, .ref b7, .ref b8, .ref b9, .int b10, .ref b11, .int b12, .int b13, .int b14, .int b15, .ref b16, .ref b17, .ref b18, .int b19, .ref b20, .ref b21, .ref b22, .ref b23, .ref b24, .ref b25, .ref b26, .ref b27, .ref b28, .ref b29, .ref b30, .ref b31, .int b32, .ref b33, .ref b34, .int b35, .int b36, .int b37, .int b38, .ref b39, .ref b40, .ref b41, .ref b42, .ref b43, .ref b44, .ref b45, .int b46, .ref b47, .ref b48, .int b49, .ref b50, .ref b51, .ref b52, .ref b53, .ref b54, .int b55, .ref b56, .ref b57, .ref b58])), (b6, .inl (G.2 0, 503, .inl b59))] → va_S A s.heap H locs → lv_has ls 7 [(6, .int y_587), (5, .int y_588), (0, .ref b0), (1, .int b1), (2, .int b2), (3, .int b3), (4, .int b4)] → W p l e m_s1_Model_asked s m ([.ref b0, .int b1, .int b2, .int b3, .int b4] : List Value).toArray below meth c H locs 0 0 (MQ below (zQ G (fun v w => ∃ (e0 : Int32), v = some (.int e0) ∧ w = [(b0, .inr (12, [.int b5, .ref b6, .ref b7, .ref b8, .ref b9, .int b10, .ref b11, .int b12, .int b13, .int b14, .int b15, .ref b16, .ref b17, .ref b18, .int b19, .ref b20, .ref b21, .ref b22, .ref b23, .ref b24, .ref b25, .ref b26, .ref b27, .ref b28, .ref b29, .ref b30, .ref b31, .int b32, .ref b33, .ref b34, .int b35, .int b36, .int b37, .int b38, .ref b39, .ref b40, .ref b41, .ref b42, .ref b43, .ref b44, .ref b45, .int b46, .ref b47, .ref b48, .int b49, .ref b50, .ref b51, .ref b52, .ref b53, .ref b54, .int b55, .ref b56, .ref b57, .ref b58])), (b6, .inl (G.2 0, 503, .inl b59))]) A) ([.ref b0, .int b1, .int b2, .int b3, .int b4] : List Value).toArray s m_s1_Model_asked.cells m_s1_Model_asked.slots A) (F0 m 6 ls []) by
    exact key 21 (0) (0) _ _ _ (zI.wk (l' := 0) (h' := 20) zc_0 (by decide)) (zm_upi (zI.wk (l' := 0) (h' := 20) zc_0 (by decide)) (by decide)) hP hD hS (lv_sub hl [0, 1, 2, 3, 4, 5, 6] rfl)
  intro k_586
  induction k_586 with
  | zero =>
    intro y_587 y_588 H locs ls hy_587 hmk_586 hP hD hS hl
    exact (zm_up0 hy_587 hmk_586).elim
  | succ k_586 ihk_586 =>
    intro y_587 y_588 H locs ls hy_587 hmk_586 hP hD hS hl
    refine lv_iload hx hb d_Model_asked_6 (lv_at hl 0 rfl) ?_
    refine lv_aload_n hx hb d_Model_asked_8 rfl (lv_at hl 2 rfl) ?_
    refine z_callV (index := 134) (As := []) (rest := [.int y_587]) (wr := []) Z (s1_Model_many l G (b0) (b5) (b6) (b7) (b8) (b9) (b10) (b11) (b12) (b13) (b14) (b15) (b16) (b17) (b18) (b19) (b20) (b21) (b22) (b23) (b24) (b25) (b26) (b27) (b28) (b29) (b30) (b31) (b32) (b33) (b34) (b35) (b36) (b37) (b38) (b39) (b40) (b41) (b42) (b43) (b44) (b45) (b46) (b47) (b48) (b49) (b50) (b51) (b52) (b53) (b54) (b55) (b56) (b57) (b58) (b59) hb10 hb12 hb13 hb15 hb19 hb32 hb35 hb59) hl.1 q1320 q1322 qs51 q14 q1323 ⟨by decide, by decide, by show _ = some 0; decide +kernel⟩ ⟨Nat.le_of_ble_eq_true rfl, Nat.le_of_ble_eq_true rfl⟩ ⟨Nat.le_of_ble_eq_true rfl, Nat.le_of_ble_eq_true rfl⟩ rfl (Nat.le_of_ble_eq_true rfl) d_Model_asked_9 hP hD hS hA 0 12 rfl rfl rfl [0, 1] [] rfl rfl rfl rfl (by decide) (fun v w1 H locs hw_589 hP hD hS => ?_)
    obtain ⟨x_590, rfl, rfl, hx_590⟩ := hw_589
    have hP : va_P G.1 classes [(b0, .inr (12, [.int b5, .ref b6, .ref b7, .ref b8, .ref b9, .int b10, .ref b11, .int b12, .int b13, .int b14, .int b15, .ref b16, .ref b17, .ref b18, .int b19, .ref b20, .ref b21, .ref b22, .ref b23, .ref b24, .ref b25, .ref b26, .ref b27, .ref b28, .ref b29, .ref b30, .ref b31, .int b32, .ref b33, .ref b34, .int b35, .int b36, .int b37, .int b38, .ref b39, .ref b40, .ref b41, .ref b42, .ref b43, .ref b44, .ref b45, .int b46, .ref b47, .ref b48, .int b49, .ref b50, .ref b51, .ref b52, .ref b53, .ref b54, .int b55, .ref b56, .ref b57, .ref b58])), (b6, .inl (G.2 0, 503, .inl b59))] H := hP
    have hD := z_tie hP hD rfl
    refine W.widen (k := 0) (n := 0) (Nat.le_of_ble_eq_true rfl) (Nat.le_of_ble_eq_true rfl) ?_
    refine lv_icmp_ge (tgt := 60) hx hb d_Model_asked_12 (by decide) (fun hc_591 => ?_) (fun hc_591 => ?_)
    · have _nhc_591 := hc_591
      have ni_592 := (fa_le _ _).mp hc_591
      refine lv_iload hx hb d_Model_asked_60 (lv_at hl 1 rfl) ?_
      exact z_iret hx hb hr hlocks hP hD hS (Nat.le_of_ble_eq_true rfl) (Nat.le_of_ble_eq_true rfl) d_Model_asked_62 ⟨y_588, rfl, rfl⟩
    · have _nhc_591 := hc_591
      have ni_593 := (fa_lt _ _).mp (zi_nle hc_591)
      have hv_594 : zI y_587 0 19 := zI.lt_l hy_587 hx_590 (zi_nle hc_591) (by decide)
      have hv_595 : zI x_590 1 20 := zI.lt_r hy_587 hx_590 (zi_nle hc_591) (by decide)
      refine lv_iload hx hb d_Model_asked_15 (lv_at hl 1 rfl) ?_
      refine lv_aload_n hx hb d_Model_asked_17 rfl (lv_at hl 2 rfl) ?_
      refine lv_iload hx hb d_Model_asked_18 (lv_at hl 0 rfl) ?_
      refine lv_iload_n hx hb d_Model_asked_20 rfl (lv_at hl 3 rfl) ?_
      refine lv_iload_n hx hb d_Model_asked_21 rfl (lv_at hl 4 rfl) ?_
      refine lv_iload_n hx hb d_Model_asked_22 rfl (lv_at hl 5 rfl) ?_
      refine z_callV (index := 382) (As := [.int y_587, .int b1, .int b2, .int b3]) (rest := [.int y_588]) (wr := []) Z (s7_Model_isAsked l G (b0) (y_587) (b1) (b2) (b3) (b5) (b6) (b7) (b8) (b9) (b10) (b11) (b12) (b13) (b14) (b15) (b16) (b17) (b18) (b19) (b20) (b21) (b22) (b23) (b24) (b25) (b26) (b27) (b28) (b29) (b30) (b31) (b32) (b33) (b34) (b35) (b36) (b37) (b38) (b39) (b40) (b41) (b42) (b43) (b44) (b45) (b46) (b47) (b48) (b49) (b50) (b51) (b52) (b53) (b54) (b55) (b56) (b57) (b58) (b59) hv_594 hb10 hb12 hb13 hb15 hb19 hb32 hb35 hb59) hl.1 q1557 q1559 qs88 q14 q1560 ⟨by decide, by decide, by show _ = some 4; decide +kernel⟩ ⟨Nat.le_of_ble_eq_true rfl, Nat.le_of_ble_eq_true rfl⟩ ⟨Nat.le_of_ble_eq_true rfl, Nat.le_of_ble_eq_true rfl⟩ rfl (Nat.le_of_ble_eq_true rfl) d_Model_asked_23 hP hD hS hA 0 12 rfl rfl rfl [0, 1] [] rfl rfl rfl rfl (by decide) (fun v w1 H locs hw_596 hP hD hS => ?_)
      obtain ⟨x_597, rfl, rfl, hx_597⟩ := hw_596
      have hP : va_P G.1 classes [(b0, .inr (12, [.int b5, .ref b6, .ref b7, .ref b8, .ref b9, .int b10, .ref b11, .int b12, .int b13, .int b14, .int b15, .ref b16, .ref b17, .ref b18, .int b19, .ref b20, .ref b21, .ref b22, .ref b23, .ref b24, .ref b25, .ref b26, .ref b27, .ref b28, .ref b29, .ref b30, .ref b31, .int b32, .ref b33, .ref b34, .int b35, .int b36, .int b37, .int b38, .ref b39, .ref b40, .ref b41, .ref b42, .ref b43, .ref b44, .ref b45, .int b46, .ref b47, .ref b48, .int b49, .ref b50, .ref b51, .ref b52, .ref b53, .ref b54, .int b55, .ref b56, .ref b57, .ref b58])), (b6, .inl (G.2 0, 503, .inl b59))] H := hP
      have hD := z_tie hP hD rfl
      refine W.widen (k := 0) (n := 0) (Nat.le_of_ble_eq_true rfl) (Nat.le_of_ble_eq_true rfl) ?_
      refine lv_if_eq (tgt := 50) hx hb d_Model_asked_26 (by decide) (fun hc_598 => ?_) (fun hc_598 => ?_)
      · have _nhc_598 := hc_598
        have ni_599 := (fa_eq _ _).mp hc_598
        rw [li_0] at ni_599
        have hv_600 : zI x_597 0 0 := zI.eq_l hx_597 zc_0 hc_598
        refine lv_iconst (v := 0) hx hb d_Model_asked_50 (by decide) ?_
        refine lv_iadd hx hb d_Model_asked_51 ?_
        refine lv_topi (fun v_601 ev_601 => ?_)
        obtain ⟨qv_601, hv_601⟩ := zI_add (l := -2147483648) (h := 2147483647) (zI_all y_588) zc_0 ev_601 (by decide)
        rw [li_0] at qv_601
        refine lv_istore (lv' := [(5, .int v_601), (6, .int y_587), (0, .ref b0), (1, .int b1), (2, .int b2), (3, .int b3), (4, .int b4)]) hx hb d_Model_asked_52 hl (by decide) rfl (fun ls hl => ?_)
        obtain ⟨v_602, ev_602⟩ : ∃ z : Int32, z = y_587 + 1 := ⟨_, rfl⟩
        obtain ⟨qv_602, hv_602⟩ := zI_add (l := 1) (h := 20) hv_594 zc_1 ev_602 (by decide)
        rw [li_1] at qv_602
        refine lv_iinc (v := v_602) (lv' := [(6, .int v_602), (5, .int v_601), (0, .ref b0), (1, .int b1), (2, .int b2), (3, .int b3), (4, .int b4)]) hx hb d_Model_asked_54 hl (k := 1) rfl (by rw [ev_602]; rfl) (by decide) rfl (fun ls hl => ?_)
        refine lv_goto (tgt := 6) hx hb d_Model_asked_57 (by decide) ?_
        exact ihk_586 (v_602) (v_601) _ _ _ (zI.wk (l' := 0) (h' := 20) hv_602 (by decide)) (zm_up qv_602 hmk_586 (by decide)) hP hD hS (lv_sub hl [0, 1, 2, 3, 4, 5, 6] rfl)
      · have _nhc_598 := hc_598
        have ni_603 : ¬ (x_597 : Int32).toInt = (0 : Int32).toInt := fun z => hc_598 ((fa_eq _ _).mpr z)
        simp only [li_0] at ni_603
        have hv_604 : zI x_597 1 1 := zI.ne_lo hx_597 zc_0 hc_598 (by decide)
        refine lv_iload hx hb d_Model_asked_29 (lv_at hl 6 rfl) ?_
        refine lv_if_eq (tgt := 46) hx hb d_Model_asked_31 (by decide) (fun hc_605 => ?_) (fun hc_605 => ?_)
        · have _nhc_605 := hc_605
          have ni_606 := (fa_eq _ _).mp hc_605
          rw [li_0] at ni_606
          have hv_607 : zI b4 0 0 := zI.eq_l (zI_all b4) zc_0 hc_605
          refine lv_iconst (v := 1) hx hb d_Model_asked_46 (by decide) ?_
          refine lv_goto (tgt := 51) hx hb d_Model_asked_47 (by decide) ?_
          refine lv_iadd hx hb d_Model_asked_51 ?_
          refine lv_topi (fun v_608 ev_608 => ?_)
          refine lv_istore (lv' := [(5, .int v_608), (6, .int y_587), (0, .ref b0), (1, .int b1), (2, .int b2), (3, .int b3), (4, .int b4)]) hx hb d_Model_asked_52 hl (by decide) rfl (fun ls hl => ?_)
          obtain ⟨v_609, ev_609⟩ : ∃ z : Int32, z = y_587 + 1 := ⟨_, rfl⟩
          obtain ⟨qv_609, hv_609⟩ := zI_add (l := 1) (h := 20) hv_594 zc_1 ev_609 (by decide)
          rw [li_1] at qv_609
          refine lv_iinc (v := v_609) (lv' := [(6, .int v_609), (5, .int v_608), (0, .ref b0), (1, .int b1), (2, .int b2), (3, .int b3), (4, .int b4)]) hx hb d_Model_asked_54 hl (k := 1) rfl (by rw [ev_609]; rfl) (by decide) rfl (fun ls hl => ?_)
          refine lv_goto (tgt := 6) hx hb d_Model_asked_57 (by decide) ?_
          exact ihk_586 (v_609) (v_608) _ _ _ (zI.wk (l' := 0) (h' := 20) hv_609 (by decide)) (zm_up qv_609 hmk_586 (by decide)) hP hD hS (lv_sub hl [0, 1, 2, 3, 4, 5, 6] rfl)
        · have _nhc_605 := hc_605
          have ni_610 : ¬ (b4 : Int32).toInt = (0 : Int32).toInt := fun z => hc_605 ((fa_eq _ _).mpr z)
          simp only [li_0] at ni_610
          refine lv_aload_n hx hb d_Model_asked_34 rfl (lv_at hl 2 rfl) ?_
          refine lv_iload hx hb d_Model_asked_35 (lv_at hl 0 rfl) ?_
          refine lv_iload_n hx hb d_Model_asked_37 rfl (lv_at hl 3 rfl) ?_
          refine lv_iload_n hx hb d_Model_asked_38 rfl (lv_at hl 4 rfl) ?_
          refine lv_iload_n hx hb d_Model_asked_39 rfl (lv_at hl 5 rfl) ?_
          refine z_callV (index := 386) (As := [.int y_587, .int b1, .int b2, .int b3]) (rest := [.int y_588]) (wr := []) Z (s1_Model_isSo l G (b0) (y_587) (b1) (b2) (b3) (b5) (b6) (b7) (b8) (b9) (b10) (b11) (b12) (b13) (b14) (b15) (b16) (b17) (b18) (b19) (b20) (b21) (b22) (b23) (b24) (b25) (b26) (b27) (b28) (b29) (b30) (b31) (b32) (b33) (b34) (b35) (b36) (b37) (b38) (b39) (b40) (b41) (b42) (b43) (b44) (b45) (b46) (b47) (b48) (b49) (b50) (b51) (b52) (b53) (b54) (b55) (b56) (b57) (b58) (b59) hv_594 hb10 hb12 hb13 hb15 hb19 hb32 hb35 hb59) hl.1 q1565 q1567 qs90 q14 q1568 ⟨by decide, by decide, by show _ = some 4; decide +kernel⟩ ⟨Nat.le_of_ble_eq_true rfl, Nat.le_of_ble_eq_true rfl⟩ ⟨Nat.le_of_ble_eq_true rfl, Nat.le_of_ble_eq_true rfl⟩ rfl (Nat.le_of_ble_eq_true rfl) d_Model_asked_40 hP hD hS hA 0 12 rfl rfl rfl [0, 1] [] rfl rfl rfl rfl (by decide) (fun v w1 H locs hw_611 hP hD hS => ?_)
          obtain ⟨x_612, rfl, rfl, hx_612⟩ := hw_611
          have hP : va_P G.1 classes [(b0, .inr (12, [.int b5, .ref b6, .ref b7, .ref b8, .ref b9, .int b10, .ref b11, .int b12, .int b13, .int b14, .int b15, .ref b16, .ref b17, .ref b18, .int b19, .ref b20, .ref b21, .ref b22, .ref b23, .ref b24, .ref b25, .ref b26, .ref b27, .ref b28, .ref b29, .ref b30, .ref b31, .int b32, .ref b33, .ref b34, .int b35, .int b36, .int b37, .int b38, .ref b39, .ref b40, .ref b41, .ref b42, .ref b43, .ref b44, .ref b45, .int b46, .ref b47, .ref b48, .int b49, .ref b50, .ref b51, .ref b52, .ref b53, .ref b54, .int b55, .ref b56, .ref b57, .ref b58])), (b6, .inl (G.2 0, 503, .inl b59))] H := hP
          have hD := z_tie hP hD rfl
          refine W.widen (k := 0) (n := 0) (Nat.le_of_ble_eq_true rfl) (Nat.le_of_ble_eq_true rfl) ?_
          refine lv_if_eq (tgt := 50) hx hb d_Model_asked_43 (by decide) (fun hc_613 => ?_) (fun hc_613 => ?_)
          · have _nhc_613 := hc_613
            have ni_614 := (fa_eq _ _).mp hc_613
            rw [li_0] at ni_614
            have hv_615 : zI x_612 0 0 := zI.eq_l hx_612 zc_0 hc_613
            refine lv_iconst (v := 0) hx hb d_Model_asked_50 (by decide) ?_
            refine lv_iadd hx hb d_Model_asked_51 ?_
            refine lv_topi (fun v_616 ev_616 => ?_)
            obtain ⟨qv_616, hv_616⟩ := zI_add (l := -2147483648) (h := 2147483647) (zI_all y_588) zc_0 ev_616 (by decide)
            rw [li_0] at qv_616
            refine lv_istore (lv' := [(5, .int v_616), (6, .int y_587), (0, .ref b0), (1, .int b1), (2, .int b2), (3, .int b3), (4, .int b4)]) hx hb d_Model_asked_52 hl (by decide) rfl (fun ls hl => ?_)
            obtain ⟨v_617, ev_617⟩ : ∃ z : Int32, z = y_587 + 1 := ⟨_, rfl⟩
            obtain ⟨qv_617, hv_617⟩ := zI_add (l := 1) (h := 20) hv_594 zc_1 ev_617 (by decide)
            rw [li_1] at qv_617
            refine lv_iinc (v := v_617) (lv' := [(6, .int v_617), (5, .int v_616), (0, .ref b0), (1, .int b1), (2, .int b2), (3, .int b3), (4, .int b4)]) hx hb d_Model_asked_54 hl (k := 1) rfl (by rw [ev_617]; rfl) (by decide) rfl (fun ls hl => ?_)
            refine lv_goto (tgt := 6) hx hb d_Model_asked_57 (by decide) ?_
            exact ihk_586 (v_617) (v_616) _ _ _ (zI.wk (l' := 0) (h' := 20) hv_617 (by decide)) (zm_up qv_617 hmk_586 (by decide)) hP hD hS (lv_sub hl [0, 1, 2, 3, 4, 5, 6] rfl)
          · have _nhc_613 := hc_613
            have ni_618 : ¬ (x_612 : Int32).toInt = (0 : Int32).toInt := fun z => hc_613 ((fa_eq _ _).mpr z)
            simp only [li_0] at ni_618
            have hv_619 : zI x_612 1 1 := zI.ne_lo hx_612 zc_0 hc_613 (by decide)
            refine lv_iconst (v := 1) hx hb d_Model_asked_46 (by decide) ?_
            refine lv_goto (tgt := 51) hx hb d_Model_asked_47 (by decide) ?_
            refine lv_iadd hx hb d_Model_asked_51 ?_
            refine lv_topi (fun v_620 ev_620 => ?_)
            refine lv_istore (lv' := [(5, .int v_620), (6, .int y_587), (0, .ref b0), (1, .int b1), (2, .int b2), (3, .int b3), (4, .int b4)]) hx hb d_Model_asked_52 hl (by decide) rfl (fun ls hl => ?_)
            obtain ⟨v_621, ev_621⟩ : ∃ z : Int32, z = y_587 + 1 := ⟨_, rfl⟩
            obtain ⟨qv_621, hv_621⟩ := zI_add (l := 1) (h := 20) hv_594 zc_1 ev_621 (by decide)
            rw [li_1] at qv_621
            refine lv_iinc (v := v_621) (lv' := [(6, .int v_621), (5, .int v_620), (0, .ref b0), (1, .int b1), (2, .int b2), (3, .int b3), (4, .int b4)]) hx hb d_Model_asked_54 hl (k := 1) rfl (by rw [ev_621]; rfl) (by decide) rfl (fun ls hl => ?_)
            refine lv_goto (tgt := 6) hx hb d_Model_asked_57 (by decide) ?_
            exact ihk_586 (v_621) (v_620) _ _ _ (zI.wk (l' := 0) (h' := 20) hv_621 (by decide)) (zm_up qv_621 hmk_586 (by decide)) hP hD hS (lv_sub hl [0, 1, 2, 3, 4, 5, 6] rfl)
theorem d_Model_rowBehind_0 : decode prog_14_method_29_code 0 = .ok (.iconst 0, 1) := by decide +kernel
theorem d_Model_rowBehind_1 : decode prog_14_method_29_code 1 = .ok (.istore 4, 2) := by decide +kernel
theorem d_Model_rowBehind_3 : decode prog_14_method_29_code 3 = .ok (.iconst 0, 1) := by decide +kernel
theorem d_Model_rowBehind_4 : decode prog_14_method_29_code 4 = .ok (.istore 5, 2) := by decide +kernel
theorem d_Model_rowBehind_6 : decode prog_14_method_29_code 6 = .ok (.iload 5, 2) := by decide +kernel
theorem d_Model_rowBehind_8 : decode prog_14_method_29_code 8 = .ok (.iload_n 3, 1) := by decide +kernel
theorem d_Model_rowBehind_9 : decode prog_14_method_29_code 9 = .ok (.if_icmp .ge 61, 3) := by decide +kernel
theorem d_Model_rowBehind_12 : decode prog_14_method_29_code 12 = .ok (.iload_n 2, 1) := by decide +kernel
theorem d_Model_rowBehind_13 : decode prog_14_method_29_code 13 = .ok (.iload 5, 2) := by decide +kernel
theorem d_Model_rowBehind_15 : decode prog_14_method_29_code 15 = .ok (.iadd, 1) := by decide +kernel
theorem d_Model_rowBehind_16 : decode prog_14_method_29_code 16 = .ok (.istore 6, 2) := by decide +kernel
theorem d_Model_rowBehind_18 : decode prog_14_method_29_code 18 = .ok (.bipush 12, 2) := by decide +kernel
theorem d_Model_rowBehind_20 : decode prog_14_method_29_code 20 = .ok (.iload 4, 2) := by decide +kernel
theorem d_Model_rowBehind_22 : decode prog_14_method_29_code 22 = .ok (.imul, 1) := by decide +kernel
theorem d_Model_rowBehind_23 : decode prog_14_method_29_code 23 = .ok (.iload 6, 2) := by decide +kernel
theorem d_Model_rowBehind_25 : decode prog_14_method_29_code 25 = .ok (.aload_n 0, 1) := by decide +kernel
theorem d_Model_rowBehind_26 : decode prog_14_method_29_code 26 = .ok (.iload_n 1, 1) := by decide +kernel
theorem d_Model_rowBehind_27 : decode prog_14_method_29_code 27 = .ok (.invokevirtual 203, 3) := by decide +kernel
theorem d_Model_rowBehind_30 : decode prog_14_method_29_code 30 = .ok (.if_icmp .ge 15, 3) := by decide +kernel
theorem d_Model_rowBehind_33 : decode prog_14_method_29_code 33 = .ok (.aload_n 0, 1) := by decide +kernel
theorem d_Model_rowBehind_34 : decode prog_14_method_29_code 34 = .ok (.iload_n 1, 1) := by decide +kernel
theorem d_Model_rowBehind_35 : decode prog_14_method_29_code 35 = .ok (.iload 6, 2) := by decide +kernel
theorem d_Model_rowBehind_37 : decode prog_14_method_29_code 37 = .ok (.invokevirtual 207, 3) := by decide +kernel
theorem d_Model_rowBehind_40 : decode prog_14_method_29_code 40 = .ok (.iconst 1, 1) := by decide +kernel
theorem d_Model_rowBehind_41 : decode prog_14_method_29_code 41 = .ok (.iadd, 1) := by decide +kernel
theorem d_Model_rowBehind_42 : decode prog_14_method_29_code 42 = .ok (.goto 19, 3) := by decide +kernel
theorem d_Model_rowBehind_45 : decode prog_14_method_29_code 45 = .ok (.iload 6, 2) := by decide +kernel
theorem d_Model_rowBehind_47 : decode prog_14_method_29_code 47 = .ok (.aload_n 0, 1) := by decide +kernel
theorem d_Model_rowBehind_48 : decode prog_14_method_29_code 48 = .ok (.iload_n 1, 1) := by decide +kernel
theorem d_Model_rowBehind_49 : decode prog_14_method_29_code 49 = .ok (.invokevirtual 203, 3) := by decide +kernel
theorem d_Model_rowBehind_52 : decode prog_14_method_29_code 52 = .ok (.if_icmp .ne 8, 3) := by decide +kernel
theorem d_Model_rowBehind_55 : decode prog_14_method_29_code 55 = .ok (.bipush 11, 2) := by decide +kernel
theorem d_Model_rowBehind_57 : decode prog_14_method_29_code 57 = .ok (.goto 4, 3) := by decide +kernel
theorem d_Model_rowBehind_60 : decode prog_14_method_29_code 60 = .ok (.iconst 0, 1) := by decide +kernel
theorem d_Model_rowBehind_61 : decode prog_14_method_29_code 61 = .ok (.iadd, 1) := by decide +kernel
theorem d_Model_rowBehind_62 : decode prog_14_method_29_code 62 = .ok (.istore 4, 2) := by decide +kernel
theorem d_Model_rowBehind_64 : decode prog_14_method_29_code 64 = .ok (.iinc 5 1, 3) := by decide +kernel
theorem d_Model_rowBehind_67 : decode prog_14_method_29_code 67 = .ok (.goto (-61), 3) := by decide +kernel
theorem d_Model_rowBehind_70 : decode prog_14_method_29_code 70 = .ok (.iload 4, 2) := by decide +kernel
theorem d_Model_rowBehind_72 : decode prog_14_method_29_code 72 = .ok (.ireturn, 1) := by decide +kernel
theorem zc_11 : zI 11 11 11 := ⟨by decide +kernel, by decide +kernel⟩
theorem li_11 : (11 : Int32).toInt = 11 := by decide +kernel
abbrev m_s1_Model_rowBehind : Room := { frames := 1, cells := 0, slots := 0, locals := 22 }
set_option maxHeartbeats 4000000 in
set_option maxRecDepth 100000 in
theorem s1_Model_rowBehind (l : Launch) (G : zG) (b0 : Nat) (b1 : Int32) (b2 : Int32) (b3 : Int32) (b4 : Int32) (b5 : Nat) (b6 : Nat) (b7 : Nat) (b8 : Nat) (b9 : Int32) (b10 : Nat) (b11 : Int32) (b12 : Int32) (b13 : Int32) (b14 : Int32) (b15 : Nat) (b16 : Nat) (b17 : Nat) (b18 : Int32) (b19 : Nat) (b20 : Nat) (b21 : Nat) (b22 : Nat) (b23 : Nat) (b24 : Nat) (b25 : Nat) (b26 : Nat) (b27 : Nat) (b28 : Nat) (b29 : Nat) (b30 : Nat) (b31 : Int32) (b32 : Nat) (b33 : Nat) (b34 : Int32) (b35 : Int32) (b36 : Int32) (b37 : Int32) (b38 : Nat) (b39 : Nat) (b40 : Nat) (b41 : Nat) (b42 : Nat) (b43 : Nat) (b44 : Nat) (b45 : Int32) (b46 : Nat) (b47 : Nat) (b48 : Int32) (b49 : Nat) (b50 : Nat) (b51 : Nat) (b52 : Nat) (b53 : Nat) (b54 : Int32) (b55 : Nat) (b56 : Nat) (b57 : Nat) (b58 : Nat → Int32) (hb1 : zI b1 0 19) (hb2 : zI b2 0 12) (hb3 : zI b3 0 3) (hb9 : zI b9 0 8) (hb11 : zI b11 0 240) (hb12 : zI b12 0 240) (hb14 : zI b14 0 1) (hb18 : zI b18 0 12) (hb31 : zI b31 0 1) (hb34 : zI b34 0 1) (hb58 : zW5 b58) : zM l G y_Model_rowBehind prog_14_method_29_code 7 (Option.some Jvm.ClassFile.FieldType.int) m_s1_Model_rowBehind [.ref b0, .int b1, .int b2, .int b3] [(b0, .inr (12, [.int b4, .ref b5, .ref b6, .ref b7, .ref b8, .int b9, .ref b10, .int b11, .int b12, .int b13, .int b14, .ref b15, .ref b16, .ref b17, .int b18, .ref b19, .ref b20, .ref b21, .ref b22, .ref b23, .ref b24, .ref b25, .ref b26, .ref b27, .ref b28, .ref b29, .ref b30, .int b31, .ref b32, .ref b33, .int b34, .int b35, .int b36, .int b37, .ref b38, .ref b39, .ref b40, .ref b41, .ref b42, .ref b43, .ref b44, .int b45, .ref b46, .ref b47, .int b48, .ref b49, .ref b50, .ref b51, .ref b52, .ref b53, .int b54, .ref b55, .ref b56, .ref b57])), (b5, .inl (G.2 0, 503, .inl b58))] (fun v w => ∃ (e0 : Int32), v = some (.int e0) ∧ w = [(b0, .inr (12, [.int b4, .ref b5, .ref b6, .ref b7, .ref b8, .int b9, .ref b10, .int b11, .int b12, .int b13, .int b14, .ref b15, .ref b16, .ref b17, .int b18, .ref b19, .ref b20, .ref b21, .ref b22, .ref b23, .ref b24, .ref b25, .ref b26, .ref b27, .ref b28, .ref b29, .ref b30, .int b31, .ref b32, .ref b33, .int b34, .int b35, .int b36, .int b37, .ref b38, .ref b39, .ref b40, .ref b41, .ref b42, .ref b43, .ref b44, .int b45, .ref b46, .ref b47, .int b48, .ref b49, .ref b50, .ref b51, .ref b52, .ref b53, .int b54, .ref b55, .ref b56, .ref b57])), (b5, .inl (G.2 0, 503, .inl b58))]) := by
  refine z_start (by decide +kernel) (Nat.le_of_ble_eq_true rfl) ?_
  intro p e s m below meth c A Z hr hnm hA hP hD hS ls hl
  have Z : zC p s m _ meth c prog_14_method_29_code 7 "TraceMachinesModel" G := Z
  obtain ⟨hx, hb, hml, hown, hts, hK, hN, hlocks⟩ := id Z
  have hl : lv_has ls 7 [(0, .ref b0), (1, .int b1), (2, .int b2), (3, .int b3)] := hl
  refine lv_iconst (v := 0) hx hb d_Model_rowBehind_0 (by decide) ?_
  refine lv_istore (lv' := [(4, .int 0), (0, .ref b0), (1, .int b1), (2, .int b2), (3, .int b3)]) hx hb d_Model_rowBehind_1 hl (by decide) rfl (fun ls hl => ?_)
  refine lv_iconst (v := 0) hx hb d_Model_rowBehind_3 (by decide) ?_
  refine lv_istore (lv' := [(5, .int 0), (4, .int 0), (0, .ref b0), (1, .int b1), (2, .int b2), (3, .int b3)]) hx hb d_Model_rowBehind_4 hl (by decide) rfl (fun ls hl => ?_)
  suffices key : ∀ (k_210 : Nat) (y_211 : Int32) (y_212 : Int32) (H : Heap) (locs : List Loc) (ls : Array Slot), (zI y_211 0 3) → (3 : Int) - y_211.toInt < (k_210 : Int) → va_P G.1 classes [(b0, .inr (12, [.int b4, .ref b5, .ref b6, .ref b7, .ref b8, .int b9, .ref b10, .int b11, .int b12, .int b13, .int b14, .ref b15, .ref b16, .ref b17, .int b18, .ref b19, .ref b20, .ref b21, .ref b22, .ref b23, .ref b24, .ref b25, .ref b26, .ref b27, .ref b28, .ref b29, .ref b30, .int b31, .ref b32, .ref b33, .int b34, .int b35, .int b36, .int b37, .ref b38, .ref b39, .ref b40, .ref b41, .ref b42, .ref b43, .ref b44, .int b45, .ref b46, .ref b47, .int b48, .ref b49, .ref b50, .ref b51, .ref b52, .ref b53, .int b54, .ref b55, .ref b56, .ref b57])), (b5, .inl (G.2 0, 503, .inl b58))] H → va_D A [(b0, .inr (12, [.int b4, .ref b5, .ref b6, .ref b7, .ref b8, .int b9, .ref b10, .int b11, .int b12, .int b13, .int b14, .ref b15, .ref b16, .ref b17, .int b18, .ref b19, .ref b20, .ref b21, .ref b22, .ref b23, .ref b24, .ref b25, .ref b26, .ref b27, .ref b28, .ref b29, .ref b30, .int b31, .ref b32, .ref b33, .int b34, .int b35, .int b36, .int b37, .ref b38, .ref b39, .ref b40, .ref b41, .ref b42, .ref b43, .ref b44, .int b45, .ref b46, .ref b47, .int b48, .ref b49, .ref b50, .ref b51, .ref b52, .ref b53, .int b54, .ref b55, .ref b56, .ref b57])), (b5, .inl (G.2 0, 503, .inl b58))] → va_S A s.heap H locs → lv_has ls 7 [(5, .int y_211), (4, .int y_212), (0, .ref b0), (1, .int b1), (2, .int b2), (3, .int b3)] → W p l e m_s1_Model_rowBehind s m ([.ref b0, .int b1, .int b2, .int b3] : List Value).toArray below meth c H locs 0 0 (MQ below (zQ G (fun v w => ∃ (e0 : Int32), v = some (.int e0) ∧ w = [(b0, .inr (12, [.int b4, .ref b5, .ref b6, .ref b7, .ref b8, .int b9, .ref b10, .int b11, .int b12, .int b13, .int b14, .ref b15, .ref b16, .ref b17, .int b18, .ref b19, .ref b20, .ref b21, .ref b22, .ref b23, .ref b24, .ref b25, .ref b26, .ref b27, .ref b28, .ref b29, .ref b30, .int b31, .ref b32, .ref b33, .int b34, .int b35, .int b36, .int b37, .ref b38, .ref b39, .ref b40, .ref b41, .ref b42, .ref b43, .ref b44, .int b45, .ref b46, .ref b47, .int b48, .ref b49, .ref b50, .ref b51, .ref b52, .ref b53, .int b54, .ref b55, .ref b56, .ref b57])), (b5, .inl (G.2 0, 503, .inl b58))]) A) ([.ref b0, .int b1, .int b2, .int b3] : List Value).toArray s m_s1_Model_rowBehind.cells m_s1_Model_rowBehind.slots A) (F0 m 6 ls []) by
    exact key 4 (0) (0) _ _ _ (zI.wk (l' := 0) (h' := 3) zc_0 (by decide)) (zm_upi (zI.wk (l' := 0) (h' := 3) zc_0 (by decide)) (by decide)) hP hD hS (lv_sub hl [0, 1, 2, 3, 4, 5] rfl)
  intro k_210
  induction k_210 with
  | zero =>
    intro y_211 y_212 H locs ls hy_211 hmk_210 hP hD hS hl
    exact (zm_up0 hy_211 hmk_210).elim
  | succ k_210 ihk_210 =>
    intro y_211 y_212 H locs ls hy_211 hmk_210 hP hD hS hl
    refine lv_iload hx hb d_Model_rowBehind_6 (lv_at hl 0 rfl) ?_
    refine lv_iload_n hx hb d_Model_rowBehind_8 rfl (lv_at hl 5 rfl) ?_
    refine lv_icmp_ge (tgt := 70) hx hb d_Model_rowBehind_9 (by decide) (fun hc_213 => ?_) (fun hc_213 => ?_)
    · have _nhc_213 := hc_213
      have ni_214 := (fa_le _ _).mp hc_213
      refine lv_iload hx hb d_Model_rowBehind_70 (lv_at hl 1 rfl) ?_
      exact z_iret hx hb hr hlocks hP hD hS (Nat.le_of_ble_eq_true rfl) (Nat.le_of_ble_eq_true rfl) d_Model_rowBehind_72 ⟨y_212, rfl, rfl⟩
    · have _nhc_213 := hc_213
      have ni_215 := (fa_lt _ _).mp (zi_nle hc_213)
      have hv_216 : zI y_211 0 2 := zI.lt_l hy_211 hb3 (zi_nle hc_213) (by decide)
      have hv_217 : zI b3 1 3 := zI.lt_r hy_211 hb3 (zi_nle hc_213) (by decide)
      refine lv_iload_n hx hb d_Model_rowBehind_12 rfl (lv_at hl 4 rfl) ?_
      refine lv_iload hx hb d_Model_rowBehind_13 (lv_at hl 0 rfl) ?_
      refine lv_iadd hx hb d_Model_rowBehind_15 ?_
      refine lv_topi (fun v_218 ev_218 => ?_)
      obtain ⟨qv_218, hv_218⟩ := zI_add (l := 0) (h := 14) hb2 hv_216 ev_218 (by decide)
      refine lv_istore (lv' := [(6, .int v_218), (5, .int y_211), (4, .int y_212), (0, .ref b0), (1, .int b1), (2, .int b2), (3, .int b3)]) hx hb d_Model_rowBehind_16 hl (by decide) rfl (fun ls hl => ?_)
      refine lv_bipush (v := 12) hx hb d_Model_rowBehind_18 (by decide) ?_
      refine lv_iload hx hb d_Model_rowBehind_20 (lv_at hl 2 rfl) ?_
      refine lv_imul hx hb d_Model_rowBehind_22 ?_
      refine lv_topi (fun v_219 ev_219 => ?_)
      refine lv_iload hx hb d_Model_rowBehind_23 (lv_at hl 0 rfl) ?_
      refine lv_aload_n hx hb d_Model_rowBehind_25 rfl (lv_at hl 3 rfl) ?_
      refine lv_iload_n hx hb d_Model_rowBehind_26 rfl (lv_at hl 4 rfl) ?_
      refine z_callV (index := 203) (As := [.int b1]) (rest := [.int v_218, .int v_219]) (wr := []) Z (s1_Model_calls l G (b0) (b1) (b4) (b5) (b6) (b7) (b8) (b9) (b10) (b11) (b12) (b13) (b14) (b15) (b16) (b17) (b18) (b19) (b20) (b21) (b22) (b23) (b24) (b25) (b26) (b27) (b28) (b29) (b30) (b31) (b32) (b33) (b34) (b35) (b36) (b37) (b38) (b39) (b40) (b41) (b42) (b43) (b44) (b45) (b46) (b47) (b48) (b49) (b50) (b51) (b52) (b53) (b54) (b55) (b56) (b57) (b58) hb1 hb9 hb11 hb12 hb14 hb18 hb31 hb34 hb58) hl.1 q1352 q1354 qs54 q14 q1355 ⟨by decide, by decide, by show _ = some 1; decide +kernel⟩ ⟨Nat.le_of_ble_eq_true rfl, Nat.le_of_ble_eq_true rfl⟩ ⟨Nat.le_of_ble_eq_true rfl, Nat.le_of_ble_eq_true rfl⟩ rfl (Nat.le_of_ble_eq_true rfl) d_Model_rowBehind_27 hP hD hS hA 0 12 rfl rfl rfl [0, 1] [] rfl rfl rfl rfl (by decide) (fun v w1 H locs hw_220 hP hD hS => ?_)
      obtain ⟨x_221, rfl, rfl, hx_221⟩ := hw_220
      have hP : va_P G.1 classes [(b0, .inr (12, [.int b4, .ref b5, .ref b6, .ref b7, .ref b8, .int b9, .ref b10, .int b11, .int b12, .int b13, .int b14, .ref b15, .ref b16, .ref b17, .int b18, .ref b19, .ref b20, .ref b21, .ref b22, .ref b23, .ref b24, .ref b25, .ref b26, .ref b27, .ref b28, .ref b29, .ref b30, .int b31, .ref b32, .ref b33, .int b34, .int b35, .int b36, .int b37, .ref b38, .ref b39, .ref b40, .ref b41, .ref b42, .ref b43, .ref b44, .int b45, .ref b46, .ref b47, .int b48, .ref b49, .ref b50, .ref b51, .ref b52, .ref b53, .int b54, .ref b55, .ref b56, .ref b57])), (b5, .inl (G.2 0, 503, .inl b58))] H := hP
      have hD := z_tie hP hD rfl
      refine W.widen (k := 0) (n := 0) (Nat.le_of_ble_eq_true rfl) (Nat.le_of_ble_eq_true rfl) ?_
      refine lv_icmp_ge (tgt := 45) hx hb d_Model_rowBehind_30 (by decide) (fun hc_222 => ?_) (fun hc_222 => ?_)
      · have _nhc_222 := hc_222
        have ni_223 := (fa_le _ _).mp hc_222
        refine lv_iload hx hb d_Model_rowBehind_45 (lv_at hl 0 rfl) ?_
        refine lv_aload_n hx hb d_Model_rowBehind_47 rfl (lv_at hl 3 rfl) ?_
        refine lv_iload_n hx hb d_Model_rowBehind_48 rfl (lv_at hl 4 rfl) ?_
        refine z_callV (index := 203) (As := [.int b1]) (rest := [.int v_218, .int v_219]) (wr := []) Z (s1_Model_calls l G (b0) (b1) (b4) (b5) (b6) (b7) (b8) (b9) (b10) (b11) (b12) (b13) (b14) (b15) (b16) (b17) (b18) (b19) (b20) (b21) (b22) (b23) (b24) (b25) (b26) (b27) (b28) (b29) (b30) (b31) (b32) (b33) (b34) (b35) (b36) (b37) (b38) (b39) (b40) (b41) (b42) (b43) (b44) (b45) (b46) (b47) (b48) (b49) (b50) (b51) (b52) (b53) (b54) (b55) (b56) (b57) (b58) hb1 hb9 hb11 hb12 hb14 hb18 hb31 hb34 hb58) hl.1 q1352 q1354 qs54 q14 q1355 ⟨by decide, by decide, by show _ = some 1; decide +kernel⟩ ⟨Nat.le_of_ble_eq_true rfl, Nat.le_of_ble_eq_true rfl⟩ ⟨Nat.le_of_ble_eq_true rfl, Nat.le_of_ble_eq_true rfl⟩ rfl (Nat.le_of_ble_eq_true rfl) d_Model_rowBehind_49 hP hD hS hA 0 12 rfl rfl rfl [0, 1] [] rfl rfl rfl rfl (by decide) (fun v w1 H locs hw_224 hP hD hS => ?_)
        obtain ⟨x_225, rfl, rfl, hx_225⟩ := hw_224
        have hP : va_P G.1 classes [(b0, .inr (12, [.int b4, .ref b5, .ref b6, .ref b7, .ref b8, .int b9, .ref b10, .int b11, .int b12, .int b13, .int b14, .ref b15, .ref b16, .ref b17, .int b18, .ref b19, .ref b20, .ref b21, .ref b22, .ref b23, .ref b24, .ref b25, .ref b26, .ref b27, .ref b28, .ref b29, .ref b30, .int b31, .ref b32, .ref b33, .int b34, .int b35, .int b36, .int b37, .ref b38, .ref b39, .ref b40, .ref b41, .ref b42, .ref b43, .ref b44, .int b45, .ref b46, .ref b47, .int b48, .ref b49, .ref b50, .ref b51, .ref b52, .ref b53, .int b54, .ref b55, .ref b56, .ref b57])), (b5, .inl (G.2 0, 503, .inl b58))] H := hP
        have hD := z_tie hP hD rfl
        refine W.widen (k := 0) (n := 0) (Nat.le_of_ble_eq_true rfl) (Nat.le_of_ble_eq_true rfl) ?_
        refine lv_icmp_ne (tgt := 60) hx hb d_Model_rowBehind_52 (by decide) (fun hc_226 => ?_) (fun hc_226 => ?_)
        · have _nhc_226 := hc_226
          have ni_227 : ¬ (v_218 : Int32).toInt = (x_225 : Int32).toInt := fun z => hc_226 ((fa_eq _ _).mpr z)
          refine lv_iconst (v := 0) hx hb d_Model_rowBehind_60 (by decide) ?_
          refine lv_iadd hx hb d_Model_rowBehind_61 ?_
          refine lv_topi (fun v_228 ev_228 => ?_)
          obtain ⟨qv_228, hv_228⟩ := zI_add (l := -2147483648) (h := 2147483647) (zI_all v_219) zc_0 ev_228 (by decide)
          rw [li_0] at qv_228
          refine lv_istore (lv' := [(4, .int v_228), (6, .int v_218), (5, .int y_211), (0, .ref b0), (1, .int b1), (2, .int b2), (3, .int b3)]) hx hb d_Model_rowBehind_62 hl (by decide) rfl (fun ls hl => ?_)
          obtain ⟨v_229, ev_229⟩ : ∃ z : Int32, z = y_211 + 1 := ⟨_, rfl⟩
          obtain ⟨qv_229, hv_229⟩ := zI_add (l := 1) (h := 3) hv_216 zc_1 ev_229 (by decide)
          rw [li_1] at qv_229
          refine lv_iinc (v := v_229) (lv' := [(5, .int v_229), (4, .int v_228), (6, .int v_218), (0, .ref b0), (1, .int b1), (2, .int b2), (3, .int b3)]) hx hb d_Model_rowBehind_64 hl (k := 2) rfl (by rw [ev_229]; rfl) (by decide) rfl (fun ls hl => ?_)
          refine lv_goto (tgt := 6) hx hb d_Model_rowBehind_67 (by decide) ?_
          exact ihk_210 (v_229) (v_228) _ _ _ (zI.wk (l' := 0) (h' := 3) hv_229 (by decide)) (zm_up qv_229 hmk_210 (by decide)) hP hD hS (lv_sub hl [0, 1, 3, 4, 5, 6] rfl)
        · have _nhc_226 := hc_226
          have ni_230 := (fa_eq _ _).mp hc_226
          have hv_231 : zI v_218 0 12 := zI.eq_l hv_218 hx_225 hc_226
          refine lv_bipush (v := 11) hx hb d_Model_rowBehind_55 (by decide) ?_
          refine lv_goto (tgt := 61) hx hb d_Model_rowBehind_57 (by decide) ?_
          refine lv_iadd hx hb d_Model_rowBehind_61 ?_
          refine lv_topi (fun v_232 ev_232 => ?_)
          refine lv_istore (lv' := [(4, .int v_232), (6, .int v_218), (5, .int y_211), (0, .ref b0), (1, .int b1), (2, .int b2), (3, .int b3)]) hx hb d_Model_rowBehind_62 hl (by decide) rfl (fun ls hl => ?_)
          obtain ⟨v_233, ev_233⟩ : ∃ z : Int32, z = y_211 + 1 := ⟨_, rfl⟩
          obtain ⟨qv_233, hv_233⟩ := zI_add (l := 1) (h := 3) hv_216 zc_1 ev_233 (by decide)
          rw [li_1] at qv_233
          refine lv_iinc (v := v_233) (lv' := [(5, .int v_233), (4, .int v_232), (6, .int v_218), (0, .ref b0), (1, .int b1), (2, .int b2), (3, .int b3)]) hx hb d_Model_rowBehind_64 hl (k := 2) rfl (by rw [ev_233]; rfl) (by decide) rfl (fun ls hl => ?_)
          refine lv_goto (tgt := 6) hx hb d_Model_rowBehind_67 (by decide) ?_
          exact ihk_210 (v_233) (v_232) _ _ _ (zI.wk (l' := 0) (h' := 3) hv_233 (by decide)) (zm_up qv_233 hmk_210 (by decide)) hP hD hS (lv_sub hl [0, 1, 3, 4, 5, 6] rfl)
      · have _nhc_222 := hc_222
        have ni_234 := (fa_lt _ _).mp (zi_nle hc_222)
        have hv_235 : zI v_218 0 11 := zI.lt_l hv_218 hx_221 (zi_nle hc_222) (by decide)
        have hv_236 : zI x_221 1 12 := zI.lt_r hv_218 hx_221 (zi_nle hc_222) (by decide)
        refine lv_aload_n hx hb d_Model_rowBehind_33 rfl (lv_at hl 3 rfl) ?_
        refine lv_iload_n hx hb d_Model_rowBehind_34 rfl (lv_at hl 4 rfl) ?_
        refine lv_iload hx hb d_Model_rowBehind_35 (lv_at hl 0 rfl) ?_
        refine z_callV (index := 207) (As := [.int b1, .int v_218]) (rest := [.int v_219]) (wr := []) Z (s1_Model_letterAt l G (b0) (b1) (v_218) (b4) (b5) (b6) (b7) (b8) (b9) (b10) (b11) (b12) (b13) (b14) (b15) (b16) (b17) (b18) (b19) (b20) (b21) (b22) (b23) (b24) (b25) (b26) (b27) (b28) (b29) (b30) (b31) (b32) (b33) (b34) (b35) (b36) (b37) (b38) (b39) (b40) (b41) (b42) (b43) (b44) (b45) (b46) (b47) (b48) (b49) (b50) (b51) (b52) (b53) (b54) (b55) (b56) (b57) (b58) hb1 hv_235 hb9 hb11 hb12 hb14 hb18 hb31 hb34 hb58) hl.1 q1372 q1374 qs59 q14 q1375 ⟨by decide, by decide, by show _ = some 2; decide +kernel⟩ ⟨Nat.le_of_ble_eq_true rfl, Nat.le_of_ble_eq_true rfl⟩ ⟨Nat.le_of_ble_eq_true rfl, Nat.le_of_ble_eq_true rfl⟩ rfl (Nat.le_of_ble_eq_true rfl) d_Model_rowBehind_37 hP hD hS hA 0 12 rfl rfl rfl [0, 1] [] rfl rfl rfl rfl (by decide) (fun v w1 H locs hw_237 hP hD hS => ?_)
        obtain ⟨x_238, rfl, rfl, hx_238⟩ := hw_237
        have hP : va_P G.1 classes [(b0, .inr (12, [.int b4, .ref b5, .ref b6, .ref b7, .ref b8, .int b9, .ref b10, .int b11, .int b12, .int b13, .int b14, .ref b15, .ref b16, .ref b17, .int b18, .ref b19, .ref b20, .ref b21, .ref b22, .ref b23, .ref b24, .ref b25, .ref b26, .ref b27, .ref b28, .ref b29, .ref b30, .int b31, .ref b32, .ref b33, .int b34, .int b35, .int b36, .int b37, .ref b38, .ref b39, .ref b40, .ref b41, .ref b42, .ref b43, .ref b44, .int b45, .ref b46, .ref b47, .int b48, .ref b49, .ref b50, .ref b51, .ref b52, .ref b53, .int b54, .ref b55, .ref b56, .ref b57])), (b5, .inl (G.2 0, 503, .inl b58))] H := hP
        have hD := z_tie hP hD rfl
        refine W.widen (k := 0) (n := 0) (Nat.le_of_ble_eq_true rfl) (Nat.le_of_ble_eq_true rfl) ?_
        refine lv_iconst (v := 1) hx hb d_Model_rowBehind_40 (by decide) ?_
        refine lv_iadd hx hb d_Model_rowBehind_41 ?_
        refine lv_topi (fun v_239 ev_239 => ?_)
        obtain ⟨qv_239, hv_239⟩ := zI_add (l := 1) (h := 10) hx_238 zc_1 ev_239 (by decide)
        rw [li_1] at qv_239
        refine lv_goto (tgt := 61) hx hb d_Model_rowBehind_42 (by decide) ?_
        refine lv_iadd hx hb d_Model_rowBehind_61 ?_
        refine lv_topi (fun v_240 ev_240 => ?_)
        refine lv_istore (lv' := [(4, .int v_240), (6, .int v_218), (5, .int y_211), (0, .ref b0), (1, .int b1), (2, .int b2), (3, .int b3)]) hx hb d_Model_rowBehind_62 hl (by decide) rfl (fun ls hl => ?_)
        obtain ⟨v_241, ev_241⟩ : ∃ z : Int32, z = y_211 + 1 := ⟨_, rfl⟩
        obtain ⟨qv_241, hv_241⟩ := zI_add (l := 1) (h := 3) hv_216 zc_1 ev_241 (by decide)
        rw [li_1] at qv_241
        refine lv_iinc (v := v_241) (lv' := [(5, .int v_241), (4, .int v_240), (6, .int v_218), (0, .ref b0), (1, .int b1), (2, .int b2), (3, .int b3)]) hx hb d_Model_rowBehind_64 hl (k := 2) rfl (by rw [ev_241]; rfl) (by decide) rfl (fun ls hl => ?_)
        refine lv_goto (tgt := 6) hx hb d_Model_rowBehind_67 (by decide) ?_
        exact ihk_210 (v_241) (v_240) _ _ _ (zI.wk (l' := 0) (h' := 3) hv_241 (by decide)) (zm_up qv_241 hmk_210 (by decide)) hP hD hS (lv_sub hl [0, 1, 3, 4, 5, 6] rfl)
theorem d_Model_leaving_0 : decode prog_14_method_39_code 0 = .ok (.iconst 0, 1) := by decide +kernel
theorem d_Model_leaving_1 : decode prog_14_method_39_code 1 = .ok (.istore_n 3, 1) := by decide +kernel
theorem d_Model_leaving_2 : decode prog_14_method_39_code 2 = .ok (.iconst 0, 1) := by decide +kernel
theorem d_Model_leaving_3 : decode prog_14_method_39_code 3 = .ok (.istore 4, 2) := by decide +kernel
theorem d_Model_leaving_5 : decode prog_14_method_39_code 5 = .ok (.iload 4, 2) := by decide +kernel
theorem d_Model_leaving_7 : decode prog_14_method_39_code 7 = .ok (.aload_n 0, 1) := by decide +kernel
theorem d_Model_leaving_8 : decode prog_14_method_39_code 8 = .ok (.getfield 70, 3) := by decide +kernel
theorem d_Model_leaving_11 : decode prog_14_method_39_code 11 = .ok (.iconst 0, 1) := by decide +kernel
theorem d_Model_leaving_12 : decode prog_14_method_39_code 12 = .ok (.iaload, 1) := by decide +kernel
theorem d_Model_leaving_13 : decode prog_14_method_39_code 13 = .ok (.if_icmp .ge 44, 3) := by decide +kernel
theorem d_Model_leaving_16 : decode prog_14_method_39_code 16 = .ok (.iload_n 3, 1) := by decide +kernel
theorem d_Model_leaving_17 : decode prog_14_method_39_code 17 = .ok (.aload_n 0, 1) := by decide +kernel
theorem d_Model_leaving_18 : decode prog_14_method_39_code 18 = .ok (.iconst 0, 1) := by decide +kernel
theorem d_Model_leaving_19 : decode prog_14_method_39_code 19 = .ok (.iload 4, 2) := by decide +kernel
theorem d_Model_leaving_21 : decode prog_14_method_39_code 21 = .ok (.iconst 0, 1) := by decide +kernel
theorem d_Model_leaving_22 : decode prog_14_method_39_code 22 = .ok (.invokevirtual 225, 3) := by decide +kernel
theorem d_Model_leaving_25 : decode prog_14_method_39_code 25 = .ok (.iload_n 1, 1) := by decide +kernel
theorem d_Model_leaving_26 : decode prog_14_method_39_code 26 = .ok (.if_icmp .ne 22, 3) := by decide +kernel
theorem d_Model_leaving_29 : decode prog_14_method_39_code 29 = .ok (.iload_n 2, 1) := by decide +kernel
theorem d_Model_leaving_30 : decode prog_14_method_39_code 30 = .ok (.ifCond .eq 14, 3) := by decide +kernel
theorem d_Model_leaving_33 : decode prog_14_method_39_code 33 = .ok (.aload_n 0, 1) := by decide +kernel
theorem d_Model_leaving_34 : decode prog_14_method_39_code 34 = .ok (.iconst 0, 1) := by decide +kernel
theorem d_Model_leaving_35 : decode prog_14_method_39_code 35 = .ok (.iload 4, 2) := by decide +kernel
theorem d_Model_leaving_37 : decode prog_14_method_39_code 37 = .ok (.iconst 3, 1) := by decide +kernel
theorem d_Model_leaving_38 : decode prog_14_method_39_code 38 = .ok (.invokevirtual 225, 3) := by decide +kernel
theorem d_Model_leaving_41 : decode prog_14_method_39_code 41 = .ok (.goto 8, 3) := by decide +kernel
theorem d_Model_leaving_44 : decode prog_14_method_39_code 44 = .ok (.iconst 1, 1) := by decide +kernel
theorem d_Model_leaving_45 : decode prog_14_method_39_code 45 = .ok (.goto 4, 3) := by decide +kernel
theorem d_Model_leaving_48 : decode prog_14_method_39_code 48 = .ok (.iconst 0, 1) := by decide +kernel
theorem d_Model_leaving_49 : decode prog_14_method_39_code 49 = .ok (.iadd, 1) := by decide +kernel
theorem d_Model_leaving_50 : decode prog_14_method_39_code 50 = .ok (.istore_n 3, 1) := by decide +kernel
theorem d_Model_leaving_51 : decode prog_14_method_39_code 51 = .ok (.iinc 4 1, 3) := by decide +kernel
theorem d_Model_leaving_54 : decode prog_14_method_39_code 54 = .ok (.goto (-49), 3) := by decide +kernel
theorem d_Model_leaving_57 : decode prog_14_method_39_code 57 = .ok (.iload_n 3, 1) := by decide +kernel
theorem d_Model_leaving_58 : decode prog_14_method_39_code 58 = .ok (.ireturn, 1) := by decide +kernel
theorem d_Model_edgeAt_0 : decode prog_14_method_25_code 0 = .ok (.aload_n 0, 1) := by decide +kernel
theorem d_Model_edgeAt_1 : decode prog_14_method_25_code 1 = .ok (.getfield 73, 3) := by decide +kernel
theorem d_Model_edgeAt_4 : decode prog_14_method_25_code 4 = .ok (.bipush 6, 2) := by decide +kernel
theorem d_Model_edgeAt_6 : decode prog_14_method_25_code 6 = .ok (.sipush 240, 3) := by decide +kernel
theorem d_Model_edgeAt_9 : decode prog_14_method_25_code 9 = .ok (.iload_n 1, 1) := by decide +kernel
theorem d_Model_edgeAt_10 : decode prog_14_method_25_code 10 = .ok (.imul, 1) := by decide +kernel
theorem d_Model_edgeAt_11 : decode prog_14_method_25_code 11 = .ok (.iload_n 2, 1) := by decide +kernel
theorem d_Model_edgeAt_12 : decode prog_14_method_25_code 12 = .ok (.iadd, 1) := by decide +kernel
theorem d_Model_edgeAt_13 : decode prog_14_method_25_code 13 = .ok (.imul, 1) := by decide +kernel
theorem d_Model_edgeAt_14 : decode prog_14_method_25_code 14 = .ok (.iload_n 3, 1) := by decide +kernel
theorem d_Model_edgeAt_15 : decode prog_14_method_25_code 15 = .ok (.iadd, 1) := by decide +kernel
theorem d_Model_edgeAt_16 : decode prog_14_method_25_code 16 = .ok (.iaload, 1) := by decide +kernel
theorem d_Model_edgeAt_17 : decode prog_14_method_25_code 17 = .ok (.ireturn, 1) := by decide +kernel
theorem zc_6 : zI 6 6 6 := ⟨by decide +kernel, by decide +kernel⟩
theorem li_6 : (6 : Int32).toInt = 6 := by decide +kernel
abbrev m_s17_Model_edgeAt : Room := { frames := 0, cells := 0, slots := 0, locals := 0 }
set_option maxHeartbeats 4000000 in
set_option maxRecDepth 100000 in
theorem s17_Model_edgeAt (l : Launch) (G : zG) (b0 : Nat) (b1 : Int32) (b2 : Int32) (b3 : Int32) (b4 : Int32) (b5 : Nat) (b6 : Nat) (b7 : Nat) (b8 : Nat) (b9 : Int32) (b10 : Nat) (b11 : Int32) (b12 : Int32) (b13 : Int32) (b14 : Int32) (b15 : Nat) (b16 : Nat) (b17 : Nat) (b18 : Int32) (b19 : Nat) (b20 : Nat) (b21 : Nat) (b22 : Nat) (b23 : Nat) (b24 : Nat) (b25 : Nat) (b26 : Nat) (b27 : Nat) (b28 : Nat) (b29 : Nat) (b30 : Nat) (b31 : Int32) (b32 : Nat) (b33 : Nat) (b34 : Int32) (b35 : Int32) (b36 : Int32) (b37 : Int32) (b38 : Nat) (b39 : Nat) (b40 : Nat) (b41 : Nat) (b42 : Nat) (b43 : Nat) (b44 : Nat) (b45 : Int32) (b46 : Nat) (b47 : Nat) (b48 : Int32) (b49 : Nat) (b50 : Nat) (b51 : Nat) (b52 : Nat) (b53 : Nat) (b54 : Int32) (b55 : Nat) (b56 : Nat) (b57 : Nat) (b58 : Nat → Int32) (hb1 : zI b1 0 0) (hb2 : zI b2 0 239) (hb3 : zI b3 0 0) (hb9 : zI b9 0 8) (hb11 : zI b11 0 240) (hb12 : zI b12 0 240) (hb14 : zI b14 0 1) (hb18 : zI b18 0 12) (hb31 : zI b31 0 1) (hb34 : zI b34 0 1) (hb58 : zqa qE b58) : zM l G y_Model_edgeAt prog_14_method_25_code 4 (Option.some Jvm.ClassFile.FieldType.int) m_s17_Model_edgeAt [.ref b0, .int b1, .int b2, .int b3] [(b0, .inr (12, [.int b4, .ref b5, .ref b6, .ref b7, .ref b8, .int b9, .ref b10, .int b11, .int b12, .int b13, .int b14, .ref b15, .ref b16, .ref b17, .int b18, .ref b19, .ref b20, .ref b21, .ref b22, .ref b23, .ref b24, .ref b25, .ref b26, .ref b27, .ref b28, .ref b29, .ref b30, .int b31, .ref b32, .ref b33, .int b34, .int b35, .int b36, .int b37, .ref b38, .ref b39, .ref b40, .ref b41, .ref b42, .ref b43, .ref b44, .int b45, .ref b46, .ref b47, .int b48, .ref b49, .ref b50, .ref b51, .ref b52, .ref b53, .int b54, .ref b55, .ref b56, .ref b57])), (b30, .inl (G.2 0, 2880, .inl b58))] (fun v w => ∃ (e0 : Int32), v = some (.int e0) ∧ w = [(b0, .inr (12, [.int b4, .ref b5, .ref b6, .ref b7, .ref b8, .int b9, .ref b10, .int b11, .int b12, .int b13, .int b14, .ref b15, .ref b16, .ref b17, .int b18, .ref b19, .ref b20, .ref b21, .ref b22, .ref b23, .ref b24, .ref b25, .ref b26, .ref b27, .ref b28, .ref b29, .ref b30, .int b31, .ref b32, .ref b33, .int b34, .int b35, .int b36, .int b37, .ref b38, .ref b39, .ref b40, .ref b41, .ref b42, .ref b43, .ref b44, .int b45, .ref b46, .ref b47, .int b48, .ref b49, .ref b50, .ref b51, .ref b52, .ref b53, .int b54, .ref b55, .ref b56, .ref b57])), (b30, .inl (G.2 0, 2880, .inl b58))]) := by
  refine z_start (by decide +kernel) (Nat.le_of_ble_eq_true rfl) ?_
  intro p e s m below meth c A Z hr hnm hA hP hD hS ls hl
  have Z : zC p s m _ meth c prog_14_method_25_code 4 "TraceMachinesModel" G := Z
  obtain ⟨hx, hb, hml, hown, hts, hK, hN, hlocks⟩ := id Z
  have hl : lv_has ls 4 [(0, .ref b0), (1, .int b1), (2, .int b2), (3, .int b3)] := hl
  refine lv_aload_n hx hb d_Model_edgeAt_0 rfl (lv_at hl 0 rfl) ?_
  refine va_get (D := G.1) (ci := 12) (v := .ref b30) (C := R_Model) (T := F_Model) (N := 54) hx hb hts i_Model hown hK hP 0 rfl rfl 26 (by decide) (hts _ q1135) (fun _ h9 => h9) rfl d_Model_edgeAt_1 ?_
  refine lv_bipush (v := 6) hx hb d_Model_edgeAt_4 (by decide) ?_
  refine lv_sipush (v := 240) hx hb d_Model_edgeAt_6 (by decide) ?_
  refine lv_iload_n hx hb d_Model_edgeAt_9 rfl (lv_at hl 1 rfl) ?_
  refine lv_imul hx hb d_Model_edgeAt_10 ?_
  refine lv_topi (fun v_1 ev_1 => ?_)
  obtain ⟨qv_1, hv_1⟩ := zI_mul (l := 0) (h := 0) zc_240 hb1 ev_1 (by decide)
  rw [li_240] at qv_1
  refine lv_iload_n hx hb d_Model_edgeAt_11 rfl (lv_at hl 2 rfl) ?_
  refine lv_iadd hx hb d_Model_edgeAt_12 ?_
  refine lv_topi (fun v_2 ev_2 => ?_)
  obtain ⟨qv_2, hv_2⟩ := zI_add (l := 0) (h := 239) hv_1 hb2 ev_2 (by decide)
  refine lv_imul hx hb d_Model_edgeAt_13 ?_
  refine lv_topi (fun v_3 ev_3 => ?_)
  obtain ⟨qv_3, hv_3⟩ := zI_mul (l := 0) (h := 1434) zc_6 hv_2 ev_3 (by decide)
  rw [li_6] at qv_3
  refine lv_iload_n hx hb d_Model_edgeAt_14 rfl (lv_at hl 3 rfl) ?_
  refine lv_iadd hx hb d_Model_edgeAt_15 ?_
  refine lv_topi (fun v_4 ev_4 => ?_)
  obtain ⟨qv_4, hv_4⟩ := zI_add (l := 0) (h := 1434) hv_3 hb3 ev_4 (by decide)
  refine va_iald hx hb hK hP 1 0 rfl rfl (zI.inn hv_4 (by decide)) d_Model_edgeAt_16 ?_
  refine lv_topi (fun v_5 ev_5 => ?_)
  have kv_5 := zQE.ld hb58 hv_4 ev_5 (by decide)
  exact z_iret hx hb hr hlocks hP hD hS (Nat.le_of_ble_eq_true rfl) (Nat.le_of_ble_eq_true rfl) d_Model_edgeAt_17 ⟨v_5, rfl, rfl⟩
abbrev m_s18_Model_edgeAt : Room := { frames := 0, cells := 0, slots := 0, locals := 0 }
set_option maxHeartbeats 4000000 in
set_option maxRecDepth 100000 in
theorem s18_Model_edgeAt (l : Launch) (G : zG) (b0 : Nat) (b1 : Int32) (b2 : Int32) (b3 : Int32) (b4 : Int32) (b5 : Nat) (b6 : Nat) (b7 : Nat) (b8 : Nat) (b9 : Int32) (b10 : Nat) (b11 : Int32) (b12 : Int32) (b13 : Int32) (b14 : Int32) (b15 : Nat) (b16 : Nat) (b17 : Nat) (b18 : Int32) (b19 : Nat) (b20 : Nat) (b21 : Nat) (b22 : Nat) (b23 : Nat) (b24 : Nat) (b25 : Nat) (b26 : Nat) (b27 : Nat) (b28 : Nat) (b29 : Nat) (b30 : Nat) (b31 : Int32) (b32 : Nat) (b33 : Nat) (b34 : Int32) (b35 : Int32) (b36 : Int32) (b37 : Int32) (b38 : Nat) (b39 : Nat) (b40 : Nat) (b41 : Nat) (b42 : Nat) (b43 : Nat) (b44 : Nat) (b45 : Int32) (b46 : Nat) (b47 : Nat) (b48 : Int32) (b49 : Nat) (b50 : Nat) (b51 : Nat) (b52 : Nat) (b53 : Nat) (b54 : Int32) (b55 : Nat) (b56 : Nat) (b57 : Nat) (b58 : Nat → Int32) (hb1 : zI b1 0 0) (hb2 : zI b2 0 239) (hb3 : zI b3 3 3) (hb9 : zI b9 0 8) (hb11 : zI b11 0 240) (hb12 : zI b12 0 240) (hb14 : zI b14 0 1) (hb18 : zI b18 0 12) (hb31 : zI b31 0 1) (hb34 : zI b34 0 1) (hb58 : zqa qE b58) : zM l G y_Model_edgeAt prog_14_method_25_code 4 (Option.some Jvm.ClassFile.FieldType.int) m_s18_Model_edgeAt [.ref b0, .int b1, .int b2, .int b3] [(b0, .inr (12, [.int b4, .ref b5, .ref b6, .ref b7, .ref b8, .int b9, .ref b10, .int b11, .int b12, .int b13, .int b14, .ref b15, .ref b16, .ref b17, .int b18, .ref b19, .ref b20, .ref b21, .ref b22, .ref b23, .ref b24, .ref b25, .ref b26, .ref b27, .ref b28, .ref b29, .ref b30, .int b31, .ref b32, .ref b33, .int b34, .int b35, .int b36, .int b37, .ref b38, .ref b39, .ref b40, .ref b41, .ref b42, .ref b43, .ref b44, .int b45, .ref b46, .ref b47, .int b48, .ref b49, .ref b50, .ref b51, .ref b52, .ref b53, .int b54, .ref b55, .ref b56, .ref b57])), (b30, .inl (G.2 0, 2880, .inl b58))] (fun v w => ∃ (e0 : Int32), v = some (.int e0) ∧ w = [(b0, .inr (12, [.int b4, .ref b5, .ref b6, .ref b7, .ref b8, .int b9, .ref b10, .int b11, .int b12, .int b13, .int b14, .ref b15, .ref b16, .ref b17, .int b18, .ref b19, .ref b20, .ref b21, .ref b22, .ref b23, .ref b24, .ref b25, .ref b26, .ref b27, .ref b28, .ref b29, .ref b30, .int b31, .ref b32, .ref b33, .int b34, .int b35, .int b36, .int b37, .ref b38, .ref b39, .ref b40, .ref b41, .ref b42, .ref b43, .ref b44, .int b45, .ref b46, .ref b47, .int b48, .ref b49, .ref b50, .ref b51, .ref b52, .ref b53, .int b54, .ref b55, .ref b56, .ref b57])), (b30, .inl (G.2 0, 2880, .inl b58))]) := by
  refine z_start (by decide +kernel) (Nat.le_of_ble_eq_true rfl) ?_
  intro p e s m below meth c A Z hr hnm hA hP hD hS ls hl
  have Z : zC p s m _ meth c prog_14_method_25_code 4 "TraceMachinesModel" G := Z
  obtain ⟨hx, hb, hml, hown, hts, hK, hN, hlocks⟩ := id Z
  have hl : lv_has ls 4 [(0, .ref b0), (1, .int b1), (2, .int b2), (3, .int b3)] := hl
  refine lv_aload_n hx hb d_Model_edgeAt_0 rfl (lv_at hl 0 rfl) ?_
  refine va_get (D := G.1) (ci := 12) (v := .ref b30) (C := R_Model) (T := F_Model) (N := 54) hx hb hts i_Model hown hK hP 0 rfl rfl 26 (by decide) (hts _ q1135) (fun _ h9 => h9) rfl d_Model_edgeAt_1 ?_
  refine lv_bipush (v := 6) hx hb d_Model_edgeAt_4 (by decide) ?_
  refine lv_sipush (v := 240) hx hb d_Model_edgeAt_6 (by decide) ?_
  refine lv_iload_n hx hb d_Model_edgeAt_9 rfl (lv_at hl 1 rfl) ?_
  refine lv_imul hx hb d_Model_edgeAt_10 ?_
  refine lv_topi (fun v_1 ev_1 => ?_)
  obtain ⟨qv_1, hv_1⟩ := zI_mul (l := 0) (h := 0) zc_240 hb1 ev_1 (by decide)
  rw [li_240] at qv_1
  refine lv_iload_n hx hb d_Model_edgeAt_11 rfl (lv_at hl 2 rfl) ?_
  refine lv_iadd hx hb d_Model_edgeAt_12 ?_
  refine lv_topi (fun v_2 ev_2 => ?_)
  obtain ⟨qv_2, hv_2⟩ := zI_add (l := 0) (h := 239) hv_1 hb2 ev_2 (by decide)
  refine lv_imul hx hb d_Model_edgeAt_13 ?_
  refine lv_topi (fun v_3 ev_3 => ?_)
  obtain ⟨qv_3, hv_3⟩ := zI_mul (l := 0) (h := 1434) zc_6 hv_2 ev_3 (by decide)
  rw [li_6] at qv_3
  refine lv_iload_n hx hb d_Model_edgeAt_14 rfl (lv_at hl 3 rfl) ?_
  refine lv_iadd hx hb d_Model_edgeAt_15 ?_
  refine lv_topi (fun v_4 ev_4 => ?_)
  obtain ⟨qv_4, hv_4⟩ := zI_add (l := 3) (h := 1437) hv_3 hb3 ev_4 (by decide)
  refine va_iald hx hb hK hP 1 0 rfl rfl (zI.inn hv_4 (by decide)) d_Model_edgeAt_16 ?_
  refine lv_topi (fun v_5 ev_5 => ?_)
  have kv_5 := zQE.ld hb58 hv_4 ev_5 (by decide)
  exact z_iret hx hb hr hlocks hP hD hS (Nat.le_of_ble_eq_true rfl) (Nat.le_of_ble_eq_true rfl) d_Model_edgeAt_17 ⟨v_5, rfl, rfl⟩
abbrev m_s1_Model_leaving : Room := { frames := 1, cells := 0, slots := 0, locals := 23 }
set_option maxHeartbeats 4000000 in
set_option maxRecDepth 100000 in
theorem s1_Model_leaving (l : Launch) (G : zG) (b0 : Nat) (b1 : Int32) (b2 : Int32) (b3 : Int32) (b4 : Nat) (b5 : Nat) (b6 : Nat) (b7 : Nat) (b8 : Int32) (b9 : Nat) (b10 : Int32) (b11 : Int32) (b12 : Int32) (b13 : Int32) (b14 : Nat) (b15 : Nat) (b16 : Nat) (b17 : Int32) (b18 : Nat) (b19 : Nat) (b20 : Nat) (b21 : Nat) (b22 : Nat) (b23 : Nat) (b24 : Nat) (b25 : Nat) (b26 : Nat) (b27 : Nat) (b28 : Nat) (b29 : Nat) (b30 : Int32) (b31 : Nat) (b32 : Nat) (b33 : Int32) (b34 : Int32) (b35 : Int32) (b36 : Int32) (b37 : Nat) (b38 : Nat) (b39 : Nat) (b40 : Nat) (b41 : Nat) (b42 : Nat) (b43 : Nat) (b44 : Int32) (b45 : Nat) (b46 : Nat) (b47 : Int32) (b48 : Nat) (b49 : Nat) (b50 : Nat) (b51 : Nat) (b52 : Nat) (b53 : Int32) (b54 : Nat) (b55 : Nat) (b56 : Nat) (b57 : Nat → Int32) (b58 : Nat → Int32) (hb8 : zI b8 0 8) (hb10 : zI b10 0 240) (hb11 : zI b11 0 240) (hb13 : zI b13 0 1) (hb17 : zI b17 0 12) (hb30 : zI b30 0 1) (hb33 : zI b33 0 1) (hb57 : zR b57 0 240) (hb58 : zqa qE b58) : zM l G y_Model_leaving prog_14_method_39_code 5 (Option.some Jvm.ClassFile.FieldType.int) m_s1_Model_leaving [.ref b0, .int b1, .int b2] [(b0, .inr (12, [.int b3, .ref b4, .ref b5, .ref b6, .ref b7, .int b8, .ref b9, .int b10, .int b11, .int b12, .int b13, .ref b14, .ref b15, .ref b16, .int b17, .ref b18, .ref b19, .ref b20, .ref b21, .ref b22, .ref b23, .ref b24, .ref b25, .ref b26, .ref b27, .ref b28, .ref b29, .int b30, .ref b31, .ref b32, .int b33, .int b34, .int b35, .int b36, .ref b37, .ref b38, .ref b39, .ref b40, .ref b41, .ref b42, .ref b43, .int b44, .ref b45, .ref b46, .int b47, .ref b48, .ref b49, .ref b50, .ref b51, .ref b52, .int b53, .ref b54, .ref b55, .ref b56])), (b28, .inl (G.2 0, 2, .inl b57)), (b29, .inl (G.2 0, 2880, .inl b58))] (fun v w => ∃ (e0 : Int32), v = some (.int e0) ∧ w = [(b0, .inr (12, [.int b3, .ref b4, .ref b5, .ref b6, .ref b7, .int b8, .ref b9, .int b10, .int b11, .int b12, .int b13, .ref b14, .ref b15, .ref b16, .int b17, .ref b18, .ref b19, .ref b20, .ref b21, .ref b22, .ref b23, .ref b24, .ref b25, .ref b26, .ref b27, .ref b28, .ref b29, .int b30, .ref b31, .ref b32, .int b33, .int b34, .int b35, .int b36, .ref b37, .ref b38, .ref b39, .ref b40, .ref b41, .ref b42, .ref b43, .int b44, .ref b45, .ref b46, .int b47, .ref b48, .ref b49, .ref b50, .ref b51, .ref b52, .int b53, .ref b54, .ref b55, .ref b56])), (b28, .inl (G.2 0, 2, .inl b57)), (b29, .inl (G.2 0, 2880, .inl b58))]) := by
  refine z_start (by decide +kernel) (Nat.le_of_ble_eq_true rfl) ?_
  intro p e s m below meth c A Z hr hnm hA hP hD hS ls hl
  have Z : zC p s m _ meth c prog_14_method_39_code 5 "TraceMachinesModel" G := Z
  obtain ⟨hx, hb, hml, hown, hts, hK, hN, hlocks⟩ := id Z
  have hl : lv_has ls 5 [(0, .ref b0), (1, .int b1), (2, .int b2)] := hl
  refine lv_iconst (v := 0) hx hb d_Model_leaving_0 (by decide) ?_
  refine lv_istore_n (lv' := [(3, .int 0), (0, .ref b0), (1, .int b1), (2, .int b2)]) hx hb d_Model_leaving_1 rfl hl (by decide) rfl (fun ls hl => ?_)
  refine lv_iconst (v := 0) hx hb d_Model_leaving_2 (by decide) ?_
  refine lv_istore (lv' := [(4, .int 0), (3, .int 0), (0, .ref b0), (1, .int b1), (2, .int b2)]) hx hb d_Model_leaving_3 hl (by decide) rfl (fun ls hl => ?_)
  suffices key : ∀ (k_194 : Nat) (y_195 : Int32) (y_196 : Int32) (H : Heap) (locs : List Loc) (ls : Array Slot), (zI y_195 0 240) → (240 : Int) - y_195.toInt < (k_194 : Int) → va_P G.1 classes [(b0, .inr (12, [.int b3, .ref b4, .ref b5, .ref b6, .ref b7, .int b8, .ref b9, .int b10, .int b11, .int b12, .int b13, .ref b14, .ref b15, .ref b16, .int b17, .ref b18, .ref b19, .ref b20, .ref b21, .ref b22, .ref b23, .ref b24, .ref b25, .ref b26, .ref b27, .ref b28, .ref b29, .int b30, .ref b31, .ref b32, .int b33, .int b34, .int b35, .int b36, .ref b37, .ref b38, .ref b39, .ref b40, .ref b41, .ref b42, .ref b43, .int b44, .ref b45, .ref b46, .int b47, .ref b48, .ref b49, .ref b50, .ref b51, .ref b52, .int b53, .ref b54, .ref b55, .ref b56])), (b28, .inl (G.2 0, 2, .inl b57)), (b29, .inl (G.2 0, 2880, .inl b58))] H → va_D A [(b0, .inr (12, [.int b3, .ref b4, .ref b5, .ref b6, .ref b7, .int b8, .ref b9, .int b10, .int b11, .int b12, .int b13, .ref b14, .ref b15, .ref b16, .int b17, .ref b18, .ref b19, .ref b20, .ref b21, .ref b22, .ref b23, .ref b24, .ref b25, .ref b26, .ref b27, .ref b28, .ref b29, .int b30, .ref b31, .ref b32, .int b33, .int b34, .int b35, .int b36, .ref b37, .ref b38, .ref b39, .ref b40, .ref b41, .ref b42, .ref b43, .int b44, .ref b45, .ref b46, .int b47, .ref b48, .ref b49, .ref b50, .ref b51, .ref b52, .int b53, .ref b54, .ref b55, .ref b56])), (b28, .inl (G.2 0, 2, .inl b57)), (b29, .inl (G.2 0, 2880, .inl b58))] → va_S A s.heap H locs → lv_has ls 5 [(4, .int y_195), (3, .int y_196), (0, .ref b0), (1, .int b1), (2, .int b2)] → W p l e m_s1_Model_leaving s m ([.ref b0, .int b1, .int b2] : List Value).toArray below meth c H locs 0 0 (MQ below (zQ G (fun v w => ∃ (e0 : Int32), v = some (.int e0) ∧ w = [(b0, .inr (12, [.int b3, .ref b4, .ref b5, .ref b6, .ref b7, .int b8, .ref b9, .int b10, .int b11, .int b12, .int b13, .ref b14, .ref b15, .ref b16, .int b17, .ref b18, .ref b19, .ref b20, .ref b21, .ref b22, .ref b23, .ref b24, .ref b25, .ref b26, .ref b27, .ref b28, .ref b29, .int b30, .ref b31, .ref b32, .int b33, .int b34, .int b35, .int b36, .ref b37, .ref b38, .ref b39, .ref b40, .ref b41, .ref b42, .ref b43, .int b44, .ref b45, .ref b46, .int b47, .ref b48, .ref b49, .ref b50, .ref b51, .ref b52, .int b53, .ref b54, .ref b55, .ref b56])), (b28, .inl (G.2 0, 2, .inl b57)), (b29, .inl (G.2 0, 2880, .inl b58))]) A) ([.ref b0, .int b1, .int b2] : List Value).toArray s m_s1_Model_leaving.cells m_s1_Model_leaving.slots A) (F0 m 5 ls []) by
    exact key 241 (0) (0) _ _ _ (zI.wk (l' := 0) (h' := 240) zc_0 (by decide)) (zm_upi (zI.wk (l' := 0) (h' := 240) zc_0 (by decide)) (by decide)) hP hD hS (lv_sub hl [0, 1, 2, 3, 4] rfl)
  intro k_194
  induction k_194 with
  | zero =>
    intro y_195 y_196 H locs ls hy_195 hmk_194 hP hD hS hl
    exact (zm_up0 hy_195 hmk_194).elim
  | succ k_194 ihk_194 =>
    intro y_195 y_196 H locs ls hy_195 hmk_194 hP hD hS hl
    refine lv_iload hx hb d_Model_leaving_5 (lv_at hl 0 rfl) ?_
    refine lv_aload_n hx hb d_Model_leaving_7 rfl (lv_at hl 2 rfl) ?_
    refine va_get (D := G.1) (ci := 12) (v := .ref b28) (C := R_Model) (T := F_Model) (N := 54) hx hb hts i_Model hown hK hP 0 rfl rfl 25 (by decide) (hts _ q1134) (fun _ h9 => h9) rfl d_Model_leaving_8 ?_
    refine lv_iconst (v := 0) hx hb d_Model_leaving_11 (by decide) ?_
    refine va_iald hx hb hK hP 1 0 rfl rfl (i := 0) (z_in rfl) d_Model_leaving_12 ?_
    refine lv_topi (fun v_197 ev_197 => ?_)
    have hv_197 : zI v_197 0 240 := (hb57 _).eq ev_197
    refine lv_icmp_ge (tgt := 57) hx hb d_Model_leaving_13 (by decide) (fun hc_198 => ?_) (fun hc_198 => ?_)
    · have _nhc_198 := hc_198
      have ni_199 := (fa_le _ _).mp hc_198
      refine lv_iload_n hx hb d_Model_leaving_57 rfl (lv_at hl 1 rfl) ?_
      exact z_iret hx hb hr hlocks hP hD hS (Nat.le_of_ble_eq_true rfl) (Nat.le_of_ble_eq_true rfl) d_Model_leaving_58 ⟨y_196, rfl, rfl⟩
    · have _nhc_198 := hc_198
      have ni_200 := (fa_lt _ _).mp (zi_nle hc_198)
      have hv_201 : zI y_195 0 239 := zI.lt_l hy_195 hv_197 (zi_nle hc_198) (by decide)
      have hv_202 : zI v_197 1 240 := zI.lt_r hy_195 hv_197 (zi_nle hc_198) (by decide)
      refine lv_iload_n hx hb d_Model_leaving_16 rfl (lv_at hl 1 rfl) ?_
      refine lv_aload_n hx hb d_Model_leaving_17 rfl (lv_at hl 2 rfl) ?_
      refine lv_iconst (v := 0) hx hb d_Model_leaving_18 (by decide) ?_
      refine lv_iload hx hb d_Model_leaving_19 (lv_at hl 0 rfl) ?_
      refine lv_iconst (v := 0) hx hb d_Model_leaving_21 (by decide) ?_
      refine z_callV (index := 225) (As := [.int 0, .int y_195, .int 0]) (rest := [.int y_196]) (wr := [(b28, .inl (G.2 0, 2, .inl b57))]) Z (s17_Model_edgeAt l G (b0) (0) (y_195) (0) (b3) (b4) (b5) (b6) (b7) (b8) (b9) (b10) (b11) (b12) (b13) (b14) (b15) (b16) (b17) (b18) (b19) (b20) (b21) (b22) (b23) (b24) (b25) (b26) (b27) (b28) (b29) (b30) (b31) (b32) (b33) (b34) (b35) (b36) (b37) (b38) (b39) (b40) (b41) (b42) (b43) (b44) (b45) (b46) (b47) (b48) (b49) (b50) (b51) (b52) (b53) (b54) (b55) (b56) (b58) zc_0 hv_201 zc_0 hb8 hb10 hb11 hb13 hb17 hb30 hb33 hb58) hl.1 q1408 q1410 qs68 q14 q1411 ⟨by decide, by decide, by show _ = some 3; decide +kernel⟩ ⟨Nat.le_of_ble_eq_true rfl, Nat.le_of_ble_eq_true rfl⟩ ⟨Nat.le_of_ble_eq_true rfl, Nat.le_of_ble_eq_true rfl⟩ rfl (Nat.le_of_ble_eq_true rfl) d_Model_leaving_22 hP hD hS hA 0 12 rfl rfl rfl [0, 2] [1] rfl rfl rfl rfl (by decide) (fun v w1 H locs hw_203 hP hD hS => ?_)
      obtain ⟨x_204, rfl, rfl⟩ := hw_203
      have hP : va_P G.1 classes [(b28, .inl (G.2 0, 2, .inl b57)), (b0, .inr (12, [.int b3, .ref b4, .ref b5, .ref b6, .ref b7, .int b8, .ref b9, .int b10, .int b11, .int b12, .int b13, .ref b14, .ref b15, .ref b16, .int b17, .ref b18, .ref b19, .ref b20, .ref b21, .ref b22, .ref b23, .ref b24, .ref b25, .ref b26, .ref b27, .ref b28, .ref b29, .int b30, .ref b31, .ref b32, .int b33, .int b34, .int b35, .int b36, .ref b37, .ref b38, .ref b39, .ref b40, .ref b41, .ref b42, .ref b43, .int b44, .ref b45, .ref b46, .int b47, .ref b48, .ref b49, .ref b50, .ref b51, .ref b52, .int b53, .ref b54, .ref b55, .ref b56])), (b29, .inl (G.2 0, 2880, .inl b58))] H := hP
      have hD := z_tie hP hD rfl
      refine W.widen (k := 0) (n := 0) (Nat.le_of_ble_eq_true rfl) (Nat.le_of_ble_eq_true rfl) ?_
      refine lv_iload_n hx hb d_Model_leaving_25 rfl (lv_at hl 3 rfl) ?_
      refine lv_icmp_ne (tgt := 48) hx hb d_Model_leaving_26 (by decide) (fun hc_205 => ?_) (fun hc_205 => ?_)
      · have _nhc_205 := hc_205
        have ni_206 : ¬ (x_204 : Int32).toInt = (b1 : Int32).toInt := fun z => hc_205 ((fa_eq _ _).mpr z)
        refine lv_iconst (v := 0) hx hb d_Model_leaving_48 (by decide) ?_
        refine lv_iadd hx hb d_Model_leaving_49 ?_
        refine lv_topi (fun v_207 ev_207 => ?_)
        obtain ⟨qv_207, hv_207⟩ := zI_add (l := -2147483648) (h := 2147483647) (zI_all y_196) zc_0 ev_207 (by decide)
        rw [li_0] at qv_207
        refine lv_istore_n (lv' := [(3, .int v_207), (4, .int y_195), (0, .ref b0), (1, .int b1), (2, .int b2)]) hx hb d_Model_leaving_50 rfl hl (by decide) rfl (fun ls hl => ?_)
        obtain ⟨v_208, ev_208⟩ : ∃ z : Int32, z = y_195 + 1 := ⟨_, rfl⟩
        obtain ⟨qv_208, hv_208⟩ := zI_add (l := 1) (h := 240) hv_201 zc_1 ev_208 (by decide)
        rw [li_1] at qv_208
        refine lv_iinc (v := v_208) (lv' := [(4, .int v_208), (3, .int v_207), (0, .ref b0), (1, .int b1), (2, .int b2)]) hx hb d_Model_leaving_51 hl (k := 1) rfl (by rw [ev_208]; rfl) (by decide) rfl (fun ls hl => ?_)
        refine lv_goto (tgt := 5) hx hb d_Model_leaving_54 (by decide) ?_
        exact ihk_194 (v_208) (v_207) _ _ _ (zI.wk (l' := 0) (h' := 240) hv_208 (by decide)) (zm_up qv_208 hmk_194 (by decide)) (hP.sub [1, 0, 2] rfl) (hD.sub [1, 0, 2] (by decide) rfl) hS (lv_sub hl [0, 1, 2, 3, 4] rfl)
      · have _nhc_205 := hc_205
        have ni_209 := (fa_eq _ _).mp hc_205
        refine lv_iload_n hx hb d_Model_leaving_29 rfl (lv_at hl 4 rfl) ?_
        refine lv_if_eq (tgt := 44) hx hb d_Model_leaving_30 (by decide) (fun hc_210 => ?_) (fun hc_210 => ?_)
        · have _nhc_210 := hc_210
          have ni_211 := (fa_eq _ _).mp hc_210
          rw [li_0] at ni_211
          have hv_212 : zI b2 0 0 := zI.eq_l (zI_all b2) zc_0 hc_210
          refine lv_iconst (v := 1) hx hb d_Model_leaving_44 (by decide) ?_
          refine lv_goto (tgt := 49) hx hb d_Model_leaving_45 (by decide) ?_
          refine lv_iadd hx hb d_Model_leaving_49 ?_
          refine lv_topi (fun v_213 ev_213 => ?_)
          refine lv_istore_n (lv' := [(3, .int v_213), (4, .int y_195), (0, .ref b0), (1, .int b1), (2, .int b2)]) hx hb d_Model_leaving_50 rfl hl (by decide) rfl (fun ls hl => ?_)
          obtain ⟨v_214, ev_214⟩ : ∃ z : Int32, z = y_195 + 1 := ⟨_, rfl⟩
          obtain ⟨qv_214, hv_214⟩ := zI_add (l := 1) (h := 240) hv_201 zc_1 ev_214 (by decide)
          rw [li_1] at qv_214
          refine lv_iinc (v := v_214) (lv' := [(4, .int v_214), (3, .int v_213), (0, .ref b0), (1, .int b1), (2, .int b2)]) hx hb d_Model_leaving_51 hl (k := 1) rfl (by rw [ev_214]; rfl) (by decide) rfl (fun ls hl => ?_)
          refine lv_goto (tgt := 5) hx hb d_Model_leaving_54 (by decide) ?_
          exact ihk_194 (v_214) (v_213) _ _ _ (zI.wk (l' := 0) (h' := 240) hv_214 (by decide)) (zm_up qv_214 hmk_194 (by decide)) (hP.sub [1, 0, 2] rfl) (hD.sub [1, 0, 2] (by decide) rfl) hS (lv_sub hl [0, 1, 2, 3, 4] rfl)
        · have _nhc_210 := hc_210
          have ni_215 : ¬ (b2 : Int32).toInt = (0 : Int32).toInt := fun z => hc_210 ((fa_eq _ _).mpr z)
          simp only [li_0] at ni_215
          refine lv_aload_n hx hb d_Model_leaving_33 rfl (lv_at hl 2 rfl) ?_
          refine lv_iconst (v := 0) hx hb d_Model_leaving_34 (by decide) ?_
          refine lv_iload hx hb d_Model_leaving_35 (lv_at hl 0 rfl) ?_
          refine lv_iconst (v := 3) hx hb d_Model_leaving_37 (by decide) ?_
          refine z_callV (index := 225) (As := [.int 0, .int y_195, .int 3]) (rest := [.int y_196]) (wr := [(b28, .inl (G.2 0, 2, .inl b57))]) Z (s18_Model_edgeAt l G (b0) (0) (y_195) (3) (b3) (b4) (b5) (b6) (b7) (b8) (b9) (b10) (b11) (b12) (b13) (b14) (b15) (b16) (b17) (b18) (b19) (b20) (b21) (b22) (b23) (b24) (b25) (b26) (b27) (b28) (b29) (b30) (b31) (b32) (b33) (b34) (b35) (b36) (b37) (b38) (b39) (b40) (b41) (b42) (b43) (b44) (b45) (b46) (b47) (b48) (b49) (b50) (b51) (b52) (b53) (b54) (b55) (b56) (b58) zc_0 hv_201 zc_3 hb8 hb10 hb11 hb13 hb17 hb30 hb33 hb58) hl.1 q1408 q1410 qs68 q14 q1411 ⟨by decide, by decide, by show _ = some 3; decide +kernel⟩ ⟨Nat.le_of_ble_eq_true rfl, Nat.le_of_ble_eq_true rfl⟩ ⟨Nat.le_of_ble_eq_true rfl, Nat.le_of_ble_eq_true rfl⟩ rfl (Nat.le_of_ble_eq_true rfl) d_Model_leaving_38 hP hD hS hA 1 12 rfl rfl rfl [1, 2] [0] rfl rfl rfl rfl (by decide) (fun v w1 H locs hw_216 hP hD hS => ?_)
          obtain ⟨x_217, rfl, rfl⟩ := hw_216
          have hP : va_P G.1 classes [(b28, .inl (G.2 0, 2, .inl b57)), (b0, .inr (12, [.int b3, .ref b4, .ref b5, .ref b6, .ref b7, .int b8, .ref b9, .int b10, .int b11, .int b12, .int b13, .ref b14, .ref b15, .ref b16, .int b17, .ref b18, .ref b19, .ref b20, .ref b21, .ref b22, .ref b23, .ref b24, .ref b25, .ref b26, .ref b27, .ref b28, .ref b29, .int b30, .ref b31, .ref b32, .int b33, .int b34, .int b35, .int b36, .ref b37, .ref b38, .ref b39, .ref b40, .ref b41, .ref b42, .ref b43, .int b44, .ref b45, .ref b46, .int b47, .ref b48, .ref b49, .ref b50, .ref b51, .ref b52, .int b53, .ref b54, .ref b55, .ref b56])), (b29, .inl (G.2 0, 2880, .inl b58))] H := hP
          have hD := z_tie hP hD rfl
          refine W.widen (k := 0) (n := 0) (Nat.le_of_ble_eq_true rfl) (Nat.le_of_ble_eq_true rfl) ?_
          refine lv_goto (tgt := 49) hx hb d_Model_leaving_41 (by decide) ?_
          refine lv_iadd hx hb d_Model_leaving_49 ?_
          refine lv_topi (fun v_218 ev_218 => ?_)
          refine lv_istore_n (lv' := [(3, .int v_218), (4, .int y_195), (0, .ref b0), (1, .int b1), (2, .int b2)]) hx hb d_Model_leaving_50 rfl hl (by decide) rfl (fun ls hl => ?_)
          obtain ⟨v_219, ev_219⟩ : ∃ z : Int32, z = y_195 + 1 := ⟨_, rfl⟩
          obtain ⟨qv_219, hv_219⟩ := zI_add (l := 1) (h := 240) hv_201 zc_1 ev_219 (by decide)
          rw [li_1] at qv_219
          refine lv_iinc (v := v_219) (lv' := [(4, .int v_219), (3, .int v_218), (0, .ref b0), (1, .int b1), (2, .int b2)]) hx hb d_Model_leaving_51 hl (k := 1) rfl (by rw [ev_219]; rfl) (by decide) rfl (fun ls hl => ?_)
          refine lv_goto (tgt := 5) hx hb d_Model_leaving_54 (by decide) ?_
          exact ihk_194 (v_219) (v_218) _ _ _ (zI.wk (l' := 0) (h' := 240) hv_219 (by decide)) (zm_up qv_219 hmk_194 (by decide)) (hP.sub [1, 0, 2] rfl) (hD.sub [1, 0, 2] (by decide) rfl) hS (lv_sub hl [0, 1, 2, 3, 4] rfl)
theorem d_Model_takeTrace_0 : decode prog_14_method_53_code 0 = .ok (.aload_n 0, 1) := by decide +kernel
theorem d_Model_takeTrace_1 : decode prog_14_method_53_code 1 = .ok (.aload_n 0, 1) := by decide +kernel
theorem d_Model_takeTrace_2 : decode prog_14_method_53_code 2 = .ok (.iload_n 1, 1) := by decide +kernel
theorem d_Model_takeTrace_3 : decode prog_14_method_53_code 3 = .ok (.invokevirtual 203, 3) := by decide +kernel
theorem d_Model_takeTrace_6 : decode prog_14_method_53_code 6 = .ok (.putfield 159, 3) := by decide +kernel
theorem d_Model_takeTrace_9 : decode prog_14_method_53_code 9 = .ok (.iconst 0, 1) := by decide +kernel
theorem d_Model_takeTrace_10 : decode prog_14_method_53_code 10 = .ok (.istore_n 2, 1) := by decide +kernel
theorem d_Model_takeTrace_11 : decode prog_14_method_53_code 11 = .ok (.iload_n 2, 1) := by decide +kernel
theorem d_Model_takeTrace_12 : decode prog_14_method_53_code 12 = .ok (.aload_n 0, 1) := by decide +kernel
theorem d_Model_takeTrace_13 : decode prog_14_method_53_code 13 = .ok (.getfield 159, 3) := by decide +kernel
theorem d_Model_takeTrace_16 : decode prog_14_method_53_code 16 = .ok (.if_icmp .ge 33, 3) := by decide +kernel
theorem d_Model_takeTrace_19 : decode prog_14_method_53_code 19 = .ok (.aload_n 0, 1) := by decide +kernel
theorem d_Model_takeTrace_20 : decode prog_14_method_53_code 20 = .ok (.getfield 34, 3) := by decide +kernel
theorem d_Model_takeTrace_23 : decode prog_14_method_53_code 23 = .ok (.iload_n 2, 1) := by decide +kernel
theorem d_Model_takeTrace_24 : decode prog_14_method_53_code 24 = .ok (.aload_n 0, 1) := by decide +kernel
theorem d_Model_takeTrace_25 : decode prog_14_method_53_code 25 = .ok (.iload_n 1, 1) := by decide +kernel
theorem d_Model_takeTrace_26 : decode prog_14_method_53_code 26 = .ok (.iload_n 2, 1) := by decide +kernel
theorem d_Model_takeTrace_27 : decode prog_14_method_53_code 27 = .ok (.invokevirtual 207, 3) := by decide +kernel
theorem d_Model_takeTrace_30 : decode prog_14_method_53_code 30 = .ok (.iastore, 1) := by decide +kernel
theorem d_Model_takeTrace_31 : decode prog_14_method_53_code 31 = .ok (.aload_n 0, 1) := by decide +kernel
theorem d_Model_takeTrace_32 : decode prog_14_method_53_code 32 = .ok (.getfield 37, 3) := by decide +kernel
theorem d_Model_takeTrace_35 : decode prog_14_method_53_code 35 = .ok (.iload_n 2, 1) := by decide +kernel
theorem d_Model_takeTrace_36 : decode prog_14_method_53_code 36 = .ok (.aload_n 0, 1) := by decide +kernel
theorem d_Model_takeTrace_37 : decode prog_14_method_53_code 37 = .ok (.iload_n 1, 1) := by decide +kernel
theorem d_Model_takeTrace_38 : decode prog_14_method_53_code 38 = .ok (.iload_n 2, 1) := by decide +kernel
theorem d_Model_takeTrace_39 : decode prog_14_method_53_code 39 = .ok (.invokevirtual 238, 3) := by decide +kernel
theorem d_Model_takeTrace_42 : decode prog_14_method_53_code 42 = .ok (.iastore, 1) := by decide +kernel
theorem d_Model_takeTrace_43 : decode prog_14_method_53_code 43 = .ok (.iinc 2 1, 3) := by decide +kernel
theorem d_Model_takeTrace_46 : decode prog_14_method_53_code 46 = .ok (.goto (-35), 3) := by decide +kernel
theorem d_Model_takeTrace_49 : decode prog_14_method_53_code 49 = .ok (.return_, 1) := by decide +kernel
abbrev m_s1_Model_takeTrace : Room := { frames := 1, cells := 0, slots := 0, locals := 22 }
set_option maxHeartbeats 4000000 in
set_option maxRecDepth 100000 in
theorem s1_Model_takeTrace (l : Launch) (G : zG) (b0 : Nat) (b1 : Int32) (b2 : Int32) (b3 : Nat) (b4 : Nat) (b5 : Nat) (b6 : Nat) (b7 : Int32) (b8 : Nat) (b9 : Int32) (b10 : Int32) (b11 : Int32) (b12 : Int32) (b13 : Nat) (b14 : Nat) (b15 : Nat) (b16 : Int32) (b17 : Nat) (b18 : Nat) (b19 : Nat) (b20 : Nat) (b21 : Nat) (b22 : Nat) (b23 : Nat) (b24 : Nat) (b25 : Nat) (b26 : Nat) (b27 : Nat) (b28 : Nat) (b29 : Int32) (b30 : Nat) (b31 : Nat) (b32 : Int32) (b33 : Int32) (b34 : Int32) (b35 : Int32) (b36 : Nat) (b37 : Nat) (b38 : Nat) (b39 : Nat) (b40 : Nat) (b41 : Nat) (b42 : Nat) (b43 : Int32) (b44 : Nat) (b45 : Nat) (b46 : Int32) (b47 : Nat) (b48 : Nat) (b49 : Nat) (b50 : Nat) (b51 : Nat) (b52 : Int32) (b53 : Nat) (b54 : Nat) (b55 : Nat) (b56 : Nat → Int32) (b57 : Nat → Int32) (b58 : Nat → Int32) (hb1 : zI b1 0 19) (hb7 : zI b7 0 8) (hb9 : zI b9 0 240) (hb10 : zI b10 0 240) (hb12 : zI b12 0 1) (hb16 : zI b16 0 12) (hb29 : zI b29 0 1) (hb32 : zI b32 0 1) (hb56 : zW5 b56) (hb57 : zR b57 0 9) : zM l G y_Model_takeTrace prog_14_method_53_code 3 (Option.none : Option Jvm.ClassFile.FieldType) m_s1_Model_takeTrace [.ref b0, .int b1] [(b0, .inr (12, [.int b2, .ref b3, .ref b4, .ref b5, .ref b6, .int b7, .ref b8, .int b9, .int b10, .int b11, .int b12, .ref b13, .ref b14, .ref b15, .int b16, .ref b17, .ref b18, .ref b19, .ref b20, .ref b21, .ref b22, .ref b23, .ref b24, .ref b25, .ref b26, .ref b27, .ref b28, .int b29, .ref b30, .ref b31, .int b32, .int b33, .int b34, .int b35, .ref b36, .ref b37, .ref b38, .ref b39, .ref b40, .ref b41, .ref b42, .int b43, .ref b44, .ref b45, .int b46, .ref b47, .ref b48, .ref b49, .ref b50, .ref b51, .int b52, .ref b53, .ref b54, .ref b55])), (b3, .inl (G.2 0, 503, .inl b56)), (b14, .inl (G.2 0, 12, .inl b57)), (b15, .inl (G.2 0, 12, .inl b58))] (fun v w => ∃ (e0 : Int32), ∃ (e1 : Nat → Int32), ∃ (e2 : Nat → Int32), v = none ∧ w = [(b0, .inr (12, [.int b2, .ref b3, .ref b4, .ref b5, .ref b6, .int b7, .ref b8, .int b9, .int b10, .int b11, .int b12, .ref b13, .ref b14, .ref b15, .int e0, .ref b17, .ref b18, .ref b19, .ref b20, .ref b21, .ref b22, .ref b23, .ref b24, .ref b25, .ref b26, .ref b27, .ref b28, .int b29, .ref b30, .ref b31, .int b32, .int b33, .int b34, .int b35, .ref b36, .ref b37, .ref b38, .ref b39, .ref b40, .ref b41, .ref b42, .int b43, .ref b44, .ref b45, .int b46, .ref b47, .ref b48, .ref b49, .ref b50, .ref b51, .int b52, .ref b53, .ref b54, .ref b55])), (b3, .inl (G.2 0, 503, .inl b56)), (b14, .inl (G.2 0, 12, .inl e1)), (b15, .inl (G.2 0, 12, .inl e2))] ∧ (zI e0 0 12) ∧ (zR e1 0 9)) := by
  refine z_start (by decide +kernel) (Nat.le_of_ble_eq_true rfl) ?_
  intro p e s m below meth c A Z hr hnm hA hP hD hS ls hl
  have Z : zC p s m _ meth c prog_14_method_53_code 3 "TraceMachinesModel" G := Z
  obtain ⟨hx, hb, hml, hown, hts, hK, hN, hlocks⟩ := id Z
  have hl : lv_has ls 3 [(0, .ref b0), (1, .int b1)] := hl
  refine lv_aload_n hx hb d_Model_takeTrace_0 rfl (lv_at hl 0 rfl) ?_
  refine lv_aload_n hx hb d_Model_takeTrace_1 rfl (lv_at hl 0 rfl) ?_
  refine lv_iload_n hx hb d_Model_takeTrace_2 rfl (lv_at hl 1 rfl) ?_
  refine z_callV (index := 203) (As := [.int b1]) (rest := [.ref b0]) (wr := [(b14, .inl (G.2 0, 12, .inl b57)), (b15, .inl (G.2 0, 12, .inl b58))]) Z (s1_Model_calls l G (b0) (b1) (b2) (b3) (b4) (b5) (b6) (b7) (b8) (b9) (b10) (b11) (b12) (b13) (b14) (b15) (b16) (b17) (b18) (b19) (b20) (b21) (b22) (b23) (b24) (b25) (b26) (b27) (b28) (b29) (b30) (b31) (b32) (b33) (b34) (b35) (b36) (b37) (b38) (b39) (b40) (b41) (b42) (b43) (b44) (b45) (b46) (b47) (b48) (b49) (b50) (b51) (b52) (b53) (b54) (b55) (b56) hb1 hb7 hb9 hb10 hb12 hb16 hb29 hb32 hb56) hl.1 q1352 q1354 qs54 q14 q1355 ⟨by decide, by decide, by show _ = some 1; decide +kernel⟩ ⟨Nat.le_of_ble_eq_true rfl, Nat.le_of_ble_eq_true rfl⟩ ⟨Nat.le_of_ble_eq_true rfl, Nat.le_of_ble_eq_true rfl⟩ rfl (Nat.le_of_ble_eq_true rfl) d_Model_takeTrace_3 hP hD hS hA 0 12 rfl rfl rfl [0, 1] [2, 3] rfl rfl rfl rfl (by decide) (fun v w1 H locs hw_1 hP hD hS => ?_)
  obtain ⟨x_2, rfl, rfl, hx_2⟩ := hw_1
  have hP : va_P G.1 classes [(b14, .inl (G.2 0, 12, .inl b57)), (b15, .inl (G.2 0, 12, .inl b58)), (b0, .inr (12, [.int b2, .ref b3, .ref b4, .ref b5, .ref b6, .int b7, .ref b8, .int b9, .int b10, .int b11, .int b12, .ref b13, .ref b14, .ref b15, .int b16, .ref b17, .ref b18, .ref b19, .ref b20, .ref b21, .ref b22, .ref b23, .ref b24, .ref b25, .ref b26, .ref b27, .ref b28, .int b29, .ref b30, .ref b31, .int b32, .int b33, .int b34, .int b35, .ref b36, .ref b37, .ref b38, .ref b39, .ref b40, .ref b41, .ref b42, .int b43, .ref b44, .ref b45, .int b46, .ref b47, .ref b48, .ref b49, .ref b50, .ref b51, .int b52, .ref b53, .ref b54, .ref b55])), (b3, .inl (G.2 0, 503, .inl b56))] H := hP
  have hD := z_tie hP hD rfl
  refine W.widen (k := 0) (n := 0) (Nat.le_of_ble_eq_true rfl) (Nat.le_of_ble_eq_true rfl) ?_
  refine va_put (D := G.1) (ci := 12) (v := .int x_2) (ty := .int) (C := R_Model) (T := F_Model) (N := 54) hx hb hts i_Model t_Model t_Model_ok n_Model hown hK hP hD hS 2 rfl rfl 14 (by decide) (hts _ q1123) (fun _ h9 => h9) rfl (by decide +kernel) rfl rfl (Nat.le_of_ble_eq_true rfl) d_Model_takeTrace_6 (fun H locs hP hD hS => ?_)
  have hP : va_P G.1 classes [(b14, .inl (G.2 0, 12, .inl b57)), (b15, .inl (G.2 0, 12, .inl b58)), (b0, .inr (12, [.int b2, .ref b3, .ref b4, .ref b5, .ref b6, .int b7, .ref b8, .int b9, .int b10, .int b11, .int b12, .ref b13, .ref b14, .ref b15, .int x_2, .ref b17, .ref b18, .ref b19, .ref b20, .ref b21, .ref b22, .ref b23, .ref b24, .ref b25, .ref b26, .ref b27, .ref b28, .int b29, .ref b30, .ref b31, .int b32, .int b33, .int b34, .int b35, .ref b36, .ref b37, .ref b38, .ref b39, .ref b40, .ref b41, .ref b42, .int b43, .ref b44, .ref b45, .int b46, .ref b47, .ref b48, .ref b49, .ref b50, .ref b51, .int b52, .ref b53, .ref b54, .ref b55])), (b3, .inl (G.2 0, 503, .inl b56))] H := hP
  have hD := z_tie hP hD rfl
  refine lv_iconst (v := 0) hx hb d_Model_takeTrace_9 (by decide) ?_
  refine lv_istore_n (lv' := [(2, .int 0), (0, .ref b0), (1, .int b1)]) hx hb d_Model_takeTrace_10 rfl hl (by decide) rfl (fun ls hl => ?_)
  suffices key : ∀ (k_74 : Nat) (y_75 : Int32) (y_76 : Nat → Int32) (y_77 : Nat → Int32) (H : Heap) (locs : List Loc) (ls : Array Slot), (zI y_75 0 12) → (zR y_76 0 9) → (12 : Int) - y_75.toInt < (k_74 : Int) → va_P G.1 classes [(b14, .inl (G.2 0, 12, .inl y_76)), (b15, .inl (G.2 0, 12, .inl y_77)), (b0, .inr (12, [.int b2, .ref b3, .ref b4, .ref b5, .ref b6, .int b7, .ref b8, .int b9, .int b10, .int b11, .int b12, .ref b13, .ref b14, .ref b15, .int x_2, .ref b17, .ref b18, .ref b19, .ref b20, .ref b21, .ref b22, .ref b23, .ref b24, .ref b25, .ref b26, .ref b27, .ref b28, .int b29, .ref b30, .ref b31, .int b32, .int b33, .int b34, .int b35, .ref b36, .ref b37, .ref b38, .ref b39, .ref b40, .ref b41, .ref b42, .int b43, .ref b44, .ref b45, .int b46, .ref b47, .ref b48, .ref b49, .ref b50, .ref b51, .int b52, .ref b53, .ref b54, .ref b55])), (b3, .inl (G.2 0, 503, .inl b56))] H → va_D A [(b14, .inl (G.2 0, 12, .inl y_76)), (b15, .inl (G.2 0, 12, .inl y_77)), (b0, .inr (12, [.int b2, .ref b3, .ref b4, .ref b5, .ref b6, .int b7, .ref b8, .int b9, .int b10, .int b11, .int b12, .ref b13, .ref b14, .ref b15, .int x_2, .ref b17, .ref b18, .ref b19, .ref b20, .ref b21, .ref b22, .ref b23, .ref b24, .ref b25, .ref b26, .ref b27, .ref b28, .int b29, .ref b30, .ref b31, .int b32, .int b33, .int b34, .int b35, .ref b36, .ref b37, .ref b38, .ref b39, .ref b40, .ref b41, .ref b42, .int b43, .ref b44, .ref b45, .int b46, .ref b47, .ref b48, .ref b49, .ref b50, .ref b51, .int b52, .ref b53, .ref b54, .ref b55])), (b3, .inl (G.2 0, 503, .inl b56))] → va_S A s.heap H locs → lv_has ls 3 [(2, .int y_75), (0, .ref b0), (1, .int b1)] → W p l e m_s1_Model_takeTrace s m ([.ref b0, .int b1] : List Value).toArray below meth c H locs 0 0 (MQ below (zQ G (fun v w => ∃ (e0 : Int32), ∃ (e1 : Nat → Int32), ∃ (e2 : Nat → Int32), v = none ∧ w = [(b0, .inr (12, [.int b2, .ref b3, .ref b4, .ref b5, .ref b6, .int b7, .ref b8, .int b9, .int b10, .int b11, .int b12, .ref b13, .ref b14, .ref b15, .int e0, .ref b17, .ref b18, .ref b19, .ref b20, .ref b21, .ref b22, .ref b23, .ref b24, .ref b25, .ref b26, .ref b27, .ref b28, .int b29, .ref b30, .ref b31, .int b32, .int b33, .int b34, .int b35, .ref b36, .ref b37, .ref b38, .ref b39, .ref b40, .ref b41, .ref b42, .int b43, .ref b44, .ref b45, .int b46, .ref b47, .ref b48, .ref b49, .ref b50, .ref b51, .int b52, .ref b53, .ref b54, .ref b55])), (b3, .inl (G.2 0, 503, .inl b56)), (b14, .inl (G.2 0, 12, .inl e1)), (b15, .inl (G.2 0, 12, .inl e2))] ∧ (zI e0 0 12) ∧ (zR e1 0 9)) A) ([.ref b0, .int b1] : List Value).toArray s m_s1_Model_takeTrace.cells m_s1_Model_takeTrace.slots A) (F0 m 11 ls []) by
    exact key 13 (0) (b57) (b58) _ _ _ (zI.wk (l' := 0) (h' := 12) zc_0 (by decide)) hb57 (zm_upi (zI.wk (l' := 0) (h' := 12) zc_0 (by decide)) (by decide)) hP hD hS (lv_sub hl [0, 1, 2] rfl)
  intro k_74
  induction k_74 with
  | zero =>
    intro y_75 y_76 y_77 H locs ls hy_75 hy_76 hmk_74 hP hD hS hl
    exact (zm_up0 hy_75 hmk_74).elim
  | succ k_74 ihk_74 =>
    intro y_75 y_76 y_77 H locs ls hy_75 hy_76 hmk_74 hP hD hS hl
    refine lv_iload_n hx hb d_Model_takeTrace_11 rfl (lv_at hl 0 rfl) ?_
    refine lv_aload_n hx hb d_Model_takeTrace_12 rfl (lv_at hl 1 rfl) ?_
    refine va_get (D := G.1) (ci := 12) (v := .int x_2) (C := R_Model) (T := F_Model) (N := 54) hx hb hts i_Model hown hK hP 2 rfl rfl 14 (by decide) (hts _ q1123) (fun _ h9 => h9) rfl d_Model_takeTrace_13 ?_
    refine lv_icmp_ge (tgt := 49) hx hb d_Model_takeTrace_16 (by decide) (fun hc_78 => ?_) (fun hc_78 => ?_)
    · have _nhc_78 := hc_78
      have ni_79 := (fa_le _ _).mp hc_78
      exact z_vret hx hb hr hlocks (hP.sub [2, 3, 0, 1] rfl) (hD.sub [2, 3, 0, 1] (by decide) rfl) hS (Nat.le_of_ble_eq_true rfl) (Nat.le_of_ble_eq_true rfl) d_Model_takeTrace_49 ⟨x_2, y_76, y_77, rfl, rfl, hx_2, hy_76⟩
    · have _nhc_78 := hc_78
      have ni_80 := (fa_lt _ _).mp (zi_nle hc_78)
      have hv_81 : zI y_75 0 11 := zI.lt_l hy_75 hx_2 (zi_nle hc_78) (by decide)
      have hv_82 : zI x_2 1 12 := zI.lt_r hy_75 hx_2 (zi_nle hc_78) (by decide)
      refine lv_aload_n hx hb d_Model_takeTrace_19 rfl (lv_at hl 1 rfl) ?_
      refine va_get (D := G.1) (ci := 12) (v := .ref b14) (C := R_Model) (T := F_Model) (N := 54) hx hb hts i_Model hown hK hP 2 rfl rfl 12 (by decide) (hts _ q1121) (fun _ h9 => h9) rfl d_Model_takeTrace_20 ?_
      refine lv_iload_n hx hb d_Model_takeTrace_23 rfl (lv_at hl 0 rfl) ?_
      refine lv_aload_n hx hb d_Model_takeTrace_24 rfl (lv_at hl 1 rfl) ?_
      refine lv_iload_n hx hb d_Model_takeTrace_25 rfl (lv_at hl 2 rfl) ?_
      refine lv_iload_n hx hb d_Model_takeTrace_26 rfl (lv_at hl 0 rfl) ?_
      refine z_callV (index := 207) (As := [.int b1, .int y_75]) (rest := [.int y_75, .ref b14]) (wr := [(b14, .inl (G.2 0, 12, .inl y_76)), (b15, .inl (G.2 0, 12, .inl y_77))]) Z (s1_Model_letterAt l G (b0) (b1) (y_75) (b2) (b3) (b4) (b5) (b6) (b7) (b8) (b9) (b10) (b11) (b12) (b13) (b14) (b15) (x_2) (b17) (b18) (b19) (b20) (b21) (b22) (b23) (b24) (b25) (b26) (b27) (b28) (b29) (b30) (b31) (b32) (b33) (b34) (b35) (b36) (b37) (b38) (b39) (b40) (b41) (b42) (b43) (b44) (b45) (b46) (b47) (b48) (b49) (b50) (b51) (b52) (b53) (b54) (b55) (b56) hb1 hv_81 hb7 hb9 hb10 hb12 (zI.wk (l' := 0) (h' := 12) hv_82 (by decide)) hb29 hb32 hb56) hl.1 q1372 q1374 qs59 q14 q1375 ⟨by decide, by decide, by show _ = some 2; decide +kernel⟩ ⟨Nat.le_of_ble_eq_true rfl, Nat.le_of_ble_eq_true rfl⟩ ⟨Nat.le_of_ble_eq_true rfl, Nat.le_of_ble_eq_true rfl⟩ rfl (Nat.le_of_ble_eq_true rfl) d_Model_takeTrace_27 hP hD hS hA 2 12 rfl rfl rfl [2, 3] [0, 1] rfl rfl rfl rfl (by decide) (fun v w1 H locs hw_83 hP hD hS => ?_)
      obtain ⟨x_84, rfl, rfl, hx_84⟩ := hw_83
      have hP : va_P G.1 classes [(b14, .inl (G.2 0, 12, .inl y_76)), (b15, .inl (G.2 0, 12, .inl y_77)), (b0, .inr (12, [.int b2, .ref b3, .ref b4, .ref b5, .ref b6, .int b7, .ref b8, .int b9, .int b10, .int b11, .int b12, .ref b13, .ref b14, .ref b15, .int x_2, .ref b17, .ref b18, .ref b19, .ref b20, .ref b21, .ref b22, .ref b23, .ref b24, .ref b25, .ref b26, .ref b27, .ref b28, .int b29, .ref b30, .ref b31, .int b32, .int b33, .int b34, .int b35, .ref b36, .ref b37, .ref b38, .ref b39, .ref b40, .ref b41, .ref b42, .int b43, .ref b44, .ref b45, .int b46, .ref b47, .ref b48, .ref b49, .ref b50, .ref b51, .int b52, .ref b53, .ref b54, .ref b55])), (b3, .inl (G.2 0, 503, .inl b56))] H := hP
      have hD := z_tie hP hD rfl
      refine W.widen (k := 0) (n := 0) (Nat.le_of_ble_eq_true rfl) (Nat.le_of_ble_eq_true rfl) ?_
      refine va_iast hx hb hK hP hD hS 0 0 rfl rfl (zI.inn hv_81 (by decide)) d_Model_takeTrace_30 (fun H locs hP hD hS => ?_)
      obtain ⟨f_85, hf_85, gf_85, uf_85, hP, hD⟩ := z_newfu 0 hP hD rfl hy_76 hx_84
      have hP : va_P G.1 classes [(b14, .inl (G.2 0, 12, .inl f_85)), (b15, .inl (G.2 0, 12, .inl y_77)), (b0, .inr (12, [.int b2, .ref b3, .ref b4, .ref b5, .ref b6, .int b7, .ref b8, .int b9, .int b10, .int b11, .int b12, .ref b13, .ref b14, .ref b15, .int x_2, .ref b17, .ref b18, .ref b19, .ref b20, .ref b21, .ref b22, .ref b23, .ref b24, .ref b25, .ref b26, .ref b27, .ref b28, .int b29, .ref b30, .ref b31, .int b32, .int b33, .int b34, .int b35, .ref b36, .ref b37, .ref b38, .ref b39, .ref b40, .ref b41, .ref b42, .int b43, .ref b44, .ref b45, .int b46, .ref b47, .ref b48, .ref b49, .ref b50, .ref b51, .int b52, .ref b53, .ref b54, .ref b55])), (b3, .inl (G.2 0, 503, .inl b56))] H := hP
      have hD := z_tie hP hD rfl
      refine lv_aload_n hx hb d_Model_takeTrace_31 rfl (lv_at hl 1 rfl) ?_
      refine va_get (D := G.1) (ci := 12) (v := .ref b15) (C := R_Model) (T := F_Model) (N := 54) hx hb hts i_Model hown hK hP 2 rfl rfl 13 (by decide) (hts _ q1122) (fun _ h9 => h9) rfl d_Model_takeTrace_32 ?_
      refine lv_iload_n hx hb d_Model_takeTrace_35 rfl (lv_at hl 0 rfl) ?_
      refine lv_aload_n hx hb d_Model_takeTrace_36 rfl (lv_at hl 1 rfl) ?_
      refine lv_iload_n hx hb d_Model_takeTrace_37 rfl (lv_at hl 2 rfl) ?_
      refine lv_iload_n hx hb d_Model_takeTrace_38 rfl (lv_at hl 0 rfl) ?_
      refine z_callV (index := 238) (As := [.int b1, .int y_75]) (rest := [.int y_75, .ref b15]) (wr := [(b14, .inl (G.2 0, 12, .inl f_85)), (b15, .inl (G.2 0, 12, .inl y_77))]) Z (s1_Model_valueAt l G (b0) (b1) (y_75) (b2) (b3) (b4) (b5) (b6) (b7) (b8) (b9) (b10) (b11) (b12) (b13) (b14) (b15) (x_2) (b17) (b18) (b19) (b20) (b21) (b22) (b23) (b24) (b25) (b26) (b27) (b28) (b29) (b30) (b31) (b32) (b33) (b34) (b35) (b36) (b37) (b38) (b39) (b40) (b41) (b42) (b43) (b44) (b45) (b46) (b47) (b48) (b49) (b50) (b51) (b52) (b53) (b54) (b55) (b56) hb1 hv_81 hb7 hb9 hb10 hb12 (zI.wk (l' := 0) (h' := 12) hv_82 (by decide)) hb29 hb32 hb56) hl.1 q1412 q1414 qs69 q14 q1415 ⟨by decide, by decide, by show _ = some 2; decide +kernel⟩ ⟨Nat.le_of_ble_eq_true rfl, Nat.le_of_ble_eq_true rfl⟩ ⟨Nat.le_of_ble_eq_true rfl, Nat.le_of_ble_eq_true rfl⟩ rfl (Nat.le_of_ble_eq_true rfl) d_Model_takeTrace_39 hP hD hS hA 2 12 rfl rfl rfl [2, 3] [0, 1] rfl rfl rfl rfl (by decide) (fun v w1 H locs hw_86 hP hD hS => ?_)
      obtain ⟨x_87, rfl, rfl⟩ := hw_86
      have hP : va_P G.1 classes [(b14, .inl (G.2 0, 12, .inl f_85)), (b15, .inl (G.2 0, 12, .inl y_77)), (b0, .inr (12, [.int b2, .ref b3, .ref b4, .ref b5, .ref b6, .int b7, .ref b8, .int b9, .int b10, .int b11, .int b12, .ref b13, .ref b14, .ref b15, .int x_2, .ref b17, .ref b18, .ref b19, .ref b20, .ref b21, .ref b22, .ref b23, .ref b24, .ref b25, .ref b26, .ref b27, .ref b28, .int b29, .ref b30, .ref b31, .int b32, .int b33, .int b34, .int b35, .ref b36, .ref b37, .ref b38, .ref b39, .ref b40, .ref b41, .ref b42, .int b43, .ref b44, .ref b45, .int b46, .ref b47, .ref b48, .ref b49, .ref b50, .ref b51, .int b52, .ref b53, .ref b54, .ref b55])), (b3, .inl (G.2 0, 503, .inl b56))] H := hP
      have hD := z_tie hP hD rfl
      refine W.widen (k := 0) (n := 0) (Nat.le_of_ble_eq_true rfl) (Nat.le_of_ble_eq_true rfl) ?_
      refine va_iast hx hb hK hP hD hS 1 0 rfl rfl (zI.inn hv_81 (by decide)) d_Model_takeTrace_42 (fun H locs hP hD hS => ?_)
      obtain ⟨f_88, gf_88, uf_88, hP, hD⟩ := z_newFu 1 hP hD rfl
      have hP : va_P G.1 classes [(b14, .inl (G.2 0, 12, .inl f_85)), (b15, .inl (G.2 0, 12, .inl f_88)), (b0, .inr (12, [.int b2, .ref b3, .ref b4, .ref b5, .ref b6, .int b7, .ref b8, .int b9, .int b10, .int b11, .int b12, .ref b13, .ref b14, .ref b15, .int x_2, .ref b17, .ref b18, .ref b19, .ref b20, .ref b21, .ref b22, .ref b23, .ref b24, .ref b25, .ref b26, .ref b27, .ref b28, .int b29, .ref b30, .ref b31, .int b32, .int b33, .int b34, .int b35, .ref b36, .ref b37, .ref b38, .ref b39, .ref b40, .ref b41, .ref b42, .int b43, .ref b44, .ref b45, .int b46, .ref b47, .ref b48, .ref b49, .ref b50, .ref b51, .int b52, .ref b53, .ref b54, .ref b55])), (b3, .inl (G.2 0, 503, .inl b56))] H := hP
      have hD := z_tie hP hD rfl
      obtain ⟨v_89, ev_89⟩ : ∃ z : Int32, z = y_75 + 1 := ⟨_, rfl⟩
      obtain ⟨qv_89, hv_89⟩ := zI_add (l := 1) (h := 12) hv_81 zc_1 ev_89 (by decide)
      rw [li_1] at qv_89
      refine lv_iinc (v := v_89) (lv' := [(2, .int v_89), (0, .ref b0), (1, .int b1)]) hx hb d_Model_takeTrace_43 hl (k := 0) rfl (by rw [ev_89]; rfl) (by decide) rfl (fun ls hl => ?_)
      refine lv_goto (tgt := 11) hx hb d_Model_takeTrace_46 (by decide) ?_
      exact ihk_74 (v_89) (f_85) (f_88) _ _ _ (zI.wk (l' := 0) (h' := 12) hv_89 (by decide)) hf_85 (zm_up qv_89 hmk_74 (by decide)) hP hD hS (lv_sub hl [0, 1, 2] rfl)
theorem d_Model_ran_0 : decode prog_14_method_52_code 0 = .ok (.aload_n 0, 1) := by decide +kernel
theorem d_Model_ran_1 : decode prog_14_method_52_code 1 = .ok (.iconst 0, 1) := by decide +kernel
theorem d_Model_ran_2 : decode prog_14_method_52_code 2 = .ok (.putfield 1, 3) := by decide +kernel
theorem d_Model_ran_5 : decode prog_14_method_52_code 5 = .ok (.aload_n 0, 1) := by decide +kernel
theorem d_Model_ran_6 : decode prog_14_method_52_code 6 = .ok (.getfield 290, 3) := by decide +kernel
theorem d_Model_ran_9 : decode prog_14_method_52_code 9 = .ok (.ifCond .ne 5, 3) := by decide +kernel
theorem d_Model_ran_12 : decode prog_14_method_52_code 12 = .ok (.iconst (-1), 1) := by decide +kernel
theorem d_Model_ran_13 : decode prog_14_method_52_code 13 = .ok (.ireturn, 1) := by decide +kernel
theorem d_Model_ran_14 : decode prog_14_method_52_code 14 = .ok (.iload_n 1, 1) := by decide +kernel
theorem d_Model_ran_15 : decode prog_14_method_52_code 15 = .ok (.ifCond .ne 10, 3) := by decide +kernel
theorem d_Model_ran_18 : decode prog_14_method_52_code 18 = .ok (.aload_n 0, 1) := by decide +kernel
theorem d_Model_ran_19 : decode prog_14_method_52_code 19 = .ok (.getfield 296, 3) := by decide +kernel
theorem d_Model_ran_22 : decode prog_14_method_52_code 22 = .ok (.goto 28, 3) := by decide +kernel
theorem d_Model_ran_25 : decode prog_14_method_52_code 25 = .ok (.iload_n 1, 1) := by decide +kernel
theorem d_Model_ran_26 : decode prog_14_method_52_code 26 = .ok (.iconst 1, 1) := by decide +kernel
theorem d_Model_ran_27 : decode prog_14_method_52_code 27 = .ok (.if_icmp .ne 10, 3) := by decide +kernel
theorem d_Model_ran_30 : decode prog_14_method_52_code 30 = .ok (.aload_n 0, 1) := by decide +kernel
theorem d_Model_ran_31 : decode prog_14_method_52_code 31 = .ok (.getfield 299, 3) := by decide +kernel
theorem d_Model_ran_34 : decode prog_14_method_52_code 34 = .ok (.goto 16, 3) := by decide +kernel
theorem d_Model_ran_37 : decode prog_14_method_52_code 37 = .ok (.iload_n 1, 1) := by decide +kernel
theorem d_Model_ran_38 : decode prog_14_method_52_code 38 = .ok (.iconst 2, 1) := by decide +kernel
theorem d_Model_ran_39 : decode prog_14_method_52_code 39 = .ok (.if_icmp .ne 10, 3) := by decide +kernel
theorem d_Model_ran_42 : decode prog_14_method_52_code 42 = .ok (.aload_n 0, 1) := by decide +kernel
theorem d_Model_ran_43 : decode prog_14_method_52_code 43 = .ok (.getfield 302, 3) := by decide +kernel
theorem d_Model_ran_46 : decode prog_14_method_52_code 46 = .ok (.goto 4, 3) := by decide +kernel
theorem d_Model_ran_49 : decode prog_14_method_52_code 49 = .ok (.iconst (-1), 1) := by decide +kernel
theorem d_Model_ran_50 : decode prog_14_method_52_code 50 = .ok (.ireturn, 1) := by decide +kernel
abbrev m_s1_Model_ran : Room := { frames := 0, cells := 0, slots := 0, locals := 0 }
set_option maxHeartbeats 4000000 in
set_option maxRecDepth 100000 in
theorem s1_Model_ran (l : Launch) (G : zG) (b0 : Nat) (b1 : Int32) (b2 : Int32) (b3 : Nat) (b4 : Nat) (b5 : Nat) (b6 : Nat) (b7 : Int32) (b8 : Nat) (b9 : Int32) (b10 : Int32) (b11 : Int32) (b12 : Int32) (b13 : Nat) (b14 : Nat) (b15 : Nat) (b16 : Int32) (b17 : Nat) (b18 : Nat) (b19 : Nat) (b20 : Nat) (b21 : Nat) (b22 : Nat) (b23 : Nat) (b24 : Nat) (b25 : Nat) (b26 : Nat) (b27 : Nat) (b28 : Nat) (b29 : Int32) (b30 : Nat) (b31 : Nat) (b32 : Int32) (b33 : Int32) (b34 : Int32) (b35 : Int32) (b36 : Nat) (b37 : Nat) (b38 : Nat) (b39 : Nat) (b40 : Nat) (b41 : Nat) (b42 : Nat) (b43 : Int32) (b44 : Nat) (b45 : Nat) (b46 : Int32) (b47 : Nat) (b48 : Nat) (b49 : Nat) (b50 : Nat) (b51 : Nat) (b52 : Int32) (b53 : Nat) (b54 : Nat) (b55 : Nat) (hb7 : zI b7 0 8) (hb9 : zI b9 0 240) (hb10 : zI b10 0 240) (hb12 : zI b12 0 1) (hb16 : zI b16 0 12) (hb29 : zI b29 0 1) (hb32 : zI b32 0 1) : zM l G y_Model_ran prog_14_method_52_code 2 (Option.some Jvm.ClassFile.FieldType.int) m_s1_Model_ran [.ref b0, .int b1] [(b0, .inr (12, [.int b2, .ref b3, .ref b4, .ref b5, .ref b6, .int b7, .ref b8, .int b9, .int b10, .int b11, .int b12, .ref b13, .ref b14, .ref b15, .int b16, .ref b17, .ref b18, .ref b19, .ref b20, .ref b21, .ref b22, .ref b23, .ref b24, .ref b25, .ref b26, .ref b27, .ref b28, .int b29, .ref b30, .ref b31, .int b32, .int b33, .int b34, .int b35, .ref b36, .ref b37, .ref b38, .ref b39, .ref b40, .ref b41, .ref b42, .int b43, .ref b44, .ref b45, .int b46, .ref b47, .ref b48, .ref b49, .ref b50, .ref b51, .int b52, .ref b53, .ref b54, .ref b55]))] (fun v w => ∃ (e0 : Int32), v = some (.int e0) ∧ w = [(b0, .inr (12, [.int 0, .ref b3, .ref b4, .ref b5, .ref b6, .int b7, .ref b8, .int b9, .int b10, .int b11, .int b12, .ref b13, .ref b14, .ref b15, .int b16, .ref b17, .ref b18, .ref b19, .ref b20, .ref b21, .ref b22, .ref b23, .ref b24, .ref b25, .ref b26, .ref b27, .ref b28, .int b29, .ref b30, .ref b31, .int b32, .int b33, .int b34, .int b35, .ref b36, .ref b37, .ref b38, .ref b39, .ref b40, .ref b41, .ref b42, .int b43, .ref b44, .ref b45, .int b46, .ref b47, .ref b48, .ref b49, .ref b50, .ref b51, .int b52, .ref b53, .ref b54, .ref b55]))]) := by
  refine z_start (by decide +kernel) (Nat.le_of_ble_eq_true rfl) ?_
  intro p e s m below meth c A Z hr hnm hA hP hD hS ls hl
  have Z : zC p s m _ meth c prog_14_method_52_code 2 "TraceMachinesModel" G := Z
  obtain ⟨hx, hb, hml, hown, hts, hK, hN, hlocks⟩ := id Z
  have hl : lv_has ls 2 [(0, .ref b0), (1, .int b1)] := hl
  refine lv_aload_n hx hb d_Model_ran_0 rfl (lv_at hl 0 rfl) ?_
  refine lv_iconst (v := 0) hx hb d_Model_ran_1 (by decide) ?_
  refine va_put (D := G.1) (ci := 12) (v := .int 0) (ty := .int) (C := R_Model) (T := F_Model) (N := 54) hx hb hts i_Model t_Model t_Model_ok n_Model hown hK hP hD hS 0 rfl rfl 0 (by decide) (hts _ q1109) (fun _ h9 => h9) rfl (by decide +kernel) rfl rfl (Nat.le_of_ble_eq_true rfl) d_Model_ran_2 (fun H locs hP hD hS => ?_)
  have hP : va_P G.1 classes [(b0, .inr (12, [.int 0, .ref b3, .ref b4, .ref b5, .ref b6, .int b7, .ref b8, .int b9, .int b10, .int b11, .int b12, .ref b13, .ref b14, .ref b15, .int b16, .ref b17, .ref b18, .ref b19, .ref b20, .ref b21, .ref b22, .ref b23, .ref b24, .ref b25, .ref b26, .ref b27, .ref b28, .int b29, .ref b30, .ref b31, .int b32, .int b33, .int b34, .int b35, .ref b36, .ref b37, .ref b38, .ref b39, .ref b40, .ref b41, .ref b42, .int b43, .ref b44, .ref b45, .int b46, .ref b47, .ref b48, .ref b49, .ref b50, .ref b51, .int b52, .ref b53, .ref b54, .ref b55]))] H := hP
  have hD := z_tie hP hD rfl
  refine lv_aload_n hx hb d_Model_ran_5 rfl (lv_at hl 0 rfl) ?_
  refine va_get (D := G.1) (ci := 12) (v := .int b32) (C := R_Model) (T := F_Model) (N := 54) hx hb hts i_Model hown hK hP 0 rfl rfl 30 (by decide) (hts _ q1139) (fun _ h9 => h9) rfl d_Model_ran_6 ?_
  refine lv_if_ne (tgt := 14) hx hb d_Model_ran_9 (by decide) (fun hc_1 => ?_) (fun hc_1 => ?_)
  · have _nhc_1 := hc_1
    have ni_2 : ¬ (b32 : Int32).toInt = (0 : Int32).toInt := fun z => hc_1 ((fa_eq _ _).mpr z)
    simp only [li_0] at ni_2
    have hv_3 : zI b32 1 1 := zI.ne_lo hb32 zc_0 hc_1 (by decide)
    refine lv_iload_n hx hb d_Model_ran_14 rfl (lv_at hl 1 rfl) ?_
    refine lv_if_ne (tgt := 25) hx hb d_Model_ran_15 (by decide) (fun hc_4 => ?_) (fun hc_4 => ?_)
    · have _nhc_4 := hc_4
      have ni_5 : ¬ (b1 : Int32).toInt = (0 : Int32).toInt := fun z => hc_4 ((fa_eq _ _).mpr z)
      simp only [li_0] at ni_5
      refine lv_iload_n hx hb d_Model_ran_25 rfl (lv_at hl 1 rfl) ?_
      refine lv_iconst (v := 1) hx hb d_Model_ran_26 (by decide) ?_
      refine lv_icmp_ne (tgt := 37) hx hb d_Model_ran_27 (by decide) (fun hc_6 => ?_) (fun hc_6 => ?_)
      · have _nhc_6 := hc_6
        have ni_7 : ¬ (b1 : Int32).toInt = (1 : Int32).toInt := fun z => hc_6 ((fa_eq _ _).mpr z)
        simp only [li_1] at ni_7
        refine lv_iload_n hx hb d_Model_ran_37 rfl (lv_at hl 1 rfl) ?_
        refine lv_iconst (v := 2) hx hb d_Model_ran_38 (by decide) ?_
        refine lv_icmp_ne (tgt := 49) hx hb d_Model_ran_39 (by decide) (fun hc_8 => ?_) (fun hc_8 => ?_)
        · have _nhc_8 := hc_8
          have ni_9 : ¬ (b1 : Int32).toInt = (2 : Int32).toInt := fun z => hc_8 ((fa_eq _ _).mpr z)
          simp only [li_2] at ni_9
          refine lv_iconst (v := (-1)) hx hb d_Model_ran_49 (by decide) ?_
          exact z_iret hx hb hr hlocks hP hD hS (Nat.le_of_ble_eq_true rfl) (Nat.le_of_ble_eq_true rfl) d_Model_ran_50 ⟨(-1), rfl, rfl⟩
        · have _nhc_8 := hc_8
          have ni_10 := (fa_eq _ _).mp hc_8
          rw [li_2] at ni_10
          have hv_11 : zI b1 2 2 := zI.eq_l (zI_all b1) zc_2 hc_8
          refine lv_aload_n hx hb d_Model_ran_42 rfl (lv_at hl 0 rfl) ?_
          refine va_get (D := G.1) (ci := 12) (v := .int b35) (C := R_Model) (T := F_Model) (N := 54) hx hb hts i_Model hown hK hP 0 rfl rfl 33 (by decide) (hts _ q1142) (fun _ h9 => h9) rfl d_Model_ran_43 ?_
          refine lv_goto (tgt := 50) hx hb d_Model_ran_46 (by decide) ?_
          exact z_iret hx hb hr hlocks hP hD hS (Nat.le_of_ble_eq_true rfl) (Nat.le_of_ble_eq_true rfl) d_Model_ran_50 ⟨b35, rfl, rfl⟩
      · have _nhc_6 := hc_6
        have ni_12 := (fa_eq _ _).mp hc_6
        rw [li_1] at ni_12
        have hv_13 : zI b1 1 1 := zI.eq_l (zI_all b1) zc_1 hc_6
        refine lv_aload_n hx hb d_Model_ran_30 rfl (lv_at hl 0 rfl) ?_
        refine va_get (D := G.1) (ci := 12) (v := .int b34) (C := R_Model) (T := F_Model) (N := 54) hx hb hts i_Model hown hK hP 0 rfl rfl 32 (by decide) (hts _ q1141) (fun _ h9 => h9) rfl d_Model_ran_31 ?_
        refine lv_goto (tgt := 50) hx hb d_Model_ran_34 (by decide) ?_
        exact z_iret hx hb hr hlocks hP hD hS (Nat.le_of_ble_eq_true rfl) (Nat.le_of_ble_eq_true rfl) d_Model_ran_50 ⟨b34, rfl, rfl⟩
    · have _nhc_4 := hc_4
      have ni_14 := (fa_eq _ _).mp hc_4
      rw [li_0] at ni_14
      have hv_15 : zI b1 0 0 := zI.eq_l (zI_all b1) zc_0 hc_4
      refine lv_aload_n hx hb d_Model_ran_18 rfl (lv_at hl 0 rfl) ?_
      refine va_get (D := G.1) (ci := 12) (v := .int b33) (C := R_Model) (T := F_Model) (N := 54) hx hb hts i_Model hown hK hP 0 rfl rfl 31 (by decide) (hts _ q1140) (fun _ h9 => h9) rfl d_Model_ran_19 ?_
      refine lv_goto (tgt := 50) hx hb d_Model_ran_22 (by decide) ?_
      exact z_iret hx hb hr hlocks hP hD hS (Nat.le_of_ble_eq_true rfl) (Nat.le_of_ble_eq_true rfl) d_Model_ran_50 ⟨b33, rfl, rfl⟩
  · have _nhc_1 := hc_1
    have ni_16 := (fa_eq _ _).mp hc_1
    rw [li_0] at ni_16
    have hv_17 : zI b32 0 0 := zI.eq_l hb32 zc_0 hc_1
    refine lv_iconst (v := (-1)) hx hb d_Model_ran_12 (by decide) ?_
    exact z_iret hx hb hr hlocks hP hD hS (Nat.le_of_ble_eq_true rfl) (Nat.le_of_ble_eq_true rfl) d_Model_ran_13 ⟨(-1), rfl, rfl⟩
theorem d_Model_isAhead_0 : decode prog_14_method_83_code 0 = .ok (.aload_n 0, 1) := by decide +kernel
theorem d_Model_isAhead_1 : decode prog_14_method_83_code 1 = .ok (.getfield 128, 3) := by decide +kernel
theorem d_Model_isAhead_4 : decode prog_14_method_83_code 4 = .ok (.iload_n 1, 1) := by decide +kernel
theorem d_Model_isAhead_5 : decode prog_14_method_83_code 5 = .ok (.iaload, 1) := by decide +kernel
theorem d_Model_isAhead_6 : decode prog_14_method_83_code 6 = .ok (.aload_n 0, 1) := by decide +kernel
theorem d_Model_isAhead_7 : decode prog_14_method_83_code 7 = .ok (.getfield 128, 3) := by decide +kernel
theorem d_Model_isAhead_10 : decode prog_14_method_83_code 10 = .ok (.iload_n 2, 1) := by decide +kernel
theorem d_Model_isAhead_11 : decode prog_14_method_83_code 11 = .ok (.iaload, 1) := by decide +kernel
theorem d_Model_isAhead_12 : decode prog_14_method_83_code 12 = .ok (.if_icmp .eq 24, 3) := by decide +kernel
theorem d_Model_isAhead_15 : decode prog_14_method_83_code 15 = .ok (.aload_n 0, 1) := by decide +kernel
theorem d_Model_isAhead_16 : decode prog_14_method_83_code 16 = .ok (.getfield 128, 3) := by decide +kernel
theorem d_Model_isAhead_19 : decode prog_14_method_83_code 19 = .ok (.iload_n 1, 1) := by decide +kernel
theorem d_Model_isAhead_20 : decode prog_14_method_83_code 20 = .ok (.iaload, 1) := by decide +kernel
theorem d_Model_isAhead_21 : decode prog_14_method_83_code 21 = .ok (.aload_n 0, 1) := by decide +kernel
theorem d_Model_isAhead_22 : decode prog_14_method_83_code 22 = .ok (.getfield 128, 3) := by decide +kernel
theorem d_Model_isAhead_25 : decode prog_14_method_83_code 25 = .ok (.iload_n 2, 1) := by decide +kernel
theorem d_Model_isAhead_26 : decode prog_14_method_83_code 26 = .ok (.iaload, 1) := by decide +kernel
theorem d_Model_isAhead_27 : decode prog_14_method_83_code 27 = .ok (.if_icmp .ge 7, 3) := by decide +kernel
theorem d_Model_isAhead_30 : decode prog_14_method_83_code 30 = .ok (.iconst 1, 1) := by decide +kernel
theorem d_Model_isAhead_31 : decode prog_14_method_83_code 31 = .ok (.goto 4, 3) := by decide +kernel
theorem d_Model_isAhead_34 : decode prog_14_method_83_code 34 = .ok (.iconst 0, 1) := by decide +kernel
theorem d_Model_isAhead_35 : decode prog_14_method_83_code 35 = .ok (.ireturn, 1) := by decide +kernel
theorem d_Model_isAhead_36 : decode prog_14_method_83_code 36 = .ok (.aload_n 0, 1) := by decide +kernel
theorem d_Model_isAhead_37 : decode prog_14_method_83_code 37 = .ok (.getfield 131, 3) := by decide +kernel
theorem d_Model_isAhead_40 : decode prog_14_method_83_code 40 = .ok (.iload_n 1, 1) := by decide +kernel
theorem d_Model_isAhead_41 : decode prog_14_method_83_code 41 = .ok (.iaload, 1) := by decide +kernel
theorem d_Model_isAhead_42 : decode prog_14_method_83_code 42 = .ok (.aload_n 0, 1) := by decide +kernel
theorem d_Model_isAhead_43 : decode prog_14_method_83_code 43 = .ok (.getfield 131, 3) := by decide +kernel
theorem d_Model_isAhead_46 : decode prog_14_method_83_code 46 = .ok (.iload_n 2, 1) := by decide +kernel
theorem d_Model_isAhead_47 : decode prog_14_method_83_code 47 = .ok (.iaload, 1) := by decide +kernel
theorem d_Model_isAhead_48 : decode prog_14_method_83_code 48 = .ok (.if_icmp .eq 26, 3) := by decide +kernel
theorem d_Model_isAhead_51 : decode prog_14_method_83_code 51 = .ok (.aload_n 0, 1) := by decide +kernel
theorem d_Model_isAhead_52 : decode prog_14_method_83_code 52 = .ok (.getfield 131, 3) := by decide +kernel
theorem d_Model_isAhead_55 : decode prog_14_method_83_code 55 = .ok (.iload_n 1, 1) := by decide +kernel
theorem d_Model_isAhead_56 : decode prog_14_method_83_code 56 = .ok (.iaload, 1) := by decide +kernel
theorem d_Model_isAhead_57 : decode prog_14_method_83_code 57 = .ok (.aload_n 0, 1) := by decide +kernel
theorem d_Model_isAhead_58 : decode prog_14_method_83_code 58 = .ok (.getfield 131, 3) := by decide +kernel
theorem d_Model_isAhead_61 : decode prog_14_method_83_code 61 = .ok (.iload_n 2, 1) := by decide +kernel
theorem d_Model_isAhead_62 : decode prog_14_method_83_code 62 = .ok (.iaload, 1) := by decide +kernel
theorem d_Model_isAhead_63 : decode prog_14_method_83_code 63 = .ok (.if_icmp .le 7, 3) := by decide +kernel
theorem d_Model_isAhead_66 : decode prog_14_method_83_code 66 = .ok (.iconst 1, 1) := by decide +kernel
theorem d_Model_isAhead_67 : decode prog_14_method_83_code 67 = .ok (.goto 17, 3) := by decide +kernel
theorem d_Model_isAhead_70 : decode prog_14_method_83_code 70 = .ok (.iconst 0, 1) := by decide +kernel
theorem d_Model_isAhead_71 : decode prog_14_method_83_code 71 = .ok (.goto 13, 3) := by decide +kernel
theorem d_Model_isAhead_74 : decode prog_14_method_83_code 74 = .ok (.iload_n 1, 1) := by decide +kernel
theorem d_Model_isAhead_75 : decode prog_14_method_83_code 75 = .ok (.iload_n 2, 1) := by decide +kernel
theorem d_Model_isAhead_76 : decode prog_14_method_83_code 76 = .ok (.if_icmp .ge 7, 3) := by decide +kernel
theorem d_Model_isAhead_79 : decode prog_14_method_83_code 79 = .ok (.iconst 1, 1) := by decide +kernel
theorem d_Model_isAhead_80 : decode prog_14_method_83_code 80 = .ok (.goto 4, 3) := by decide +kernel
theorem d_Model_isAhead_83 : decode prog_14_method_83_code 83 = .ok (.iconst 0, 1) := by decide +kernel
theorem d_Model_isAhead_84 : decode prog_14_method_83_code 84 = .ok (.ireturn, 1) := by decide +kernel
abbrev m_s1_Model_isAhead : Room := { frames := 0, cells := 0, slots := 0, locals := 0 }
set_option maxHeartbeats 4000000 in
set_option maxRecDepth 100000 in
theorem s1_Model_isAhead (l : Launch) (G : zG) (b0 : Nat) (b1 : Int32) (b2 : Int32) (b3 : Int32) (b4 : Nat) (b5 : Nat) (b6 : Nat) (b7 : Nat) (b8 : Int32) (b9 : Nat) (b10 : Int32) (b11 : Int32) (b12 : Int32) (b13 : Int32) (b14 : Nat) (b15 : Nat) (b16 : Nat) (b17 : Int32) (b18 : Nat) (b19 : Nat) (b20 : Nat) (b21 : Nat) (b22 : Nat) (b23 : Nat) (b24 : Nat) (b25 : Nat) (b26 : Nat) (b27 : Nat) (b28 : Nat) (b29 : Nat) (b30 : Int32) (b31 : Nat) (b32 : Nat) (b33 : Int32) (b34 : Int32) (b35 : Int32) (b36 : Int32) (b37 : Nat) (b38 : Nat) (b39 : Nat) (b40 : Nat) (b41 : Nat) (b42 : Nat) (b43 : Nat) (b44 : Int32) (b45 : Nat) (b46 : Nat) (b47 : Int32) (b48 : Nat) (b49 : Nat) (b50 : Nat) (b51 : Nat) (b52 : Nat) (b53 : Int32) (b54 : Nat) (b55 : Nat) (b56 : Nat) (b57 : Nat → Int32) (b58 : Nat → Int32) (hb1 : zI b1 0 19) (hb2 : zI b2 0 19) (hb8 : zI b8 0 8) (hb10 : zI b10 0 240) (hb11 : zI b11 0 240) (hb13 : zI b13 0 1) (hb17 : zI b17 0 12) (hb30 : zI b30 0 1) (hb33 : zI b33 0 1) : zM l G y_Model_isAhead prog_14_method_83_code 3 (Option.some Jvm.ClassFile.FieldType.boolean) m_s1_Model_isAhead [.ref b0, .int b1, .int b2] [(b0, .inr (12, [.int b3, .ref b4, .ref b5, .ref b6, .ref b7, .int b8, .ref b9, .int b10, .int b11, .int b12, .int b13, .ref b14, .ref b15, .ref b16, .int b17, .ref b18, .ref b19, .ref b20, .ref b21, .ref b22, .ref b23, .ref b24, .ref b25, .ref b26, .ref b27, .ref b28, .ref b29, .int b30, .ref b31, .ref b32, .int b33, .int b34, .int b35, .int b36, .ref b37, .ref b38, .ref b39, .ref b40, .ref b41, .ref b42, .ref b43, .int b44, .ref b45, .ref b46, .int b47, .ref b48, .ref b49, .ref b50, .ref b51, .ref b52, .int b53, .ref b54, .ref b55, .ref b56])), (b55, .inl (G.2 0, 20, .inl b57)), (b56, .inl (G.2 0, 20, .inl b58))] (fun v w => ∃ (e0 : Int32), v = some (.int e0) ∧ w = [(b0, .inr (12, [.int b3, .ref b4, .ref b5, .ref b6, .ref b7, .int b8, .ref b9, .int b10, .int b11, .int b12, .int b13, .ref b14, .ref b15, .ref b16, .int b17, .ref b18, .ref b19, .ref b20, .ref b21, .ref b22, .ref b23, .ref b24, .ref b25, .ref b26, .ref b27, .ref b28, .ref b29, .int b30, .ref b31, .ref b32, .int b33, .int b34, .int b35, .int b36, .ref b37, .ref b38, .ref b39, .ref b40, .ref b41, .ref b42, .ref b43, .int b44, .ref b45, .ref b46, .int b47, .ref b48, .ref b49, .ref b50, .ref b51, .ref b52, .int b53, .ref b54, .ref b55, .ref b56])), (b55, .inl (G.2 0, 20, .inl b57)), (b56, .inl (G.2 0, 20, .inl b58))] ∧ (zI e0 0 1)) := by
  refine z_start (by decide +kernel) (Nat.le_of_ble_eq_true rfl) ?_
  intro p e s m below meth c A Z hr hnm hA hP hD hS ls hl
  have Z : zC p s m _ meth c prog_14_method_83_code 3 "TraceMachinesModel" G := Z
  obtain ⟨hx, hb, hml, hown, hts, hK, hN, hlocks⟩ := id Z
  have hl : lv_has ls 3 [(0, .ref b0), (1, .int b1), (2, .int b2)] := hl
  refine lv_aload_n hx hb d_Model_isAhead_0 rfl (lv_at hl 0 rfl) ?_
  refine va_get (D := G.1) (ci := 12) (v := .ref b55) (C := R_Model) (T := F_Model) (N := 54) hx hb hts i_Model hown hK hP 0 rfl rfl 52 (by decide) (hts _ q1161) (fun _ h9 => h9) rfl d_Model_isAhead_1 ?_
  refine lv_iload_n hx hb d_Model_isAhead_4 rfl (lv_at hl 1 rfl) ?_
  refine va_iald hx hb hK hP 1 0 rfl rfl (zI.inn hb1 (by decide)) d_Model_isAhead_5 ?_
  refine lv_topi (fun v_1 ev_1 => ?_)
  refine lv_aload_n hx hb d_Model_isAhead_6 rfl (lv_at hl 0 rfl) ?_
  refine va_get (D := G.1) (ci := 12) (v := .ref b55) (C := R_Model) (T := F_Model) (N := 54) hx hb hts i_Model hown hK hP 0 rfl rfl 52 (by decide) (hts _ q1161) (fun _ h9 => h9) rfl d_Model_isAhead_7 ?_
  refine lv_iload_n hx hb d_Model_isAhead_10 rfl (lv_at hl 2 rfl) ?_
  refine va_iald hx hb hK hP 1 0 rfl rfl (zI.inn hb2 (by decide)) d_Model_isAhead_11 ?_
  refine lv_topi (fun v_2 ev_2 => ?_)
  refine lv_icmp_eq (tgt := 36) hx hb d_Model_isAhead_12 (by decide) (fun hc_3 => ?_) (fun hc_3 => ?_)
  · have _nhc_3 := hc_3
    have ni_4 := (fa_eq _ _).mp hc_3
    refine lv_aload_n hx hb d_Model_isAhead_36 rfl (lv_at hl 0 rfl) ?_
    refine va_get (D := G.1) (ci := 12) (v := .ref b56) (C := R_Model) (T := F_Model) (N := 54) hx hb hts i_Model hown hK hP 0 rfl rfl 53 (by decide) (hts _ q1162) (fun _ h9 => h9) rfl d_Model_isAhead_37 ?_
    refine lv_iload_n hx hb d_Model_isAhead_40 rfl (lv_at hl 1 rfl) ?_
    refine va_iald hx hb hK hP 2 0 rfl rfl (zI.inn hb1 (by decide)) d_Model_isAhead_41 ?_
    refine lv_topi (fun v_5 ev_5 => ?_)
    refine lv_aload_n hx hb d_Model_isAhead_42 rfl (lv_at hl 0 rfl) ?_
    refine va_get (D := G.1) (ci := 12) (v := .ref b56) (C := R_Model) (T := F_Model) (N := 54) hx hb hts i_Model hown hK hP 0 rfl rfl 53 (by decide) (hts _ q1162) (fun _ h9 => h9) rfl d_Model_isAhead_43 ?_
    refine lv_iload_n hx hb d_Model_isAhead_46 rfl (lv_at hl 2 rfl) ?_
    refine va_iald hx hb hK hP 2 0 rfl rfl (zI.inn hb2 (by decide)) d_Model_isAhead_47 ?_
    refine lv_topi (fun v_6 ev_6 => ?_)
    refine lv_icmp_eq (tgt := 74) hx hb d_Model_isAhead_48 (by decide) (fun hc_7 => ?_) (fun hc_7 => ?_)
    · have _nhc_7 := hc_7
      have ni_8 := (fa_eq _ _).mp hc_7
      refine lv_iload_n hx hb d_Model_isAhead_74 rfl (lv_at hl 1 rfl) ?_
      refine lv_iload_n hx hb d_Model_isAhead_75 rfl (lv_at hl 2 rfl) ?_
      refine lv_icmp_ge (tgt := 83) hx hb d_Model_isAhead_76 (by decide) (fun hc_9 => ?_) (fun hc_9 => ?_)
      · have _nhc_9 := hc_9
        have ni_10 := (fa_le _ _).mp hc_9
        refine lv_iconst (v := 0) hx hb d_Model_isAhead_83 (by decide) ?_
        exact z_zret hx hb hr hlocks rfl hP hD hS (Nat.le_of_ble_eq_true rfl) (Nat.le_of_ble_eq_true rfl) d_Model_isAhead_84 ⟨0, rfl, rfl, (zI.wk (l' := 0) (h' := 1) zc_0 (by decide))⟩
      · have _nhc_9 := hc_9
        have ni_11 := (fa_lt _ _).mp (zi_nle hc_9)
        have hv_12 : zI b1 0 18 := zI.lt_l hb1 hb2 (zi_nle hc_9) (by decide)
        have hv_13 : zI b2 1 19 := zI.lt_r hb1 hb2 (zi_nle hc_9) (by decide)
        refine lv_iconst (v := 1) hx hb d_Model_isAhead_79 (by decide) ?_
        refine lv_goto (tgt := 84) hx hb d_Model_isAhead_80 (by decide) ?_
        exact z_zret hx hb hr hlocks rfl hP hD hS (Nat.le_of_ble_eq_true rfl) (Nat.le_of_ble_eq_true rfl) d_Model_isAhead_84 ⟨1, rfl, rfl, (zI.wk (l' := 0) (h' := 1) zc_1 (by decide))⟩
    · have _nhc_7 := hc_7
      have ni_14 : ¬ (v_5 : Int32).toInt = (v_6 : Int32).toInt := fun z => hc_7 ((fa_eq _ _).mpr z)
      refine lv_aload_n hx hb d_Model_isAhead_51 rfl (lv_at hl 0 rfl) ?_
      refine va_get (D := G.1) (ci := 12) (v := .ref b56) (C := R_Model) (T := F_Model) (N := 54) hx hb hts i_Model hown hK hP 0 rfl rfl 53 (by decide) (hts _ q1162) (fun _ h9 => h9) rfl d_Model_isAhead_52 ?_
      refine lv_iload_n hx hb d_Model_isAhead_55 rfl (lv_at hl 1 rfl) ?_
      refine va_iald hx hb hK hP 2 0 rfl rfl (zI.inn hb1 (by decide)) d_Model_isAhead_56 ?_
      refine lv_topi (fun v_15 ev_15 => ?_)
      obtain rfl : v_5 = v_15 := ev_5.trans ev_15.symm
      refine lv_aload_n hx hb d_Model_isAhead_57 rfl (lv_at hl 0 rfl) ?_
      refine va_get (D := G.1) (ci := 12) (v := .ref b56) (C := R_Model) (T := F_Model) (N := 54) hx hb hts i_Model hown hK hP 0 rfl rfl 53 (by decide) (hts _ q1162) (fun _ h9 => h9) rfl d_Model_isAhead_58 ?_
      refine lv_iload_n hx hb d_Model_isAhead_61 rfl (lv_at hl 2 rfl) ?_
      refine va_iald hx hb hK hP 2 0 rfl rfl (zI.inn hb2 (by decide)) d_Model_isAhead_62 ?_
      refine lv_topi (fun v_16 ev_16 => ?_)
      obtain rfl : v_6 = v_16 := ev_6.trans ev_16.symm
      refine lv_icmp_le (tgt := 70) hx hb d_Model_isAhead_63 (by decide) (fun hc_17 => ?_) (fun hc_17 => ?_)
      · have _nhc_17 := hc_17
        have ni_18 := (fa_le _ _).mp hc_17
        refine lv_iconst (v := 0) hx hb d_Model_isAhead_70 (by decide) ?_
        refine lv_goto (tgt := 84) hx hb d_Model_isAhead_71 (by decide) ?_
        exact z_zret hx hb hr hlocks rfl hP hD hS (Nat.le_of_ble_eq_true rfl) (Nat.le_of_ble_eq_true rfl) d_Model_isAhead_84 ⟨0, rfl, rfl, (zI.wk (l' := 0) (h' := 1) zc_0 (by decide))⟩
      · have _nhc_17 := hc_17
        have ni_19 := (fa_lt _ _).mp (zi_nle hc_17)
        have hv_20 : zI v_6 (-2147483648) 2147483646 := zI.lt_l (zI_all v_6) (zI_all v_5) (zi_nle hc_17) (by decide)
        have hv_21 : zI v_5 (-2147483647) 2147483647 := zI.lt_r (zI_all v_6) (zI_all v_5) (zi_nle hc_17) (by decide)
        refine lv_iconst (v := 1) hx hb d_Model_isAhead_66 (by decide) ?_
        refine lv_goto (tgt := 84) hx hb d_Model_isAhead_67 (by decide) ?_
        exact z_zret hx hb hr hlocks rfl hP hD hS (Nat.le_of_ble_eq_true rfl) (Nat.le_of_ble_eq_true rfl) d_Model_isAhead_84 ⟨1, rfl, rfl, (zI.wk (l' := 0) (h' := 1) zc_1 (by decide))⟩
  · have _nhc_3 := hc_3
    have ni_22 : ¬ (v_1 : Int32).toInt = (v_2 : Int32).toInt := fun z => hc_3 ((fa_eq _ _).mpr z)
    refine lv_aload_n hx hb d_Model_isAhead_15 rfl (lv_at hl 0 rfl) ?_
    refine va_get (D := G.1) (ci := 12) (v := .ref b55) (C := R_Model) (T := F_Model) (N := 54) hx hb hts i_Model hown hK hP 0 rfl rfl 52 (by decide) (hts _ q1161) (fun _ h9 => h9) rfl d_Model_isAhead_16 ?_
    refine lv_iload_n hx hb d_Model_isAhead_19 rfl (lv_at hl 1 rfl) ?_
    refine va_iald hx hb hK hP 1 0 rfl rfl (zI.inn hb1 (by decide)) d_Model_isAhead_20 ?_
    refine lv_topi (fun v_23 ev_23 => ?_)
    obtain rfl : v_1 = v_23 := ev_1.trans ev_23.symm
    refine lv_aload_n hx hb d_Model_isAhead_21 rfl (lv_at hl 0 rfl) ?_
    refine va_get (D := G.1) (ci := 12) (v := .ref b55) (C := R_Model) (T := F_Model) (N := 54) hx hb hts i_Model hown hK hP 0 rfl rfl 52 (by decide) (hts _ q1161) (fun _ h9 => h9) rfl d_Model_isAhead_22 ?_
    refine lv_iload_n hx hb d_Model_isAhead_25 rfl (lv_at hl 2 rfl) ?_
    refine va_iald hx hb hK hP 1 0 rfl rfl (zI.inn hb2 (by decide)) d_Model_isAhead_26 ?_
    refine lv_topi (fun v_24 ev_24 => ?_)
    obtain rfl : v_2 = v_24 := ev_2.trans ev_24.symm
    refine lv_icmp_ge (tgt := 34) hx hb d_Model_isAhead_27 (by decide) (fun hc_25 => ?_) (fun hc_25 => ?_)
    · have _nhc_25 := hc_25
      have ni_26 := (fa_le _ _).mp hc_25
      refine lv_iconst (v := 0) hx hb d_Model_isAhead_34 (by decide) ?_
      exact z_zret hx hb hr hlocks rfl hP hD hS (Nat.le_of_ble_eq_true rfl) (Nat.le_of_ble_eq_true rfl) d_Model_isAhead_35 ⟨0, rfl, rfl, (zI.wk (l' := 0) (h' := 1) zc_0 (by decide))⟩
    · have _nhc_25 := hc_25
      have ni_27 := (fa_lt _ _).mp (zi_nle hc_25)
      have hv_28 : zI v_1 (-2147483648) 2147483646 := zI.lt_l (zI_all v_1) (zI_all v_2) (zi_nle hc_25) (by decide)
      have hv_29 : zI v_2 (-2147483647) 2147483647 := zI.lt_r (zI_all v_1) (zI_all v_2) (zi_nle hc_25) (by decide)
      refine lv_iconst (v := 1) hx hb d_Model_isAhead_30 (by decide) ?_
      refine lv_goto (tgt := 35) hx hb d_Model_isAhead_31 (by decide) ?_
      exact z_zret hx hb hr hlocks rfl hP hD hS (Nat.le_of_ble_eq_true rfl) (Nat.le_of_ble_eq_true rfl) d_Model_isAhead_35 ⟨1, rfl, rfl, (zI.wk (l' := 0) (h' := 1) zc_1 (by decide))⟩
theorem d_Model_placeAmong_0 : decode prog_14_method_84_code 0 = .ok (.iconst 0, 1) := by decide +kernel
theorem d_Model_placeAmong_1 : decode prog_14_method_84_code 1 = .ok (.istore_n 2, 1) := by decide +kernel
theorem d_Model_placeAmong_2 : decode prog_14_method_84_code 2 = .ok (.iconst 0, 1) := by decide +kernel
theorem d_Model_placeAmong_3 : decode prog_14_method_84_code 3 = .ok (.istore_n 3, 1) := by decide +kernel
theorem d_Model_placeAmong_4 : decode prog_14_method_84_code 4 = .ok (.iload_n 3, 1) := by decide +kernel
theorem d_Model_placeAmong_5 : decode prog_14_method_84_code 5 = .ok (.aload_n 0, 1) := by decide +kernel
theorem d_Model_placeAmong_6 : decode prog_14_method_84_code 6 = .ok (.invokevirtual 134, 3) := by decide +kernel
theorem d_Model_placeAmong_9 : decode prog_14_method_84_code 9 = .ok (.if_icmp .ge 31, 3) := by decide +kernel
theorem d_Model_placeAmong_12 : decode prog_14_method_84_code 12 = .ok (.iload_n 2, 1) := by decide +kernel
theorem d_Model_placeAmong_13 : decode prog_14_method_84_code 13 = .ok (.iload_n 3, 1) := by decide +kernel
theorem d_Model_placeAmong_14 : decode prog_14_method_84_code 14 = .ok (.iload_n 1, 1) := by decide +kernel
theorem d_Model_placeAmong_15 : decode prog_14_method_84_code 15 = .ok (.if_icmp .eq 16, 3) := by decide +kernel
theorem d_Model_placeAmong_18 : decode prog_14_method_84_code 18 = .ok (.aload_n 0, 1) := by decide +kernel
theorem d_Model_placeAmong_19 : decode prog_14_method_84_code 19 = .ok (.iload_n 3, 1) := by decide +kernel
theorem d_Model_placeAmong_20 : decode prog_14_method_84_code 20 = .ok (.iload_n 1, 1) := by decide +kernel
theorem d_Model_placeAmong_21 : decode prog_14_method_84_code 21 = .ok (.invokevirtual 400, 3) := by decide +kernel
theorem d_Model_placeAmong_24 : decode prog_14_method_84_code 24 = .ok (.ifCond .eq 7, 3) := by decide +kernel
theorem d_Model_placeAmong_27 : decode prog_14_method_84_code 27 = .ok (.iconst 1, 1) := by decide +kernel
theorem d_Model_placeAmong_28 : decode prog_14_method_84_code 28 = .ok (.goto 4, 3) := by decide +kernel
theorem d_Model_placeAmong_31 : decode prog_14_method_84_code 31 = .ok (.iconst 0, 1) := by decide +kernel
theorem d_Model_placeAmong_32 : decode prog_14_method_84_code 32 = .ok (.iadd, 1) := by decide +kernel
theorem d_Model_placeAmong_33 : decode prog_14_method_84_code 33 = .ok (.istore_n 2, 1) := by decide +kernel
theorem d_Model_placeAmong_34 : decode prog_14_method_84_code 34 = .ok (.iinc 3 1, 3) := by decide +kernel
theorem d_Model_placeAmong_37 : decode prog_14_method_84_code 37 = .ok (.goto (-33), 3) := by decide +kernel
theorem d_Model_placeAmong_40 : decode prog_14_method_84_code 40 = .ok (.iload_n 2, 1) := by decide +kernel
theorem d_Model_placeAmong_41 : decode prog_14_method_84_code 41 = .ok (.ireturn, 1) := by decide +kernel
abbrev m_s1_Model_placeAmong : Room := { frames := 1, cells := 0, slots := 0, locals := 22 }
set_option maxHeartbeats 4000000 in
set_option maxRecDepth 100000 in
theorem s1_Model_placeAmong (l : Launch) (G : zG) (b0 : Nat) (b1 : Int32) (b2 : Int32) (b3 : Nat) (b4 : Nat) (b5 : Nat) (b6 : Nat) (b7 : Int32) (b8 : Nat) (b9 : Int32) (b10 : Int32) (b11 : Int32) (b12 : Int32) (b13 : Nat) (b14 : Nat) (b15 : Nat) (b16 : Int32) (b17 : Nat) (b18 : Nat) (b19 : Nat) (b20 : Nat) (b21 : Nat) (b22 : Nat) (b23 : Nat) (b24 : Nat) (b25 : Nat) (b26 : Nat) (b27 : Nat) (b28 : Nat) (b29 : Int32) (b30 : Nat) (b31 : Nat) (b32 : Int32) (b33 : Int32) (b34 : Int32) (b35 : Int32) (b36 : Nat) (b37 : Nat) (b38 : Nat) (b39 : Nat) (b40 : Nat) (b41 : Nat) (b42 : Nat) (b43 : Int32) (b44 : Nat) (b45 : Nat) (b46 : Int32) (b47 : Nat) (b48 : Nat) (b49 : Nat) (b50 : Nat) (b51 : Nat) (b52 : Int32) (b53 : Nat) (b54 : Nat) (b55 : Nat) (b56 : Nat → Int32) (b57 : Nat → Int32) (b58 : Nat → Int32) (hb1 : zI b1 0 19) (hb7 : zI b7 0 8) (hb9 : zI b9 0 240) (hb10 : zI b10 0 240) (hb12 : zI b12 0 1) (hb16 : zI b16 0 12) (hb29 : zI b29 0 1) (hb32 : zI b32 0 1) (hb56 : zW5 b56) : zM l G y_Model_placeAmong prog_14_method_84_code 4 (Option.some Jvm.ClassFile.FieldType.int) m_s1_Model_placeAmong [.ref b0, .int b1] [(b0, .inr (12, [.int b2, .ref b3, .ref b4, .ref b5, .ref b6, .int b7, .ref b8, .int b9, .int b10, .int b11, .int b12, .ref b13, .ref b14, .ref b15, .int b16, .ref b17, .ref b18, .ref b19, .ref b20, .ref b21, .ref b22, .ref b23, .ref b24, .ref b25, .ref b26, .ref b27, .ref b28, .int b29, .ref b30, .ref b31, .int b32, .int b33, .int b34, .int b35, .ref b36, .ref b37, .ref b38, .ref b39, .ref b40, .ref b41, .ref b42, .int b43, .ref b44, .ref b45, .int b46, .ref b47, .ref b48, .ref b49, .ref b50, .ref b51, .int b52, .ref b53, .ref b54, .ref b55])), (b3, .inl (G.2 0, 503, .inl b56)), (b54, .inl (G.2 0, 20, .inl b57)), (b55, .inl (G.2 0, 20, .inl b58))] (fun v w => ∃ (e0 : Int32), v = some (.int e0) ∧ w = [(b0, .inr (12, [.int b2, .ref b3, .ref b4, .ref b5, .ref b6, .int b7, .ref b8, .int b9, .int b10, .int b11, .int b12, .ref b13, .ref b14, .ref b15, .int b16, .ref b17, .ref b18, .ref b19, .ref b20, .ref b21, .ref b22, .ref b23, .ref b24, .ref b25, .ref b26, .ref b27, .ref b28, .int b29, .ref b30, .ref b31, .int b32, .int b33, .int b34, .int b35, .ref b36, .ref b37, .ref b38, .ref b39, .ref b40, .ref b41, .ref b42, .int b43, .ref b44, .ref b45, .int b46, .ref b47, .ref b48, .ref b49, .ref b50, .ref b51, .int b52, .ref b53, .ref b54, .ref b55])), (b3, .inl (G.2 0, 503, .inl b56)), (b54, .inl (G.2 0, 20, .inl b57)), (b55, .inl (G.2 0, 20, .inl b58))]) := by
  refine z_start (by decide +kernel) (Nat.le_of_ble_eq_true rfl) ?_
  intro p e s m below meth c A Z hr hnm hA hP hD hS ls hl
  have Z : zC p s m _ meth c prog_14_method_84_code 4 "TraceMachinesModel" G := Z
  obtain ⟨hx, hb, hml, hown, hts, hK, hN, hlocks⟩ := id Z
  have hl : lv_has ls 4 [(0, .ref b0), (1, .int b1)] := hl
  refine lv_iconst (v := 0) hx hb d_Model_placeAmong_0 (by decide) ?_
  refine lv_istore_n (lv' := [(2, .int 0), (0, .ref b0), (1, .int b1)]) hx hb d_Model_placeAmong_1 rfl hl (by decide) rfl (fun ls hl => ?_)
  refine lv_iconst (v := 0) hx hb d_Model_placeAmong_2 (by decide) ?_
  refine lv_istore_n (lv' := [(3, .int 0), (2, .int 0), (0, .ref b0), (1, .int b1)]) hx hb d_Model_placeAmong_3 rfl hl (by decide) rfl (fun ls hl => ?_)
  suffices key : ∀ (k_423 : Nat) (y_424 : Int32) (y_425 : Int32) (H : Heap) (locs : List Loc) (ls : Array Slot), (zI y_424 0 20) → (20 : Int) - y_424.toInt < (k_423 : Int) → va_P G.1 classes [(b0, .inr (12, [.int b2, .ref b3, .ref b4, .ref b5, .ref b6, .int b7, .ref b8, .int b9, .int b10, .int b11, .int b12, .ref b13, .ref b14, .ref b15, .int b16, .ref b17, .ref b18, .ref b19, .ref b20, .ref b21, .ref b22, .ref b23, .ref b24, .ref b25, .ref b26, .ref b27, .ref b28, .int b29, .ref b30, .ref b31, .int b32, .int b33, .int b34, .int b35, .ref b36, .ref b37, .ref b38, .ref b39, .ref b40, .ref b41, .ref b42, .int b43, .ref b44, .ref b45, .int b46, .ref b47, .ref b48, .ref b49, .ref b50, .ref b51, .int b52, .ref b53, .ref b54, .ref b55])), (b3, .inl (G.2 0, 503, .inl b56)), (b54, .inl (G.2 0, 20, .inl b57)), (b55, .inl (G.2 0, 20, .inl b58))] H → va_D A [(b0, .inr (12, [.int b2, .ref b3, .ref b4, .ref b5, .ref b6, .int b7, .ref b8, .int b9, .int b10, .int b11, .int b12, .ref b13, .ref b14, .ref b15, .int b16, .ref b17, .ref b18, .ref b19, .ref b20, .ref b21, .ref b22, .ref b23, .ref b24, .ref b25, .ref b26, .ref b27, .ref b28, .int b29, .ref b30, .ref b31, .int b32, .int b33, .int b34, .int b35, .ref b36, .ref b37, .ref b38, .ref b39, .ref b40, .ref b41, .ref b42, .int b43, .ref b44, .ref b45, .int b46, .ref b47, .ref b48, .ref b49, .ref b50, .ref b51, .int b52, .ref b53, .ref b54, .ref b55])), (b3, .inl (G.2 0, 503, .inl b56)), (b54, .inl (G.2 0, 20, .inl b57)), (b55, .inl (G.2 0, 20, .inl b58))] → va_S A s.heap H locs → lv_has ls 4 [(3, .int y_424), (2, .int y_425), (0, .ref b0), (1, .int b1)] → W p l e m_s1_Model_placeAmong s m ([.ref b0, .int b1] : List Value).toArray below meth c H locs 0 0 (MQ below (zQ G (fun v w => ∃ (e0 : Int32), v = some (.int e0) ∧ w = [(b0, .inr (12, [.int b2, .ref b3, .ref b4, .ref b5, .ref b6, .int b7, .ref b8, .int b9, .int b10, .int b11, .int b12, .ref b13, .ref b14, .ref b15, .int b16, .ref b17, .ref b18, .ref b19, .ref b20, .ref b21, .ref b22, .ref b23, .ref b24, .ref b25, .ref b26, .ref b27, .ref b28, .int b29, .ref b30, .ref b31, .int b32, .int b33, .int b34, .int b35, .ref b36, .ref b37, .ref b38, .ref b39, .ref b40, .ref b41, .ref b42, .int b43, .ref b44, .ref b45, .int b46, .ref b47, .ref b48, .ref b49, .ref b50, .ref b51, .int b52, .ref b53, .ref b54, .ref b55])), (b3, .inl (G.2 0, 503, .inl b56)), (b54, .inl (G.2 0, 20, .inl b57)), (b55, .inl (G.2 0, 20, .inl b58))]) A) ([.ref b0, .int b1] : List Value).toArray s m_s1_Model_placeAmong.cells m_s1_Model_placeAmong.slots A) (F0 m 4 ls []) by
    exact key 21 (0) (0) _ _ _ (zI.wk (l' := 0) (h' := 20) zc_0 (by decide)) (zm_upi (zI.wk (l' := 0) (h' := 20) zc_0 (by decide)) (by decide)) hP hD hS (lv_sub hl [0, 1, 2, 3] rfl)
  intro k_423
  induction k_423 with
  | zero =>
    intro y_424 y_425 H locs ls hy_424 hmk_423 hP hD hS hl
    exact (zm_up0 hy_424 hmk_423).elim
  | succ k_423 ihk_423 =>
    intro y_424 y_425 H locs ls hy_424 hmk_423 hP hD hS hl
    refine lv_iload_n hx hb d_Model_placeAmong_4 rfl (lv_at hl 0 rfl) ?_
    refine lv_aload_n hx hb d_Model_placeAmong_5 rfl (lv_at hl 2 rfl) ?_
    refine z_callV (index := 134) (As := []) (rest := [.int y_424]) (wr := [(b54, .inl (G.2 0, 20, .inl b57)), (b55, .inl (G.2 0, 20, .inl b58))]) Z (s1_Model_many l G (b0) (b2) (b3) (b4) (b5) (b6) (b7) (b8) (b9) (b10) (b11) (b12) (b13) (b14) (b15) (b16) (b17) (b18) (b19) (b20) (b21) (b22) (b23) (b24) (b25) (b26) (b27) (b28) (b29) (b30) (b31) (b32) (b33) (b34) (b35) (b36) (b37) (b38) (b39) (b40) (b41) (b42) (b43) (b44) (b45) (b46) (b47) (b48) (b49) (b50) (b51) (b52) (b53) (b54) (b55) (b56) hb7 hb9 hb10 hb12 hb16 hb29 hb32 hb56) hl.1 q1320 q1322 qs51 q14 q1323 ⟨by decide, by decide, by show _ = some 0; decide +kernel⟩ ⟨Nat.le_of_ble_eq_true rfl, Nat.le_of_ble_eq_true rfl⟩ ⟨Nat.le_of_ble_eq_true rfl, Nat.le_of_ble_eq_true rfl⟩ rfl (Nat.le_of_ble_eq_true rfl) d_Model_placeAmong_6 hP hD hS hA 0 12 rfl rfl rfl [0, 1] [2, 3] rfl rfl rfl rfl (by decide) (fun v w1 H locs hw_426 hP hD hS => ?_)
    obtain ⟨x_427, rfl, rfl, hx_427⟩ := hw_426
    have hP : va_P G.1 classes [(b54, .inl (G.2 0, 20, .inl b57)), (b55, .inl (G.2 0, 20, .inl b58)), (b0, .inr (12, [.int b2, .ref b3, .ref b4, .ref b5, .ref b6, .int b7, .ref b8, .int b9, .int b10, .int b11, .int b12, .ref b13, .ref b14, .ref b15, .int b16, .ref b17, .ref b18, .ref b19, .ref b20, .ref b21, .ref b22, .ref b23, .ref b24, .ref b25, .ref b26, .ref b27, .ref b28, .int b29, .ref b30, .ref b31, .int b32, .int b33, .int b34, .int b35, .ref b36, .ref b37, .ref b38, .ref b39, .ref b40, .ref b41, .ref b42, .int b43, .ref b44, .ref b45, .int b46, .ref b47, .ref b48, .ref b49, .ref b50, .ref b51, .int b52, .ref b53, .ref b54, .ref b55])), (b3, .inl (G.2 0, 503, .inl b56))] H := hP
    have hD := z_tie hP hD rfl
    refine W.widen (k := 0) (n := 0) (Nat.le_of_ble_eq_true rfl) (Nat.le_of_ble_eq_true rfl) ?_
    refine lv_icmp_ge (tgt := 40) hx hb d_Model_placeAmong_9 (by decide) (fun hc_428 => ?_) (fun hc_428 => ?_)
    · have _nhc_428 := hc_428
      have ni_429 := (fa_le _ _).mp hc_428
      refine lv_iload_n hx hb d_Model_placeAmong_40 rfl (lv_at hl 1 rfl) ?_
      exact z_iret hx hb hr hlocks (hP.sub [2, 3, 0, 1] rfl) (hD.sub [2, 3, 0, 1] (by decide) rfl) hS (Nat.le_of_ble_eq_true rfl) (Nat.le_of_ble_eq_true rfl) d_Model_placeAmong_41 ⟨y_425, rfl, rfl⟩
    · have _nhc_428 := hc_428
      have ni_430 := (fa_lt _ _).mp (zi_nle hc_428)
      have hv_431 : zI y_424 0 19 := zI.lt_l hy_424 hx_427 (zi_nle hc_428) (by decide)
      have hv_432 : zI x_427 1 20 := zI.lt_r hy_424 hx_427 (zi_nle hc_428) (by decide)
      refine lv_iload_n hx hb d_Model_placeAmong_12 rfl (lv_at hl 1 rfl) ?_
      refine lv_iload_n hx hb d_Model_placeAmong_13 rfl (lv_at hl 0 rfl) ?_
      refine lv_iload_n hx hb d_Model_placeAmong_14 rfl (lv_at hl 3 rfl) ?_
      refine lv_icmp_eq (tgt := 31) hx hb d_Model_placeAmong_15 (by decide) (fun hc_433 => ?_) (fun hc_433 => ?_)
      · have _nhc_433 := hc_433
        have ni_434 := (fa_eq _ _).mp hc_433
        refine lv_iconst (v := 0) hx hb d_Model_placeAmong_31 (by decide) ?_
        refine lv_iadd hx hb d_Model_placeAmong_32 ?_
        refine lv_topi (fun v_435 ev_435 => ?_)
        obtain ⟨qv_435, hv_435⟩ := zI_add (l := -2147483648) (h := 2147483647) (zI_all y_425) zc_0 ev_435 (by decide)
        rw [li_0] at qv_435
        refine lv_istore_n (lv' := [(2, .int v_435), (3, .int y_424), (0, .ref b0), (1, .int b1)]) hx hb d_Model_placeAmong_33 rfl hl (by decide) rfl (fun ls hl => ?_)
        obtain ⟨v_436, ev_436⟩ : ∃ z : Int32, z = y_424 + 1 := ⟨_, rfl⟩
        obtain ⟨qv_436, hv_436⟩ := zI_add (l := 1) (h := 20) hv_431 zc_1 ev_436 (by decide)
        rw [li_1] at qv_436
        refine lv_iinc (v := v_436) (lv' := [(3, .int v_436), (2, .int v_435), (0, .ref b0), (1, .int b1)]) hx hb d_Model_placeAmong_34 hl (k := 1) rfl (by rw [ev_436]; rfl) (by decide) rfl (fun ls hl => ?_)
        refine lv_goto (tgt := 4) hx hb d_Model_placeAmong_37 (by decide) ?_
        exact ihk_423 (v_436) (v_435) _ _ _ (zI.wk (l' := 0) (h' := 20) hv_436 (by decide)) (zm_up qv_436 hmk_423 (by decide)) (hP.sub [2, 3, 0, 1] rfl) (hD.sub [2, 3, 0, 1] (by decide) rfl) hS (lv_sub hl [0, 1, 2, 3] rfl)
      · have _nhc_433 := hc_433
        have ni_437 : ¬ (y_424 : Int32).toInt = (b1 : Int32).toInt := fun z => hc_433 ((fa_eq _ _).mpr z)
        refine lv_aload_n hx hb d_Model_placeAmong_18 rfl (lv_at hl 2 rfl) ?_
        refine lv_iload_n hx hb d_Model_placeAmong_19 rfl (lv_at hl 0 rfl) ?_
        refine lv_iload_n hx hb d_Model_placeAmong_20 rfl (lv_at hl 3 rfl) ?_
        refine z_callV (index := 400) (As := [.int y_424, .int b1]) (rest := [.int y_425]) (wr := [(b3, .inl (G.2 0, 503, .inl b56))]) Z (s1_Model_isAhead l G (b0) (y_424) (b1) (b2) (b3) (b4) (b5) (b6) (b7) (b8) (b9) (b10) (b11) (b12) (b13) (b14) (b15) (b16) (b17) (b18) (b19) (b20) (b21) (b22) (b23) (b24) (b25) (b26) (b27) (b28) (b29) (b30) (b31) (b32) (b33) (b34) (b35) (b36) (b37) (b38) (b39) (b40) (b41) (b42) (b43) (b44) (b45) (b46) (b47) (b48) (b49) (b50) (b51) (b52) (b53) (b54) (b55) (b57) (b58) hv_431 hb1 hb7 hb9 hb10 hb12 hb16 hb29 hb32) hl.1 q1607 q1609 qs98 q14 q1610 ⟨by decide, by decide, by show _ = some 2; decide +kernel⟩ ⟨Nat.le_of_ble_eq_true rfl, Nat.le_of_ble_eq_true rfl⟩ ⟨Nat.le_of_ble_eq_true rfl, Nat.le_of_ble_eq_true rfl⟩ rfl (Nat.le_of_ble_eq_true rfl) d_Model_placeAmong_21 hP hD hS hA 2 12 rfl rfl rfl [2, 0, 1] [3] rfl rfl rfl rfl (by decide) (fun v w1 H locs hw_438 hP hD hS => ?_)
        obtain ⟨x_439, rfl, rfl, hx_439⟩ := hw_438
        have hP : va_P G.1 classes [(b3, .inl (G.2 0, 503, .inl b56)), (b0, .inr (12, [.int b2, .ref b3, .ref b4, .ref b5, .ref b6, .int b7, .ref b8, .int b9, .int b10, .int b11, .int b12, .ref b13, .ref b14, .ref b15, .int b16, .ref b17, .ref b18, .ref b19, .ref b20, .ref b21, .ref b22, .ref b23, .ref b24, .ref b25, .ref b26, .ref b27, .ref b28, .int b29, .ref b30, .ref b31, .int b32, .int b33, .int b34, .int b35, .ref b36, .ref b37, .ref b38, .ref b39, .ref b40, .ref b41, .ref b42, .int b43, .ref b44, .ref b45, .int b46, .ref b47, .ref b48, .ref b49, .ref b50, .ref b51, .int b52, .ref b53, .ref b54, .ref b55])), (b54, .inl (G.2 0, 20, .inl b57)), (b55, .inl (G.2 0, 20, .inl b58))] H := hP
        have hD := z_tie hP hD rfl
        refine W.widen (k := 0) (n := 0) (Nat.le_of_ble_eq_true rfl) (Nat.le_of_ble_eq_true rfl) ?_
        refine lv_if_eq (tgt := 31) hx hb d_Model_placeAmong_24 (by decide) (fun hc_440 => ?_) (fun hc_440 => ?_)
        · have _nhc_440 := hc_440
          have ni_441 := (fa_eq _ _).mp hc_440
          rw [li_0] at ni_441
          have hv_442 : zI x_439 0 0 := zI.eq_l hx_439 zc_0 hc_440
          refine lv_iconst (v := 0) hx hb d_Model_placeAmong_31 (by decide) ?_
          refine lv_iadd hx hb d_Model_placeAmong_32 ?_
          refine lv_topi (fun v_443 ev_443 => ?_)
          obtain ⟨qv_443, hv_443⟩ := zI_add (l := -2147483648) (h := 2147483647) (zI_all y_425) zc_0 ev_443 (by decide)
          rw [li_0] at qv_443
          refine lv_istore_n (lv' := [(2, .int v_443), (3, .int y_424), (0, .ref b0), (1, .int b1)]) hx hb d_Model_placeAmong_33 rfl hl (by decide) rfl (fun ls hl => ?_)
          obtain ⟨v_444, ev_444⟩ : ∃ z : Int32, z = y_424 + 1 := ⟨_, rfl⟩
          obtain ⟨qv_444, hv_444⟩ := zI_add (l := 1) (h := 20) hv_431 zc_1 ev_444 (by decide)
          rw [li_1] at qv_444
          refine lv_iinc (v := v_444) (lv' := [(3, .int v_444), (2, .int v_443), (0, .ref b0), (1, .int b1)]) hx hb d_Model_placeAmong_34 hl (k := 1) rfl (by rw [ev_444]; rfl) (by decide) rfl (fun ls hl => ?_)
          refine lv_goto (tgt := 4) hx hb d_Model_placeAmong_37 (by decide) ?_
          exact ihk_423 (v_444) (v_443) _ _ _ (zI.wk (l' := 0) (h' := 20) hv_444 (by decide)) (zm_up qv_444 hmk_423 (by decide)) (hP.sub [1, 0, 2, 3] rfl) (hD.sub [1, 0, 2, 3] (by decide) rfl) hS (lv_sub hl [0, 1, 2, 3] rfl)
        · have _nhc_440 := hc_440
          have ni_445 : ¬ (x_439 : Int32).toInt = (0 : Int32).toInt := fun z => hc_440 ((fa_eq _ _).mpr z)
          simp only [li_0] at ni_445
          have hv_446 : zI x_439 1 1 := zI.ne_lo hx_439 zc_0 hc_440 (by decide)
          refine lv_iconst (v := 1) hx hb d_Model_placeAmong_27 (by decide) ?_
          refine lv_goto (tgt := 32) hx hb d_Model_placeAmong_28 (by decide) ?_
          refine lv_iadd hx hb d_Model_placeAmong_32 ?_
          refine lv_topi (fun v_447 ev_447 => ?_)
          refine lv_istore_n (lv' := [(2, .int v_447), (3, .int y_424), (0, .ref b0), (1, .int b1)]) hx hb d_Model_placeAmong_33 rfl hl (by decide) rfl (fun ls hl => ?_)
          obtain ⟨v_448, ev_448⟩ : ∃ z : Int32, z = y_424 + 1 := ⟨_, rfl⟩
          obtain ⟨qv_448, hv_448⟩ := zI_add (l := 1) (h := 20) hv_431 zc_1 ev_448 (by decide)
          rw [li_1] at qv_448
          refine lv_iinc (v := v_448) (lv' := [(3, .int v_448), (2, .int v_447), (0, .ref b0), (1, .int b1)]) hx hb d_Model_placeAmong_34 hl (k := 1) rfl (by rw [ev_448]; rfl) (by decide) rfl (fun ls hl => ?_)
          refine lv_goto (tgt := 4) hx hb d_Model_placeAmong_37 (by decide) ?_
          exact ihk_423 (v_448) (v_447) _ _ _ (zI.wk (l' := 0) (h' := 20) hv_448 (by decide)) (zm_up qv_448 hmk_423 (by decide)) (hP.sub [1, 0, 2, 3] rfl) (hD.sub [1, 0, 2, 3] (by decide) rfl) hS (lv_sub hl [0, 1, 2, 3] rfl)
