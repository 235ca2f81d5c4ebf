theorem d_Model_many_0 : decode prog_14_method_4_code 0 = .ok (.aload_n 0, 1) := by decide +kernel
theorem d_Model_many_1 : decode prog_14_method_4_code 1 = .ok (.getfield 13, 3) := by decide +kernel
theorem d_Model_many_4 : decode prog_14_method_4_code 4 = .ok (.iconst 0, 1) := by decide +kernel
theorem d_Model_many_5 : decode prog_14_method_4_code 5 = .ok (.iaload, 1) := by decide +kernel
theorem d_Model_many_6 : decode prog_14_method_4_code 6 = .ok (.ireturn, 1) := by decide +kernel
abbrev m_s1_Model_many : Room := { frames := 0, cells := 0, slots := 0, locals := 0 }
set_option maxHeartbeats 4000000 in
set_option maxRecDepth 100000 in
theorem s1_Model_many (l : Launch) (G : zG) (b0 : Nat) (b1 : Int32) (b2 : Nat) (b3 : Nat) (b4 : Nat) (b5 : Nat) (b6 : Int32) (b7 : Nat) (b8 : Int32) (b9 : Int32) (b10 : Int32) (b11 : Int32) (b12 : Nat) (b13 : Nat) (b14 : Nat) (b15 : Int32) (b16 : Nat) (b17 : Nat) (b18 : Nat) (b19 : Nat) (b20 : Nat) (b21 : Nat) (b22 : Nat) (b23 : Nat) (b24 : Nat) (b25 : Nat) (b26 : Nat) (b27 : Nat) (b28 : Int32) (b29 : Nat) (b30 : Nat) (b31 : Int32) (b32 : Int32) (b33 : Int32) (b34 : Int32) (b35 : Nat) (b36 : Nat) (b37 : Nat) (b38 : Nat) (b39 : Nat) (b40 : Nat) (b41 : Nat) (b42 : Int32) (b43 : Nat) (b44 : Nat) (b45 : Int32) (b46 : Nat) (b47 : Nat) (b48 : Nat) (b49 : Nat) (b50 : Nat) (b51 : Int32) (b52 : Nat) (b53 : Nat) (b54 : Nat) (b55 : Nat → Int32) (hb6 : zI b6 0 8) (hb8 : zI b8 0 240) (hb9 : zI b9 0 240) (hb11 : zI b11 0 1) (hb15 : zI b15 0 12) (hb28 : zI b28 0 1) (hb31 : zI b31 0 1) (hb42 : zI b42 0 1000) (hb45 : zI b45 0 1000) (hb51 : zI b51 0 400) (hb55 : zW5 b55) : zM l G y_Model_many prog_14_method_4_code 1 (Option.some Jvm.ClassFile.FieldType.int) m_s1_Model_many [.ref b0] [(b0, .inr (12, [.int b1, .ref b2, .ref b3, .ref b4, .ref b5, .int b6, .ref b7, .int b8, .int b9, .int b10, .int b11, .ref b12, .ref b13, .ref b14, .int b15, .ref b16, .ref b17, .ref b18, .ref b19, .ref b20, .ref b21, .ref b22, .ref b23, .ref b24, .ref b25, .ref b26, .ref b27, .int b28, .ref b29, .ref b30, .int b31, .int b32, .int b33, .int b34, .ref b35, .ref b36, .ref b37, .ref b38, .ref b39, .ref b40, .ref b41, .int b42, .ref b43, .ref b44, .int b45, .ref b46, .ref b47, .ref b48, .ref b49, .ref b50, .int b51, .ref b52, .ref b53, .ref b54])), (b2, .inl (G.2 0, 503, .inl b55))] (fun v w => ∃ (e0 : Int32), v = some (.int e0) ∧ w = [(b0, .inr (12, [.int b1, .ref b2, .ref b3, .ref b4, .ref b5, .int b6, .ref b7, .int b8, .int b9, .int b10, .int b11, .ref b12, .ref b13, .ref b14, .int b15, .ref b16, .ref b17, .ref b18, .ref b19, .ref b20, .ref b21, .ref b22, .ref b23, .ref b24, .ref b25, .ref b26, .ref b27, .int b28, .ref b29, .ref b30, .int b31, .int b32, .int b33, .int b34, .ref b35, .ref b36, .ref b37, .ref b38, .ref b39, .ref b40, .ref b41, .int b42, .ref b43, .ref b44, .int b45, .ref b46, .ref b47, .ref b48, .ref b49, .ref b50, .int b51, .ref b52, .ref b53, .ref b54])), (b2, .inl (G.2 0, 503, .inl b55))] ∧ (zI e0 0 20) ∧ (e0 = b55 (0 : Int32).toNatClampNeg)) := by
  refine z_start (by decide +kernel) (Nat.le_of_ble_eq_true rfl) ?_
  intro p e s m below meth c A Z hr hnm hA hP hD hS ls hl
  have Z : zC p s m _ meth c prog_14_method_4_code 1 "TraceMachinesModel" G := Z
  obtain ⟨hx, hb, hml, hown, hts, hK, hN, hlocks⟩ := id Z
  have hl : lv_has ls 1 [(0, .ref b0)] := hl
  refine lv_aload_n hx hb d_Model_many_0 rfl (lv_at hl 0 rfl) ?_
  refine va_get (D := G.1) (ci := 12) (v := .ref b2) (C := R_Model) (T := F_Model) (N := 54) hx hb hts i_Model hown hK hP 0 rfl rfl 1 (by decide) (hts _ q1110) (fun _ h9 => h9) rfl d_Model_many_1 ?_
  refine lv_iconst (v := 0) hx hb d_Model_many_4 (by decide) ?_
  refine va_iald hx hb hK hP 1 0 rfl rfl (i := 0) (z_in rfl) d_Model_many_5 ?_
  refine lv_topi (fun v_1 ev_1 => ?_)
  have hv_1 : zI v_1 0 20 := zW5.ld hb55 zc_0 ev_1 (by decide)
  exact z_iret hx hb hr hlocks hP hD hS (Nat.le_of_ble_eq_true rfl) (Nat.le_of_ble_eq_true rfl) d_Model_many_6 ⟨v_1, rfl, rfl, hv_1, ev_1⟩
theorem d_Model_calls_0 : decode prog_14_method_6_code 0 = .ok (.aload_n 0, 1) := by decide +kernel
theorem d_Model_calls_1 : decode prog_14_method_6_code 1 = .ok (.getfield 13, 3) := by decide +kernel
theorem d_Model_calls_4 : decode prog_14_method_6_code 4 = .ok (.iconst 1, 1) := by decide +kernel
theorem d_Model_calls_5 : decode prog_14_method_6_code 5 = .ok (.iload_n 1, 1) := by decide +kernel
theorem d_Model_calls_6 : decode prog_14_method_6_code 6 = .ok (.iadd, 1) := by decide +kernel
theorem d_Model_calls_7 : decode prog_14_method_6_code 7 = .ok (.iaload, 1) := by decide +kernel
theorem d_Model_calls_8 : decode prog_14_method_6_code 8 = .ok (.ireturn, 1) := by decide +kernel
abbrev m_s1_Model_calls : Room := { frames := 0, cells := 0, slots := 0, locals := 0 }
set_option maxHeartbeats 4000000 in
set_option maxRecDepth 100000 in
theorem s1_Model_calls (l : Launch) (G : zG) (b0 : Nat) (b1 : Int32) (b2 : Int32) (b3 : Nat) (b4 : Nat) (b5 : Nat) (b6 : Nat) (b7 : Int32) (b8 : Nat) (b9 : Int32) (b10 : Int32) (b11 : Int32) (b12 : Int32) (b13 : Nat) (b14 : Nat) (b15 : Nat) (b16 : Int32) (b17 : Nat) (b18 : Nat) (b19 : Nat) (b20 : Nat) (b21 : Nat) (b22 : Nat) (b23 : Nat) (b24 : Nat) (b25 : Nat) (b26 : Nat) (b27 : Nat) (b28 : Nat) (b29 : Int32) (b30 : Nat) (b31 : Nat) (b32 : Int32) (b33 : Int32) (b34 : Int32) (b35 : Int32) (b36 : Nat) (b37 : Nat) (b38 : Nat) (b39 : Nat) (b40 : Nat) (b41 : Nat) (b42 : Nat) (b43 : Int32) (b44 : Nat) (b45 : Nat) (b46 : Int32) (b47 : Nat) (b48 : Nat) (b49 : Nat) (b50 : Nat) (b51 : Nat) (b52 : Int32) (b53 : Nat) (b54 : Nat) (b55 : Nat) (b56 : Nat → Int32) (hb1 : zI b1 0 19) (hb7 : zI b7 0 8) (hb9 : zI b9 0 240) (hb10 : zI b10 0 240) (hb12 : zI b12 0 1) (hb16 : zI b16 0 12) (hb29 : zI b29 0 1) (hb32 : zI b32 0 1) (hb43 : zI b43 0 1000) (hb46 : zI b46 0 1000) (hb52 : zI b52 0 400) (hb56 : zW5 b56) : zM l G y_Model_calls prog_14_method_6_code 2 (Option.some Jvm.ClassFile.FieldType.int) m_s1_Model_calls [.ref b0, .int b1] [(b0, .inr (12, [.int b2, .ref b3, .ref b4, .ref b5, .ref b6, .int b7, .ref b8, .int b9, .int b10, .int b11, .int b12, .ref b13, .ref b14, .ref b15, .int b16, .ref b17, .ref b18, .ref b19, .ref b20, .ref b21, .ref b22, .ref b23, .ref b24, .ref b25, .ref b26, .ref b27, .ref b28, .int b29, .ref b30, .ref b31, .int b32, .int b33, .int b34, .int b35, .ref b36, .ref b37, .ref b38, .ref b39, .ref b40, .ref b41, .ref b42, .int b43, .ref b44, .ref b45, .int b46, .ref b47, .ref b48, .ref b49, .ref b50, .ref b51, .int b52, .ref b53, .ref b54, .ref b55])), (b3, .inl (G.2 0, 503, .inl b56))] (fun v w => ∃ (e0 : Int32), v = some (.int e0) ∧ w = [(b0, .inr (12, [.int b2, .ref b3, .ref b4, .ref b5, .ref b6, .int b7, .ref b8, .int b9, .int b10, .int b11, .int b12, .ref b13, .ref b14, .ref b15, .int b16, .ref b17, .ref b18, .ref b19, .ref b20, .ref b21, .ref b22, .ref b23, .ref b24, .ref b25, .ref b26, .ref b27, .ref b28, .int b29, .ref b30, .ref b31, .int b32, .int b33, .int b34, .int b35, .ref b36, .ref b37, .ref b38, .ref b39, .ref b40, .ref b41, .ref b42, .int b43, .ref b44, .ref b45, .int b46, .ref b47, .ref b48, .ref b49, .ref b50, .ref b51, .int b52, .ref b53, .ref b54, .ref b55])), (b3, .inl (G.2 0, 503, .inl b56))] ∧ (zI e0 0 12) ∧ (e0 = b56 (1 + b1.toInt.toNat))) := by
  refine z_start (by decide +kernel) (Nat.le_of_ble_eq_true rfl) ?_
  intro p e s m below meth c A Z hr hnm hA hP hD hS ls hl
  have Z : zC p s m _ meth c prog_14_method_6_code 2 "TraceMachinesModel" G := Z
  obtain ⟨hx, hb, hml, hown, hts, hK, hN, hlocks⟩ := id Z
  have hl : lv_has ls 2 [(0, .ref b0), (1, .int b1)] := hl
  refine lv_aload_n hx hb d_Model_calls_0 rfl (lv_at hl 0 rfl) ?_
  refine va_get (D := G.1) (ci := 12) (v := .ref b3) (C := R_Model) (T := F_Model) (N := 54) hx hb hts i_Model hown hK hP 0 rfl rfl 1 (by decide) (hts _ q1110) (fun _ h9 => h9) rfl d_Model_calls_1 ?_
  refine lv_iconst (v := 1) hx hb d_Model_calls_4 (by decide) ?_
  refine lv_iload_n hx hb d_Model_calls_5 rfl (lv_at hl 1 rfl) ?_
  refine lv_iadd hx hb d_Model_calls_6 ?_
  refine lv_topi (fun v_1 ev_1 => ?_)
  obtain ⟨qv_1, hv_1⟩ := zI_add (l := 1) (h := 20) zc_1 hb1 ev_1 (by decide)
  rw [li_1] at qv_1
  refine va_iald hx hb hK hP 1 0 rfl rfl (zI.inn hv_1 (by decide)) d_Model_calls_7 ?_
  refine lv_topi (fun v_2 ev_2 => ?_)
  have hv_2 : zI v_2 0 12 := zW5.ld hb56 hv_1 ev_2 (by decide)
  exact z_iret hx hb hr hlocks hP hD hS (Nat.le_of_ble_eq_true rfl) (Nat.le_of_ble_eq_true rfl) d_Model_calls_8 ⟨v_2, rfl, rfl, hv_2, (by rw [ev_2, z_plf hv_1 (by decide)]; congr 1; omega)⟩
theorem d_Model_letterAt_0 : decode prog_14_method_7_code 0 = .ok (.aload_n 0, 1) := by decide +kernel
theorem d_Model_letterAt_1 : decode prog_14_method_7_code 1 = .ok (.getfield 13, 3) := by decide +kernel
theorem d_Model_letterAt_4 : decode prog_14_method_7_code 4 = .ok (.bipush 21, 2) := by decide +kernel
theorem d_Model_letterAt_6 : decode prog_14_method_7_code 6 = .ok (.bipush 12, 2) := by decide +kernel
theorem d_Model_letterAt_8 : decode prog_14_method_7_code 8 = .ok (.iload_n 1, 1) := by decide +kernel
theorem d_Model_letterAt_9 : decode prog_14_method_7_code 9 = .ok (.imul, 1) := by decide +kernel
theorem d_Model_letterAt_10 : decode prog_14_method_7_code 10 = .ok (.iadd, 1) := by decide +kernel
theorem d_Model_letterAt_11 : decode prog_14_method_7_code 11 = .ok (.iload_n 2, 1) := by decide +kernel
theorem d_Model_letterAt_12 : decode prog_14_method_7_code 12 = .ok (.iadd, 1) := by decide +kernel
theorem d_Model_letterAt_13 : decode prog_14_method_7_code 13 = .ok (.iaload, 1) := by decide +kernel
theorem d_Model_letterAt_14 : decode prog_14_method_7_code 14 = .ok (.ireturn, 1) := by decide +kernel
abbrev m_s1_Model_letterAt : Room := { frames := 0, cells := 0, slots := 0, locals := 0 }
set_option maxHeartbeats 4000000 in
set_option maxRecDepth 100000 in
theorem s1_Model_letterAt (l : Launch) (G : zG) (b0 : Nat) (b1 : Int32) (b2 : Int32) (b3 : Int32) (b4 : Nat) (b5 : Nat) (b6 : Nat) (b7 : Nat) (b8 : Int32) (b9 : Nat) (b10 : Int32) (b11 : Int32) (b12 : Int32) (b13 : Int32) (b14 : Nat) (b15 : Nat) (b16 : Nat) (b17 : Int32) (b18 : Nat) (b19 : Nat) (b20 : Nat) (b21 : Nat) (b22 : Nat) (b23 : Nat) (b24 : Nat) (b25 : Nat) (b26 : Nat) (b27 : Nat) (b28 : Nat) (b29 : Nat) (b30 : Int32) (b31 : Nat) (b32 : Nat) (b33 : Int32) (b34 : Int32) (b35 : Int32) (b36 : Int32) (b37 : Nat) (b38 : Nat) (b39 : Nat) (b40 : Nat) (b41 : Nat) (b42 : Nat) (b43 : Nat) (b44 : Int32) (b45 : Nat) (b46 : Nat) (b47 : Int32) (b48 : Nat) (b49 : Nat) (b50 : Nat) (b51 : Nat) (b52 : Nat) (b53 : Int32) (b54 : Nat) (b55 : Nat) (b56 : Nat) (b57 : Nat → Int32) (hb1 : zI b1 0 19) (hb2 : zI b2 0 11) (hb8 : zI b8 0 8) (hb10 : zI b10 0 240) (hb11 : zI b11 0 240) (hb13 : zI b13 0 1) (hb17 : zI b17 0 12) (hb30 : zI b30 0 1) (hb33 : zI b33 0 1) (hb44 : zI b44 0 1000) (hb47 : zI b47 0 1000) (hb53 : zI b53 0 400) (hb57 : zW5 b57) : zM l G y_Model_letterAt prog_14_method_7_code 3 (Option.some Jvm.ClassFile.FieldType.int) m_s1_Model_letterAt [.ref b0, .int b1, .int b2] [(b0, .inr (12, [.int b3, .ref b4, .ref b5, .ref b6, .ref b7, .int b8, .ref b9, .int b10, .int b11, .int b12, .int b13, .ref b14, .ref b15, .ref b16, .int b17, .ref b18, .ref b19, .ref b20, .ref b21, .ref b22, .ref b23, .ref b24, .ref b25, .ref b26, .ref b27, .ref b28, .ref b29, .int b30, .ref b31, .ref b32, .int b33, .int b34, .int b35, .int b36, .ref b37, .ref b38, .ref b39, .ref b40, .ref b41, .ref b42, .ref b43, .int b44, .ref b45, .ref b46, .int b47, .ref b48, .ref b49, .ref b50, .ref b51, .ref b52, .int b53, .ref b54, .ref b55, .ref b56])), (b4, .inl (G.2 0, 503, .inl b57))] (fun v w => ∃ (e0 : Int32), v = some (.int e0) ∧ w = [(b0, .inr (12, [.int b3, .ref b4, .ref b5, .ref b6, .ref b7, .int b8, .ref b9, .int b10, .int b11, .int b12, .int b13, .ref b14, .ref b15, .ref b16, .int b17, .ref b18, .ref b19, .ref b20, .ref b21, .ref b22, .ref b23, .ref b24, .ref b25, .ref b26, .ref b27, .ref b28, .ref b29, .int b30, .ref b31, .ref b32, .int b33, .int b34, .int b35, .int b36, .ref b37, .ref b38, .ref b39, .ref b40, .ref b41, .ref b42, .ref b43, .int b44, .ref b45, .ref b46, .int b47, .ref b48, .ref b49, .ref b50, .ref b51, .ref b52, .int b53, .ref b54, .ref b55, .ref b56])), (b4, .inl (G.2 0, 503, .inl b57))] ∧ (zI e0 0 9)) := by
  refine z_start (by decide +kernel) (Nat.le_of_ble_eq_true rfl) ?_
  intro p e s m below meth c A Z hr hnm hA hP hD hS ls hl
  have Z : zC p s m _ meth c prog_14_method_7_code 3 "TraceMachinesModel" G := Z
  obtain ⟨hx, hb, hml, hown, hts, hK, hN, hlocks⟩ := id Z
  have hl : lv_has ls 3 [(0, .ref b0), (1, .int b1), (2, .int b2)] := hl
  refine lv_aload_n hx hb d_Model_letterAt_0 rfl (lv_at hl 0 rfl) ?_
  refine va_get (D := G.1) (ci := 12) (v := .ref b4) (C := R_Model) (T := F_Model) (N := 54) hx hb hts i_Model hown hK hP 0 rfl rfl 1 (by decide) (hts _ q1110) (fun _ h9 => h9) rfl d_Model_letterAt_1 ?_
  refine lv_bipush (v := 21) hx hb d_Model_letterAt_4 (by decide) ?_
  refine lv_bipush (v := 12) hx hb d_Model_letterAt_6 (by decide) ?_
  refine lv_iload_n hx hb d_Model_letterAt_8 rfl (lv_at hl 1 rfl) ?_
  refine lv_imul hx hb d_Model_letterAt_9 ?_
  refine lv_topi (fun v_1 ev_1 => ?_)
  obtain ⟨qv_1, hv_1⟩ := zI_mul (l := 0) (h := 228) zc_12 hb1 ev_1 (by decide)
  rw [li_12] at qv_1
  refine lv_iadd hx hb d_Model_letterAt_10 ?_
  refine lv_topi (fun v_2 ev_2 => ?_)
  obtain ⟨qv_2, hv_2⟩ := zI_add (l := 21) (h := 249) zc_21 hv_1 ev_2 (by decide)
  rw [li_21] at qv_2
  refine lv_iload_n hx hb d_Model_letterAt_11 rfl (lv_at hl 2 rfl) ?_
  refine lv_iadd hx hb d_Model_letterAt_12 ?_
  refine lv_topi (fun v_3 ev_3 => ?_)
  obtain ⟨qv_3, hv_3⟩ := zI_add (l := 21) (h := 260) hv_2 hb2 ev_3 (by decide)
  refine va_iald hx hb hK hP 1 0 rfl rfl (zI.inn hv_3 (by decide)) d_Model_letterAt_13 ?_
  refine lv_topi (fun v_4 ev_4 => ?_)
  have hv_4 : zI v_4 0 9 := zW5.ld hb57 hv_3 ev_4 (by decide)
  exact z_iret hx hb hr hlocks hP hD hS (Nat.le_of_ble_eq_true rfl) (Nat.le_of_ble_eq_true rfl) d_Model_letterAt_14 ⟨v_4, rfl, rfl, hv_4⟩
theorem d_Model_valueAt_0 : decode prog_14_method_8_code 0 = .ok (.aload_n 0, 1) := by decide +kernel
theorem d_Model_valueAt_1 : decode prog_14_method_8_code 1 = .ok (.getfield 13, 3) := by decide +kernel
theorem d_Model_valueAt_4 : decode prog_14_method_8_code 4 = .ok (.sipush 261, 3) := by decide +kernel
theorem d_Model_valueAt_7 : decode prog_14_method_8_code 7 = .ok (.bipush 12, 2) := by decide +kernel
theorem d_Model_valueAt_9 : decode prog_14_method_8_code 9 = .ok (.iload_n 1, 1) := by decide +kernel
theorem d_Model_valueAt_10 : decode prog_14_method_8_code 10 = .ok (.imul, 1) := by decide +kernel
theorem d_Model_valueAt_11 : decode prog_14_method_8_code 11 = .ok (.iadd, 1) := by decide +kernel
theorem d_Model_valueAt_12 : decode prog_14_method_8_code 12 = .ok (.iload_n 2, 1) := by decide +kernel
theorem d_Model_valueAt_13 : decode prog_14_method_8_code 13 = .ok (.iadd, 1) := by decide +kernel
theorem d_Model_valueAt_14 : decode prog_14_method_8_code 14 = .ok (.iaload, 1) := by decide +kernel
theorem d_Model_valueAt_15 : decode prog_14_method_8_code 15 = .ok (.ireturn, 1) := by decide +kernel
theorem zc_261 : zI 261 261 261 := ⟨by decide +kernel, by decide +kernel⟩
theorem li_261 : (261 : Int32).toInt = 261 := by decide +kernel
abbrev m_s1_Model_valueAt : Room := { frames := 0, cells := 0, slots := 0, locals := 0 }
set_option maxHeartbeats 4000000 in
set_option maxRecDepth 100000 in
theorem s1_Model_valueAt (l : Launch) (G : zG) (b0 : Nat) (b1 : Int32) (b2 : Int32) (b3 : Int32) (b4 : Nat) (b5 : Nat) (b6 : Nat) (b7 : Nat) (b8 : Int32) (b9 : Nat) (b10 : Int32) (b11 : Int32) (b12 : Int32) (b13 : Int32) (b14 : Nat) (b15 : Nat) (b16 : Nat) (b17 : Int32) (b18 : Nat) (b19 : Nat) (b20 : Nat) (b21 : Nat) (b22 : Nat) (b23 : Nat) (b24 : Nat) (b25 : Nat) (b26 : Nat) (b27 : Nat) (b28 : Nat) (b29 : Nat) (b30 : Int32) (b31 : Nat) (b32 : Nat) (b33 : Int32) (b34 : Int32) (b35 : Int32) (b36 : Int32) (b37 : Nat) (b38 : Nat) (b39 : Nat) (b40 : Nat) (b41 : Nat) (b42 : Nat) (b43 : Nat) (b44 : Int32) (b45 : Nat) (b46 : Nat) (b47 : Int32) (b48 : Nat) (b49 : Nat) (b50 : Nat) (b51 : Nat) (b52 : Nat) (b53 : Int32) (b54 : Nat) (b55 : Nat) (b56 : Nat) (b57 : Nat → Int32) (hb1 : zI b1 0 19) (hb2 : zI b2 0 11) (hb8 : zI b8 0 8) (hb10 : zI b10 0 240) (hb11 : zI b11 0 240) (hb13 : zI b13 0 1) (hb17 : zI b17 0 12) (hb30 : zI b30 0 1) (hb33 : zI b33 0 1) (hb44 : zI b44 0 1000) (hb47 : zI b47 0 1000) (hb53 : zI b53 0 400) (hb57 : zW5 b57) : zM l G y_Model_valueAt prog_14_method_8_code 3 (Option.some Jvm.ClassFile.FieldType.int) m_s1_Model_valueAt [.ref b0, .int b1, .int b2] [(b0, .inr (12, [.int b3, .ref b4, .ref b5, .ref b6, .ref b7, .int b8, .ref b9, .int b10, .int b11, .int b12, .int b13, .ref b14, .ref b15, .ref b16, .int b17, .ref b18, .ref b19, .ref b20, .ref b21, .ref b22, .ref b23, .ref b24, .ref b25, .ref b26, .ref b27, .ref b28, .ref b29, .int b30, .ref b31, .ref b32, .int b33, .int b34, .int b35, .int b36, .ref b37, .ref b38, .ref b39, .ref b40, .ref b41, .ref b42, .ref b43, .int b44, .ref b45, .ref b46, .int b47, .ref b48, .ref b49, .ref b50, .ref b51, .ref b52, .int b53, .ref b54, .ref b55, .ref b56])), (b4, .inl (G.2 0, 503, .inl b57))] (fun v w => ∃ (e0 : Int32), v = some (.int e0) ∧ w = [(b0, .inr (12, [.int b3, .ref b4, .ref b5, .ref b6, .ref b7, .int b8, .ref b9, .int b10, .int b11, .int b12, .int b13, .ref b14, .ref b15, .ref b16, .int b17, .ref b18, .ref b19, .ref b20, .ref b21, .ref b22, .ref b23, .ref b24, .ref b25, .ref b26, .ref b27, .ref b28, .ref b29, .int b30, .ref b31, .ref b32, .int b33, .int b34, .int b35, .int b36, .ref b37, .ref b38, .ref b39, .ref b40, .ref b41, .ref b42, .ref b43, .int b44, .ref b45, .ref b46, .int b47, .ref b48, .ref b49, .ref b50, .ref b51, .ref b52, .int b53, .ref b54, .ref b55, .ref b56])), (b4, .inl (G.2 0, 503, .inl b57))]) := by
  refine z_start (by decide +kernel) (Nat.le_of_ble_eq_true rfl) ?_
  intro p e s m below meth c A Z hr hnm hA hP hD hS ls hl
  have Z : zC p s m _ meth c prog_14_method_8_code 3 "TraceMachinesModel" G := Z
  obtain ⟨hx, hb, hml, hown, hts, hK, hN, hlocks⟩ := id Z
  have hl : lv_has ls 3 [(0, .ref b0), (1, .int b1), (2, .int b2)] := hl
  refine lv_aload_n hx hb d_Model_valueAt_0 rfl (lv_at hl 0 rfl) ?_
  refine va_get (D := G.1) (ci := 12) (v := .ref b4) (C := R_Model) (T := F_Model) (N := 54) hx hb hts i_Model hown hK hP 0 rfl rfl 1 (by decide) (hts _ q1110) (fun _ h9 => h9) rfl d_Model_valueAt_1 ?_
  refine lv_sipush (v := 261) hx hb d_Model_valueAt_4 (by decide) ?_
  refine lv_bipush (v := 12) hx hb d_Model_valueAt_7 (by decide) ?_
  refine lv_iload_n hx hb d_Model_valueAt_9 rfl (lv_at hl 1 rfl) ?_
  refine lv_imul hx hb d_Model_valueAt_10 ?_
  refine lv_topi (fun v_1 ev_1 => ?_)
  obtain ⟨qv_1, hv_1⟩ := zI_mul (l := 0) (h := 228) zc_12 hb1 ev_1 (by decide)
  rw [li_12] at qv_1
  refine lv_iadd hx hb d_Model_valueAt_11 ?_
  refine lv_topi (fun v_2 ev_2 => ?_)
  obtain ⟨qv_2, hv_2⟩ := zI_add (l := 261) (h := 489) zc_261 hv_1 ev_2 (by decide)
  rw [li_261] at qv_2
  refine lv_iload_n hx hb d_Model_valueAt_12 rfl (lv_at hl 2 rfl) ?_
  refine lv_iadd hx hb d_Model_valueAt_13 ?_
  refine lv_topi (fun v_3 ev_3 => ?_)
  obtain ⟨qv_3, hv_3⟩ := zI_add (l := 261) (h := 500) hv_2 hb2 ev_3 (by decide)
  refine va_iald hx hb hK hP 1 0 rfl rfl (zI.inn hv_3 (by decide)) d_Model_valueAt_14 ?_
  refine lv_topi (fun v_4 ev_4 => ?_)
  exact z_iret hx hb hr hlocks hP hD hS (Nat.le_of_ble_eq_true rfl) (Nat.le_of_ble_eq_true rfl) d_Model_valueAt_15 ⟨v_4, rfl, rfl⟩
theorem d_Model_callsOfAll_0 : decode prog_14_method_94_code 0 = .ok (.iconst 0, 1) := by decide +kernel
theorem d_Model_callsOfAll_1 : decode prog_14_method_94_code 1 = .ok (.istore_n 1, 1) := by decide +kernel
theorem d_Model_callsOfAll_2 : decode prog_14_method_94_code 2 = .ok (.iconst 0, 1) := by decide +kernel
theorem d_Model_callsOfAll_3 : decode prog_14_method_94_code 3 = .ok (.istore_n 2, 1) := by decide +kernel
theorem d_Model_callsOfAll_4 : decode prog_14_method_94_code 4 = .ok (.iload_n 2, 1) := by decide +kernel
theorem d_Model_callsOfAll_5 : decode prog_14_method_94_code 5 = .ok (.aload_n 0, 1) := by decide +kernel
theorem d_Model_callsOfAll_6 : decode prog_14_method_94_code 6 = .ok (.invokevirtual 134, 3) := by decide +kernel
theorem d_Model_callsOfAll_9 : decode prog_14_method_94_code 9 = .ok (.if_icmp .ge 17, 3) := by decide +kernel
theorem d_Model_callsOfAll_12 : decode prog_14_method_94_code 12 = .ok (.iload_n 1, 1) := by decide +kernel
theorem d_Model_callsOfAll_13 : decode prog_14_method_94_code 13 = .ok (.aload_n 0, 1) := by decide +kernel
theorem d_Model_callsOfAll_14 : decode prog_14_method_94_code 14 = .ok (.iload_n 2, 1) := by decide +kernel
theorem d_Model_callsOfAll_15 : decode prog_14_method_94_code 15 = .ok (.invokevirtual 203, 3) := by decide +kernel
theorem d_Model_callsOfAll_18 : decode prog_14_method_94_code 18 = .ok (.iadd, 1) := by decide +kernel
theorem d_Model_callsOfAll_19 : decode prog_14_method_94_code 19 = .ok (.istore_n 1, 1) := by decide +kernel
theorem d_Model_callsOfAll_20 : decode prog_14_method_94_code 20 = .ok (.iinc 2 1, 3) := by decide +kernel
theorem d_Model_callsOfAll_23 : decode prog_14_method_94_code 23 = .ok (.goto (-19), 3) := by decide +kernel
theorem d_Model_callsOfAll_26 : decode prog_14_method_94_code 26 = .ok (.iload_n 1, 1) := by decide +kernel
theorem d_Model_callsOfAll_27 : decode prog_14_method_94_code 27 = .ok (.ireturn, 1) := by decide +kernel
abbrev m_s1_Model_callsOfAll : Room := { frames := 1, cells := 0, slots := 0, locals := 21 }
set_option maxHeartbeats 4000000 in
set_option maxRecDepth 100000 in
theorem s1_Model_callsOfAll (l : Launch) (G : zG) (b0 : Nat) (b1 : Int32) (b2 : Nat) (b3 : Nat) (b4 : Nat) (b5 : Nat) (b6 : Int32) (b7 : Nat) (b8 : Int32) (b9 : Int32) (b10 : Int32) (b11 : Int32) (b12 : Nat) (b13 : Nat) (b14 : Nat) (b15 : Int32) (b16 : Nat) (b17 : Nat) (b18 : Nat) (b19 : Nat) (b20 : Nat) (b21 : Nat) (b22 : Nat) (b23 : Nat) (b24 : Nat) (b25 : Nat) (b26 : Nat) (b27 : Nat) (b28 : Int32) (b29 : Nat) (b30 : Nat) (b31 : Int32) (b32 : Int32) (b33 : Int32) (b34 : Int32) (b35 : Nat) (b36 : Nat) (b37 : Nat) (b38 : Nat) (b39 : Nat) (b40 : Nat) (b41 : Nat) (b42 : Int32) (b43 : Nat) (b44 : Nat) (b45 : Int32) (b46 : Nat) (b47 : Nat) (b48 : Nat) (b49 : Nat) (b50 : Nat) (b51 : Int32) (b52 : Nat) (b53 : Nat) (b54 : Nat) (b55 : Nat → Int32) (hb6 : zI b6 0 8) (hb8 : zI b8 0 240) (hb9 : zI b9 0 240) (hb11 : zI b11 0 1) (hb15 : zI b15 0 12) (hb28 : zI b28 0 1) (hb31 : zI b31 0 1) (hb42 : zI b42 0 1000) (hb45 : zI b45 0 1000) (hb51 : zI b51 0 400) (hb55 : zW5 b55) : zM l G y_Model_callsOfAll prog_14_method_94_code 3 (Option.some Jvm.ClassFile.FieldType.int) m_s1_Model_callsOfAll [.ref b0] [(b0, .inr (12, [.int b1, .ref b2, .ref b3, .ref b4, .ref b5, .int b6, .ref b7, .int b8, .int b9, .int b10, .int b11, .ref b12, .ref b13, .ref b14, .int b15, .ref b16, .ref b17, .ref b18, .ref b19, .ref b20, .ref b21, .ref b22, .ref b23, .ref b24, .ref b25, .ref b26, .ref b27, .int b28, .ref b29, .ref b30, .int b31, .int b32, .int b33, .int b34, .ref b35, .ref b36, .ref b37, .ref b38, .ref b39, .ref b40, .ref b41, .int b42, .ref b43, .ref b44, .int b45, .ref b46, .ref b47, .ref b48, .ref b49, .ref b50, .int b51, .ref b52, .ref b53, .ref b54])), (b2, .inl (G.2 0, 503, .inl b55))] (fun v w => ∃ (e0 : Int32), v = some (.int e0) ∧ w = [(b0, .inr (12, [.int b1, .ref b2, .ref b3, .ref b4, .ref b5, .int b6, .ref b7, .int b8, .int b9, .int b10, .int b11, .ref b12, .ref b13, .ref b14, .int b15, .ref b16, .ref b17, .ref b18, .ref b19, .ref b20, .ref b21, .ref b22, .ref b23, .ref b24, .ref b25, .ref b26, .ref b27, .int b28, .ref b29, .ref b30, .int b31, .int b32, .int b33, .int b34, .ref b35, .ref b36, .ref b37, .ref b38, .ref b39, .ref b40, .ref b41, .int b42, .ref b43, .ref b44, .int b45, .ref b46, .ref b47, .ref b48, .ref b49, .ref b50, .int b51, .ref b52, .ref b53, .ref b54])), (b2, .inl (G.2 0, 503, .inl b55))]) := by
  refine z_start (by decide +kernel) (Nat.le_of_ble_eq_true rfl) ?_
  intro p e s m below meth c A Z hr hnm hA hP hD hS ls hl
  have Z : zC p s m _ meth c prog_14_method_94_code 3 "TraceMachinesModel" G := Z
  obtain ⟨hx, hb, hml, hown, hts, hK, hN, hlocks⟩ := id Z
  have hl : lv_has ls 3 [(0, .ref b0)] := hl
  refine lv_iconst (v := 0) hx hb d_Model_callsOfAll_0 (by decide) ?_
  refine lv_istore_n (lv' := [(1, .int 0), (0, .ref b0)]) hx hb d_Model_callsOfAll_1 rfl hl (by decide) rfl (fun ls hl => ?_)
  refine lv_iconst (v := 0) hx hb d_Model_callsOfAll_2 (by decide) ?_
  refine lv_istore_n (lv' := [(2, .int 0), (1, .int 0), (0, .ref b0)]) hx hb d_Model_callsOfAll_3 rfl hl (by decide) rfl (fun ls hl => ?_)
  suffices key : ∀ (k_16 : Nat) (y_17 : Int32) (y_18 : Int32) (H : Heap) (locs : List Loc) (ls : Array Slot), (zI y_17 0 20) → (20 : Int) - y_17.toInt < (k_16 : Int) → va_P G.1 classes [(b0, .inr (12, [.int b1, .ref b2, .ref b3, .ref b4, .ref b5, .int b6, .ref b7, .int b8, .int b9, .int b10, .int b11, .ref b12, .ref b13, .ref b14, .int b15, .ref b16, .ref b17, .ref b18, .ref b19, .ref b20, .ref b21, .ref b22, .ref b23, .ref b24, .ref b25, .ref b26, .ref b27, .int b28, .ref b29, .ref b30, .int b31, .int b32, .int b33, .int b34, .ref b35, .ref b36, .ref b37, .ref b38, .ref b39, .ref b40, .ref b41, .int b42, .ref b43, .ref b44, .int b45, .ref b46, .ref b47, .ref b48, .ref b49, .ref b50, .int b51, .ref b52, .ref b53, .ref b54])), (b2, .inl (G.2 0, 503, .inl b55))] H → va_D A [(b0, .inr (12, [.int b1, .ref b2, .ref b3, .ref b4, .ref b5, .int b6, .ref b7, .int b8, .int b9, .int b10, .int b11, .ref b12, .ref b13, .ref b14, .int b15, .ref b16, .ref b17, .ref b18, .ref b19, .ref b20, .ref b21, .ref b22, .ref b23, .ref b24, .ref b25, .ref b26, .ref b27, .int b28, .ref b29, .ref b30, .int b31, .int b32, .int b33, .int b34, .ref b35, .ref b36, .ref b37, .ref b38, .ref b39, .ref b40, .ref b41, .int b42, .ref b43, .ref b44, .int b45, .ref b46, .ref b47, .ref b48, .ref b49, .ref b50, .int b51, .ref b52, .ref b53, .ref b54])), (b2, .inl (G.2 0, 503, .inl b55))] → va_S A s.heap H locs → lv_has ls 3 [(2, .int y_17), (1, .int y_18), (0, .ref b0)] → W p l e m_s1_Model_callsOfAll s m ([.ref b0] : List Value).toArray below meth c H locs 0 0 (MQ below (zQ G (fun v w => ∃ (e0 : Int32), v = some (.int e0) ∧ w = [(b0, .inr (12, [.int b1, .ref b2, .ref b3, .ref b4, .ref b5, .int b6, .ref b7, .int b8, .int b9, .int b10, .int b11, .ref b12, .ref b13, .ref b14, .int b15, .ref b16, .ref b17, .ref b18, .ref b19, .ref b20, .ref b21, .ref b22, .ref b23, .ref b24, .ref b25, .ref b26, .ref b27, .int b28, .ref b29, .ref b30, .int b31, .int b32, .int b33, .int b34, .ref b35, .ref b36, .ref b37, .ref b38, .ref b39, .ref b40, .ref b41, .int b42, .ref b43, .ref b44, .int b45, .ref b46, .ref b47, .ref b48, .ref b49, .ref b50, .int b51, .ref b52, .ref b53, .ref b54])), (b2, .inl (G.2 0, 503, .inl b55))]) A) ([.ref b0] : List Value).toArray s m_s1_Model_callsOfAll.cells m_s1_Model_callsOfAll.slots A) (F0 m 4 ls []) by
    exact key 21 (0) (0) _ _ _ (zI.wk (l' := 0) (h' := 20) zc_0 (by decide)) (zm_upi (zI.wk (l' := 0) (h' := 20) zc_0 (by decide)) (by decide)) hP hD hS (lv_sub hl [0, 1, 2] rfl)
  intro k_16
  induction k_16 with
  | zero =>
    intro y_17 y_18 H locs ls hy_17 hmk_16 hP hD hS hl
    exact (zm_up0 hy_17 hmk_16).elim
  | succ k_16 ihk_16 =>
    intro y_17 y_18 H locs ls hy_17 hmk_16 hP hD hS hl
    refine lv_iload_n hx hb d_Model_callsOfAll_4 rfl (lv_at hl 0 rfl) ?_
    refine lv_aload_n hx hb d_Model_callsOfAll_5 rfl (lv_at hl 2 rfl) ?_
    refine z_callV (index := 134) (As := []) (rest := [.int y_17]) (wr := []) Z (s1_Model_many l G (b0) (b1) (b2) (b3) (b4) (b5) (b6) (b7) (b8) (b9) (b10) (b11) (b12) (b13) (b14) (b15) (b16) (b17) (b18) (b19) (b20) (b21) (b22) (b23) (b24) (b25) (b26) (b27) (b28) (b29) (b30) (b31) (b32) (b33) (b34) (b35) (b36) (b37) (b38) (b39) (b40) (b41) (b42) (b43) (b44) (b45) (b46) (b47) (b48) (b49) (b50) (b51) (b52) (b53) (b54) (b55) hb6 hb8 hb9 hb11 hb15 hb28 hb31 hb42 hb45 hb51 hb55) hl.1 q1320 q1322 qs51 q14 q1323 ⟨by decide, by decide, by show _ = some 0; decide +kernel⟩ ⟨Nat.le_of_ble_eq_true rfl, Nat.le_of_ble_eq_true rfl⟩ ⟨Nat.le_of_ble_eq_true rfl, Nat.le_of_ble_eq_true rfl⟩ rfl (Nat.le_of_ble_eq_true rfl) d_Model_callsOfAll_6 hP hD hS hA 0 12 rfl rfl rfl [0, 1] [] rfl rfl rfl rfl (by decide) (fun v w1 H locs hw_19 hP hD hS => ?_)
    obtain ⟨x_20, rfl, rfl, hx_20, hfx_21⟩ := hw_19
    have hP : va_P G.1 classes [(b0, .inr (12, [.int b1, .ref b2, .ref b3, .ref b4, .ref b5, .int b6, .ref b7, .int b8, .int b9, .int b10, .int b11, .ref b12, .ref b13, .ref b14, .int b15, .ref b16, .ref b17, .ref b18, .ref b19, .ref b20, .ref b21, .ref b22, .ref b23, .ref b24, .ref b25, .ref b26, .ref b27, .int b28, .ref b29, .ref b30, .int b31, .int b32, .int b33, .int b34, .ref b35, .ref b36, .ref b37, .ref b38, .ref b39, .ref b40, .ref b41, .int b42, .ref b43, .ref b44, .int b45, .ref b46, .ref b47, .ref b48, .ref b49, .ref b50, .int b51, .ref b52, .ref b53, .ref b54])), (b2, .inl (G.2 0, 503, .inl b55))] H := hP
    have hD := z_tie hP hD rfl
    refine W.widen (k := 0) (n := 0) (Nat.le_of_ble_eq_true rfl) (Nat.le_of_ble_eq_true rfl) ?_
    refine lv_icmp_ge (tgt := 26) hx hb d_Model_callsOfAll_9 (by decide) (fun hc_22 => ?_) (fun hc_22 => ?_)
    · have _nhc_22 := hc_22
      have ni_23 := (fa_le _ _).mp hc_22
      refine lv_iload_n hx hb d_Model_callsOfAll_26 rfl (lv_at hl 1 rfl) ?_
      exact z_iret hx hb hr hlocks hP hD hS (Nat.le_of_ble_eq_true rfl) (Nat.le_of_ble_eq_true rfl) d_Model_callsOfAll_27 ⟨y_18, rfl, rfl⟩
    · have _nhc_22 := hc_22
      have ni_24 := (fa_lt _ _).mp (zi_nle hc_22)
      have hv_25 : zI y_17 0 19 := zI.lt_l hy_17 hx_20 (zi_nle hc_22) (by decide)
      have hv_26 : zI x_20 1 20 := zI.lt_r hy_17 hx_20 (zi_nle hc_22) (by decide)
      refine lv_iload_n hx hb d_Model_callsOfAll_12 rfl (lv_at hl 1 rfl) ?_
      refine lv_aload_n hx hb d_Model_callsOfAll_13 rfl (lv_at hl 2 rfl) ?_
      refine lv_iload_n hx hb d_Model_callsOfAll_14 rfl (lv_at hl 0 rfl) ?_
      refine z_callV (index := 203) (As := [.int y_17]) (rest := [.int y_18]) (wr := []) Z (s1_Model_calls l G (b0) (y_17) (b1) (b2) (b3) (b4) (b5) (b6) (b7) (b8) (b9) (b10) (b11) (b12) (b13) (b14) (b15) (b16) (b17) (b18) (b19) (b20) (b21) (b22) (b23) (b24) (b25) (b26) (b27) (b28) (b29) (b30) (b31) (b32) (b33) (b34) (b35) (b36) (b37) (b38) (b39) (b40) (b41) (b42) (b43) (b44) (b45) (b46) (b47) (b48) (b49) (b50) (b51) (b52) (b53) (b54) (b55) hv_25 hb6 hb8 hb9 hb11 hb15 hb28 hb31 hb42 hb45 hb51 hb55) hl.1 q1352 q1354 qs54 q14 q1355 ⟨by decide, by decide, by show _ = some 1; decide +kernel⟩ ⟨Nat.le_of_ble_eq_true rfl, Nat.le_of_ble_eq_true rfl⟩ ⟨Nat.le_of_ble_eq_true rfl, Nat.le_of_ble_eq_true rfl⟩ rfl (Nat.le_of_ble_eq_true rfl) d_Model_callsOfAll_15 hP hD hS hA 0 12 rfl rfl rfl [0, 1] [] rfl rfl rfl rfl (by decide) (fun v w1 H locs hw_27 hP hD hS => ?_)
      obtain ⟨x_28, rfl, rfl, hx_28, hfx_29⟩ := hw_27
      have hP : va_P G.1 classes [(b0, .inr (12, [.int b1, .ref b2, .ref b3, .ref b4, .ref b5, .int b6, .ref b7, .int b8, .int b9, .int b10, .int b11, .ref b12, .ref b13, .ref b14, .int b15, .ref b16, .ref b17, .ref b18, .ref b19, .ref b20, .ref b21, .ref b22, .ref b23, .ref b24, .ref b25, .ref b26, .ref b27, .int b28, .ref b29, .ref b30, .int b31, .int b32, .int b33, .int b34, .ref b35, .ref b36, .ref b37, .ref b38, .ref b39, .ref b40, .ref b41, .int b42, .ref b43, .ref b44, .int b45, .ref b46, .ref b47, .ref b48, .ref b49, .ref b50, .int b51, .ref b52, .ref b53, .ref b54])), (b2, .inl (G.2 0, 503, .inl b55))] H := hP
      have hD := z_tie hP hD rfl
      refine W.widen (k := 0) (n := 0) (Nat.le_of_ble_eq_true rfl) (Nat.le_of_ble_eq_true rfl) ?_
      refine lv_iadd hx hb d_Model_callsOfAll_18 ?_
      refine lv_topi (fun v_30 ev_30 => ?_)
      refine lv_istore_n (lv' := [(1, .int v_30), (2, .int y_17), (0, .ref b0)]) hx hb d_Model_callsOfAll_19 rfl hl (by decide) rfl (fun ls hl => ?_)
      obtain ⟨v_31, ev_31⟩ : ∃ z : Int32, z = y_17 + 1 := ⟨_, rfl⟩
      obtain ⟨qv_31, hv_31⟩ := zI_add (l := 1) (h := 20) hv_25 zc_1 ev_31 (by decide)
      rw [li_1] at qv_31
      refine lv_iinc (v := v_31) (lv' := [(2, .int v_31), (1, .int v_30), (0, .ref b0)]) hx hb d_Model_callsOfAll_20 hl (k := 1) rfl (by rw [ev_31]; rfl) (by decide) rfl (fun ls hl => ?_)
      refine lv_goto (tgt := 4) hx hb d_Model_callsOfAll_23 (by decide) ?_
      exact ihk_16 (v_31) (v_30) _ _ _ (zI.wk (l' := 0) (h' := 20) hv_31 (by decide)) (zm_up qv_31 hmk_16 (by decide)) hP hD hS (lv_sub hl [0, 1, 2] rfl)
theorem d_Model_sign_0 : decode prog_14_method_9_code 0 = .ok (.aload_n 0, 1) := by decide +kernel
theorem d_Model_sign_1 : decode prog_14_method_9_code 1 = .ok (.iconst 0, 1) := by decide +kernel
theorem d_Model_sign_2 : decode prog_14_method_9_code 2 = .ok (.putfield 1, 3) := by decide +kernel
theorem d_Model_sign_5 : decode prog_14_method_9_code 5 = .ok (.aload_n 0, 1) := by decide +kernel
theorem d_Model_sign_6 : decode prog_14_method_9_code 6 = .ok (.getfield 142, 3) := by decide +kernel
theorem d_Model_sign_9 : decode prog_14_method_9_code 9 = .ok (.iconst 4, 1) := by decide +kernel
theorem d_Model_sign_10 : decode prog_14_method_9_code 10 = .ok (.iadd, 1) := by decide +kernel
theorem d_Model_sign_11 : decode prog_14_method_9_code 11 = .ok (.sipush 240, 3) := by decide +kernel
theorem d_Model_sign_14 : decode prog_14_method_9_code 14 = .ok (.if_icmp .le 5, 3) := by decide +kernel
theorem d_Model_sign_17 : decode prog_14_method_9_code 17 = .ok (.iconst (-1), 1) := by decide +kernel
theorem d_Model_sign_18 : decode prog_14_method_9_code 18 = .ok (.ireturn, 1) := by decide +kernel
theorem d_Model_sign_19 : decode prog_14_method_9_code 19 = .ok (.bipush 24, 2) := by decide +kernel
theorem d_Model_sign_21 : decode prog_14_method_9_code 21 = .ok (.istore_n 2, 1) := by decide +kernel
theorem d_Model_sign_22 : decode prog_14_method_9_code 22 = .ok (.iload_n 2, 1) := by decide +kernel
theorem d_Model_sign_23 : decode prog_14_method_9_code 23 = .ok (.ifCond .lt 32, 3) := by decide +kernel
theorem d_Model_sign_26 : decode prog_14_method_9_code 26 = .ok (.aload_n 0, 1) := by decide +kernel
theorem d_Model_sign_27 : decode prog_14_method_9_code 27 = .ok (.getfield 27, 3) := by decide +kernel
theorem d_Model_sign_30 : decode prog_14_method_9_code 30 = .ok (.aload_n 0, 1) := by decide +kernel
theorem d_Model_sign_31 : decode prog_14_method_9_code 31 = .ok (.getfield 142, 3) := by decide +kernel
theorem d_Model_sign_34 : decode prog_14_method_9_code 34 = .ok (.iload_n 1, 1) := by decide +kernel
theorem d_Model_sign_35 : decode prog_14_method_9_code 35 = .ok (.iload_n 2, 1) := by decide +kernel
theorem d_Model_sign_36 : decode prog_14_method_9_code 36 = .ok (.iushr, 1) := by decide +kernel
theorem d_Model_sign_37 : decode prog_14_method_9_code 37 = .ok (.i2b, 1) := by decide +kernel
theorem d_Model_sign_38 : decode prog_14_method_9_code 38 = .ok (.bastore, 1) := by decide +kernel
theorem d_Model_sign_39 : decode prog_14_method_9_code 39 = .ok (.aload_n 0, 1) := by decide +kernel
theorem d_Model_sign_40 : decode prog_14_method_9_code 40 = .ok (.dup, 1) := by decide +kernel
theorem d_Model_sign_41 : decode prog_14_method_9_code 41 = .ok (.getfield 142, 3) := by decide +kernel
theorem d_Model_sign_44 : decode prog_14_method_9_code 44 = .ok (.iconst 1, 1) := by decide +kernel
theorem d_Model_sign_45 : decode prog_14_method_9_code 45 = .ok (.iadd, 1) := by decide +kernel
theorem d_Model_sign_46 : decode prog_14_method_9_code 46 = .ok (.putfield 142, 3) := by decide +kernel
theorem d_Model_sign_49 : decode prog_14_method_9_code 49 = .ok (.iinc 2 (-8), 3) := by decide +kernel
theorem d_Model_sign_52 : decode prog_14_method_9_code 52 = .ok (.goto (-30), 3) := by decide +kernel
theorem d_Model_sign_55 : decode prog_14_method_9_code 55 = .ok (.aload_n 0, 1) := by decide +kernel
theorem d_Model_sign_56 : decode prog_14_method_9_code 56 = .ok (.getfield 142, 3) := by decide +kernel
theorem d_Model_sign_59 : decode prog_14_method_9_code 59 = .ok (.ireturn, 1) := by decide +kernel
abbrev m_s1_Model_sign : Room := { frames := 0, cells := 0, slots := 0, locals := 0 }
set_option maxHeartbeats 4000000 in
set_option maxRecDepth 100000 in
theorem s1_Model_sign (l : Launch) (G : zG) (b0 : Nat) (b1 : Int32) (b2 : Int32) (b3 : Nat) (b4 : Nat) (b5 : Nat) (b6 : Nat) (b7 : Int32) (b8 : Nat) (b9 : Int32) (b10 : Int32) (b11 : Int32) (b12 : Int32) (b13 : Nat) (b14 : Nat) (b15 : Nat) (b16 : Int32) (b17 : Nat) (b18 : Nat) (b19 : Nat) (b20 : Nat) (b21 : Nat) (b22 : Nat) (b23 : Nat) (b24 : Nat) (b25 : Nat) (b26 : Nat) (b27 : Nat) (b28 : Nat) (b29 : Int32) (b30 : Nat) (b31 : Nat) (b32 : Int32) (b33 : Int32) (b34 : Int32) (b35 : Int32) (b36 : Nat) (b37 : Nat) (b38 : Nat) (b39 : Nat) (b40 : Nat) (b41 : Nat) (b42 : Nat) (b43 : Int32) (b44 : Nat) (b45 : Nat) (b46 : Int32) (b47 : Nat) (b48 : Nat) (b49 : Nat) (b50 : Nat) (b51 : Nat) (b52 : Int32) (b53 : Nat) (b54 : Nat) (b55 : Nat) (b56 : Nat → Int32) (hb7 : zI b7 0 8) (hb9 : zI b9 0 240) (hb10 : zI b10 0 240) (hb12 : zI b12 0 1) (hb16 : zI b16 0 12) (hb29 : zI b29 0 1) (hb32 : zI b32 0 1) (hb43 : zI b43 0 1000) (hb46 : zI b46 0 1000) (hb52 : zI b52 0 400) : zM l G y_Model_sign prog_14_method_9_code 3 (Option.some Jvm.ClassFile.FieldType.int) m_s1_Model_sign [.ref b0, .int b1] [(b0, .inr (12, [.int b2, .ref b3, .ref b4, .ref b5, .ref b6, .int b7, .ref b8, .int b9, .int b10, .int b11, .int b12, .ref b13, .ref b14, .ref b15, .int b16, .ref b17, .ref b18, .ref b19, .ref b20, .ref b21, .ref b22, .ref b23, .ref b24, .ref b25, .ref b26, .ref b27, .ref b28, .int b29, .ref b30, .ref b31, .int b32, .int b33, .int b34, .int b35, .ref b36, .ref b37, .ref b38, .ref b39, .ref b40, .ref b41, .ref b42, .int b43, .ref b44, .ref b45, .int b46, .ref b47, .ref b48, .ref b49, .ref b50, .ref b51, .int b52, .ref b53, .ref b54, .ref b55])), (b8, .inl (G.2 3, 240, .inl b56))] (fun v w => ∃ (e0 : Int32), ∃ (e1 : Int32), ∃ (e2 : Nat → Int32), v = some (.int e0) ∧ w = [(b0, .inr (12, [.int 0, .ref b3, .ref b4, .ref b5, .ref b6, .int b7, .ref b8, .int e1, .int b10, .int b11, .int b12, .ref b13, .ref b14, .ref b15, .int b16, .ref b17, .ref b18, .ref b19, .ref b20, .ref b21, .ref b22, .ref b23, .ref b24, .ref b25, .ref b26, .ref b27, .ref b28, .int b29, .ref b30, .ref b31, .int b32, .int b33, .int b34, .int b35, .ref b36, .ref b37, .ref b38, .ref b39, .ref b40, .ref b41, .ref b42, .int b43, .ref b44, .ref b45, .int b46, .ref b47, .ref b48, .ref b49, .ref b50, .ref b51, .int b52, .ref b53, .ref b54, .ref b55])), (b8, .inl (G.2 3, 240, .inl e2))] ∧ (zI e0 (-1) 240) ∧ (zI e1 0 240) ∧ ((b9 : Int32).toInt ≤ 236 → (e0 : Int32).toInt = (b9 : Int32).toInt + 4 ∧ (e1 : Int32).toInt = (b9 : Int32).toInt + 4) ∧ (¬ (b9 : Int32).toInt ≤ 236 → (e0 : Int32).toInt = -1 ∧ (e1 : Int32).toInt = (b9 : Int32).toInt)) := by
  refine z_start (by decide +kernel) (Nat.le_of_ble_eq_true rfl) ?_
  intro p e s m below meth c A Z hr hnm hA hP hD hS ls hl
  have Z : zC p s m _ meth c prog_14_method_9_code 3 "TraceMachinesModel" G := Z
  obtain ⟨hx, hb, hml, hown, hts, hK, hN, hlocks⟩ := id Z
  have hl : lv_has ls 3 [(0, .ref b0), (1, .int b1)] := hl
  refine lv_aload_n hx hb d_Model_sign_0 rfl (lv_at hl 0 rfl) ?_
  refine lv_iconst (v := 0) hx hb d_Model_sign_1 (by decide) ?_
  refine va_put (D := G.1) (ci := 12) (v := .int 0) (ty := .int) (C := R_Model) (T := F_Model) (N := 54) hx hb hts i_Model t_Model t_Model_ok n_Model hown hK hP hD hS 0 rfl rfl 0 (by decide) (hts _ q1109) (fun _ h9 => h9) rfl (by decide +kernel) rfl rfl (Nat.le_of_ble_eq_true rfl) d_Model_sign_2 (fun H locs hP hD hS => ?_)
  have hP : va_P G.1 classes [(b0, .inr (12, [.int 0, .ref b3, .ref b4, .ref b5, .ref b6, .int b7, .ref b8, .int b9, .int b10, .int b11, .int b12, .ref b13, .ref b14, .ref b15, .int b16, .ref b17, .ref b18, .ref b19, .ref b20, .ref b21, .ref b22, .ref b23, .ref b24, .ref b25, .ref b26, .ref b27, .ref b28, .int b29, .ref b30, .ref b31, .int b32, .int b33, .int b34, .int b35, .ref b36, .ref b37, .ref b38, .ref b39, .ref b40, .ref b41, .ref b42, .int b43, .ref b44, .ref b45, .int b46, .ref b47, .ref b48, .ref b49, .ref b50, .ref b51, .int b52, .ref b53, .ref b54, .ref b55])), (b8, .inl (G.2 3, 240, .inl b56))] H := hP
  have hD := z_tie hP hD rfl
  refine lv_aload_n hx hb d_Model_sign_5 rfl (lv_at hl 0 rfl) ?_
  refine va_get (D := G.1) (ci := 12) (v := .int b9) (C := R_Model) (T := F_Model) (N := 54) hx hb hts i_Model hown hK hP 0 rfl rfl 7 (by decide) (hts _ q1116) (fun _ h9 => h9) rfl d_Model_sign_6 ?_
  refine lv_iconst (v := 4) hx hb d_Model_sign_9 (by decide) ?_
  refine lv_iadd hx hb d_Model_sign_10 ?_
  refine lv_topi (fun v_1 ev_1 => ?_)
  obtain ⟨qv_1, hv_1⟩ := zI_add (l := 4) (h := 244) hb9 zc_4 ev_1 (by decide)
  rw [li_4] at qv_1
  refine lv_sipush (v := 240) hx hb d_Model_sign_11 (by decide) ?_
  refine lv_icmp_le (tgt := 19) hx hb d_Model_sign_14 (by decide) (fun hc_2 => ?_) (fun hc_2 => ?_)
  · have _nhc_2 := hc_2
    have ni_3 := (fa_le _ _).mp hc_2
    rw [li_240] at ni_3
    have hv_4 : zI v_1 4 240 := zI.le_l hv_1 zc_240 hc_2 (by decide)
    have hv_5 : zI b9 0 236 := by have _a := hv_4; have _b := qv_1; have _c := zc_4; have _d := hb9; exact ⟨by omega, by omega⟩
    refine lv_bipush (v := 24) hx hb d_Model_sign_19 (by decide) ?_
    refine lv_istore_n (lv' := [(2, .int 24), (0, .ref b0), (1, .int b1)]) hx hb d_Model_sign_21 rfl hl (by decide) rfl (fun ls hl => ?_)
    refine lv_iload_n hx hb d_Model_sign_22 rfl (lv_at hl 0 rfl) ?_
    refine lv_if_lt (tgt := 55) hx hb d_Model_sign_23 (by decide) (fun hc => absurd hc (by decide +kernel)) (fun _ => ?_)
    refine lv_aload_n hx hb d_Model_sign_26 rfl (lv_at hl 1 rfl) ?_
    refine va_get (D := G.1) (ci := 12) (v := .ref b8) (C := R_Model) (T := F_Model) (N := 54) hx hb hts i_Model hown hK hP 0 rfl rfl 6 (by decide) (hts _ q1115) (fun _ h9 => h9) rfl d_Model_sign_27 ?_
    refine lv_aload_n hx hb d_Model_sign_30 rfl (lv_at hl 1 rfl) ?_
    refine va_get (D := G.1) (ci := 12) (v := .int b9) (C := R_Model) (T := F_Model) (N := 54) hx hb hts i_Model hown hK hP 0 rfl rfl 7 (by decide) (hts _ q1116) (fun _ h9 => h9) rfl d_Model_sign_31 ?_
    refine lv_iload_n hx hb d_Model_sign_34 rfl (lv_at hl 2 rfl) ?_
    refine lv_iload_n hx hb d_Model_sign_35 rfl (lv_at hl 0 rfl) ?_
    obtain ⟨v_6, ev_6⟩ : ∃ z : Int32, z = ((b1).toUInt32 >>> ((24 : Int32).toUInt32 &&& Int32.toUInt32 31)).toInt32 := ⟨_, rfl⟩
    refine lv_iushr (v := v_6) hx hb d_Model_sign_36 ev_6.symm ?_
    obtain ⟨v_7, ev_7⟩ : ∃ z : Int32, z = (v_6).toInt8.toInt32 := ⟨_, rfl⟩
    refine lv_i2b (v := v_7) hx hb d_Model_sign_37 ev_7.symm ?_
    refine va_bast hx hb hK hP hD hS 1 3 rfl rfl (zI.inn hv_5 (by decide)) d_Model_sign_38 (fun H locs hP hD hS => ?_)
    obtain ⟨f_8, hP, hD⟩ := z_newF 1 hP hD rfl
    have hP : va_P G.1 classes [(b0, .inr (12, [.int 0, .ref b3, .ref b4, .ref b5, .ref b6, .int b7, .ref b8, .int b9, .int b10, .int b11, .int b12, .ref b13, .ref b14, .ref b15, .int b16, .ref b17, .ref b18, .ref b19, .ref b20, .ref b21, .ref b22, .ref b23, .ref b24, .ref b25, .ref b26, .ref b27, .ref b28, .int b29, .ref b30, .ref b31, .int b32, .int b33, .int b34, .int b35, .ref b36, .ref b37, .ref b38, .ref b39, .ref b40, .ref b41, .ref b42, .int b43, .ref b44, .ref b45, .int b46, .ref b47, .ref b48, .ref b49, .ref b50, .ref b51, .int b52, .ref b53, .ref b54, .ref b55])), (b8, .inl (G.2 3, 240, .inl f_8))] H := hP
    have hD := z_tie hP hD rfl
    refine lv_aload_n hx hb d_Model_sign_39 rfl (lv_at hl 1 rfl) ?_
    refine lv_dup hx hb d_Model_sign_40 rfl ?_
    refine va_get (D := G.1) (ci := 12) (v := .int b9) (C := R_Model) (T := F_Model) (N := 54) hx hb hts i_Model hown hK hP 0 rfl rfl 7 (by decide) (hts _ q1116) (fun _ h9 => h9) rfl d_Model_sign_41 ?_
    refine lv_iconst (v := 1) hx hb d_Model_sign_44 (by decide) ?_
    refine lv_iadd hx hb d_Model_sign_45 ?_
    refine lv_topi (fun v_9 ev_9 => ?_)
    obtain ⟨qv_9, hv_9⟩ := zI_add (l := 1) (h := 237) hv_5 zc_1 ev_9 (by decide)
    rw [li_1] at qv_9
    refine va_put (D := G.1) (ci := 12) (v := .int v_9) (ty := .int) (C := R_Model) (T := F_Model) (N := 54) hx hb hts i_Model t_Model t_Model_ok n_Model hown hK hP hD hS 0 rfl rfl 7 (by decide) (hts _ q1116) (fun _ h9 => h9) rfl (by decide +kernel) rfl rfl (Nat.le_of_ble_eq_true rfl) d_Model_sign_46 (fun H locs hP hD hS => ?_)
    have hP : va_P G.1 classes [(b0, .inr (12, [.int 0, .ref b3, .ref b4, .ref b5, .ref b6, .int b7, .ref b8, .int v_9, .int b10, .int b11, .int b12, .ref b13, .ref b14, .ref b15, .int b16, .ref b17, .ref b18, .ref b19, .ref b20, .ref b21, .ref b22, .ref b23, .ref b24, .ref b25, .ref b26, .ref b27, .ref b28, .int b29, .ref b30, .ref b31, .int b32, .int b33, .int b34, .int b35, .ref b36, .ref b37, .ref b38, .ref b39, .ref b40, .ref b41, .ref b42, .int b43, .ref b44, .ref b45, .int b46, .ref b47, .ref b48, .ref b49, .ref b50, .ref b51, .int b52, .ref b53, .ref b54, .ref b55])), (b8, .inl (G.2 3, 240, .inl f_8))] H := hP
    have hD := z_tie hP hD rfl
    refine lv_iinc (v := 16) (lv' := [(2, .int 16), (0, .ref b0), (1, .int b1)]) hx hb d_Model_sign_49 hl (k := 0) rfl (by decide +kernel) (by decide) rfl (fun ls hl => ?_)
    refine lv_goto (tgt := 22) hx hb d_Model_sign_52 (by decide) ?_
    refine lv_iload_n hx hb d_Model_sign_22 rfl (lv_at hl 0 rfl) ?_
    refine lv_if_lt (tgt := 55) hx hb d_Model_sign_23 (by decide) (fun hc => absurd hc (by decide +kernel)) (fun _ => ?_)
    refine lv_aload_n hx hb d_Model_sign_26 rfl (lv_at hl 1 rfl) ?_
    refine va_get (D := G.1) (ci := 12) (v := .ref b8) (C := R_Model) (T := F_Model) (N := 54) hx hb hts i_Model hown hK hP 0 rfl rfl 6 (by decide) (hts _ q1115) (fun _ h9 => h9) rfl d_Model_sign_27 ?_
    refine lv_aload_n hx hb d_Model_sign_30 rfl (lv_at hl 1 rfl) ?_
    refine va_get (D := G.1) (ci := 12) (v := .int v_9) (C := R_Model) (T := F_Model) (N := 54) hx hb hts i_Model hown hK hP 0 rfl rfl 7 (by decide) (hts _ q1116) (fun _ h9 => h9) rfl d_Model_sign_31 ?_
    refine lv_iload_n hx hb d_Model_sign_34 rfl (lv_at hl 2 rfl) ?_
    refine lv_iload_n hx hb d_Model_sign_35 rfl (lv_at hl 0 rfl) ?_
    obtain ⟨v_10, ev_10⟩ : ∃ z : Int32, z = ((b1).toUInt32 >>> ((16 : Int32).toUInt32 &&& Int32.toUInt32 31)).toInt32 := ⟨_, rfl⟩
    refine lv_iushr (v := v_10) hx hb d_Model_sign_36 ev_10.symm ?_
    obtain ⟨v_11, ev_11⟩ : ∃ z : Int32, z = (v_10).toInt8.toInt32 := ⟨_, rfl⟩
    refine lv_i2b (v := v_11) hx hb d_Model_sign_37 ev_11.symm ?_
    refine va_bast hx hb hK hP hD hS 1 3 rfl rfl (zI.inn hv_9 (by decide)) d_Model_sign_38 (fun H locs hP hD hS => ?_)
    obtain ⟨f_12, hP, hD⟩ := z_newF 1 hP hD rfl
    have hP : va_P G.1 classes [(b0, .inr (12, [.int 0, .ref b3, .ref b4, .ref b5, .ref b6, .int b7, .ref b8, .int v_9, .int b10, .int b11, .int b12, .ref b13, .ref b14, .ref b15, .int b16, .ref b17, .ref b18, .ref b19, .ref b20, .ref b21, .ref b22, .ref b23, .ref b24, .ref b25, .ref b26, .ref b27, .ref b28, .int b29, .ref b30, .ref b31, .int b32, .int b33, .int b34, .int b35, .ref b36, .ref b37, .ref b38, .ref b39, .ref b40, .ref b41, .ref b42, .int b43, .ref b44, .ref b45, .int b46, .ref b47, .ref b48, .ref b49, .ref b50, .ref b51, .int b52, .ref b53, .ref b54, .ref b55])), (b8, .inl (G.2 3, 240, .inl f_12))] H := hP
    have hD := z_tie hP hD rfl
    refine lv_aload_n hx hb d_Model_sign_39 rfl (lv_at hl 1 rfl) ?_
    refine lv_dup hx hb d_Model_sign_40 rfl ?_
    refine va_get (D := G.1) (ci := 12) (v := .int v_9) (C := R_Model) (T := F_Model) (N := 54) hx hb hts i_Model hown hK hP 0 rfl rfl 7 (by decide) (hts _ q1116) (fun _ h9 => h9) rfl d_Model_sign_41 ?_
    refine lv_iconst (v := 1) hx hb d_Model_sign_44 (by decide) ?_
    refine lv_iadd hx hb d_Model_sign_45 ?_
    refine lv_topi (fun v_13 ev_13 => ?_)
    obtain ⟨qv_13, hv_13⟩ := zI_add (l := 2) (h := 238) hv_9 zc_1 ev_13 (by decide)
    rw [li_1] at qv_13
    refine va_put (D := G.1) (ci := 12) (v := .int v_13) (ty := .int) (C := R_Model) (T := F_Model) (N := 54) hx hb hts i_Model t_Model t_Model_ok n_Model hown hK hP hD hS 0 rfl rfl 7 (by decide) (hts _ q1116) (fun _ h9 => h9) rfl (by decide +kernel) rfl rfl (Nat.le_of_ble_eq_true rfl) d_Model_sign_46 (fun H locs hP hD hS => ?_)
    have hP : va_P G.1 classes [(b0, .inr (12, [.int 0, .ref b3, .ref b4, .ref b5, .ref b6, .int b7, .ref b8, .int v_13, .int b10, .int b11, .int b12, .ref b13, .ref b14, .ref b15, .int b16, .ref b17, .ref b18, .ref b19, .ref b20, .ref b21, .ref b22, .ref b23, .ref b24, .ref b25, .ref b26, .ref b27, .ref b28, .int b29, .ref b30, .ref b31, .int b32, .int b33, .int b34, .int b35, .ref b36, .ref b37, .ref b38, .ref b39, .ref b40, .ref b41, .ref b42, .int b43, .ref b44, .ref b45, .int b46, .ref b47, .ref b48, .ref b49, .ref b50, .ref b51, .int b52, .ref b53, .ref b54, .ref b55])), (b8, .inl (G.2 3, 240, .inl f_12))] H := hP
    have hD := z_tie hP hD rfl
    refine lv_iinc (v := 8) (lv' := [(2, .int 8), (0, .ref b0), (1, .int b1)]) hx hb d_Model_sign_49 hl (k := 0) rfl (by decide +kernel) (by decide) rfl (fun ls hl => ?_)
    refine lv_goto (tgt := 22) hx hb d_Model_sign_52 (by decide) ?_
    refine lv_iload_n hx hb d_Model_sign_22 rfl (lv_at hl 0 rfl) ?_
    refine lv_if_lt (tgt := 55) hx hb d_Model_sign_23 (by decide) (fun hc => absurd hc (by decide +kernel)) (fun _ => ?_)
    refine lv_aload_n hx hb d_Model_sign_26 rfl (lv_at hl 1 rfl) ?_
    refine va_get (D := G.1) (ci := 12) (v := .ref b8) (C := R_Model) (T := F_Model) (N := 54) hx hb hts i_Model hown hK hP 0 rfl rfl 6 (by decide) (hts _ q1115) (fun _ h9 => h9) rfl d_Model_sign_27 ?_
    refine lv_aload_n hx hb d_Model_sign_30 rfl (lv_at hl 1 rfl) ?_
    refine va_get (D := G.1) (ci := 12) (v := .int v_13) (C := R_Model) (T := F_Model) (N := 54) hx hb hts i_Model hown hK hP 0 rfl rfl 7 (by decide) (hts _ q1116) (fun _ h9 => h9) rfl d_Model_sign_31 ?_
    refine lv_iload_n hx hb d_Model_sign_34 rfl (lv_at hl 2 rfl) ?_
    refine lv_iload_n hx hb d_Model_sign_35 rfl (lv_at hl 0 rfl) ?_
    obtain ⟨v_14, ev_14⟩ : ∃ z : Int32, z = ((b1).toUInt32 >>> ((8 : Int32).toUInt32 &&& Int32.toUInt32 31)).toInt32 := ⟨_, rfl⟩
    refine lv_iushr (v := v_14) hx hb d_Model_sign_36 ev_14.symm ?_
    obtain ⟨v_15, ev_15⟩ : ∃ z : Int32, z = (v_14).toInt8.toInt32 := ⟨_, rfl⟩
    refine lv_i2b (v := v_15) hx hb d_Model_sign_37 ev_15.symm ?_
    refine va_bast hx hb hK hP hD hS 1 3 rfl rfl (zI.inn hv_13 (by decide)) d_Model_sign_38 (fun H locs hP hD hS => ?_)
    obtain ⟨f_16, hP, hD⟩ := z_newF 1 hP hD rfl
    have hP : va_P G.1 classes [(b0, .inr (12, [.int 0, .ref b3, .ref b4, .ref b5, .ref b6, .int b7, .ref b8, .int v_13, .int b10, .int b11, .int b12, .ref b13, .ref b14, .ref b15, .int b16, .ref b17, .ref b18, .ref b19, .ref b20, .ref b21, .ref b22, .ref b23, .ref b24, .ref b25, .ref b26, .ref b27, .ref b28, .int b29, .ref b30, .ref b31, .int b32, .int b33, .int b34, .int b35, .ref b36, .ref b37, .ref b38, .ref b39, .ref b40, .ref b41, .ref b42, .int b43, .ref b44, .ref b45, .int b46, .ref b47, .ref b48, .ref b49, .ref b50, .ref b51, .int b52, .ref b53, .ref b54, .ref b55])), (b8, .inl (G.2 3, 240, .inl f_16))] H := hP
    have hD := z_tie hP hD rfl
    refine lv_aload_n hx hb d_Model_sign_39 rfl (lv_at hl 1 rfl) ?_
    refine lv_dup hx hb d_Model_sign_40 rfl ?_
    refine va_get (D := G.1) (ci := 12) (v := .int v_13) (C := R_Model) (T := F_Model) (N := 54) hx hb hts i_Model hown hK hP 0 rfl rfl 7 (by decide) (hts _ q1116) (fun _ h9 => h9) rfl d_Model_sign_41 ?_
    refine lv_iconst (v := 1) hx hb d_Model_sign_44 (by decide) ?_
    refine lv_iadd hx hb d_Model_sign_45 ?_
    refine lv_topi (fun v_17 ev_17 => ?_)
    obtain ⟨qv_17, hv_17⟩ := zI_add (l := 3) (h := 239) hv_13 zc_1 ev_17 (by decide)
    rw [li_1] at qv_17
    refine va_put (D := G.1) (ci := 12) (v := .int v_17) (ty := .int) (C := R_Model) (T := F_Model) (N := 54) hx hb hts i_Model t_Model t_Model_ok n_Model hown hK hP hD hS 0 rfl rfl 7 (by decide) (hts _ q1116) (fun _ h9 => h9) rfl (by decide +kernel) rfl rfl (Nat.le_of_ble_eq_true rfl) d_Model_sign_46 (fun H locs hP hD hS => ?_)
    have hP : va_P G.1 classes [(b0, .inr (12, [.int 0, .ref b3, .ref b4, .ref b5, .ref b6, .int b7, .ref b8, .int v_17, .int b10, .int b11, .int b12, .ref b13, .ref b14, .ref b15, .int b16, .ref b17, .ref b18, .ref b19, .ref b20, .ref b21, .ref b22, .ref b23, .ref b24, .ref b25, .ref b26, .ref b27, .ref b28, .int b29, .ref b30, .ref b31, .int b32, .int b33, .int b34, .int b35, .ref b36, .ref b37, .ref b38, .ref b39, .ref b40, .ref b41, .ref b42, .int b43, .ref b44, .ref b45, .int b46, .ref b47, .ref b48, .ref b49, .ref b50, .ref b51, .int b52, .ref b53, .ref b54, .ref b55])), (b8, .inl (G.2 3, 240, .inl f_16))] H := hP
    have hD := z_tie hP hD rfl
    refine lv_iinc (v := 0) (lv' := [(2, .int 0), (0, .ref b0), (1, .int b1)]) hx hb d_Model_sign_49 hl (k := 0) rfl (by decide +kernel) (by decide) rfl (fun ls hl => ?_)
    refine lv_goto (tgt := 22) hx hb d_Model_sign_52 (by decide) ?_
    refine lv_iload_n hx hb d_Model_sign_22 rfl (lv_at hl 0 rfl) ?_
    refine lv_if_lt (tgt := 55) hx hb d_Model_sign_23 (by decide) (fun hc => absurd hc (by decide +kernel)) (fun _ => ?_)
    refine lv_aload_n hx hb d_Model_sign_26 rfl (lv_at hl 1 rfl) ?_
    refine va_get (D := G.1) (ci := 12) (v := .ref b8) (C := R_Model) (T := F_Model) (N := 54) hx hb hts i_Model hown hK hP 0 rfl rfl 6 (by decide) (hts _ q1115) (fun _ h9 => h9) rfl d_Model_sign_27 ?_
    refine lv_aload_n hx hb d_Model_sign_30 rfl (lv_at hl 1 rfl) ?_
    refine va_get (D := G.1) (ci := 12) (v := .int v_17) (C := R_Model) (T := F_Model) (N := 54) hx hb hts i_Model hown hK hP 0 rfl rfl 7 (by decide) (hts _ q1116) (fun _ h9 => h9) rfl d_Model_sign_31 ?_
    refine lv_iload_n hx hb d_Model_sign_34 rfl (lv_at hl 2 rfl) ?_
    refine lv_iload_n hx hb d_Model_sign_35 rfl (lv_at hl 0 rfl) ?_
    obtain ⟨v_18, ev_18⟩ : ∃ z : Int32, z = ((b1).toUInt32 >>> ((0 : Int32).toUInt32 &&& Int32.toUInt32 31)).toInt32 := ⟨_, rfl⟩
    refine lv_iushr (v := v_18) hx hb d_Model_sign_36 ev_18.symm ?_
    obtain ⟨v_19, ev_19⟩ : ∃ z : Int32, z = (v_18).toInt8.toInt32 := ⟨_, rfl⟩
    refine lv_i2b (v := v_19) hx hb d_Model_sign_37 ev_19.symm ?_
    refine va_bast hx hb hK hP hD hS 1 3 rfl rfl (zI.inn hv_17 (by decide)) d_Model_sign_38 (fun H locs hP hD hS => ?_)
    obtain ⟨f_20, hP, hD⟩ := z_newF 1 hP hD rfl
    have hP : va_P G.1 classes [(b0, .inr (12, [.int 0, .ref b3, .ref b4, .ref b5, .ref b6, .int b7, .ref b8, .int v_17, .int b10, .int b11, .int b12, .ref b13, .ref b14, .ref b15, .int b16, .ref b17, .ref b18, .ref b19, .ref b20, .ref b21, .ref b22, .ref b23, .ref b24, .ref b25, .ref b26, .ref b27, .ref b28, .int b29, .ref b30, .ref b31, .int b32, .int b33, .int b34, .int b35, .ref b36, .ref b37, .ref b38, .ref b39, .ref b40, .ref b41, .ref b42, .int b43, .ref b44, .ref b45, .int b46, .ref b47, .ref b48, .ref b49, .ref b50, .ref b51, .int b52, .ref b53, .ref b54, .ref b55])), (b8, .inl (G.2 3, 240, .inl f_20))] H := hP
    have hD := z_tie hP hD rfl
    refine lv_aload_n hx hb d_Model_sign_39 rfl (lv_at hl 1 rfl) ?_
    refine lv_dup hx hb d_Model_sign_40 rfl ?_
    refine va_get (D := G.1) (ci := 12) (v := .int v_17) (C := R_Model) (T := F_Model) (N := 54) hx hb hts i_Model hown hK hP 0 rfl rfl 7 (by decide) (hts _ q1116) (fun _ h9 => h9) rfl d_Model_sign_41 ?_
    refine lv_iconst (v := 1) hx hb d_Model_sign_44 (by decide) ?_
    refine lv_iadd hx hb d_Model_sign_45 ?_
    refine lv_topi (fun v_21 ev_21 => ?_)
    obtain ⟨qv_21, hv_21⟩ := zI_add (l := 4) (h := 240) hv_17 zc_1 ev_21 (by decide)
    rw [li_1] at qv_21
    refine va_put (D := G.1) (ci := 12) (v := .int v_21) (ty := .int) (C := R_Model) (T := F_Model) (N := 54) hx hb hts i_Model t_Model t_Model_ok n_Model hown hK hP hD hS 0 rfl rfl 7 (by decide) (hts _ q1116) (fun _ h9 => h9) rfl (by decide +kernel) rfl rfl (Nat.le_of_ble_eq_true rfl) d_Model_sign_46 (fun H locs hP hD hS => ?_)
    have hP : va_P G.1 classes [(b0, .inr (12, [.int 0, .ref b3, .ref b4, .ref b5, .ref b6, .int b7, .ref b8, .int v_21, .int b10, .int b11, .int b12, .ref b13, .ref b14, .ref b15, .int b16, .ref b17, .ref b18, .ref b19, .ref b20, .ref b21, .ref b22, .ref b23, .ref b24, .ref b25, .ref b26, .ref b27, .ref b28, .int b29, .ref b30, .ref b31, .int b32, .int b33, .int b34, .int b35, .ref b36, .ref b37, .ref b38, .ref b39, .ref b40, .ref b41, .ref b42, .int b43, .ref b44, .ref b45, .int b46, .ref b47, .ref b48, .ref b49, .ref b50, .ref b51, .int b52, .ref b53, .ref b54, .ref b55])), (b8, .inl (G.2 3, 240, .inl f_20))] H := hP
    have hD := z_tie hP hD rfl
    refine lv_iinc (v := (-8)) (lv' := [(2, .int (-8)), (0, .ref b0), (1, .int b1)]) hx hb d_Model_sign_49 hl (k := 0) rfl (by decide +kernel) (by decide) rfl (fun ls hl => ?_)
    refine lv_goto (tgt := 22) hx hb d_Model_sign_52 (by decide) ?_
    refine lv_iload_n hx hb d_Model_sign_22 rfl (lv_at hl 0 rfl) ?_
    refine lv_if_lt (tgt := 55) hx hb d_Model_sign_23 (by decide) (fun _ => ?_) (fun hc => absurd hc (by decide +kernel))
    refine lv_aload_n hx hb d_Model_sign_55 rfl (lv_at hl 1 rfl) ?_
    refine va_get (D := G.1) (ci := 12) (v := .int v_21) (C := R_Model) (T := F_Model) (N := 54) hx hb hts i_Model hown hK hP 0 rfl rfl 7 (by decide) (hts _ q1116) (fun _ h9 => h9) rfl d_Model_sign_56 ?_
    exact z_iret hx hb hr hlocks hP hD hS (Nat.le_of_ble_eq_true rfl) (Nat.le_of_ble_eq_true rfl) d_Model_sign_59 ⟨v_21, v_21, f_20, rfl, rfl, (zI.wk (l' := (-1)) (h' := 240) hv_21 (by decide)), (zI.wk (l' := 0) (h' := 240) hv_21 (by decide)), (by have _l0 := li_0; have _l1 := li_1; have _l2 := li_m1; intro h9; omega), (by have _l0 := li_0; have _l1 := li_1; have _l2 := li_m1; intro h9; omega)⟩
  · have _nhc_2 := hc_2
    have ni_22 := (fa_lt _ _).mp (zi_nle hc_2)
    rw [li_240] at ni_22
    have hv_23 : zI v_1 241 244 := zI.lt_r zc_240 hv_1 (zi_nle hc_2) (by decide)
    have hv_24 : zI b9 237 240 := by have _a := hv_23; have _b := qv_1; have _c := zc_4; have _d := hb9; exact ⟨by omega, by omega⟩
    refine lv_iconst (v := (-1)) hx hb d_Model_sign_17 (by decide) ?_
    exact z_iret hx hb hr hlocks hP hD hS (Nat.le_of_ble_eq_true rfl) (Nat.le_of_ble_eq_true rfl) d_Model_sign_18 ⟨(-1), b9, b56, rfl, rfl, (zI.wk (l' := (-1)) (h' := 240) zc_m1 (by decide)), (zI.wk (l' := 0) (h' := 240) hv_24 (by decide)), (by have _l0 := li_0; have _l1 := li_1; have _l2 := li_m1; intro h9; omega), (by have _l0 := li_0; have _l1 := li_1; have _l2 := li_m1; intro h9; omega)⟩
theorem d_Model_wrong_0 : decode prog_14_method_11_code 0 = .ok (.aload_n 0, 1) := by decide +kernel
theorem d_Model_wrong_1 : decode prog_14_method_11_code 1 = .ok (.aload_n 0, 1) := by decide +kernel
theorem d_Model_wrong_2 : decode prog_14_method_11_code 2 = .ok (.getfield 145, 3) := by decide +kernel
theorem d_Model_wrong_5 : decode prog_14_method_11_code 5 = .ok (.ifCond .eq 10, 3) := by decide +kernel
theorem d_Model_wrong_8 : decode prog_14_method_11_code 8 = .ok (.aload_n 0, 1) := by decide +kernel
theorem d_Model_wrong_9 : decode prog_14_method_11_code 9 = .ok (.getfield 149, 3) := by decide +kernel
theorem d_Model_wrong_12 : decode prog_14_method_11_code 12 = .ok (.goto 7, 3) := by decide +kernel
theorem d_Model_wrong_15 : decode prog_14_method_11_code 15 = .ok (.aload_n 0, 1) := by decide +kernel
theorem d_Model_wrong_16 : decode prog_14_method_11_code 16 = .ok (.getfield 152, 3) := by decide +kernel
theorem d_Model_wrong_19 : decode prog_14_method_11_code 19 = .ok (.putfield 152, 3) := by decide +kernel
theorem d_Model_wrong_22 : decode prog_14_method_11_code 22 = .ok (.aload_n 0, 1) := by decide +kernel
theorem d_Model_wrong_23 : decode prog_14_method_11_code 23 = .ok (.iconst 0, 1) := by decide +kernel
theorem d_Model_wrong_24 : decode prog_14_method_11_code 24 = .ok (.putfield 145, 3) := by decide +kernel
theorem d_Model_wrong_27 : decode prog_14_method_11_code 27 = .ok (.return_, 1) := by decide +kernel
abbrev m_s1_Model_wrong : Room := { frames := 0, cells := 0, slots := 0, locals := 0 }
set_option maxHeartbeats 4000000 in
set_option maxRecDepth 100000 in
theorem s1_Model_wrong (l : Launch) (G : zG) (b0 : Nat) (b1 : Int32) (b2 : Nat) (b3 : Nat) (b4 : Nat) (b5 : Nat) (b6 : Int32) (b7 : Nat) (b8 : Int32) (b9 : Int32) (b10 : Int32) (b11 : Int32) (b12 : Nat) (b13 : Nat) (b14 : Nat) (b15 : Int32) (b16 : Nat) (b17 : Nat) (b18 : Nat) (b19 : Nat) (b20 : Nat) (b21 : Nat) (b22 : Nat) (b23 : Nat) (b24 : Nat) (b25 : Nat) (b26 : Nat) (b27 : Nat) (b28 : Int32) (b29 : Nat) (b30 : Nat) (b31 : Int32) (b32 : Int32) (b33 : Int32) (b34 : Int32) (b35 : Nat) (b36 : Nat) (b37 : Nat) (b38 : Nat) (b39 : Nat) (b40 : Nat) (b41 : Nat) (b42 : Int32) (b43 : Nat) (b44 : Nat) (b45 : Int32) (b46 : Nat) (b47 : Nat) (b48 : Nat) (b49 : Nat) (b50 : Nat) (b51 : Int32) (b52 : Nat) (b53 : Nat) (b54 : Nat) (hb6 : zI b6 0 8) (hb8 : zI b8 0 240) (hb9 : zI b9 0 240) (hb11 : zI b11 0 1) (hb15 : zI b15 0 12) (hb28 : zI b28 0 1) (hb31 : zI b31 0 1) (hb42 : zI b42 0 1000) (hb45 : zI b45 0 1000) (hb51 : zI b51 0 400) : zM l G y_Model_wrong prog_14_method_11_code 1 (Option.none : Option Jvm.ClassFile.FieldType) m_s1_Model_wrong [.ref b0] [(b0, .inr (12, [.int b1, .ref b2, .ref b3, .ref b4, .ref b5, .int b6, .ref b7, .int b8, .int b9, .int b10, .int b11, .ref b12, .ref b13, .ref b14, .int b15, .ref b16, .ref b17, .ref b18, .ref b19, .ref b20, .ref b21, .ref b22, .ref b23, .ref b24, .ref b25, .ref b26, .ref b27, .int b28, .ref b29, .ref b30, .int b31, .int b32, .int b33, .int b34, .ref b35, .ref b36, .ref b37, .ref b38, .ref b39, .ref b40, .ref b41, .int b42, .ref b43, .ref b44, .int b45, .ref b46, .ref b47, .ref b48, .ref b49, .ref b50, .int b51, .ref b52, .ref b53, .ref b54]))] (fun v w => ∃ (e0 : Int32), v = none ∧ w = [(b0, .inr (12, [.int b1, .ref b2, .ref b3, .ref b4, .ref b5, .int b6, .ref b7, .int b8, .int b9, .int e0, .int 0, .ref b12, .ref b13, .ref b14, .int b15, .ref b16, .ref b17, .ref b18, .ref b19, .ref b20, .ref b21, .ref b22, .ref b23, .ref b24, .ref b25, .ref b26, .ref b27, .int b28, .ref b29, .ref b30, .int b31, .int b32, .int b33, .int b34, .ref b35, .ref b36, .ref b37, .ref b38, .ref b39, .ref b40, .ref b41, .int b42, .ref b43, .ref b44, .int b45, .ref b46, .ref b47, .ref b48, .ref b49, .ref b50, .int b51, .ref b52, .ref b53, .ref b54]))]) := by
  refine z_start (by decide +kernel) (Nat.le_of_ble_eq_true rfl) ?_
  intro p e s m below meth c A Z hr hnm hA hP hD hS ls hl
  have Z : zC p s m _ meth c prog_14_method_11_code 1 "TraceMachinesModel" G := Z
  obtain ⟨hx, hb, hml, hown, hts, hK, hN, hlocks⟩ := id Z
  have hl : lv_has ls 1 [(0, .ref b0)] := hl
  refine lv_aload_n hx hb d_Model_wrong_0 rfl (lv_at hl 0 rfl) ?_
  refine lv_aload_n hx hb d_Model_wrong_1 rfl (lv_at hl 0 rfl) ?_
  refine va_get (D := G.1) (ci := 12) (v := .int b11) (C := R_Model) (T := F_Model) (N := 54) hx hb hts i_Model hown hK hP 0 rfl rfl 10 (by decide) (hts _ q1119) (fun _ h9 => h9) rfl d_Model_wrong_2 ?_
  refine lv_if_eq (tgt := 15) hx hb d_Model_wrong_5 (by decide) (fun hc_1 => ?_) (fun hc_1 => ?_)
  · have _nhc_1 := hc_1
    have ni_2 := (fa_eq _ _).mp hc_1
    rw [li_0] at ni_2
    have hv_3 : zI b11 0 0 := zI.eq_l hb11 zc_0 hc_1
    refine lv_aload_n hx hb d_Model_wrong_15 rfl (lv_at hl 0 rfl) ?_
    refine va_get (D := G.1) (ci := 12) (v := .int b10) (C := R_Model) (T := F_Model) (N := 54) hx hb hts i_Model hown hK hP 0 rfl rfl 9 (by decide) (hts _ q1118) (fun _ h9 => h9) rfl d_Model_wrong_16 ?_
    refine va_put (D := G.1) (ci := 12) (v := .int b10) (ty := .int) (C := R_Model) (T := F_Model) (N := 54) hx hb hts i_Model t_Model t_Model_ok n_Model hown hK hP hD hS 0 rfl rfl 9 (by decide) (hts _ q1118) (fun _ h9 => h9) rfl (by decide +kernel) rfl rfl (Nat.le_of_ble_eq_true rfl) d_Model_wrong_19 (fun H locs hP hD hS => ?_)
    have hP : va_P G.1 classes [(b0, .inr (12, [.int b1, .ref b2, .ref b3, .ref b4, .ref b5, .int b6, .ref b7, .int b8, .int b9, .int b10, .int b11, .ref b12, .ref b13, .ref b14, .int b15, .ref b16, .ref b17, .ref b18, .ref b19, .ref b20, .ref b21, .ref b22, .ref b23, .ref b24, .ref b25, .ref b26, .ref b27, .int b28, .ref b29, .ref b30, .int b31, .int b32, .int b33, .int b34, .ref b35, .ref b36, .ref b37, .ref b38, .ref b39, .ref b40, .ref b41, .int b42, .ref b43, .ref b44, .int b45, .ref b46, .ref b47, .ref b48, .ref b49, .ref b50, .int b51, .ref b52, .ref b53, .ref b54]))] H := hP
    have hD := z_tie hP hD rfl
    refine lv_aload_n hx hb d_Model_wrong_22 rfl (lv_at hl 0 rfl) ?_
    refine lv_iconst (v := 0) hx hb d_Model_wrong_23 (by decide) ?_
    refine va_put (D := G.1) (ci := 12) (v := .int 0) (ty := .boolean) (C := R_Model) (T := F_Model) (N := 54) hx hb hts i_Model t_Model t_Model_ok n_Model hown hK hP hD hS 0 rfl rfl 10 (by decide) (hts _ q1119) (fun _ h9 => h9) rfl (by decide +kernel) rfl rfl (Nat.le_of_ble_eq_true rfl) d_Model_wrong_24 (fun H locs hP hD hS => ?_)
    have hP : va_P G.1 classes [(b0, .inr (12, [.int b1, .ref b2, .ref b3, .ref b4, .ref b5, .int b6, .ref b7, .int b8, .int b9, .int b10, .int 0, .ref b12, .ref b13, .ref b14, .int b15, .ref b16, .ref b17, .ref b18, .ref b19, .ref b20, .ref b21, .ref b22, .ref b23, .ref b24, .ref b25, .ref b26, .ref b27, .int b28, .ref b29, .ref b30, .int b31, .int b32, .int b33, .int b34, .ref b35, .ref b36, .ref b37, .ref b38, .ref b39, .ref b40, .ref b41, .int b42, .ref b43, .ref b44, .int b45, .ref b46, .ref b47, .ref b48, .ref b49, .ref b50, .int b51, .ref b52, .ref b53, .ref b54]))] H := hP
    have hD := z_tie hP hD rfl
    exact z_vret hx hb hr hlocks hP hD hS (Nat.le_of_ble_eq_true rfl) (Nat.le_of_ble_eq_true rfl) d_Model_wrong_27 ⟨b10, rfl, rfl⟩
  · have _nhc_1 := hc_1
    have ni_4 : ¬ (b11 : Int32).toInt = (0 : Int32).toInt := fun z => hc_1 ((fa_eq _ _).mpr z)
    simp only [li_0] at ni_4
    have hv_5 : zI b11 1 1 := zI.ne_lo hb11 zc_0 hc_1 (by decide)
    refine lv_aload_n hx hb d_Model_wrong_8 rfl (lv_at hl 0 rfl) ?_
    refine va_get (D := G.1) (ci := 12) (v := .int b9) (C := R_Model) (T := F_Model) (N := 54) hx hb hts i_Model hown hK hP 0 rfl rfl 8 (by decide) (hts _ q1117) (fun _ h9 => h9) rfl d_Model_wrong_9 ?_
    refine lv_goto (tgt := 19) hx hb d_Model_wrong_12 (by decide) ?_
    refine va_put (D := G.1) (ci := 12) (v := .int b9) (ty := .int) (C := R_Model) (T := F_Model) (N := 54) hx hb hts i_Model t_Model t_Model_ok n_Model hown hK hP hD hS 0 rfl rfl 9 (by decide) (hts _ q1118) (fun _ h9 => h9) rfl (by decide +kernel) rfl rfl (Nat.le_of_ble_eq_true rfl) d_Model_wrong_19 (fun H locs hP hD hS => ?_)
    have hP : va_P G.1 classes [(b0, .inr (12, [.int b1, .ref b2, .ref b3, .ref b4, .ref b5, .int b6, .ref b7, .int b8, .int b9, .int b9, .int b11, .ref b12, .ref b13, .ref b14, .int b15, .ref b16, .ref b17, .ref b18, .ref b19, .ref b20, .ref b21, .ref b22, .ref b23, .ref b24, .ref b25, .ref b26, .ref b27, .int b28, .ref b29, .ref b30, .int b31, .int b32, .int b33, .int b34, .ref b35, .ref b36, .ref b37, .ref b38, .ref b39, .ref b40, .ref b41, .int b42, .ref b43, .ref b44, .int b45, .ref b46, .ref b47, .ref b48, .ref b49, .ref b50, .int b51, .ref b52, .ref b53, .ref b54]))] H := hP
    have hD := z_tie hP hD rfl
    refine lv_aload_n hx hb d_Model_wrong_22 rfl (lv_at hl 0 rfl) ?_
    refine lv_iconst (v := 0) hx hb d_Model_wrong_23 (by decide) ?_
    refine va_put (D := G.1) (ci := 12) (v := .int 0) (ty := .boolean) (C := R_Model) (T := F_Model) (N := 54) hx hb hts i_Model t_Model t_Model_ok n_Model hown hK hP hD hS 0 rfl rfl 10 (by decide) (hts _ q1119) (fun _ h9 => h9) rfl (by decide +kernel) rfl rfl (Nat.le_of_ble_eq_true rfl) d_Model_wrong_24 (fun H locs hP hD hS => ?_)
    have hP : va_P G.1 classes [(b0, .inr (12, [.int b1, .ref b2, .ref b3, .ref b4, .ref b5, .int b6, .ref b7, .int b8, .int b9, .int b9, .int 0, .ref b12, .ref b13, .ref b14, .int b15, .ref b16, .ref b17, .ref b18, .ref b19, .ref b20, .ref b21, .ref b22, .ref b23, .ref b24, .ref b25, .ref b26, .ref b27, .int b28, .ref b29, .ref b30, .int b31, .int b32, .int b33, .int b34, .ref b35, .ref b36, .ref b37, .ref b38, .ref b39, .ref b40, .ref b41, .int b42, .ref b43, .ref b44, .int b45, .ref b46, .ref b47, .ref b48, .ref b49, .ref b50, .int b51, .ref b52, .ref b53, .ref b54]))] H := hP
    have hD := z_tie hP hD rfl
    exact z_vret hx hb hr hlocks hP hD hS (Nat.le_of_ble_eq_true rfl) (Nat.le_of_ble_eq_true rfl) d_Model_wrong_27 ⟨b9, rfl, rfl⟩
theorem d_Model_next_0 : decode prog_14_method_12_code 0 = .ok (.aload_n 0, 1) := by decide +kernel
theorem d_Model_next_1 : decode prog_14_method_12_code 1 = .ok (.getfield 149, 3) := by decide +kernel
theorem d_Model_next_4 : decode prog_14_method_12_code 4 = .ok (.aload_n 0, 1) := by decide +kernel
theorem d_Model_next_5 : decode prog_14_method_12_code 5 = .ok (.getfield 142, 3) := by decide +kernel
theorem d_Model_next_8 : decode prog_14_method_12_code 8 = .ok (.if_icmp .ge 30, 3) := by decide +kernel
theorem d_Model_next_11 : decode prog_14_method_12_code 11 = .ok (.aload_n 0, 1) := by decide +kernel
theorem d_Model_next_12 : decode prog_14_method_12_code 12 = .ok (.getfield 27, 3) := by decide +kernel
theorem d_Model_next_15 : decode prog_14_method_12_code 15 = .ok (.aload_n 0, 1) := by decide +kernel
theorem d_Model_next_16 : decode prog_14_method_12_code 16 = .ok (.getfield 149, 3) := by decide +kernel
theorem d_Model_next_19 : decode prog_14_method_12_code 19 = .ok (.baload, 1) := by decide +kernel
theorem d_Model_next_20 : decode prog_14_method_12_code 20 = .ok (.bipush 32, 2) := by decide +kernel
theorem d_Model_next_22 : decode prog_14_method_12_code 22 = .ok (.if_icmp .ne 16, 3) := by decide +kernel
theorem d_Model_next_25 : decode prog_14_method_12_code 25 = .ok (.aload_n 0, 1) := by decide +kernel
theorem d_Model_next_26 : decode prog_14_method_12_code 26 = .ok (.dup, 1) := by decide +kernel
theorem d_Model_next_27 : decode prog_14_method_12_code 27 = .ok (.getfield 149, 3) := by decide +kernel
theorem d_Model_next_30 : decode prog_14_method_12_code 30 = .ok (.iconst 1, 1) := by decide +kernel
theorem d_Model_next_31 : decode prog_14_method_12_code 31 = .ok (.iadd, 1) := by decide +kernel
theorem d_Model_next_32 : decode prog_14_method_12_code 32 = .ok (.putfield 149, 3) := by decide +kernel
theorem d_Model_next_35 : decode prog_14_method_12_code 35 = .ok (.goto (-35), 3) := by decide +kernel
theorem d_Model_next_38 : decode prog_14_method_12_code 38 = .ok (.aload_n 0, 1) := by decide +kernel
theorem d_Model_next_39 : decode prog_14_method_12_code 39 = .ok (.getfield 149, 3) := by decide +kernel
theorem d_Model_next_42 : decode prog_14_method_12_code 42 = .ok (.aload_n 0, 1) := by decide +kernel
theorem d_Model_next_43 : decode prog_14_method_12_code 43 = .ok (.getfield 142, 3) := by decide +kernel
theorem d_Model_next_46 : decode prog_14_method_12_code 46 = .ok (.if_icmp .ge 15, 3) := by decide +kernel
theorem d_Model_next_49 : decode prog_14_method_12_code 49 = .ok (.aload_n 0, 1) := by decide +kernel
theorem d_Model_next_50 : decode prog_14_method_12_code 50 = .ok (.getfield 27, 3) := by decide +kernel
theorem d_Model_next_53 : decode prog_14_method_12_code 53 = .ok (.aload_n 0, 1) := by decide +kernel
theorem d_Model_next_54 : decode prog_14_method_12_code 54 = .ok (.getfield 149, 3) := by decide +kernel
theorem d_Model_next_57 : decode prog_14_method_12_code 57 = .ok (.baload, 1) := by decide +kernel
theorem d_Model_next_58 : decode prog_14_method_12_code 58 = .ok (.goto 4, 3) := by decide +kernel
theorem d_Model_next_61 : decode prog_14_method_12_code 61 = .ok (.iconst 0, 1) := by decide +kernel
theorem d_Model_next_62 : decode prog_14_method_12_code 62 = .ok (.ireturn, 1) := by decide +kernel
abbrev m_s1_Model_next : Room := { frames := 0, cells := 0, slots := 0, locals := 0 }
set_option maxHeartbeats 4000000 in
set_option maxRecDepth 100000 in
theorem s1_Model_next (l : Launch) (G : zG) (b0 : Nat) (b1 : Int32) (b2 : Nat) (b3 : Nat) (b4 : Nat) (b5 : Nat) (b6 : Int32) (b7 : Nat) (b8 : Int32) (b9 : Int32) (b10 : Int32) (b11 : Int32) (b12 : Nat) (b13 : Nat) (b14 : Nat) (b15 : Int32) (b16 : Nat) (b17 : Nat) (b18 : Nat) (b19 : Nat) (b20 : Nat) (b21 : Nat) (b22 : Nat) (b23 : Nat) (b24 : Nat) (b25 : Nat) (b26 : Nat) (b27 : Nat) (b28 : Int32) (b29 : Nat) (b30 : Nat) (b31 : Int32) (b32 : Int32) (b33 : Int32) (b34 : Int32) (b35 : Nat) (b36 : Nat) (b37 : Nat) (b38 : Nat) (b39 : Nat) (b40 : Nat) (b41 : Nat) (b42 : Int32) (b43 : Nat) (b44 : Nat) (b45 : Int32) (b46 : Nat) (b47 : Nat) (b48 : Nat) (b49 : Nat) (b50 : Nat) (b51 : Int32) (b52 : Nat) (b53 : Nat) (b54 : Nat) (b55 : Nat → Int32) (hb6 : zI b6 0 8) (hb8 : zI b8 0 240) (hb9 : zI b9 0 240) (hb11 : zI b11 0 1) (hb15 : zI b15 0 12) (hb28 : zI b28 0 1) (hb31 : zI b31 0 1) (hb42 : zI b42 0 1000) (hb45 : zI b45 0 1000) (hb51 : zI b51 0 400) : zM l G y_Model_next prog_14_method_12_code 1 (Option.some Jvm.ClassFile.FieldType.int) m_s1_Model_next [.ref b0] [(b0, .inr (12, [.int b1, .ref b2, .ref b3, .ref b4, .ref b5, .int b6, .ref b7, .int b8, .int b9, .int b10, .int b11, .ref b12, .ref b13, .ref b14, .int b15, .ref b16, .ref b17, .ref b18, .ref b19, .ref b20, .ref b21, .ref b22, .ref b23, .ref b24, .ref b25, .ref b26, .ref b27, .int b28, .ref b29, .ref b30, .int b31, .int b32, .int b33, .int b34, .ref b35, .ref b36, .ref b37, .ref b38, .ref b39, .ref b40, .ref b41, .int b42, .ref b43, .ref b44, .int b45, .ref b46, .ref b47, .ref b48, .ref b49, .ref b50, .int b51, .ref b52, .ref b53, .ref b54])), (b7, .inl (G.2 3, 240, .inl b55))] (fun v w => ∃ (e0 : Int32), ∃ (e1 : Int32), v = some (.int e0) ∧ w = [(b0, .inr (12, [.int b1, .ref b2, .ref b3, .ref b4, .ref b5, .int b6, .ref b7, .int b8, .int e1, .int b10, .int b11, .ref b12, .ref b13, .ref b14, .int b15, .ref b16, .ref b17, .ref b18, .ref b19, .ref b20, .ref b21, .ref b22, .ref b23, .ref b24, .ref b25, .ref b26, .ref b27, .int b28, .ref b29, .ref b30, .int b31, .int b32, .int b33, .int b34, .ref b35, .ref b36, .ref b37, .ref b38, .ref b39, .ref b40, .ref b41, .int b42, .ref b43, .ref b44, .int b45, .ref b46, .ref b47, .ref b48, .ref b49, .ref b50, .int b51, .ref b52, .ref b53, .ref b54])), (b7, .inl (G.2 3, 240, .inl b55))] ∧ (zI e1 0 240) ∧ ((e0 : Int32).toInt = 0 ∨ e1.toInt < b8.toInt ∧ e0 = b55 e1.toNatClampNeg) ∧ (b9.toInt ≤ e1.toInt)) := by
  refine z_start (by decide +kernel) (Nat.le_of_ble_eq_true rfl) ?_
  intro p e s m below meth c A Z hr hnm hA hP hD hS ls hl
  have Z : zC p s m _ meth c prog_14_method_12_code 1 "TraceMachinesModel" G := Z
  obtain ⟨hx, hb, hml, hown, hts, hK, hN, hlocks⟩ := id Z
  have hl : lv_has ls 1 [(0, .ref b0)] := hl
  suffices key : ∀ (k_25 : Nat) (y_26 : Int32) (H : Heap) (locs : List Loc) (ls : Array Slot), (zI y_26 0 240) → (b9.toInt ≤ y_26.toInt) → (240 : Int) - y_26.toInt < (k_25 : Int) → va_P G.1 classes [(b0, .inr (12, [.int b1, .ref b2, .ref b3, .ref b4, .ref b5, .int b6, .ref b7, .int b8, .int y_26, .int b10, .int b11, .ref b12, .ref b13, .ref b14, .int b15, .ref b16, .ref b17, .ref b18, .ref b19, .ref b20, .ref b21, .ref b22, .ref b23, .ref b24, .ref b25, .ref b26, .ref b27, .int b28, .ref b29, .ref b30, .int b31, .int b32, .int b33, .int b34, .ref b35, .ref b36, .ref b37, .ref b38, .ref b39, .ref b40, .ref b41, .int b42, .ref b43, .ref b44, .int b45, .ref b46, .ref b47, .ref b48, .ref b49, .ref b50, .int b51, .ref b52, .ref b53, .ref b54])), (b7, .inl (G.2 3, 240, .inl b55))] H → va_D A [(b0, .inr (12, [.int b1, .ref b2, .ref b3, .ref b4, .ref b5, .int b6, .ref b7, .int b8, .int y_26, .int b10, .int b11, .ref b12, .ref b13, .ref b14, .int b15, .ref b16, .ref b17, .ref b18, .ref b19, .ref b20, .ref b21, .ref b22, .ref b23, .ref b24, .ref b25, .ref b26, .ref b27, .int b28, .ref b29, .ref b30, .int b31, .int b32, .int b33, .int b34, .ref b35, .ref b36, .ref b37, .ref b38, .ref b39, .ref b40, .ref b41, .int b42, .ref b43, .ref b44, .int b45, .ref b46, .ref b47, .ref b48, .ref b49, .ref b50, .int b51, .ref b52, .ref b53, .ref b54])), (b7, .inl (G.2 3, 240, .inl b55))] → va_S A s.heap H locs → lv_has ls 1 [(0, .ref b0)] → W p l e m_s1_Model_next s m ([.ref b0] : List Value).toArray below meth c H locs 0 0 (MQ below (zQ G (fun v w => ∃ (e0 : Int32), ∃ (e1 : Int32), v = some (.int e0) ∧ w = [(b0, .inr (12, [.int b1, .ref b2, .ref b3, .ref b4, .ref b5, .int b6, .ref b7, .int b8, .int e1, .int b10, .int b11, .ref b12, .ref b13, .ref b14, .int b15, .ref b16, .ref b17, .ref b18, .ref b19, .ref b20, .ref b21, .ref b22, .ref b23, .ref b24, .ref b25, .ref b26, .ref b27, .int b28, .ref b29, .ref b30, .int b31, .int b32, .int b33, .int b34, .ref b35, .ref b36, .ref b37, .ref b38, .ref b39, .ref b40, .ref b41, .int b42, .ref b43, .ref b44, .int b45, .ref b46, .ref b47, .ref b48, .ref b49, .ref b50, .int b51, .ref b52, .ref b53, .ref b54])), (b7, .inl (G.2 3, 240, .inl b55))] ∧ (zI e1 0 240) ∧ ((e0 : Int32).toInt = 0 ∨ e1.toInt < b8.toInt ∧ e0 = b55 e1.toNatClampNeg) ∧ (b9.toInt ≤ e1.toInt)) A) ([.ref b0] : List Value).toArray s m_s1_Model_next.cells m_s1_Model_next.slots A) (F0 m 0 ls []) by
    exact key 241 (b9) _ _ _ hb9 (by omega) (zm_upi hb9 (by decide)) hP hD hS (lv_sub hl [0] rfl)
  intro k_25
  induction k_25 with
  | zero =>
    intro y_26 H locs ls hy_26 hli_27 hmk_25 hP hD hS hl
    exact (zm_up0 hy_26 hmk_25).elim
  | succ k_25 ihk_25 =>
    intro y_26 H locs ls hy_26 hli_27 hmk_25 hP hD hS hl
    refine lv_aload_n hx hb d_Model_next_0 rfl (lv_at hl 0 rfl) ?_
    refine va_get (D := G.1) (ci := 12) (v := .int y_26) (C := R_Model) (T := F_Model) (N := 54) hx hb hts i_Model hown hK hP 0 rfl rfl 8 (by decide) (hts _ q1117) (fun _ h9 => h9) rfl d_Model_next_1 ?_
    refine lv_aload_n hx hb d_Model_next_4 rfl (lv_at hl 0 rfl) ?_
    refine va_get (D := G.1) (ci := 12) (v := .int b8) (C := R_Model) (T := F_Model) (N := 54) hx hb hts i_Model hown hK hP 0 rfl rfl 7 (by decide) (hts _ q1116) (fun _ h9 => h9) rfl d_Model_next_5 ?_
    refine lv_icmp_ge (tgt := 38) hx hb d_Model_next_8 (by decide) (fun hc_28 => ?_) (fun hc_28 => ?_)
    · have _nhc_28 := hc_28
      have ni_29 := (fa_le _ _).mp hc_28
      refine lv_aload_n hx hb d_Model_next_38 rfl (lv_at hl 0 rfl) ?_
      refine va_get (D := G.1) (ci := 12) (v := .int y_26) (C := R_Model) (T := F_Model) (N := 54) hx hb hts i_Model hown hK hP 0 rfl rfl 8 (by decide) (hts _ q1117) (fun _ h9 => h9) rfl d_Model_next_39 ?_
      refine lv_aload_n hx hb d_Model_next_42 rfl (lv_at hl 0 rfl) ?_
      refine va_get (D := G.1) (ci := 12) (v := .int b8) (C := R_Model) (T := F_Model) (N := 54) hx hb hts i_Model hown hK hP 0 rfl rfl 7 (by decide) (hts _ q1116) (fun _ h9 => h9) rfl d_Model_next_43 ?_
      refine lv_icmp_ge (tgt := 61) hx hb d_Model_next_46 (by decide) (fun hc_30 => ?_) (fun hc_30 => ?_)
      · have _nhc_30 := hc_30
        have ni_31 := (fa_le _ _).mp hc_30
        refine lv_iconst (v := 0) hx hb d_Model_next_61 (by decide) ?_
        exact z_iret hx hb hr hlocks hP hD hS (Nat.le_of_ble_eq_true rfl) (Nat.le_of_ble_eq_true rfl) d_Model_next_62 ⟨0, y_26, rfl, rfl, hy_26, (Or.inl li_0), (by omega)⟩
      · have _nhc_30 := hc_30
        have ni_32 := (fa_lt _ _).mp (zi_nle hc_30)
        have hv_33 : zI y_26 0 239 := zI.lt_l hy_26 hb8 (zi_nle hc_30) (by decide)
        have hv_34 : zI b8 1 240 := zI.lt_r hy_26 hb8 (zi_nle hc_30) (by decide)
        refine lv_aload_n hx hb d_Model_next_49 rfl (lv_at hl 0 rfl) ?_
        refine va_get (D := G.1) (ci := 12) (v := .ref b7) (C := R_Model) (T := F_Model) (N := 54) hx hb hts i_Model hown hK hP 0 rfl rfl 6 (by decide) (hts _ q1115) (fun _ h9 => h9) rfl d_Model_next_50 ?_
        refine lv_aload_n hx hb d_Model_next_53 rfl (lv_at hl 0 rfl) ?_
        refine va_get (D := G.1) (ci := 12) (v := .int y_26) (C := R_Model) (T := F_Model) (N := 54) hx hb hts i_Model hown hK hP 0 rfl rfl 8 (by decide) (hts _ q1117) (fun _ h9 => h9) rfl d_Model_next_54 ?_
        refine va_bald hx hb hK hP 1 3 rfl rfl (zI.inn hv_33 (by decide)) d_Model_next_57 ?_
        refine lv_topi (fun v_35 ev_35 => ?_)
        refine lv_goto (tgt := 62) hx hb d_Model_next_58 (by decide) ?_
        exact z_iret hx hb hr hlocks hP hD hS (Nat.le_of_ble_eq_true rfl) (Nat.le_of_ble_eq_true rfl) d_Model_next_62 ⟨v_35, y_26, rfl, rfl, (zI.wk (l' := 0) (h' := 240) hv_33 (by decide)), (Or.inr ⟨by omega, ev_35⟩), (by omega)⟩
    · have _nhc_28 := hc_28
      have ni_36 := (fa_lt _ _).mp (zi_nle hc_28)
      have hv_37 : zI y_26 0 239 := zI.lt_l hy_26 hb8 (zi_nle hc_28) (by decide)
      have hv_38 : zI b8 1 240 := zI.lt_r hy_26 hb8 (zi_nle hc_28) (by decide)
      refine lv_aload_n hx hb d_Model_next_11 rfl (lv_at hl 0 rfl) ?_
      refine va_get (D := G.1) (ci := 12) (v := .ref b7) (C := R_Model) (T := F_Model) (N := 54) hx hb hts i_Model hown hK hP 0 rfl rfl 6 (by decide) (hts _ q1115) (fun _ h9 => h9) rfl d_Model_next_12 ?_
      refine lv_aload_n hx hb d_Model_next_15 rfl (lv_at hl 0 rfl) ?_
      refine va_get (D := G.1) (ci := 12) (v := .int y_26) (C := R_Model) (T := F_Model) (N := 54) hx hb hts i_Model hown hK hP 0 rfl rfl 8 (by decide) (hts _ q1117) (fun _ h9 => h9) rfl d_Model_next_16 ?_
      refine va_bald hx hb hK hP 1 3 rfl rfl (zI.inn hv_37 (by decide)) d_Model_next_19 ?_
      refine lv_topi (fun v_39 ev_39 => ?_)
      refine lv_bipush (v := 32) hx hb d_Model_next_20 (by decide) ?_
      refine lv_icmp_ne (tgt := 38) hx hb d_Model_next_22 (by decide) (fun hc_40 => ?_) (fun hc_40 => ?_)
      · have _nhc_40 := hc_40
        have ni_41 : ¬ (v_39 : Int32).toInt = (32 : Int32).toInt := fun z => hc_40 ((fa_eq _ _).mpr z)
        simp only [li_32] at ni_41
        refine lv_aload_n hx hb d_Model_next_38 rfl (lv_at hl 0 rfl) ?_
        refine va_get (D := G.1) (ci := 12) (v := .int y_26) (C := R_Model) (T := F_Model) (N := 54) hx hb hts i_Model hown hK hP 0 rfl rfl 8 (by decide) (hts _ q1117) (fun _ h9 => h9) rfl d_Model_next_39 ?_
        refine lv_aload_n hx hb d_Model_next_42 rfl (lv_at hl 0 rfl) ?_
        refine va_get (D := G.1) (ci := 12) (v := .int b8) (C := R_Model) (T := F_Model) (N := 54) hx hb hts i_Model hown hK hP 0 rfl rfl 7 (by decide) (hts _ q1116) (fun _ h9 => h9) rfl d_Model_next_43 ?_
        refine lv_icmp_ge (tgt := 61) hx hb d_Model_next_46 (by decide) (fun hc_42 => ?_) (fun hc_42 => ?_)
        · have _nhc_42 := hc_42
          have ni_43 := (fa_le _ _).mp hc_42
          have hv_44 : zI b8 1 239 := zI.le_l hv_38 hv_37 hc_42 (by decide)
          have hv_45 : zI y_26 1 239 := zI.le_r hv_38 hv_37 hc_42 (by decide)
          refine lv_iconst (v := 0) hx hb d_Model_next_61 (by decide) ?_
          exact z_iret hx hb hr hlocks hP hD hS (Nat.le_of_ble_eq_true rfl) (Nat.le_of_ble_eq_true rfl) d_Model_next_62 ⟨0, y_26, rfl, rfl, (zI.wk (l' := 0) (h' := 240) hv_45 (by decide)), (Or.inl li_0), (by omega)⟩
        · have _nhc_42 := hc_42
          have ni_46 := (fa_lt _ _).mp (zi_nle hc_42)
          refine lv_aload_n hx hb d_Model_next_49 rfl (lv_at hl 0 rfl) ?_
          refine va_get (D := G.1) (ci := 12) (v := .ref b7) (C := R_Model) (T := F_Model) (N := 54) hx hb hts i_Model hown hK hP 0 rfl rfl 6 (by decide) (hts _ q1115) (fun _ h9 => h9) rfl d_Model_next_50 ?_
          refine lv_aload_n hx hb d_Model_next_53 rfl (lv_at hl 0 rfl) ?_
          refine va_get (D := G.1) (ci := 12) (v := .int y_26) (C := R_Model) (T := F_Model) (N := 54) hx hb hts i_Model hown hK hP 0 rfl rfl 8 (by decide) (hts _ q1117) (fun _ h9 => h9) rfl d_Model_next_54 ?_
          refine va_bald hx hb hK hP 1 3 rfl rfl (zI.inn hv_37 (by decide)) d_Model_next_57 ?_
          refine lv_topi (fun v_47 ev_47 => ?_)
          obtain rfl : v_39 = v_47 := ev_39.trans ev_47.symm
          refine lv_goto (tgt := 62) hx hb d_Model_next_58 (by decide) ?_
          exact z_iret hx hb hr hlocks hP hD hS (Nat.le_of_ble_eq_true rfl) (Nat.le_of_ble_eq_true rfl) d_Model_next_62 ⟨v_39, y_26, rfl, rfl, (zI.wk (l' := 0) (h' := 240) hv_37 (by decide)), (Or.inr ⟨by omega, ev_39⟩), (by omega)⟩
      · have _nhc_40 := hc_40
        have ni_48 := (fa_eq _ _).mp hc_40
        rw [li_32] at ni_48
        have hv_49 : zI v_39 32 32 := zI.eq_l (zI_all v_39) zc_32 hc_40
        refine lv_aload_n hx hb d_Model_next_25 rfl (lv_at hl 0 rfl) ?_
        refine lv_dup hx hb d_Model_next_26 rfl ?_
        refine va_get (D := G.1) (ci := 12) (v := .int y_26) (C := R_Model) (T := F_Model) (N := 54) hx hb hts i_Model hown hK hP 0 rfl rfl 8 (by decide) (hts _ q1117) (fun _ h9 => h9) rfl d_Model_next_27 ?_
        refine lv_iconst (v := 1) hx hb d_Model_next_30 (by decide) ?_
        refine lv_iadd hx hb d_Model_next_31 ?_
        refine lv_topi (fun v_50 ev_50 => ?_)
        obtain ⟨qv_50, hv_50⟩ := zI_add (l := 1) (h := 240) hv_37 zc_1 ev_50 (by decide)
        rw [li_1] at qv_50
        refine va_put (D := G.1) (ci := 12) (v := .int v_50) (ty := .int) (C := R_Model) (T := F_Model) (N := 54) hx hb hts i_Model t_Model t_Model_ok n_Model hown hK hP hD hS 0 rfl rfl 8 (by decide) (hts _ q1117) (fun _ h9 => h9) rfl (by decide +kernel) rfl rfl (Nat.le_of_ble_eq_true rfl) d_Model_next_32 (fun H locs hP hD hS => ?_)
        have hP : va_P G.1 classes [(b0, .inr (12, [.int b1, .ref b2, .ref b3, .ref b4, .ref b5, .int b6, .ref b7, .int b8, .int v_50, .int b10, .int b11, .ref b12, .ref b13, .ref b14, .int b15, .ref b16, .ref b17, .ref b18, .ref b19, .ref b20, .ref b21, .ref b22, .ref b23, .ref b24, .ref b25, .ref b26, .ref b27, .int b28, .ref b29, .ref b30, .int b31, .int b32, .int b33, .int b34, .ref b35, .ref b36, .ref b37, .ref b38, .ref b39, .ref b40, .ref b41, .int b42, .ref b43, .ref b44, .int b45, .ref b46, .ref b47, .ref b48, .ref b49, .ref b50, .int b51, .ref b52, .ref b53, .ref b54])), (b7, .inl (G.2 3, 240, .inl b55))] H := hP
        have hD := z_tie hP hD rfl
        refine lv_goto (tgt := 0) hx hb d_Model_next_35 (by decide) ?_
        exact ihk_25 (v_50) _ _ _ (zI.wk (l' := 0) (h' := 240) hv_50 (by decide)) (by omega) (zm_up qv_50 hmk_25 (by decide)) hP hD hS (lv_sub hl [0] rfl)
theorem d_Model_remember_0 : decode prog_14_method_16_code 0 = .ok (.aload_n 0, 1) := by decide +kernel
theorem d_Model_remember_1 : decode prog_14_method_16_code 1 = .ok (.getfield 179, 3) := by decide +kernel
theorem d_Model_remember_4 : decode prog_14_method_16_code 4 = .ok (.bipush 8, 2) := by decide +kernel
theorem d_Model_remember_6 : decode prog_14_method_16_code 6 = .ok (.if_icmp .ne 49, 3) := by decide +kernel
theorem d_Model_remember_9 : decode prog_14_method_16_code 9 = .ok (.aload_n 0, 1) := by decide +kernel
theorem d_Model_remember_10 : decode prog_14_method_16_code 10 = .ok (.dup, 1) := by decide +kernel
theorem d_Model_remember_11 : decode prog_14_method_16_code 11 = .ok (.getfield 179, 3) := by decide +kernel
theorem d_Model_remember_14 : decode prog_14_method_16_code 14 = .ok (.iconst 1, 1) := by decide +kernel
theorem d_Model_remember_15 : decode prog_14_method_16_code 15 = .ok (.isub, 1) := by decide +kernel
theorem d_Model_remember_16 : decode prog_14_method_16_code 16 = .ok (.putfield 179, 3) := by decide +kernel
theorem d_Model_remember_19 : decode prog_14_method_16_code 19 = .ok (.iconst 0, 1) := by decide +kernel
theorem d_Model_remember_20 : decode prog_14_method_16_code 20 = .ok (.istore_n 1, 1) := by decide +kernel
theorem d_Model_remember_21 : decode prog_14_method_16_code 21 = .ok (.iload_n 1, 1) := by decide +kernel
theorem d_Model_remember_22 : decode prog_14_method_16_code 22 = .ok (.sipush 503, 3) := by decide +kernel
theorem d_Model_remember_25 : decode prog_14_method_16_code 25 = .ok (.aload_n 0, 1) := by decide +kernel
theorem d_Model_remember_26 : decode prog_14_method_16_code 26 = .ok (.getfield 179, 3) := by decide +kernel
theorem d_Model_remember_29 : decode prog_14_method_16_code 29 = .ok (.imul, 1) := by decide +kernel
theorem d_Model_remember_30 : decode prog_14_method_16_code 30 = .ok (.if_icmp .ge 25, 3) := by decide +kernel
theorem d_Model_remember_33 : decode prog_14_method_16_code 33 = .ok (.aload_n 0, 1) := by decide +kernel
theorem d_Model_remember_34 : decode prog_14_method_16_code 34 = .ok (.getfield 24, 3) := by decide +kernel
theorem d_Model_remember_37 : decode prog_14_method_16_code 37 = .ok (.iload_n 1, 1) := by decide +kernel
theorem d_Model_remember_38 : decode prog_14_method_16_code 38 = .ok (.aload_n 0, 1) := by decide +kernel
theorem d_Model_remember_39 : decode prog_14_method_16_code 39 = .ok (.getfield 24, 3) := by decide +kernel
theorem d_Model_remember_42 : decode prog_14_method_16_code 42 = .ok (.iload_n 1, 1) := by decide +kernel
theorem d_Model_remember_43 : decode prog_14_method_16_code 43 = .ok (.sipush 503, 3) := by decide +kernel
theorem d_Model_remember_46 : decode prog_14_method_16_code 46 = .ok (.iadd, 1) := by decide +kernel
theorem d_Model_remember_47 : decode prog_14_method_16_code 47 = .ok (.iaload, 1) := by decide +kernel
theorem d_Model_remember_48 : decode prog_14_method_16_code 48 = .ok (.iastore, 1) := by decide +kernel
theorem d_Model_remember_49 : decode prog_14_method_16_code 49 = .ok (.iinc 1 1, 3) := by decide +kernel
theorem d_Model_remember_52 : decode prog_14_method_16_code 52 = .ok (.goto (-31), 3) := by decide +kernel
theorem d_Model_remember_55 : decode prog_14_method_16_code 55 = .ok (.iconst 0, 1) := by decide +kernel
theorem d_Model_remember_56 : decode prog_14_method_16_code 56 = .ok (.istore_n 1, 1) := by decide +kernel
theorem d_Model_remember_57 : decode prog_14_method_16_code 57 = .ok (.iload_n 1, 1) := by decide +kernel
theorem d_Model_remember_58 : decode prog_14_method_16_code 58 = .ok (.sipush 503, 3) := by decide +kernel
theorem d_Model_remember_61 : decode prog_14_method_16_code 61 = .ok (.if_icmp .ge 30, 3) := by decide +kernel
theorem d_Model_remember_64 : decode prog_14_method_16_code 64 = .ok (.aload_n 0, 1) := by decide +kernel
theorem d_Model_remember_65 : decode prog_14_method_16_code 65 = .ok (.getfield 24, 3) := by decide +kernel
theorem d_Model_remember_68 : decode prog_14_method_16_code 68 = .ok (.sipush 503, 3) := by decide +kernel
theorem d_Model_remember_71 : decode prog_14_method_16_code 71 = .ok (.aload_n 0, 1) := by decide +kernel
theorem d_Model_remember_72 : decode prog_14_method_16_code 72 = .ok (.getfield 179, 3) := by decide +kernel
theorem d_Model_remember_75 : decode prog_14_method_16_code 75 = .ok (.imul, 1) := by decide +kernel
theorem d_Model_remember_76 : decode prog_14_method_16_code 76 = .ok (.iload_n 1, 1) := by decide +kernel
theorem d_Model_remember_77 : decode prog_14_method_16_code 77 = .ok (.iadd, 1) := by decide +kernel
theorem d_Model_remember_78 : decode prog_14_method_16_code 78 = .ok (.aload_n 0, 1) := by decide +kernel
theorem d_Model_remember_79 : decode prog_14_method_16_code 79 = .ok (.getfield 13, 3) := by decide +kernel
theorem d_Model_remember_82 : decode prog_14_method_16_code 82 = .ok (.iload_n 1, 1) := by decide +kernel
theorem d_Model_remember_83 : decode prog_14_method_16_code 83 = .ok (.iaload, 1) := by decide +kernel
theorem d_Model_remember_84 : decode prog_14_method_16_code 84 = .ok (.iastore, 1) := by decide +kernel
theorem d_Model_remember_85 : decode prog_14_method_16_code 85 = .ok (.iinc 1 1, 3) := by decide +kernel
theorem d_Model_remember_88 : decode prog_14_method_16_code 88 = .ok (.goto (-31), 3) := by decide +kernel
theorem d_Model_remember_91 : decode prog_14_method_16_code 91 = .ok (.aload_n 0, 1) := by decide +kernel
theorem d_Model_remember_92 : decode prog_14_method_16_code 92 = .ok (.dup, 1) := by decide +kernel
theorem d_Model_remember_93 : decode prog_14_method_16_code 93 = .ok (.getfield 179, 3) := by decide +kernel
theorem d_Model_remember_96 : decode prog_14_method_16_code 96 = .ok (.iconst 1, 1) := by decide +kernel
theorem d_Model_remember_97 : decode prog_14_method_16_code 97 = .ok (.iadd, 1) := by decide +kernel
theorem d_Model_remember_98 : decode prog_14_method_16_code 98 = .ok (.putfield 179, 3) := by decide +kernel
theorem d_Model_remember_101 : decode prog_14_method_16_code 101 = .ok (.return_, 1) := by decide +kernel
theorem zc_503 : zI 503 503 503 := ⟨by decide +kernel, by decide +kernel⟩
theorem li_503 : (503 : Int32).toInt = 503 := by decide +kernel
abbrev m_s1_Model_remember : Room := { frames := 0, cells := 0, slots := 0, locals := 0 }
set_option maxHeartbeats 4000000 in
set_option maxRecDepth 100000 in
theorem s1_Model_remember (l : Launch) (G : zG) (b0 : Nat) (b1 : Int32) (b2 : Nat) (b3 : Nat) (b4 : Nat) (b5 : Nat) (b6 : Int32) (b7 : Nat) (b8 : Int32) (b9 : Int32) (b10 : Int32) (b11 : Int32) (b12 : Nat) (b13 : Nat) (b14 : Nat) (b15 : Int32) (b16 : Nat) (b17 : Nat) (b18 : Nat) (b19 : Nat) (b20 : Nat) (b21 : Nat) (b22 : Nat) (b23 : Nat) (b24 : Nat) (b25 : Nat) (b26 : Nat) (b27 : Nat) (b28 : Int32) (b29 : Nat) (b30 : Nat) (b31 : Int32) (b32 : Int32) (b33 : Int32) (b34 : Int32) (b35 : Nat) (b36 : Nat) (b37 : Nat) (b38 : Nat) (b39 : Nat) (b40 : Nat) (b41 : Nat) (b42 : Int32) (b43 : Nat) (b44 : Nat) (b45 : Int32) (b46 : Nat) (b47 : Nat) (b48 : Nat) (b49 : Nat) (b50 : Nat) (b51 : Int32) (b52 : Nat) (b53 : Nat) (b54 : Nat) (b55 : Nat → Int32) (b56 : Nat → Int32) (hb6 : zI b6 0 8) (hb8 : zI b8 0 240) (hb9 : zI b9 0 240) (hb11 : zI b11 0 1) (hb15 : zI b15 0 12) (hb28 : zI b28 0 1) (hb31 : zI b31 0 1) (hb42 : zI b42 0 1000) (hb45 : zI b45 0 1000) (hb51 : zI b51 0 400) (hb55 : zW5 b55) (hb56 : zW5 b56) : zM l G y_Model_remember prog_14_method_16_code 2 (Option.none : Option Jvm.ClassFile.FieldType) m_s1_Model_remember [.ref b0] [(b0, .inr (12, [.int b1, .ref b2, .ref b3, .ref b4, .ref b5, .int b6, .ref b7, .int b8, .int b9, .int b10, .int b11, .ref b12, .ref b13, .ref b14, .int b15, .ref b16, .ref b17, .ref b18, .ref b19, .ref b20, .ref b21, .ref b22, .ref b23, .ref b24, .ref b25, .ref b26, .ref b27, .int b28, .ref b29, .ref b30, .int b31, .int b32, .int b33, .int b34, .ref b35, .ref b36, .ref b37, .ref b38, .ref b39, .ref b40, .ref b41, .int b42, .ref b43, .ref b44, .int b45, .ref b46, .ref b47, .ref b48, .ref b49, .ref b50, .int b51, .ref b52, .ref b53, .ref b54])), (b2, .inl (G.2 0, 503, .inl b55)), (b5, .inl (G.2 0, 4024, .inl b56))] (fun v w => ∃ (e0 : Int32), ∃ (e1 : Nat → Int32), v = none ∧ w = [(b0, .inr (12, [.int b1, .ref b2, .ref b3, .ref b4, .ref b5, .int e0, .ref b7, .int b8, .int b9, .int b10, .int b11, .ref b12, .ref b13, .ref b14, .int b15, .ref b16, .ref b17, .ref b18, .ref b19, .ref b20, .ref b21, .ref b22, .ref b23, .ref b24, .ref b25, .ref b26, .ref b27, .int b28, .ref b29, .ref b30, .int b31, .int b32, .int b33, .int b34, .ref b35, .ref b36, .ref b37, .ref b38, .ref b39, .ref b40, .ref b41, .int b42, .ref b43, .ref b44, .int b45, .ref b46, .ref b47, .ref b48, .ref b49, .ref b50, .int b51, .ref b52, .ref b53, .ref b54])), (b2, .inl (G.2 0, 503, .inl b55)), (b5, .inl (G.2 0, 4024, .inl e1))] ∧ (zI e0 0 8) ∧ (zW5 e1)) := by
  refine z_start (by decide +kernel) (Nat.le_of_ble_eq_true rfl) ?_
  intro p e s m below meth c A Z hr hnm hA hP hD hS ls hl
  have Z : zC p s m _ meth c prog_14_method_16_code 2 "TraceMachinesModel" G := Z
  obtain ⟨hx, hb, hml, hown, hts, hK, hN, hlocks⟩ := id Z
  have hl : lv_has ls 2 [(0, .ref b0)] := hl
  refine lv_aload_n hx hb d_Model_remember_0 rfl (lv_at hl 0 rfl) ?_
  refine va_get (D := G.1) (ci := 12) (v := .int b6) (C := R_Model) (T := F_Model) (N := 54) hx hb hts i_Model hown hK hP 0 rfl rfl 5 (by decide) (hts _ q1114) (fun _ h9 => h9) rfl d_Model_remember_1 ?_
  refine lv_bipush (v := 8) hx hb d_Model_remember_4 (by decide) ?_
  refine lv_icmp_ne (tgt := 55) hx hb d_Model_remember_6 (by decide) (fun hc_1 => ?_) (fun hc_1 => ?_)
  · have _nhc_1 := hc_1
    have ni_2 : ¬ (b6 : Int32).toInt = (8 : Int32).toInt := fun z => hc_1 ((fa_eq _ _).mpr z)
    simp only [li_8] at ni_2
    have hv_3 : zI b6 0 7 := zI.ne_hi hb6 zc_8 hc_1 (by decide)
    refine lv_iconst (v := 0) hx hb d_Model_remember_55 (by decide) ?_
    refine lv_istore_n (lv' := [(1, .int 0), (0, .ref b0)]) hx hb d_Model_remember_56 rfl hl (by decide) rfl (fun ls hl => ?_)
    suffices key : ∀ (k_17 : Nat) (y_18 : Int32) (y_19 : Nat → Int32) (H : Heap) (locs : List Loc) (ls : Array Slot), (zI y_18 0 503) → (zW5 y_19) → (503 : Int) - y_18.toInt < (k_17 : Int) → va_P G.1 classes [(b0, .inr (12, [.int b1, .ref b2, .ref b3, .ref b4, .ref b5, .int b6, .ref b7, .int b8, .int b9, .int b10, .int b11, .ref b12, .ref b13, .ref b14, .int b15, .ref b16, .ref b17, .ref b18, .ref b19, .ref b20, .ref b21, .ref b22, .ref b23, .ref b24, .ref b25, .ref b26, .ref b27, .int b28, .ref b29, .ref b30, .int b31, .int b32, .int b33, .int b34, .ref b35, .ref b36, .ref b37, .ref b38, .ref b39, .ref b40, .ref b41, .int b42, .ref b43, .ref b44, .int b45, .ref b46, .ref b47, .ref b48, .ref b49, .ref b50, .int b51, .ref b52, .ref b53, .ref b54])), (b2, .inl (G.2 0, 503, .inl b55)), (b5, .inl (G.2 0, 4024, .inl y_19))] H → va_D A [(b0, .inr (12, [.int b1, .ref b2, .ref b3, .ref b4, .ref b5, .int b6, .ref b7, .int b8, .int b9, .int b10, .int b11, .ref b12, .ref b13, .ref b14, .int b15, .ref b16, .ref b17, .ref b18, .ref b19, .ref b20, .ref b21, .ref b22, .ref b23, .ref b24, .ref b25, .ref b26, .ref b27, .int b28, .ref b29, .ref b30, .int b31, .int b32, .int b33, .int b34, .ref b35, .ref b36, .ref b37, .ref b38, .ref b39, .ref b40, .ref b41, .int b42, .ref b43, .ref b44, .int b45, .ref b46, .ref b47, .ref b48, .ref b49, .ref b50, .int b51, .ref b52, .ref b53, .ref b54])), (b2, .inl (G.2 0, 503, .inl b55)), (b5, .inl (G.2 0, 4024, .inl y_19))] → va_S A s.heap H locs → lv_has ls 2 [(1, .int y_18), (0, .ref b0)] → W p l e m_s1_Model_remember s m ([.ref b0] : List Value).toArray below meth c H locs 0 0 (MQ below (zQ G (fun v w => ∃ (e0 : Int32), ∃ (e1 : Nat → Int32), v = none ∧ w = [(b0, .inr (12, [.int b1, .ref b2, .ref b3, .ref b4, .ref b5, .int e0, .ref b7, .int b8, .int b9, .int b10, .int b11, .ref b12, .ref b13, .ref b14, .int b15, .ref b16, .ref b17, .ref b18, .ref b19, .ref b20, .ref b21, .ref b22, .ref b23, .ref b24, .ref b25, .ref b26, .ref b27, .int b28, .ref b29, .ref b30, .int b31, .int b32, .int b33, .int b34, .ref b35, .ref b36, .ref b37, .ref b38, .ref b39, .ref b40, .ref b41, .int b42, .ref b43, .ref b44, .int b45, .ref b46, .ref b47, .ref b48, .ref b49, .ref b50, .int b51, .ref b52, .ref b53, .ref b54])), (b2, .inl (G.2 0, 503, .inl b55)), (b5, .inl (G.2 0, 4024, .inl e1))] ∧ (zI e0 0 8) ∧ (zW5 e1)) A) ([.ref b0] : List Value).toArray s m_s1_Model_remember.cells m_s1_Model_remember.slots A) (F0 m 57 ls []) by
      exact key 504 (0) (b56) _ _ _ (zI.wk (l' := 0) (h' := 503) zc_0 (by decide)) hb56 (zm_upi (zI.wk (l' := 0) (h' := 503) zc_0 (by decide)) (by decide)) hP hD hS (lv_sub hl [0, 1] rfl)
    intro k_17
    induction k_17 with
    | zero =>
      intro y_18 y_19 H locs ls hy_18 hy_19 hmk_17 hP hD hS hl
      exact (zm_up0 hy_18 hmk_17).elim
    | succ k_17 ihk_17 =>
      intro y_18 y_19 H locs ls hy_18 hy_19 hmk_17 hP hD hS hl
      refine lv_iload_n hx hb d_Model_remember_57 rfl (lv_at hl 0 rfl) ?_
      refine lv_sipush (v := 503) hx hb d_Model_remember_58 (by decide) ?_
      refine lv_icmp_ge (tgt := 91) hx hb d_Model_remember_61 (by decide) (fun hc_20 => ?_) (fun hc_20 => ?_)
      · have _nhc_20 := hc_20
        have ni_21 := (fa_le _ _).mp hc_20
        rw [li_503] at ni_21
        have hv_22 : zI y_18 503 503 := zI.le_r zc_503 hy_18 hc_20 (by decide)
        refine lv_aload_n hx hb d_Model_remember_91 rfl (lv_at hl 1 rfl) ?_
        refine lv_dup hx hb d_Model_remember_92 rfl ?_
        refine va_get (D := G.1) (ci := 12) (v := .int b6) (C := R_Model) (T := F_Model) (N := 54) hx hb hts i_Model hown hK hP 0 rfl rfl 5 (by decide) (hts _ q1114) (fun _ h9 => h9) rfl d_Model_remember_93 ?_
        refine lv_iconst (v := 1) hx hb d_Model_remember_96 (by decide) ?_
        refine lv_iadd hx hb d_Model_remember_97 ?_
        refine lv_topi (fun v_23 ev_23 => ?_)
        obtain ⟨qv_23, hv_23⟩ := zI_add (l := 1) (h := 8) hv_3 zc_1 ev_23 (by decide)
        rw [li_1] at qv_23
        refine va_put (D := G.1) (ci := 12) (v := .int v_23) (ty := .int) (C := R_Model) (T := F_Model) (N := 54) hx hb hts i_Model t_Model t_Model_ok n_Model hown hK hP hD hS 0 rfl rfl 5 (by decide) (hts _ q1114) (fun _ h9 => h9) rfl (by decide +kernel) rfl rfl (Nat.le_of_ble_eq_true rfl) d_Model_remember_98 (fun H locs hP hD hS => ?_)
        have hP : va_P G.1 classes [(b0, .inr (12, [.int b1, .ref b2, .ref b3, .ref b4, .ref b5, .int v_23, .ref b7, .int b8, .int b9, .int b10, .int b11, .ref b12, .ref b13, .ref b14, .int b15, .ref b16, .ref b17, .ref b18, .ref b19, .ref b20, .ref b21, .ref b22, .ref b23, .ref b24, .ref b25, .ref b26, .ref b27, .int b28, .ref b29, .ref b30, .int b31, .int b32, .int b33, .int b34, .ref b35, .ref b36, .ref b37, .ref b38, .ref b39, .ref b40, .ref b41, .int b42, .ref b43, .ref b44, .int b45, .ref b46, .ref b47, .ref b48, .ref b49, .ref b50, .int b51, .ref b52, .ref b53, .ref b54])), (b2, .inl (G.2 0, 503, .inl b55)), (b5, .inl (G.2 0, 4024, .inl y_19))] H := hP
        have hD := z_tie hP hD rfl
        exact z_vret hx hb hr hlocks hP hD hS (Nat.le_of_ble_eq_true rfl) (Nat.le_of_ble_eq_true rfl) d_Model_remember_101 ⟨v_23, y_19, rfl, rfl, (zI.wk (l' := 0) (h' := 8) hv_23 (by decide)), hy_19⟩
      · have _nhc_20 := hc_20
        have ni_24 := (fa_lt _ _).mp (zi_nle hc_20)
        rw [li_503] at ni_24
        have hv_25 : zI y_18 0 502 := zI.lt_l hy_18 zc_503 (zi_nle hc_20) (by decide)
        refine lv_aload_n hx hb d_Model_remember_64 rfl (lv_at hl 1 rfl) ?_
        refine va_get (D := G.1) (ci := 12) (v := .ref b5) (C := R_Model) (T := F_Model) (N := 54) hx hb hts i_Model hown hK hP 0 rfl rfl 4 (by decide) (hts _ q1113) (fun _ h9 => h9) rfl d_Model_remember_65 ?_
        refine lv_sipush (v := 503) hx hb d_Model_remember_68 (by decide) ?_
        refine lv_aload_n hx hb d_Model_remember_71 rfl (lv_at hl 1 rfl) ?_
        refine va_get (D := G.1) (ci := 12) (v := .int b6) (C := R_Model) (T := F_Model) (N := 54) hx hb hts i_Model hown hK hP 0 rfl rfl 5 (by decide) (hts _ q1114) (fun _ h9 => h9) rfl d_Model_remember_72 ?_
        refine lv_imul hx hb d_Model_remember_75 ?_
        refine lv_topi (fun v_26 ev_26 => ?_)
        obtain ⟨qv_26, hv_26⟩ := zI_mul (l := 0) (h := 3521) zc_503 hv_3 ev_26 (by decide)
        rw [li_503] at qv_26
        refine lv_iload_n hx hb d_Model_remember_76 rfl (lv_at hl 0 rfl) ?_
        refine lv_iadd hx hb d_Model_remember_77 ?_
        refine lv_topi (fun v_27 ev_27 => ?_)
        obtain ⟨qv_27, hv_27⟩ := zI_add (l := 0) (h := 4023) hv_26 hv_25 ev_27 (by decide)
        refine lv_aload_n hx hb d_Model_remember_78 rfl (lv_at hl 1 rfl) ?_
        refine va_get (D := G.1) (ci := 12) (v := .ref b2) (C := R_Model) (T := F_Model) (N := 54) hx hb hts i_Model hown hK hP 0 rfl rfl 1 (by decide) (hts _ q1110) (fun _ h9 => h9) rfl d_Model_remember_79 ?_
        refine lv_iload_n hx hb d_Model_remember_82 rfl (lv_at hl 0 rfl) ?_
        refine va_iald hx hb hK hP 1 0 rfl rfl (zI.inn hv_25 (by decide)) d_Model_remember_83 ?_
        refine lv_topi (fun v_28 ev_28 => ?_)
        refine va_iast hx hb hK hP hD hS 2 0 rfl rfl (zI.inn hv_27 (by decide)) d_Model_remember_84 (fun H locs hP hD hS => ?_)
        obtain ⟨f_29, hf_29, gf_29, uf_29, hP, hD⟩ := z_newfw 2 hP hD rfl hy_19 (zRk_s hb55 ev_28 hv_25 hv_27 (by decide) (by omega))
        have hP : va_P G.1 classes [(b0, .inr (12, [.int b1, .ref b2, .ref b3, .ref b4, .ref b5, .int b6, .ref b7, .int b8, .int b9, .int b10, .int b11, .ref b12, .ref b13, .ref b14, .int b15, .ref b16, .ref b17, .ref b18, .ref b19, .ref b20, .ref b21, .ref b22, .ref b23, .ref b24, .ref b25, .ref b26, .ref b27, .int b28, .ref b29, .ref b30, .int b31, .int b32, .int b33, .int b34, .ref b35, .ref b36, .ref b37, .ref b38, .ref b39, .ref b40, .ref b41, .int b42, .ref b43, .ref b44, .int b45, .ref b46, .ref b47, .ref b48, .ref b49, .ref b50, .int b51, .ref b52, .ref b53, .ref b54])), (b2, .inl (G.2 0, 503, .inl b55)), (b5, .inl (G.2 0, 4024, .inl f_29))] H := hP
        have hD := z_tie hP hD rfl
        obtain ⟨v_30, ev_30⟩ : ∃ z : Int32, z = y_18 + 1 := ⟨_, rfl⟩
        obtain ⟨qv_30, hv_30⟩ := zI_add (l := 1) (h := 503) hv_25 zc_1 ev_30 (by decide)
        rw [li_1] at qv_30
        refine lv_iinc (v := v_30) (lv' := [(1, .int v_30), (0, .ref b0)]) hx hb d_Model_remember_85 hl (k := 0) rfl (by rw [ev_30]; rfl) (by decide) rfl (fun ls hl => ?_)
        refine lv_goto (tgt := 57) hx hb d_Model_remember_88 (by decide) ?_
        exact ihk_17 (v_30) (f_29) _ _ _ (zI.wk (l' := 0) (h' := 503) hv_30 (by decide)) hf_29 (zm_up qv_30 hmk_17 (by decide)) hP hD hS (lv_sub hl [0, 1] rfl)
  · have _nhc_1 := hc_1
    have ni_31 := (fa_eq _ _).mp hc_1
    rw [li_8] at ni_31
    have hv_32 : zI b6 8 8 := zI.eq_l hb6 zc_8 hc_1
    refine lv_aload_n hx hb d_Model_remember_9 rfl (lv_at hl 0 rfl) ?_
    refine lv_dup hx hb d_Model_remember_10 rfl ?_
    refine va_get (D := G.1) (ci := 12) (v := .int b6) (C := R_Model) (T := F_Model) (N := 54) hx hb hts i_Model hown hK hP 0 rfl rfl 5 (by decide) (hts _ q1114) (fun _ h9 => h9) rfl d_Model_remember_11 ?_
    refine lv_iconst (v := 1) hx hb d_Model_remember_14 (by decide) ?_
    refine lv_isub hx hb d_Model_remember_15 ?_
    refine lv_topi (fun v_33 ev_33 => ?_)
    obtain ⟨qv_33, hv_33⟩ := zI_sub (l := 7) (h := 7) hv_32 zc_1 ev_33 (by decide)
    rw [li_1] at qv_33
    refine va_put (D := G.1) (ci := 12) (v := .int v_33) (ty := .int) (C := R_Model) (T := F_Model) (N := 54) hx hb hts i_Model t_Model t_Model_ok n_Model hown hK hP hD hS 0 rfl rfl 5 (by decide) (hts _ q1114) (fun _ h9 => h9) rfl (by decide +kernel) rfl rfl (Nat.le_of_ble_eq_true rfl) d_Model_remember_16 (fun H locs hP hD hS => ?_)
    have hP : va_P G.1 classes [(b0, .inr (12, [.int b1, .ref b2, .ref b3, .ref b4, .ref b5, .int v_33, .ref b7, .int b8, .int b9, .int b10, .int b11, .ref b12, .ref b13, .ref b14, .int b15, .ref b16, .ref b17, .ref b18, .ref b19, .ref b20, .ref b21, .ref b22, .ref b23, .ref b24, .ref b25, .ref b26, .ref b27, .int b28, .ref b29, .ref b30, .int b31, .int b32, .int b33, .int b34, .ref b35, .ref b36, .ref b37, .ref b38, .ref b39, .ref b40, .ref b41, .int b42, .ref b43, .ref b44, .int b45, .ref b46, .ref b47, .ref b48, .ref b49, .ref b50, .int b51, .ref b52, .ref b53, .ref b54])), (b2, .inl (G.2 0, 503, .inl b55)), (b5, .inl (G.2 0, 4024, .inl b56))] H := hP
    have hD := z_tie hP hD rfl
    refine lv_iconst (v := 0) hx hb d_Model_remember_19 (by decide) ?_
    refine lv_istore_n (lv' := [(1, .int 0), (0, .ref b0)]) hx hb d_Model_remember_20 rfl hl (by decide) rfl (fun ls hl => ?_)
    suffices key : ∀ (k_72 : Nat) (y_73 : Int32) (y_74 : Nat → Int32) (H : Heap) (locs : List Loc) (ls : Array Slot), (zI y_73 0 3521) → (zW5 y_74) → (3521 : Int) - y_73.toInt < (k_72 : Int) → va_P G.1 classes [(b0, .inr (12, [.int b1, .ref b2, .ref b3, .ref b4, .ref b5, .int v_33, .ref b7, .int b8, .int b9, .int b10, .int b11, .ref b12, .ref b13, .ref b14, .int b15, .ref b16, .ref b17, .ref b18, .ref b19, .ref b20, .ref b21, .ref b22, .ref b23, .ref b24, .ref b25, .ref b26, .ref b27, .int b28, .ref b29, .ref b30, .int b31, .int b32, .int b33, .int b34, .ref b35, .ref b36, .ref b37, .ref b38, .ref b39, .ref b40, .ref b41, .int b42, .ref b43, .ref b44, .int b45, .ref b46, .ref b47, .ref b48, .ref b49, .ref b50, .int b51, .ref b52, .ref b53, .ref b54])), (b2, .inl (G.2 0, 503, .inl b55)), (b5, .inl (G.2 0, 4024, .inl y_74))] H → va_D A [(b0, .inr (12, [.int b1, .ref b2, .ref b3, .ref b4, .ref b5, .int v_33, .ref b7, .int b8, .int b9, .int b10, .int b11, .ref b12, .ref b13, .ref b14, .int b15, .ref b16, .ref b17, .ref b18, .ref b19, .ref b20, .ref b21, .ref b22, .ref b23, .ref b24, .ref b25, .ref b26, .ref b27, .int b28, .ref b29, .ref b30, .int b31, .int b32, .int b33, .int b34, .ref b35, .ref b36, .ref b37, .ref b38, .ref b39, .ref b40, .ref b41, .int b42, .ref b43, .ref b44, .int b45, .ref b46, .ref b47, .ref b48, .ref b49, .ref b50, .int b51, .ref b52, .ref b53, .ref b54])), (b2, .inl (G.2 0, 503, .inl b55)), (b5, .inl (G.2 0, 4024, .inl y_74))] → va_S A s.heap H locs → lv_has ls 2 [(1, .int y_73), (0, .ref b0)] → W p l e m_s1_Model_remember s m ([.ref b0] : List Value).toArray below meth c H locs 0 0 (MQ below (zQ G (fun v w => ∃ (e0 : Int32), ∃ (e1 : Nat → Int32), v = none ∧ w = [(b0, .inr (12, [.int b1, .ref b2, .ref b3, .ref b4, .ref b5, .int e0, .ref b7, .int b8, .int b9, .int b10, .int b11, .ref b12, .ref b13, .ref b14, .int b15, .ref b16, .ref b17, .ref b18, .ref b19, .ref b20, .ref b21, .ref b22, .ref b23, .ref b24, .ref b25, .ref b26, .ref b27, .int b28, .ref b29, .ref b30, .int b31, .int b32, .int b33, .int b34, .ref b35, .ref b36, .ref b37, .ref b38, .ref b39, .ref b40, .ref b41, .int b42, .ref b43, .ref b44, .int b45, .ref b46, .ref b47, .ref b48, .ref b49, .ref b50, .int b51, .ref b52, .ref b53, .ref b54])), (b2, .inl (G.2 0, 503, .inl b55)), (b5, .inl (G.2 0, 4024, .inl e1))] ∧ (zI e0 0 8) ∧ (zW5 e1)) A) ([.ref b0] : List Value).toArray s m_s1_Model_remember.cells m_s1_Model_remember.slots A) (F0 m 21 ls []) by
      exact key 3522 (0) (b56) _ _ _ (zI.wk (l' := 0) (h' := 3521) zc_0 (by decide)) hb56 (zm_upi (zI.wk (l' := 0) (h' := 3521) zc_0 (by decide)) (by decide)) hP hD hS (lv_sub hl [0, 1] rfl)
    intro k_72
    induction k_72 with
    | zero =>
      intro y_73 y_74 H locs ls hy_73 hy_74 hmk_72 hP hD hS hl
      exact (zm_up0 hy_73 hmk_72).elim
    | succ k_72 ihk_72 =>
      intro y_73 y_74 H locs ls hy_73 hy_74 hmk_72 hP hD hS hl
      refine lv_iload_n hx hb d_Model_remember_21 rfl (lv_at hl 0 rfl) ?_
      refine lv_sipush (v := 503) hx hb d_Model_remember_22 (by decide) ?_
      refine lv_aload_n hx hb d_Model_remember_25 rfl (lv_at hl 1 rfl) ?_
      refine va_get (D := G.1) (ci := 12) (v := .int v_33) (C := R_Model) (T := F_Model) (N := 54) hx hb hts i_Model hown hK hP 0 rfl rfl 5 (by decide) (hts _ q1114) (fun _ h9 => h9) rfl d_Model_remember_26 ?_
      refine lv_imul hx hb d_Model_remember_29 ?_
      refine lv_topi (fun v_75 ev_75 => ?_)
      obtain ⟨qv_75, hv_75⟩ := zI_mul (l := 3521) (h := 3521) zc_503 hv_33 ev_75 (by decide)
      rw [li_503] at qv_75
      refine lv_icmp_ge (tgt := 55) hx hb d_Model_remember_30 (by decide) (fun hc_76 => ?_) (fun hc_76 => ?_)
      · have _nhc_76 := hc_76
        have ni_77 := (fa_le _ _).mp hc_76
        have hv_78 : zI y_73 3521 3521 := zI.le_r hv_75 hy_73 hc_76 (by decide)
        refine lv_iconst (v := 0) hx hb d_Model_remember_55 (by decide) ?_
        refine lv_istore_n (lv' := [(1, .int 0), (0, .ref b0)]) hx hb d_Model_remember_56 rfl hl (by decide) rfl (fun ls hl => ?_)
        suffices key : ∀ (k_92 : Nat) (y_93 : Int32) (y_94 : Nat → Int32) (H : Heap) (locs : List Loc) (ls : Array Slot), (zI y_93 0 503) → (zW5 y_94) → (503 : Int) - y_93.toInt < (k_92 : Int) → va_P G.1 classes [(b0, .inr (12, [.int b1, .ref b2, .ref b3, .ref b4, .ref b5, .int v_33, .ref b7, .int b8, .int b9, .int b10, .int b11, .ref b12, .ref b13, .ref b14, .int b15, .ref b16, .ref b17, .ref b18, .ref b19, .ref b20, .ref b21, .ref b22, .ref b23, .ref b24, .ref b25, .ref b26, .ref b27, .int b28, .ref b29, .ref b30, .int b31, .int b32, .int b33, .int b34, .ref b35, .ref b36, .ref b37, .ref b38, .ref b39, .ref b40, .ref b41, .int b42, .ref b43, .ref b44, .int b45, .ref b46, .ref b47, .ref b48, .ref b49, .ref b50, .int b51, .ref b52, .ref b53, .ref b54])), (b2, .inl (G.2 0, 503, .inl b55)), (b5, .inl (G.2 0, 4024, .inl y_94))] H → va_D A [(b0, .inr (12, [.int b1, .ref b2, .ref b3, .ref b4, .ref b5, .int v_33, .ref b7, .int b8, .int b9, .int b10, .int b11, .ref b12, .ref b13, .ref b14, .int b15, .ref b16, .ref b17, .ref b18, .ref b19, .ref b20, .ref b21, .ref b22, .ref b23, .ref b24, .ref b25, .ref b26, .ref b27, .int b28, .ref b29, .ref b30, .int b31, .int b32, .int b33, .int b34, .ref b35, .ref b36, .ref b37, .ref b38, .ref b39, .ref b40, .ref b41, .int b42, .ref b43, .ref b44, .int b45, .ref b46, .ref b47, .ref b48, .ref b49, .ref b50, .int b51, .ref b52, .ref b53, .ref b54])), (b2, .inl (G.2 0, 503, .inl b55)), (b5, .inl (G.2 0, 4024, .inl y_94))] → va_S A s.heap H locs → lv_has ls 2 [(1, .int y_93), (0, .ref b0)] → W p l e m_s1_Model_remember s m ([.ref b0] : List Value).toArray below meth c H locs 0 0 (MQ below (zQ G (fun v w => ∃ (e0 : Int32), ∃ (e1 : Nat → Int32), v = none ∧ w = [(b0, .inr (12, [.int b1, .ref b2, .ref b3, .ref b4, .ref b5, .int e0, .ref b7, .int b8, .int b9, .int b10, .int b11, .ref b12, .ref b13, .ref b14, .int b15, .ref b16, .ref b17, .ref b18, .ref b19, .ref b20, .ref b21, .ref b22, .ref b23, .ref b24, .ref b25, .ref b26, .ref b27, .int b28, .ref b29, .ref b30, .int b31, .int b32, .int b33, .int b34, .ref b35, .ref b36, .ref b37, .ref b38, .ref b39, .ref b40, .ref b41, .int b42, .ref b43, .ref b44, .int b45, .ref b46, .ref b47, .ref b48, .ref b49, .ref b50, .int b51, .ref b52, .ref b53, .ref b54])), (b2, .inl (G.2 0, 503, .inl b55)), (b5, .inl (G.2 0, 4024, .inl e1))] ∧ (zI e0 0 8) ∧ (zW5 e1)) A) ([.ref b0] : List Value).toArray s m_s1_Model_remember.cells m_s1_Model_remember.slots A) (F0 m 57 ls []) by
          exact key 504 (0) (y_74) _ _ _ (zI.wk (l' := 0) (h' := 503) zc_0 (by decide)) hy_74 (zm_upi (zI.wk (l' := 0) (h' := 503) zc_0 (by decide)) (by decide)) hP hD hS (lv_sub hl [0, 1] rfl)
        intro k_92
        induction k_92 with
        | zero =>
          intro y_93 y_94 H locs ls hy_93 hy_94 hmk_92 hP hD hS hl
          exact (zm_up0 hy_93 hmk_92).elim
        | succ k_92 ihk_92 =>
          intro y_93 y_94 H locs ls hy_93 hy_94 hmk_92 hP hD hS hl
          refine lv_iload_n hx hb d_Model_remember_57 rfl (lv_at hl 0 rfl) ?_
          refine lv_sipush (v := 503) hx hb d_Model_remember_58 (by decide) ?_
          refine lv_icmp_ge (tgt := 91) hx hb d_Model_remember_61 (by decide) (fun hc_95 => ?_) (fun hc_95 => ?_)
          · have _nhc_95 := hc_95
            have ni_96 := (fa_le _ _).mp hc_95
            rw [li_503] at ni_96
            have hv_97 : zI y_93 503 503 := zI.le_r zc_503 hy_93 hc_95 (by decide)
            refine lv_aload_n hx hb d_Model_remember_91 rfl (lv_at hl 1 rfl) ?_
            refine lv_dup hx hb d_Model_remember_92 rfl ?_
            refine va_get (D := G.1) (ci := 12) (v := .int v_33) (C := R_Model) (T := F_Model) (N := 54) hx hb hts i_Model hown hK hP 0 rfl rfl 5 (by decide) (hts _ q1114) (fun _ h9 => h9) rfl d_Model_remember_93 ?_
            refine lv_iconst (v := 1) hx hb d_Model_remember_96 (by decide) ?_
            refine lv_iadd hx hb d_Model_remember_97 ?_
            refine lv_topi (fun v_98 ev_98 => ?_)
            obtain ⟨qv_98, hv_98⟩ := zI_add (l := 8) (h := 8) hv_33 zc_1 ev_98 (by decide)
            rw [li_1] at qv_98
            refine va_put (D := G.1) (ci := 12) (v := .int v_98) (ty := .int) (C := R_Model) (T := F_Model) (N := 54) hx hb hts i_Model t_Model t_Model_ok n_Model hown hK hP hD hS 0 rfl rfl 5 (by decide) (hts _ q1114) (fun _ h9 => h9) rfl (by decide +kernel) rfl rfl (Nat.le_of_ble_eq_true rfl) d_Model_remember_98 (fun H locs hP hD hS => ?_)
            have hP : va_P G.1 classes [(b0, .inr (12, [.int b1, .ref b2, .ref b3, .ref b4, .ref b5, .int v_98, .ref b7, .int b8, .int b9, .int b10, .int b11, .ref b12, .ref b13, .ref b14, .int b15, .ref b16, .ref b17, .ref b18, .ref b19, .ref b20, .ref b21, .ref b22, .ref b23, .ref b24, .ref b25, .ref b26, .ref b27, .int b28, .ref b29, .ref b30, .int b31, .int b32, .int b33, .int b34, .ref b35, .ref b36, .ref b37, .ref b38, .ref b39, .ref b40, .ref b41, .int b42, .ref b43, .ref b44, .int b45, .ref b46, .ref b47, .ref b48, .ref b49, .ref b50, .int b51, .ref b52, .ref b53, .ref b54])), (b2, .inl (G.2 0, 503, .inl b55)), (b5, .inl (G.2 0, 4024, .inl y_94))] H := hP
            have hD := z_tie hP hD rfl
            exact z_vret hx hb hr hlocks hP hD hS (Nat.le_of_ble_eq_true rfl) (Nat.le_of_ble_eq_true rfl) d_Model_remember_101 ⟨v_98, y_94, rfl, rfl, (zI.wk (l' := 0) (h' := 8) hv_98 (by decide)), hy_94⟩
          · have _nhc_95 := hc_95
            have ni_99 := (fa_lt _ _).mp (zi_nle hc_95)
            rw [li_503] at ni_99
            have hv_100 : zI y_93 0 502 := zI.lt_l hy_93 zc_503 (zi_nle hc_95) (by decide)
            refine lv_aload_n hx hb d_Model_remember_64 rfl (lv_at hl 1 rfl) ?_
            refine va_get (D := G.1) (ci := 12) (v := .ref b5) (C := R_Model) (T := F_Model) (N := 54) hx hb hts i_Model hown hK hP 0 rfl rfl 4 (by decide) (hts _ q1113) (fun _ h9 => h9) rfl d_Model_remember_65 ?_
            refine lv_sipush (v := 503) hx hb d_Model_remember_68 (by decide) ?_
            refine lv_aload_n hx hb d_Model_remember_71 rfl (lv_at hl 1 rfl) ?_
            refine va_get (D := G.1) (ci := 12) (v := .int v_33) (C := R_Model) (T := F_Model) (N := 54) hx hb hts i_Model hown hK hP 0 rfl rfl 5 (by decide) (hts _ q1114) (fun _ h9 => h9) rfl d_Model_remember_72 ?_
            refine lv_imul hx hb d_Model_remember_75 ?_
            refine lv_topi (fun v_101 ev_101 => ?_)
            obtain rfl : v_75 = v_101 := ev_75.trans ev_101.symm
            refine lv_iload_n hx hb d_Model_remember_76 rfl (lv_at hl 0 rfl) ?_
            refine lv_iadd hx hb d_Model_remember_77 ?_
            refine lv_topi (fun v_102 ev_102 => ?_)
            obtain ⟨qv_102, hv_102⟩ := zI_add (l := 3521) (h := 4023) hv_75 hv_100 ev_102 (by decide)
            refine lv_aload_n hx hb d_Model_remember_78 rfl (lv_at hl 1 rfl) ?_
            refine va_get (D := G.1) (ci := 12) (v := .ref b2) (C := R_Model) (T := F_Model) (N := 54) hx hb hts i_Model hown hK hP 0 rfl rfl 1 (by decide) (hts _ q1110) (fun _ h9 => h9) rfl d_Model_remember_79 ?_
            refine lv_iload_n hx hb d_Model_remember_82 rfl (lv_at hl 0 rfl) ?_
            refine va_iald hx hb hK hP 1 0 rfl rfl (zI.inn hv_100 (by decide)) d_Model_remember_83 ?_
            refine lv_topi (fun v_103 ev_103 => ?_)
            refine va_iast hx hb hK hP hD hS 2 0 rfl rfl (zI.inn hv_102 (by decide)) d_Model_remember_84 (fun H locs hP hD hS => ?_)
            obtain ⟨f_104, hf_104, gf_104, uf_104, hP, hD⟩ := z_newfw 2 hP hD rfl hy_94 (zRk_s hb55 ev_103 hv_100 hv_102 (by decide) (by omega))
            have hP : va_P G.1 classes [(b0, .inr (12, [.int b1, .ref b2, .ref b3, .ref b4, .ref b5, .int v_33, .ref b7, .int b8, .int b9, .int b10, .int b11, .ref b12, .ref b13, .ref b14, .int b15, .ref b16, .ref b17, .ref b18, .ref b19, .ref b20, .ref b21, .ref b22, .ref b23, .ref b24, .ref b25, .ref b26, .ref b27, .int b28, .ref b29, .ref b30, .int b31, .int b32, .int b33, .int b34, .ref b35, .ref b36, .ref b37, .ref b38, .ref b39, .ref b40, .ref b41, .int b42, .ref b43, .ref b44, .int b45, .ref b46, .ref b47, .ref b48, .ref b49, .ref b50, .int b51, .ref b52, .ref b53, .ref b54])), (b2, .inl (G.2 0, 503, .inl b55)), (b5, .inl (G.2 0, 4024, .inl f_104))] H := hP
            have hD := z_tie hP hD rfl
            obtain ⟨v_105, ev_105⟩ : ∃ z : Int32, z = y_93 + 1 := ⟨_, rfl⟩
            obtain ⟨qv_105, hv_105⟩ := zI_add (l := 1) (h := 503) hv_100 zc_1 ev_105 (by decide)
            rw [li_1] at qv_105
            refine lv_iinc (v := v_105) (lv' := [(1, .int v_105), (0, .ref b0)]) hx hb d_Model_remember_85 hl (k := 0) rfl (by rw [ev_105]; rfl) (by decide) rfl (fun ls hl => ?_)
            refine lv_goto (tgt := 57) hx hb d_Model_remember_88 (by decide) ?_
            exact ihk_92 (v_105) (f_104) _ _ _ (zI.wk (l' := 0) (h' := 503) hv_105 (by decide)) hf_104 (zm_up qv_105 hmk_92 (by decide)) hP hD hS (lv_sub hl [0, 1] rfl)
      · have _nhc_76 := hc_76
        have ni_106 := (fa_lt _ _).mp (zi_nle hc_76)
        have hv_107 : zI y_73 0 3520 := zI.lt_l hy_73 hv_75 (zi_nle hc_76) (by decide)
        refine lv_aload_n hx hb d_Model_remember_33 rfl (lv_at hl 1 rfl) ?_
        refine va_get (D := G.1) (ci := 12) (v := .ref b5) (C := R_Model) (T := F_Model) (N := 54) hx hb hts i_Model hown hK hP 0 rfl rfl 4 (by decide) (hts _ q1113) (fun _ h9 => h9) rfl d_Model_remember_34 ?_
        refine lv_iload_n hx hb d_Model_remember_37 rfl (lv_at hl 0 rfl) ?_
        refine lv_aload_n hx hb d_Model_remember_38 rfl (lv_at hl 1 rfl) ?_
        refine va_get (D := G.1) (ci := 12) (v := .ref b5) (C := R_Model) (T := F_Model) (N := 54) hx hb hts i_Model hown hK hP 0 rfl rfl 4 (by decide) (hts _ q1113) (fun _ h9 => h9) rfl d_Model_remember_39 ?_
        refine lv_iload_n hx hb d_Model_remember_42 rfl (lv_at hl 0 rfl) ?_
        refine lv_sipush (v := 503) hx hb d_Model_remember_43 (by decide) ?_
        refine lv_iadd hx hb d_Model_remember_46 ?_
        refine lv_topi (fun v_108 ev_108 => ?_)
        obtain ⟨qv_108, hv_108⟩ := zI_add (l := 503) (h := 4023) hv_107 zc_503 ev_108 (by decide)
        rw [li_503] at qv_108
        refine va_iald hx hb hK hP 2 0 rfl rfl (zI.inn hv_108 (by decide)) d_Model_remember_47 ?_
        refine lv_topi (fun v_109 ev_109 => ?_)
        refine va_iast hx hb hK hP hD hS 2 0 rfl rfl (zI.inn hv_107 (by decide)) d_Model_remember_48 (fun H locs hP hD hS => ?_)
        obtain ⟨f_110, hf_110, gf_110, uf_110, hP, hD⟩ := z_newfw 2 hP hD rfl hy_74 (zRk_s hy_74 ev_109 hv_108 hv_107 (by decide) (by omega))
        have hP : va_P G.1 classes [(b0, .inr (12, [.int b1, .ref b2, .ref b3, .ref b4, .ref b5, .int v_33, .ref b7, .int b8, .int b9, .int b10, .int b11, .ref b12, .ref b13, .ref b14, .int b15, .ref b16, .ref b17, .ref b18, .ref b19, .ref b20, .ref b21, .ref b22, .ref b23, .ref b24, .ref b25, .ref b26, .ref b27, .int b28, .ref b29, .ref b30, .int b31, .int b32, .int b33, .int b34, .ref b35, .ref b36, .ref b37, .ref b38, .ref b39, .ref b40, .ref b41, .int b42, .ref b43, .ref b44, .int b45, .ref b46, .ref b47, .ref b48, .ref b49, .ref b50, .int b51, .ref b52, .ref b53, .ref b54])), (b2, .inl (G.2 0, 503, .inl b55)), (b5, .inl (G.2 0, 4024, .inl f_110))] H := hP
        have hD := z_tie hP hD rfl
        obtain ⟨v_111, ev_111⟩ : ∃ z : Int32, z = y_73 + 1 := ⟨_, rfl⟩
        obtain ⟨qv_111, hv_111⟩ := zI_add (l := 1) (h := 3521) hv_107 zc_1 ev_111 (by decide)
        rw [li_1] at qv_111
        refine lv_iinc (v := v_111) (lv' := [(1, .int v_111), (0, .ref b0)]) hx hb d_Model_remember_49 hl (k := 0) rfl (by rw [ev_111]; rfl) (by decide) rfl (fun ls hl => ?_)
        refine lv_goto (tgt := 21) hx hb d_Model_remember_52 (by decide) ?_
        exact ihk_72 (v_111) (f_110) _ _ _ (zI.wk (l' := 0) (h' := 3521) hv_111 (by decide)) hf_110 (zm_up qv_111 hmk_72 (by decide)) hP hD hS (lv_sub hl [0, 1] rfl)
theorem d_Model_undo_0 : decode prog_14_method_23_code 0 = .ok (.aload_n 0, 1) := by decide +kernel
theorem d_Model_undo_1 : decode prog_14_method_23_code 1 = .ok (.iconst 0, 1) := by decide +kernel
theorem d_Model_undo_2 : decode prog_14_method_23_code 2 = .ok (.putfield 1, 3) := by decide +kernel
theorem d_Model_undo_5 : decode prog_14_method_23_code 5 = .ok (.aload_n 0, 1) := by decide +kernel
theorem d_Model_undo_6 : decode prog_14_method_23_code 6 = .ok (.getfield 179, 3) := by decide +kernel
theorem d_Model_undo_9 : decode prog_14_method_23_code 9 = .ok (.ifCond .ne 6, 3) := by decide +kernel
theorem d_Model_undo_12 : decode prog_14_method_23_code 12 = .ok (.bipush (-3), 2) := by decide +kernel
theorem d_Model_undo_14 : decode prog_14_method_23_code 14 = .ok (.ireturn, 1) := by decide +kernel
theorem d_Model_undo_15 : decode prog_14_method_23_code 15 = .ok (.aload_n 0, 1) := by decide +kernel
theorem d_Model_undo_16 : decode prog_14_method_23_code 16 = .ok (.dup, 1) := by decide +kernel
theorem d_Model_undo_17 : decode prog_14_method_23_code 17 = .ok (.getfield 179, 3) := by decide +kernel
theorem d_Model_undo_20 : decode prog_14_method_23_code 20 = .ok (.iconst 1, 1) := by decide +kernel
theorem d_Model_undo_21 : decode prog_14_method_23_code 21 = .ok (.isub, 1) := by decide +kernel
theorem d_Model_undo_22 : decode prog_14_method_23_code 22 = .ok (.putfield 179, 3) := by decide +kernel
theorem d_Model_undo_25 : decode prog_14_method_23_code 25 = .ok (.iconst 0, 1) := by decide +kernel
theorem d_Model_undo_26 : decode prog_14_method_23_code 26 = .ok (.istore_n 1, 1) := by decide +kernel
theorem d_Model_undo_27 : decode prog_14_method_23_code 27 = .ok (.iload_n 1, 1) := by decide +kernel
theorem d_Model_undo_28 : decode prog_14_method_23_code 28 = .ok (.sipush 503, 3) := by decide +kernel
theorem d_Model_undo_31 : decode prog_14_method_23_code 31 = .ok (.if_icmp .ge 30, 3) := by decide +kernel
theorem d_Model_undo_34 : decode prog_14_method_23_code 34 = .ok (.aload_n 0, 1) := by decide +kernel
theorem d_Model_undo_35 : decode prog_14_method_23_code 35 = .ok (.getfield 13, 3) := by decide +kernel
theorem d_Model_undo_38 : decode prog_14_method_23_code 38 = .ok (.iload_n 1, 1) := by decide +kernel
theorem d_Model_undo_39 : decode prog_14_method_23_code 39 = .ok (.aload_n 0, 1) := by decide +kernel
theorem d_Model_undo_40 : decode prog_14_method_23_code 40 = .ok (.getfield 24, 3) := by decide +kernel
theorem d_Model_undo_43 : decode prog_14_method_23_code 43 = .ok (.sipush 503, 3) := by decide +kernel
theorem d_Model_undo_46 : decode prog_14_method_23_code 46 = .ok (.aload_n 0, 1) := by decide +kernel
theorem d_Model_undo_47 : decode prog_14_method_23_code 47 = .ok (.getfield 179, 3) := by decide +kernel
theorem d_Model_undo_50 : decode prog_14_method_23_code 50 = .ok (.imul, 1) := by decide +kernel
theorem d_Model_undo_51 : decode prog_14_method_23_code 51 = .ok (.iload_n 1, 1) := by decide +kernel
theorem d_Model_undo_52 : decode prog_14_method_23_code 52 = .ok (.iadd, 1) := by decide +kernel
theorem d_Model_undo_53 : decode prog_14_method_23_code 53 = .ok (.iaload, 1) := by decide +kernel
theorem d_Model_undo_54 : decode prog_14_method_23_code 54 = .ok (.iastore, 1) := by decide +kernel
theorem d_Model_undo_55 : decode prog_14_method_23_code 55 = .ok (.iinc 1 1, 3) := by decide +kernel
theorem d_Model_undo_58 : decode prog_14_method_23_code 58 = .ok (.goto (-31), 3) := by decide +kernel
theorem d_Model_undo_61 : decode prog_14_method_23_code 61 = .ok (.aload_n 0, 1) := by decide +kernel
theorem d_Model_undo_62 : decode prog_14_method_23_code 62 = .ok (.getfield 179, 3) := by decide +kernel
theorem d_Model_undo_65 : decode prog_14_method_23_code 65 = .ok (.ireturn, 1) := by decide +kernel
theorem zc_m3 : zI (-3) (-3) (-3) := ⟨by decide +kernel, by decide +kernel⟩
abbrev m_s1_Model_undo : Room := { frames := 0, cells := 0, slots := 0, locals := 0 }
set_option maxHeartbeats 4000000 in
set_option maxRecDepth 100000 in
theorem s1_Model_undo (l : Launch) (G : zG) (b0 : Nat) (b1 : Int32) (b2 : Nat) (b3 : Nat) (b4 : Nat) (b5 : Nat) (b6 : Int32) (b7 : Nat) (b8 : Int32) (b9 : Int32) (b10 : Int32) (b11 : Int32) (b12 : Nat) (b13 : Nat) (b14 : Nat) (b15 : Int32) (b16 : Nat) (b17 : Nat) (b18 : Nat) (b19 : Nat) (b20 : Nat) (b21 : Nat) (b22 : Nat) (b23 : Nat) (b24 : Nat) (b25 : Nat) (b26 : Nat) (b27 : Nat) (b28 : Int32) (b29 : Nat) (b30 : Nat) (b31 : Int32) (b32 : Int32) (b33 : Int32) (b34 : Int32) (b35 : Nat) (b36 : Nat) (b37 : Nat) (b38 : Nat) (b39 : Nat) (b40 : Nat) (b41 : Nat) (b42 : Int32) (b43 : Nat) (b44 : Nat) (b45 : Int32) (b46 : Nat) (b47 : Nat) (b48 : Nat) (b49 : Nat) (b50 : Nat) (b51 : Int32) (b52 : Nat) (b53 : Nat) (b54 : Nat) (b55 : Nat → Int32) (b56 : Nat → Int32) (hb6 : zI b6 0 8) (hb8 : zI b8 0 240) (hb9 : zI b9 0 240) (hb11 : zI b11 0 1) (hb15 : zI b15 0 12) (hb28 : zI b28 0 1) (hb31 : zI b31 0 1) (hb42 : zI b42 0 1000) (hb45 : zI b45 0 1000) (hb51 : zI b51 0 400) (hb55 : zW5 b55) (hb56 : zW5 b56) : zM l G y_Model_undo prog_14_method_23_code 2 (Option.some Jvm.ClassFile.FieldType.int) m_s1_Model_undo [.ref b0] [(b0, .inr (12, [.int b1, .ref b2, .ref b3, .ref b4, .ref b5, .int b6, .ref b7, .int b8, .int b9, .int b10, .int b11, .ref b12, .ref b13, .ref b14, .int b15, .ref b16, .ref b17, .ref b18, .ref b19, .ref b20, .ref b21, .ref b22, .ref b23, .ref b24, .ref b25, .ref b26, .ref b27, .int b28, .ref b29, .ref b30, .int b31, .int b32, .int b33, .int b34, .ref b35, .ref b36, .ref b37, .ref b38, .ref b39, .ref b40, .ref b41, .int b42, .ref b43, .ref b44, .int b45, .ref b46, .ref b47, .ref b48, .ref b49, .ref b50, .int b51, .ref b52, .ref b53, .ref b54])), (b2, .inl (G.2 0, 503, .inl b55)), (b5, .inl (G.2 0, 4024, .inl b56))] (fun v w => ∃ (e0 : Int32), ∃ (e1 : Int32), ∃ (e2 : Nat → Int32), v = some (.int e0) ∧ w = [(b0, .inr (12, [.int 0, .ref b2, .ref b3, .ref b4, .ref b5, .int e1, .ref b7, .int b8, .int b9, .int b10, .int b11, .ref b12, .ref b13, .ref b14, .int b15, .ref b16, .ref b17, .ref b18, .ref b19, .ref b20, .ref b21, .ref b22, .ref b23, .ref b24, .ref b25, .ref b26, .ref b27, .int b28, .ref b29, .ref b30, .int b31, .int b32, .int b33, .int b34, .ref b35, .ref b36, .ref b37, .ref b38, .ref b39, .ref b40, .ref b41, .int b42, .ref b43, .ref b44, .int b45, .ref b46, .ref b47, .ref b48, .ref b49, .ref b50, .int b51, .ref b52, .ref b53, .ref b54])), (b2, .inl (G.2 0, 503, .inl e2)), (b5, .inl (G.2 0, 4024, .inl b56))] ∧ (zI e0 (-3) 7) ∧ (zI e1 0 8) ∧ (zW5 e2)) := by
  refine z_start (by decide +kernel) (Nat.le_of_ble_eq_true rfl) ?_
  intro p e s m below meth c A Z hr hnm hA hP hD hS ls hl
  have Z : zC p s m _ meth c prog_14_method_23_code 2 "TraceMachinesModel" G := Z
  obtain ⟨hx, hb, hml, hown, hts, hK, hN, hlocks⟩ := id Z
  have hl : lv_has ls 2 [(0, .ref b0)] := hl
  refine lv_aload_n hx hb d_Model_undo_0 rfl (lv_at hl 0 rfl) ?_
  refine lv_iconst (v := 0) hx hb d_Model_undo_1 (by decide) ?_
  refine va_put (D := G.1) (ci := 12) (v := .int 0) (ty := .int) (C := R_Model) (T := F_Model) (N := 54) hx hb hts i_Model t_Model t_Model_ok n_Model hown hK hP hD hS 0 rfl rfl 0 (by decide) (hts _ q1109) (fun _ h9 => h9) rfl (by decide +kernel) rfl rfl (Nat.le_of_ble_eq_true rfl) d_Model_undo_2 (fun H locs hP hD hS => ?_)
  have hP : va_P G.1 classes [(b0, .inr (12, [.int 0, .ref b2, .ref b3, .ref b4, .ref b5, .int b6, .ref b7, .int b8, .int b9, .int b10, .int b11, .ref b12, .ref b13, .ref b14, .int b15, .ref b16, .ref b17, .ref b18, .ref b19, .ref b20, .ref b21, .ref b22, .ref b23, .ref b24, .ref b25, .ref b26, .ref b27, .int b28, .ref b29, .ref b30, .int b31, .int b32, .int b33, .int b34, .ref b35, .ref b36, .ref b37, .ref b38, .ref b39, .ref b40, .ref b41, .int b42, .ref b43, .ref b44, .int b45, .ref b46, .ref b47, .ref b48, .ref b49, .ref b50, .int b51, .ref b52, .ref b53, .ref b54])), (b2, .inl (G.2 0, 503, .inl b55)), (b5, .inl (G.2 0, 4024, .inl b56))] H := hP
  have hD := z_tie hP hD rfl
  refine lv_aload_n hx hb d_Model_undo_5 rfl (lv_at hl 0 rfl) ?_
  refine va_get (D := G.1) (ci := 12) (v := .int b6) (C := R_Model) (T := F_Model) (N := 54) hx hb hts i_Model hown hK hP 0 rfl rfl 5 (by decide) (hts _ q1114) (fun _ h9 => h9) rfl d_Model_undo_6 ?_
  refine lv_if_ne (tgt := 15) hx hb d_Model_undo_9 (by decide) (fun hc_1 => ?_) (fun hc_1 => ?_)
  · have _nhc_1 := hc_1
    have ni_2 : ¬ (b6 : Int32).toInt = (0 : Int32).toInt := fun z => hc_1 ((fa_eq _ _).mpr z)
    simp only [li_0] at ni_2
    have hv_3 : zI b6 1 8 := zI.ne_lo hb6 zc_0 hc_1 (by decide)
    refine lv_aload_n hx hb d_Model_undo_15 rfl (lv_at hl 0 rfl) ?_
    refine lv_dup hx hb d_Model_undo_16 rfl ?_
    refine va_get (D := G.1) (ci := 12) (v := .int b6) (C := R_Model) (T := F_Model) (N := 54) hx hb hts i_Model hown hK hP 0 rfl rfl 5 (by decide) (hts _ q1114) (fun _ h9 => h9) rfl d_Model_undo_17 ?_
    refine lv_iconst (v := 1) hx hb d_Model_undo_20 (by decide) ?_
    refine lv_isub hx hb d_Model_undo_21 ?_
    refine lv_topi (fun v_4 ev_4 => ?_)
    obtain ⟨qv_4, hv_4⟩ := zI_sub (l := 0) (h := 7) hv_3 zc_1 ev_4 (by decide)
    rw [li_1] at qv_4
    refine va_put (D := G.1) (ci := 12) (v := .int v_4) (ty := .int) (C := R_Model) (T := F_Model) (N := 54) hx hb hts i_Model t_Model t_Model_ok n_Model hown hK hP hD hS 0 rfl rfl 5 (by decide) (hts _ q1114) (fun _ h9 => h9) rfl (by decide +kernel) rfl rfl (Nat.le_of_ble_eq_true rfl) d_Model_undo_22 (fun H locs hP hD hS => ?_)
    have hP : va_P G.1 classes [(b0, .inr (12, [.int 0, .ref b2, .ref b3, .ref b4, .ref b5, .int v_4, .ref b7, .int b8, .int b9, .int b10, .int b11, .ref b12, .ref b13, .ref b14, .int b15, .ref b16, .ref b17, .ref b18, .ref b19, .ref b20, .ref b21, .ref b22, .ref b23, .ref b24, .ref b25, .ref b26, .ref b27, .int b28, .ref b29, .ref b30, .int b31, .int b32, .int b33, .int b34, .ref b35, .ref b36, .ref b37, .ref b38, .ref b39, .ref b40, .ref b41, .int b42, .ref b43, .ref b44, .int b45, .ref b46, .ref b47, .ref b48, .ref b49, .ref b50, .int b51, .ref b52, .ref b53, .ref b54])), (b2, .inl (G.2 0, 503, .inl b55)), (b5, .inl (G.2 0, 4024, .inl b56))] H := hP
    have hD := z_tie hP hD rfl
    refine lv_iconst (v := 0) hx hb d_Model_undo_25 (by decide) ?_
    refine lv_istore_n (lv' := [(1, .int 0), (0, .ref b0)]) hx hb d_Model_undo_26 rfl hl (by decide) rfl (fun ls hl => ?_)
    suffices key : ∀ (k_17 : Nat) (y_18 : Int32) (y_19 : Nat → Int32) (H : Heap) (locs : List Loc) (ls : Array Slot), (zI y_18 0 503) → (zW5 y_19) → (503 : Int) - y_18.toInt < (k_17 : Int) → va_P G.1 classes [(b0, .inr (12, [.int 0, .ref b2, .ref b3, .ref b4, .ref b5, .int v_4, .ref b7, .int b8, .int b9, .int b10, .int b11, .ref b12, .ref b13, .ref b14, .int b15, .ref b16, .ref b17, .ref b18, .ref b19, .ref b20, .ref b21, .ref b22, .ref b23, .ref b24, .ref b25, .ref b26, .ref b27, .int b28, .ref b29, .ref b30, .int b31, .int b32, .int b33, .int b34, .ref b35, .ref b36, .ref b37, .ref b38, .ref b39, .ref b40, .ref b41, .int b42, .ref b43, .ref b44, .int b45, .ref b46, .ref b47, .ref b48, .ref b49, .ref b50, .int b51, .ref b52, .ref b53, .ref b54])), (b2, .inl (G.2 0, 503, .inl y_19)), (b5, .inl (G.2 0, 4024, .inl b56))] H → va_D A [(b0, .inr (12, [.int 0, .ref b2, .ref b3, .ref b4, .ref b5, .int v_4, .ref b7, .int b8, .int b9, .int b10, .int b11, .ref b12, .ref b13, .ref b14, .int b15, .ref b16, .ref b17, .ref b18, .ref b19, .ref b20, .ref b21, .ref b22, .ref b23, .ref b24, .ref b25, .ref b26, .ref b27, .int b28, .ref b29, .ref b30, .int b31, .int b32, .int b33, .int b34, .ref b35, .ref b36, .ref b37, .ref b38, .ref b39, .ref b40, .ref b41, .int b42, .ref b43, .ref b44, .int b45, .ref b46, .ref b47, .ref b48, .ref b49, .ref b50, .int b51, .ref b52, .ref b53, .ref b54])), (b2, .inl (G.2 0, 503, .inl y_19)), (b5, .inl (G.2 0, 4024, .inl b56))] → va_S A s.heap H locs → lv_has ls 2 [(1, .int y_18), (0, .ref b0)] → W p l e m_s1_Model_undo s m ([.ref b0] : List Value).toArray below meth c H locs 0 0 (MQ below (zQ G (fun v w => ∃ (e0 : Int32), ∃ (e1 : Int32), ∃ (e2 : Nat → Int32), v = some (.int e0) ∧ w = [(b0, .inr (12, [.int 0, .ref b2, .ref b3, .ref b4, .ref b5, .int e1, .ref b7, .int b8, .int b9, .int b10, .int b11, .ref b12, .ref b13, .ref b14, .int b15, .ref b16, .ref b17, .ref b18, .ref b19, .ref b20, .ref b21, .ref b22, .ref b23, .ref b24, .ref b25, .ref b26, .ref b27, .int b28, .ref b29, .ref b30, .int b31, .int b32, .int b33, .int b34, .ref b35, .ref b36, .ref b37, .ref b38, .ref b39, .ref b40, .ref b41, .int b42, .ref b43, .ref b44, .int b45, .ref b46, .ref b47, .ref b48, .ref b49, .ref b50, .int b51, .ref b52, .ref b53, .ref b54])), (b2, .inl (G.2 0, 503, .inl e2)), (b5, .inl (G.2 0, 4024, .inl b56))] ∧ (zI e0 (-3) 7) ∧ (zI e1 0 8) ∧ (zW5 e2)) A) ([.ref b0] : List Value).toArray s m_s1_Model_undo.cells m_s1_Model_undo.slots A) (F0 m 27 ls []) by
      exact key 504 (0) (b55) _ _ _ (zI.wk (l' := 0) (h' := 503) zc_0 (by decide)) hb55 (zm_upi (zI.wk (l' := 0) (h' := 503) zc_0 (by decide)) (by decide)) hP hD hS (lv_sub hl [0, 1] rfl)
    intro k_17
    induction k_17 with
    | zero =>
      intro y_18 y_19 H locs ls hy_18 hy_19 hmk_17 hP hD hS hl
      exact (zm_up0 hy_18 hmk_17).elim
    | succ k_17 ihk_17 =>
      intro y_18 y_19 H locs ls hy_18 hy_19 hmk_17 hP hD hS hl
      refine lv_iload_n hx hb d_Model_undo_27 rfl (lv_at hl 0 rfl) ?_
      refine lv_sipush (v := 503) hx hb d_Model_undo_28 (by decide) ?_
      refine lv_icmp_ge (tgt := 61) hx hb d_Model_undo_31 (by decide) (fun hc_20 => ?_) (fun hc_20 => ?_)
      · have _nhc_20 := hc_20
        have ni_21 := (fa_le _ _).mp hc_20
        rw [li_503] at ni_21
        have hv_22 : zI y_18 503 503 := zI.le_r zc_503 hy_18 hc_20 (by decide)
        refine lv_aload_n hx hb d_Model_undo_61 rfl (lv_at hl 1 rfl) ?_
        refine va_get (D := G.1) (ci := 12) (v := .int v_4) (C := R_Model) (T := F_Model) (N := 54) hx hb hts i_Model hown hK hP 0 rfl rfl 5 (by decide) (hts _ q1114) (fun _ h9 => h9) rfl d_Model_undo_62 ?_
        exact z_iret hx hb hr hlocks hP hD hS (Nat.le_of_ble_eq_true rfl) (Nat.le_of_ble_eq_true rfl) d_Model_undo_65 ⟨v_4, v_4, y_19, rfl, rfl, (zI.wk (l' := (-3)) (h' := 7) hv_4 (by decide)), (zI.wk (l' := 0) (h' := 8) hv_4 (by decide)), hy_19⟩
      · have _nhc_20 := hc_20
        have ni_23 := (fa_lt _ _).mp (zi_nle hc_20)
        rw [li_503] at ni_23
        have hv_24 : zI y_18 0 502 := zI.lt_l hy_18 zc_503 (zi_nle hc_20) (by decide)
        refine lv_aload_n hx hb d_Model_undo_34 rfl (lv_at hl 1 rfl) ?_
        refine va_get (D := G.1) (ci := 12) (v := .ref b2) (C := R_Model) (T := F_Model) (N := 54) hx hb hts i_Model hown hK hP 0 rfl rfl 1 (by decide) (hts _ q1110) (fun _ h9 => h9) rfl d_Model_undo_35 ?_
        refine lv_iload_n hx hb d_Model_undo_38 rfl (lv_at hl 0 rfl) ?_
        refine lv_aload_n hx hb d_Model_undo_39 rfl (lv_at hl 1 rfl) ?_
        refine va_get (D := G.1) (ci := 12) (v := .ref b5) (C := R_Model) (T := F_Model) (N := 54) hx hb hts i_Model hown hK hP 0 rfl rfl 4 (by decide) (hts _ q1113) (fun _ h9 => h9) rfl d_Model_undo_40 ?_
        refine lv_sipush (v := 503) hx hb d_Model_undo_43 (by decide) ?_
        refine lv_aload_n hx hb d_Model_undo_46 rfl (lv_at hl 1 rfl) ?_
        refine va_get (D := G.1) (ci := 12) (v := .int v_4) (C := R_Model) (T := F_Model) (N := 54) hx hb hts i_Model hown hK hP 0 rfl rfl 5 (by decide) (hts _ q1114) (fun _ h9 => h9) rfl d_Model_undo_47 ?_
        refine lv_imul hx hb d_Model_undo_50 ?_
        refine lv_topi (fun v_25 ev_25 => ?_)
        obtain ⟨qv_25, hv_25⟩ := zI_mul (l := 0) (h := 3521) zc_503 hv_4 ev_25 (by decide)
        rw [li_503] at qv_25
        refine lv_iload_n hx hb d_Model_undo_51 rfl (lv_at hl 0 rfl) ?_
        refine lv_iadd hx hb d_Model_undo_52 ?_
        refine lv_topi (fun v_26 ev_26 => ?_)
        obtain ⟨qv_26, hv_26⟩ := zI_add (l := 0) (h := 4023) hv_25 hv_24 ev_26 (by decide)
        refine va_iald hx hb hK hP 2 0 rfl rfl (zI.inn hv_26 (by decide)) d_Model_undo_53 ?_
        refine lv_topi (fun v_27 ev_27 => ?_)
        refine va_iast hx hb hK hP hD hS 1 0 rfl rfl (zI.inn hv_24 (by decide)) d_Model_undo_54 (fun H locs hP hD hS => ?_)
        obtain ⟨f_28, hf_28, gf_28, uf_28, hP, hD⟩ := z_newfw 1 hP hD rfl hy_19 (zRk_s hb56 ev_27 hv_26 hv_24 (by decide) (by omega))
        have hP : va_P G.1 classes [(b0, .inr (12, [.int 0, .ref b2, .ref b3, .ref b4, .ref b5, .int v_4, .ref b7, .int b8, .int b9, .int b10, .int b11, .ref b12, .ref b13, .ref b14, .int b15, .ref b16, .ref b17, .ref b18, .ref b19, .ref b20, .ref b21, .ref b22, .ref b23, .ref b24, .ref b25, .ref b26, .ref b27, .int b28, .ref b29, .ref b30, .int b31, .int b32, .int b33, .int b34, .ref b35, .ref b36, .ref b37, .ref b38, .ref b39, .ref b40, .ref b41, .int b42, .ref b43, .ref b44, .int b45, .ref b46, .ref b47, .ref b48, .ref b49, .ref b50, .int b51, .ref b52, .ref b53, .ref b54])), (b2, .inl (G.2 0, 503, .inl f_28)), (b5, .inl (G.2 0, 4024, .inl b56))] H := hP
        have hD := z_tie hP hD rfl
        obtain ⟨v_29, ev_29⟩ : ∃ z : Int32, z = y_18 + 1 := ⟨_, rfl⟩
        obtain ⟨qv_29, hv_29⟩ := zI_add (l := 1) (h := 503) hv_24 zc_1 ev_29 (by decide)
        rw [li_1] at qv_29
        refine lv_iinc (v := v_29) (lv' := [(1, .int v_29), (0, .ref b0)]) hx hb d_Model_undo_55 hl (k := 0) rfl (by rw [ev_29]; rfl) (by decide) rfl (fun ls hl => ?_)
        refine lv_goto (tgt := 27) hx hb d_Model_undo_58 (by decide) ?_
        exact ihk_17 (v_29) (f_28) _ _ _ (zI.wk (l' := 0) (h' := 503) hv_29 (by decide)) hf_28 (zm_up qv_29 hmk_17 (by decide)) hP hD hS (lv_sub hl [0, 1] rfl)
  · have _nhc_1 := hc_1
    have ni_30 := (fa_eq _ _).mp hc_1
    rw [li_0] at ni_30
    have hv_31 : zI b6 0 0 := zI.eq_l hb6 zc_0 hc_1
    refine lv_bipush (v := (-3)) hx hb d_Model_undo_12 (by decide) ?_
    exact z_iret hx hb hr hlocks hP hD hS (Nat.le_of_ble_eq_true rfl) (Nat.le_of_ble_eq_true rfl) d_Model_undo_14 ⟨(-3), b6, b55, rfl, rfl, (zI.wk (l' := (-3)) (h' := 7) zc_m3 (by decide)), (zI.wk (l' := 0) (h' := 8) hv_31 (by decide)), hb55⟩
theorem d_Model_hasLetter_0 : decode prog_14_method_70_code 0 = .ok (.iconst 0, 1) := by decide +kernel
theorem d_Model_hasLetter_1 : decode prog_14_method_70_code 1 = .ok (.istore_n 3, 1) := by decide +kernel
theorem d_Model_hasLetter_2 : decode prog_14_method_70_code 2 = .ok (.iconst 0, 1) := by decide +kernel
theorem d_Model_hasLetter_3 : decode prog_14_method_70_code 3 = .ok (.istore 4, 2) := by decide +kernel
theorem d_Model_hasLetter_5 : decode prog_14_method_70_code 5 = .ok (.iload 4, 2) := by decide +kernel
theorem d_Model_hasLetter_7 : decode prog_14_method_70_code 7 = .ok (.aload_n 0, 1) := by decide +kernel
theorem d_Model_hasLetter_8 : decode prog_14_method_70_code 8 = .ok (.iload_n 1, 1) := by decide +kernel
theorem d_Model_hasLetter_9 : decode prog_14_method_70_code 9 = .ok (.invokevirtual 203, 3) := by decide +kernel
theorem d_Model_hasLetter_12 : decode prog_14_method_70_code 12 = .ok (.if_icmp .ge 30, 3) := by decide +kernel
theorem d_Model_hasLetter_15 : decode prog_14_method_70_code 15 = .ok (.iload_n 3, 1) := by decide +kernel
theorem d_Model_hasLetter_16 : decode prog_14_method_70_code 16 = .ok (.ifCond .ne 14, 3) := by decide +kernel
theorem d_Model_hasLetter_19 : decode prog_14_method_70_code 19 = .ok (.aload_n 0, 1) := by decide +kernel
theorem d_Model_hasLetter_20 : decode prog_14_method_70_code 20 = .ok (.iload_n 1, 1) := by decide +kernel
theorem d_Model_hasLetter_21 : decode prog_14_method_70_code 21 = .ok (.iload 4, 2) := by decide +kernel
theorem d_Model_hasLetter_23 : decode prog_14_method_70_code 23 = .ok (.invokevirtual 207, 3) := by decide +kernel
theorem d_Model_hasLetter_26 : decode prog_14_method_70_code 26 = .ok (.iload_n 2, 1) := by decide +kernel
theorem d_Model_hasLetter_27 : decode prog_14_method_70_code 27 = .ok (.if_icmp .ne 7, 3) := by decide +kernel
theorem d_Model_hasLetter_30 : decode prog_14_method_70_code 30 = .ok (.iconst 1, 1) := by decide +kernel
theorem d_Model_hasLetter_31 : decode prog_14_method_70_code 31 = .ok (.goto 4, 3) := by decide +kernel
theorem d_Model_hasLetter_34 : decode prog_14_method_70_code 34 = .ok (.iconst 0, 1) := by decide +kernel
theorem d_Model_hasLetter_35 : decode prog_14_method_70_code 35 = .ok (.istore_n 3, 1) := by decide +kernel
theorem d_Model_hasLetter_36 : decode prog_14_method_70_code 36 = .ok (.iinc 4 1, 3) := by decide +kernel
theorem d_Model_hasLetter_39 : decode prog_14_method_70_code 39 = .ok (.goto (-34), 3) := by decide +kernel
theorem d_Model_hasLetter_42 : decode prog_14_method_70_code 42 = .ok (.iload_n 3, 1) := by decide +kernel
theorem d_Model_hasLetter_43 : decode prog_14_method_70_code 43 = .ok (.ireturn, 1) := by decide +kernel
abbrev m_s1_Model_hasLetter : Room := { frames := 1, cells := 0, slots := 0, locals := 22 }
set_option maxHeartbeats 4000000 in
set_option maxRecDepth 100000 in
theorem s1_Model_hasLetter (l : Launch) (G : zG) (b0 : Nat) (b1 : Int32) (b2 : Int32) (b3 : Int32) (b4 : Nat) (b5 : Nat) (b6 : Nat) (b7 : Nat) (b8 : Int32) (b9 : Nat) (b10 : Int32) (b11 : Int32) (b12 : Int32) (b13 : Int32) (b14 : Nat) (b15 : Nat) (b16 : Nat) (b17 : Int32) (b18 : Nat) (b19 : Nat) (b20 : Nat) (b21 : Nat) (b22 : Nat) (b23 : Nat) (b24 : Nat) (b25 : Nat) (b26 : Nat) (b27 : Nat) (b28 : Nat) (b29 : Nat) (b30 : Int32) (b31 : Nat) (b32 : Nat) (b33 : Int32) (b34 : Int32) (b35 : Int32) (b36 : Int32) (b37 : Nat) (b38 : Nat) (b39 : Nat) (b40 : Nat) (b41 : Nat) (b42 : Nat) (b43 : Nat) (b44 : Int32) (b45 : Nat) (b46 : Nat) (b47 : Int32) (b48 : Nat) (b49 : Nat) (b50 : Nat) (b51 : Nat) (b52 : Nat) (b53 : Int32) (b54 : Nat) (b55 : Nat) (b56 : Nat) (b57 : Nat → Int32) (hb1 : zI b1 0 19) (hb8 : zI b8 0 8) (hb10 : zI b10 0 240) (hb11 : zI b11 0 240) (hb13 : zI b13 0 1) (hb17 : zI b17 0 12) (hb30 : zI b30 0 1) (hb33 : zI b33 0 1) (hb44 : zI b44 0 1000) (hb47 : zI b47 0 1000) (hb53 : zI b53 0 400) (hb57 : zW5 b57) : zM l G y_Model_hasLetter prog_14_method_70_code 5 (Option.some Jvm.ClassFile.FieldType.boolean) m_s1_Model_hasLetter [.ref b0, .int b1, .int b2] [(b0, .inr (12, [.int b3, .ref b4, .ref b5, .ref b6, .ref b7, .int b8, .ref b9, .int b10, .int b11, .int b12, .int b13, .ref b14, .ref b15, .ref b16, .int b17, .ref b18, .ref b19, .ref b20, .ref b21, .ref b22, .ref b23, .ref b24, .ref b25, .ref b26, .ref b27, .ref b28, .ref b29, .int b30, .ref b31, .ref b32, .int b33, .int b34, .int b35, .int b36, .ref b37, .ref b38, .ref b39, .ref b40, .ref b41, .ref b42, .ref b43, .int b44, .ref b45, .ref b46, .int b47, .ref b48, .ref b49, .ref b50, .ref b51, .ref b52, .int b53, .ref b54, .ref b55, .ref b56])), (b4, .inl (G.2 0, 503, .inl b57))] (fun v w => ∃ (e0 : Int32), v = some (.int e0) ∧ w = [(b0, .inr (12, [.int b3, .ref b4, .ref b5, .ref b6, .ref b7, .int b8, .ref b9, .int b10, .int b11, .int b12, .int b13, .ref b14, .ref b15, .ref b16, .int b17, .ref b18, .ref b19, .ref b20, .ref b21, .ref b22, .ref b23, .ref b24, .ref b25, .ref b26, .ref b27, .ref b28, .ref b29, .int b30, .ref b31, .ref b32, .int b33, .int b34, .int b35, .int b36, .ref b37, .ref b38, .ref b39, .ref b40, .ref b41, .ref b42, .ref b43, .int b44, .ref b45, .ref b46, .int b47, .ref b48, .ref b49, .ref b50, .ref b51, .ref b52, .int b53, .ref b54, .ref b55, .ref b56])), (b4, .inl (G.2 0, 503, .inl b57))] ∧ (zI e0 0 1)) := by
  refine z_start (by decide +kernel) (Nat.le_of_ble_eq_true rfl) ?_
  intro p e s m below meth c A Z hr hnm hA hP hD hS ls hl
  have Z : zC p s m _ meth c prog_14_method_70_code 5 "TraceMachinesModel" G := Z
  obtain ⟨hx, hb, hml, hown, hts, hK, hN, hlocks⟩ := id Z
  have hl : lv_has ls 5 [(0, .ref b0), (1, .int b1), (2, .int b2)] := hl
  refine lv_iconst (v := 0) hx hb d_Model_hasLetter_0 (by decide) ?_
  refine lv_istore_n (lv' := [(3, .int 0), (0, .ref b0), (1, .int b1), (2, .int b2)]) hx hb d_Model_hasLetter_1 rfl hl (by decide) rfl (fun ls hl => ?_)
  refine lv_iconst (v := 0) hx hb d_Model_hasLetter_2 (by decide) ?_
  refine lv_istore (lv' := [(4, .int 0), (3, .int 0), (0, .ref b0), (1, .int b1), (2, .int b2)]) hx hb d_Model_hasLetter_3 hl (by decide) rfl (fun ls hl => ?_)
  suffices key : ∀ (k_25 : Nat) (y_26 : Int32) (y_27 : Int32) (H : Heap) (locs : List Loc) (ls : Array Slot), (zI y_26 0 12) → (zI y_27 0 1) → (12 : Int) - y_26.toInt < (k_25 : Int) → va_P G.1 classes [(b0, .inr (12, [.int b3, .ref b4, .ref b5, .ref b6, .ref b7, .int b8, .ref b9, .int b10, .int b11, .int b12, .int b13, .ref b14, .ref b15, .ref b16, .int b17, .ref b18, .ref b19, .ref b20, .ref b21, .ref b22, .ref b23, .ref b24, .ref b25, .ref b26, .ref b27, .ref b28, .ref b29, .int b30, .ref b31, .ref b32, .int b33, .int b34, .int b35, .int b36, .ref b37, .ref b38, .ref b39, .ref b40, .ref b41, .ref b42, .ref b43, .int b44, .ref b45, .ref b46, .int b47, .ref b48, .ref b49, .ref b50, .ref b51, .ref b52, .int b53, .ref b54, .ref b55, .ref b56])), (b4, .inl (G.2 0, 503, .inl b57))] H → va_D A [(b0, .inr (12, [.int b3, .ref b4, .ref b5, .ref b6, .ref b7, .int b8, .ref b9, .int b10, .int b11, .int b12, .int b13, .ref b14, .ref b15, .ref b16, .int b17, .ref b18, .ref b19, .ref b20, .ref b21, .ref b22, .ref b23, .ref b24, .ref b25, .ref b26, .ref b27, .ref b28, .ref b29, .int b30, .ref b31, .ref b32, .int b33, .int b34, .int b35, .int b36, .ref b37, .ref b38, .ref b39, .ref b40, .ref b41, .ref b42, .ref b43, .int b44, .ref b45, .ref b46, .int b47, .ref b48, .ref b49, .ref b50, .ref b51, .ref b52, .int b53, .ref b54, .ref b55, .ref b56])), (b4, .inl (G.2 0, 503, .inl b57))] → va_S A s.heap H locs → lv_has ls 5 [(4, .int y_26), (3, .int y_27), (0, .ref b0), (1, .int b1), (2, .int b2)] → W p l e m_s1_Model_hasLetter s m ([.ref b0, .int b1, .int b2] : List Value).toArray below meth c H locs 0 0 (MQ below (zQ G (fun v w => ∃ (e0 : Int32), v = some (.int e0) ∧ w = [(b0, .inr (12, [.int b3, .ref b4, .ref b5, .ref b6, .ref b7, .int b8, .ref b9, .int b10, .int b11, .int b12, .int b13, .ref b14, .ref b15, .ref b16, .int b17, .ref b18, .ref b19, .ref b20, .ref b21, .ref b22, .ref b23, .ref b24, .ref b25, .ref b26, .ref b27, .ref b28, .ref b29, .int b30, .ref b31, .ref b32, .int b33, .int b34, .int b35, .int b36, .ref b37, .ref b38, .ref b39, .ref b40, .ref b41, .ref b42, .ref b43, .int b44, .ref b45, .ref b46, .int b47, .ref b48, .ref b49, .ref b50, .ref b51, .ref b52, .int b53, .ref b54, .ref b55, .ref b56])), (b4, .inl (G.2 0, 503, .inl b57))] ∧ (zI e0 0 1)) A) ([.ref b0, .int b1, .int b2] : List Value).toArray s m_s1_Model_hasLetter.cells m_s1_Model_hasLetter.slots A) (F0 m 5 ls []) by
    exact key 13 (0) (0) _ _ _ (zI.wk (l' := 0) (h' := 12) zc_0 (by decide)) (zI.wk (l' := 0) (h' := 1) zc_0 (by decide)) (zm_upi (zI.wk (l' := 0) (h' := 12) zc_0 (by decide)) (by decide)) hP hD hS (lv_sub hl [0, 1, 2, 3, 4] rfl)
  intro k_25
  induction k_25 with
  | zero =>
    intro y_26 y_27 H locs ls hy_26 hy_27 hmk_25 hP hD hS hl
    exact (zm_up0 hy_26 hmk_25).elim
  | succ k_25 ihk_25 =>
    intro y_26 y_27 H locs ls hy_26 hy_27 hmk_25 hP hD hS hl
    refine lv_iload hx hb d_Model_hasLetter_5 (lv_at hl 0 rfl) ?_
    refine lv_aload_n hx hb d_Model_hasLetter_7 rfl (lv_at hl 2 rfl) ?_
    refine lv_iload_n hx hb d_Model_hasLetter_8 rfl (lv_at hl 3 rfl) ?_
    refine z_callV (index := 203) (As := [.int b1]) (rest := [.int y_26]) (wr := []) Z (s1_Model_calls l G (b0) (b1) (b3) (b4) (b5) (b6) (b7) (b8) (b9) (b10) (b11) (b12) (b13) (b14) (b15) (b16) (b17) (b18) (b19) (b20) (b21) (b22) (b23) (b24) (b25) (b26) (b27) (b28) (b29) (b30) (b31) (b32) (b33) (b34) (b35) (b36) (b37) (b38) (b39) (b40) (b41) (b42) (b43) (b44) (b45) (b46) (b47) (b48) (b49) (b50) (b51) (b52) (b53) (b54) (b55) (b56) (b57) hb1 hb8 hb10 hb11 hb13 hb17 hb30 hb33 hb44 hb47 hb53 hb57) hl.1 q1352 q1354 qs54 q14 q1355 ⟨by decide, by decide, by show _ = some 1; decide +kernel⟩ ⟨Nat.le_of_ble_eq_true rfl, Nat.le_of_ble_eq_true rfl⟩ ⟨Nat.le_of_ble_eq_true rfl, Nat.le_of_ble_eq_true rfl⟩ rfl (Nat.le_of_ble_eq_true rfl) d_Model_hasLetter_9 hP hD hS hA 0 12 rfl rfl rfl [0, 1] [] rfl rfl rfl rfl (by decide) (fun v w1 H locs hw_28 hP hD hS => ?_)
    obtain ⟨x_29, rfl, rfl, hx_29, hfx_30⟩ := hw_28
    have hP : va_P G.1 classes [(b0, .inr (12, [.int b3, .ref b4, .ref b5, .ref b6, .ref b7, .int b8, .ref b9, .int b10, .int b11, .int b12, .int b13, .ref b14, .ref b15, .ref b16, .int b17, .ref b18, .ref b19, .ref b20, .ref b21, .ref b22, .ref b23, .ref b24, .ref b25, .ref b26, .ref b27, .ref b28, .ref b29, .int b30, .ref b31, .ref b32, .int b33, .int b34, .int b35, .int b36, .ref b37, .ref b38, .ref b39, .ref b40, .ref b41, .ref b42, .ref b43, .int b44, .ref b45, .ref b46, .int b47, .ref b48, .ref b49, .ref b50, .ref b51, .ref b52, .int b53, .ref b54, .ref b55, .ref b56])), (b4, .inl (G.2 0, 503, .inl b57))] H := hP
    have hD := z_tie hP hD rfl
    refine W.widen (k := 0) (n := 0) (Nat.le_of_ble_eq_true rfl) (Nat.le_of_ble_eq_true rfl) ?_
    refine lv_icmp_ge (tgt := 42) hx hb d_Model_hasLetter_12 (by decide) (fun hc_31 => ?_) (fun hc_31 => ?_)
    · have _nhc_31 := hc_31
      have ni_32 := (fa_le _ _).mp hc_31
      refine lv_iload_n hx hb d_Model_hasLetter_42 rfl (lv_at hl 1 rfl) ?_
      exact z_zret hx hb hr hlocks (zi_nb hy_27) hP hD hS (Nat.le_of_ble_eq_true rfl) (Nat.le_of_ble_eq_true rfl) d_Model_hasLetter_43 ⟨y_27, rfl, rfl, hy_27⟩
    · have _nhc_31 := hc_31
      have ni_33 := (fa_lt _ _).mp (zi_nle hc_31)
      have hv_34 : zI y_26 0 11 := zI.lt_l hy_26 hx_29 (zi_nle hc_31) (by decide)
      have hv_35 : zI x_29 1 12 := zI.lt_r hy_26 hx_29 (zi_nle hc_31) (by decide)
      refine lv_iload_n hx hb d_Model_hasLetter_15 rfl (lv_at hl 1 rfl) ?_
      refine lv_if_ne (tgt := 30) hx hb d_Model_hasLetter_16 (by decide) (fun hc_36 => ?_) (fun hc_36 => ?_)
      · have _nhc_36 := hc_36
        have ni_37 : ¬ (y_27 : Int32).toInt = (0 : Int32).toInt := fun z => hc_36 ((fa_eq _ _).mpr z)
        simp only [li_0] at ni_37
        have hv_38 : zI y_27 1 1 := zI.ne_lo hy_27 zc_0 hc_36 (by decide)
        refine lv_iconst (v := 1) hx hb d_Model_hasLetter_30 (by decide) ?_
        refine lv_goto (tgt := 35) hx hb d_Model_hasLetter_31 (by decide) ?_
        refine lv_istore_n (lv' := [(3, .int 1), (4, .int y_26), (0, .ref b0), (1, .int b1), (2, .int b2)]) hx hb d_Model_hasLetter_35 rfl hl (by decide) rfl (fun ls hl => ?_)
        obtain ⟨v_39, ev_39⟩ : ∃ z : Int32, z = y_26 + 1 := ⟨_, rfl⟩
        obtain ⟨qv_39, hv_39⟩ := zI_add (l := 1) (h := 12) hv_34 zc_1 ev_39 (by decide)
        rw [li_1] at qv_39
        refine lv_iinc (v := v_39) (lv' := [(4, .int v_39), (3, .int 1), (0, .ref b0), (1, .int b1), (2, .int b2)]) hx hb d_Model_hasLetter_36 hl (k := 1) rfl (by rw [ev_39]; rfl) (by decide) rfl (fun ls hl => ?_)
        refine lv_goto (tgt := 5) hx hb d_Model_hasLetter_39 (by decide) ?_
        exact ihk_25 (v_39) (1) _ _ _ (zI.wk (l' := 0) (h' := 12) hv_39 (by decide)) (zI.wk (l' := 0) (h' := 1) zc_1 (by decide)) (zm_up qv_39 hmk_25 (by decide)) hP hD hS (lv_sub hl [0, 1, 2, 3, 4] rfl)
      · have _nhc_36 := hc_36
        have ni_40 := (fa_eq _ _).mp hc_36
        rw [li_0] at ni_40
        have hv_41 : zI y_27 0 0 := zI.eq_l hy_27 zc_0 hc_36
        refine lv_aload_n hx hb d_Model_hasLetter_19 rfl (lv_at hl 2 rfl) ?_
        refine lv_iload_n hx hb d_Model_hasLetter_20 rfl (lv_at hl 3 rfl) ?_
        refine lv_iload hx hb d_Model_hasLetter_21 (lv_at hl 0 rfl) ?_
        refine z_callV (index := 207) (As := [.int b1, .int y_26]) (rest := []) (wr := []) Z (s1_Model_letterAt l G (b0) (b1) (y_26) (b3) (b4) (b5) (b6) (b7) (b8) (b9) (b10) (b11) (b12) (b13) (b14) (b15) (b16) (b17) (b18) (b19) (b20) (b21) (b22) (b23) (b24) (b25) (b26) (b27) (b28) (b29) (b30) (b31) (b32) (b33) (b34) (b35) (b36) (b37) (b38) (b39) (b40) (b41) (b42) (b43) (b44) (b45) (b46) (b47) (b48) (b49) (b50) (b51) (b52) (b53) (b54) (b55) (b56) (b57) hb1 hv_34 hb8 hb10 hb11 hb13 hb17 hb30 hb33 hb44 hb47 hb53 hb57) hl.1 q1372 q1374 qs59 q14 q1375 ⟨by decide, by decide, by show _ = some 2; decide +kernel⟩ ⟨Nat.le_of_ble_eq_true rfl, Nat.le_of_ble_eq_true rfl⟩ ⟨Nat.le_of_ble_eq_true rfl, Nat.le_of_ble_eq_true rfl⟩ rfl (Nat.le_of_ble_eq_true rfl) d_Model_hasLetter_23 hP hD hS hA 0 12 rfl rfl rfl [0, 1] [] rfl rfl rfl rfl (by decide) (fun v w1 H locs hw_42 hP hD hS => ?_)
        obtain ⟨x_43, rfl, rfl, hx_43⟩ := hw_42
        have hP : va_P G.1 classes [(b0, .inr (12, [.int b3, .ref b4, .ref b5, .ref b6, .ref b7, .int b8, .ref b9, .int b10, .int b11, .int b12, .int b13, .ref b14, .ref b15, .ref b16, .int b17, .ref b18, .ref b19, .ref b20, .ref b21, .ref b22, .ref b23, .ref b24, .ref b25, .ref b26, .ref b27, .ref b28, .ref b29, .int b30, .ref b31, .ref b32, .int b33, .int b34, .int b35, .int b36, .ref b37, .ref b38, .ref b39, .ref b40, .ref b41, .ref b42, .ref b43, .int b44, .ref b45, .ref b46, .int b47, .ref b48, .ref b49, .ref b50, .ref b51, .ref b52, .int b53, .ref b54, .ref b55, .ref b56])), (b4, .inl (G.2 0, 503, .inl b57))] H := hP
        have hD := z_tie hP hD rfl
        refine W.widen (k := 0) (n := 0) (Nat.le_of_ble_eq_true rfl) (Nat.le_of_ble_eq_true rfl) ?_
        refine lv_iload_n hx hb d_Model_hasLetter_26 rfl (lv_at hl 4 rfl) ?_
        refine lv_icmp_ne (tgt := 34) hx hb d_Model_hasLetter_27 (by decide) (fun hc_44 => ?_) (fun hc_44 => ?_)
        · have _nhc_44 := hc_44
          have ni_45 : ¬ (x_43 : Int32).toInt = (b2 : Int32).toInt := fun z => hc_44 ((fa_eq _ _).mpr z)
          refine lv_iconst (v := 0) hx hb d_Model_hasLetter_34 (by decide) ?_
          refine lv_istore_n (lv' := [(3, .int 0), (4, .int y_26), (0, .ref b0), (1, .int b1), (2, .int b2)]) hx hb d_Model_hasLetter_35 rfl hl (by decide) rfl (fun ls hl => ?_)
          obtain ⟨v_46, ev_46⟩ : ∃ z : Int32, z = y_26 + 1 := ⟨_, rfl⟩
          obtain ⟨qv_46, hv_46⟩ := zI_add (l := 1) (h := 12) hv_34 zc_1 ev_46 (by decide)
          rw [li_1] at qv_46
          refine lv_iinc (v := v_46) (lv' := [(4, .int v_46), (3, .int 0), (0, .ref b0), (1, .int b1), (2, .int b2)]) hx hb d_Model_hasLetter_36 hl (k := 1) rfl (by rw [ev_46]; rfl) (by decide) rfl (fun ls hl => ?_)
          refine lv_goto (tgt := 5) hx hb d_Model_hasLetter_39 (by decide) ?_
          exact ihk_25 (v_46) (0) _ _ _ (zI.wk (l' := 0) (h' := 12) hv_46 (by decide)) (zI.wk (l' := 0) (h' := 1) zc_0 (by decide)) (zm_up qv_46 hmk_25 (by decide)) hP hD hS (lv_sub hl [0, 1, 2, 3, 4] rfl)
        · have _nhc_44 := hc_44
          have ni_47 := (fa_eq _ _).mp hc_44
          have hv_48 : zI b2 0 9 := zI.eq_l (zI_all b2) hx_43 hc_44.symm
          refine lv_iconst (v := 1) hx hb d_Model_hasLetter_30 (by decide) ?_
          refine lv_goto (tgt := 35) hx hb d_Model_hasLetter_31 (by decide) ?_
          refine lv_istore_n (lv' := [(3, .int 1), (4, .int y_26), (0, .ref b0), (1, .int b1), (2, .int b2)]) hx hb d_Model_hasLetter_35 rfl hl (by decide) rfl (fun ls hl => ?_)
          obtain ⟨v_49, ev_49⟩ : ∃ z : Int32, z = y_26 + 1 := ⟨_, rfl⟩
          obtain ⟨qv_49, hv_49⟩ := zI_add (l := 1) (h := 12) hv_34 zc_1 ev_49 (by decide)
          rw [li_1] at qv_49
          refine lv_iinc (v := v_49) (lv' := [(4, .int v_49), (3, .int 1), (0, .ref b0), (1, .int b1), (2, .int b2)]) hx hb d_Model_hasLetter_36 hl (k := 1) rfl (by rw [ev_49]; rfl) (by decide) rfl (fun ls hl => ?_)
          refine lv_goto (tgt := 5) hx hb d_Model_hasLetter_39 (by decide) ?_
          exact ihk_25 (v_49) (1) _ _ _ (zI.wk (l' := 0) (h' := 12) hv_49 (by decide)) (zI.wk (l' := 0) (h' := 1) zc_1 (by decide)) (zm_up qv_49 hmk_25 (by decide)) hP hD hS (lv_sub hl [0, 1, 2, 3, 4] rfl)
theorem d_Model_firstOf_0 : decode prog_14_method_72_code 0 = .ok (.iconst 0, 1) := by decide +kernel
theorem d_Model_firstOf_1 : decode prog_14_method_72_code 1 = .ok (.istore_n 3, 1) := by decide +kernel
theorem d_Model_firstOf_2 : decode prog_14_method_72_code 2 = .ok (.iload_n 3, 1) := by decide +kernel
theorem d_Model_firstOf_3 : decode prog_14_method_72_code 3 = .ok (.aload_n 0, 1) := by decide +kernel
theorem d_Model_firstOf_4 : decode prog_14_method_72_code 4 = .ok (.iload_n 1, 1) := by decide +kernel
theorem d_Model_firstOf_5 : decode prog_14_method_72_code 5 = .ok (.invokevirtual 203, 3) := by decide +kernel
theorem d_Model_firstOf_8 : decode prog_14_method_72_code 8 = .ok (.if_icmp .ge 19, 3) := by decide +kernel
theorem d_Model_firstOf_11 : decode prog_14_method_72_code 11 = .ok (.aload_n 0, 1) := by decide +kernel
theorem d_Model_firstOf_12 : decode prog_14_method_72_code 12 = .ok (.iload_n 1, 1) := by decide +kernel
theorem d_Model_firstOf_13 : decode prog_14_method_72_code 13 = .ok (.iload_n 3, 1) := by decide +kernel
theorem d_Model_firstOf_14 : decode prog_14_method_72_code 14 = .ok (.invokevirtual 207, 3) := by decide +kernel
theorem d_Model_firstOf_17 : decode prog_14_method_72_code 17 = .ok (.iload_n 2, 1) := by decide +kernel
theorem d_Model_firstOf_18 : decode prog_14_method_72_code 18 = .ok (.if_icmp .eq 9, 3) := by decide +kernel
theorem d_Model_firstOf_21 : decode prog_14_method_72_code 21 = .ok (.iinc 3 1, 3) := by decide +kernel
theorem d_Model_firstOf_24 : decode prog_14_method_72_code 24 = .ok (.goto (-22), 3) := by decide +kernel
theorem d_Model_firstOf_27 : decode prog_14_method_72_code 27 = .ok (.iload_n 3, 1) := by decide +kernel
theorem d_Model_firstOf_28 : decode prog_14_method_72_code 28 = .ok (.ireturn, 1) := by decide +kernel
abbrev m_s1_Model_firstOf : Room := { frames := 1, cells := 0, slots := 0, locals := 22 }
set_option maxHeartbeats 4000000 in
set_option maxRecDepth 100000 in
theorem s1_Model_firstOf (l : Launch) (G : zG) (b0 : Nat) (b1 : Int32) (b2 : Int32) (b3 : Int32) (b4 : Nat) (b5 : Nat) (b6 : Nat) (b7 : Nat) (b8 : Int32) (b9 : Nat) (b10 : Int32) (b11 : Int32) (b12 : Int32) (b13 : Int32) (b14 : Nat) (b15 : Nat) (b16 : Nat) (b17 : Int32) (b18 : Nat) (b19 : Nat) (b20 : Nat) (b21 : Nat) (b22 : Nat) (b23 : Nat) (b24 : Nat) (b25 : Nat) (b26 : Nat) (b27 : Nat) (b28 : Nat) (b29 : Nat) (b30 : Int32) (b31 : Nat) (b32 : Nat) (b33 : Int32) (b34 : Int32) (b35 : Int32) (b36 : Int32) (b37 : Nat) (b38 : Nat) (b39 : Nat) (b40 : Nat) (b41 : Nat) (b42 : Nat) (b43 : Nat) (b44 : Int32) (b45 : Nat) (b46 : Nat) (b47 : Int32) (b48 : Nat) (b49 : Nat) (b50 : Nat) (b51 : Nat) (b52 : Nat) (b53 : Int32) (b54 : Nat) (b55 : Nat) (b56 : Nat) (b57 : Nat → Int32) (hb1 : zI b1 0 19) (hb8 : zI b8 0 8) (hb10 : zI b10 0 240) (hb11 : zI b11 0 240) (hb13 : zI b13 0 1) (hb17 : zI b17 0 12) (hb30 : zI b30 0 1) (hb33 : zI b33 0 1) (hb44 : zI b44 0 1000) (hb47 : zI b47 0 1000) (hb53 : zI b53 0 400) (hb57 : zW5 b57) : zM l G y_Model_firstOf prog_14_method_72_code 4 (Option.some Jvm.ClassFile.FieldType.int) m_s1_Model_firstOf [.ref b0, .int b1, .int b2] [(b0, .inr (12, [.int b3, .ref b4, .ref b5, .ref b6, .ref b7, .int b8, .ref b9, .int b10, .int b11, .int b12, .int b13, .ref b14, .ref b15, .ref b16, .int b17, .ref b18, .ref b19, .ref b20, .ref b21, .ref b22, .ref b23, .ref b24, .ref b25, .ref b26, .ref b27, .ref b28, .ref b29, .int b30, .ref b31, .ref b32, .int b33, .int b34, .int b35, .int b36, .ref b37, .ref b38, .ref b39, .ref b40, .ref b41, .ref b42, .ref b43, .int b44, .ref b45, .ref b46, .int b47, .ref b48, .ref b49, .ref b50, .ref b51, .ref b52, .int b53, .ref b54, .ref b55, .ref b56])), (b4, .inl (G.2 0, 503, .inl b57))] (fun v w => ∃ (e0 : Int32), v = some (.int e0) ∧ w = [(b0, .inr (12, [.int b3, .ref b4, .ref b5, .ref b6, .ref b7, .int b8, .ref b9, .int b10, .int b11, .int b12, .int b13, .ref b14, .ref b15, .ref b16, .int b17, .ref b18, .ref b19, .ref b20, .ref b21, .ref b22, .ref b23, .ref b24, .ref b25, .ref b26, .ref b27, .ref b28, .ref b29, .int b30, .ref b31, .ref b32, .int b33, .int b34, .int b35, .int b36, .ref b37, .ref b38, .ref b39, .ref b40, .ref b41, .ref b42, .ref b43, .int b44, .ref b45, .ref b46, .int b47, .ref b48, .ref b49, .ref b50, .ref b51, .ref b52, .int b53, .ref b54, .ref b55, .ref b56])), (b4, .inl (G.2 0, 503, .inl b57))] ∧ (zI e0 0 12)) := by
  refine z_start (by decide +kernel) (Nat.le_of_ble_eq_true rfl) ?_
  intro p e s m below meth c A Z hr hnm hA hP hD hS ls hl
  have Z : zC p s m _ meth c prog_14_method_72_code 4 "TraceMachinesModel" G := Z
  obtain ⟨hx, hb, hml, hown, hts, hK, hN, hlocks⟩ := id Z
  have hl : lv_has ls 4 [(0, .ref b0), (1, .int b1), (2, .int b2)] := hl
  refine lv_iconst (v := 0) hx hb d_Model_firstOf_0 (by decide) ?_
  refine lv_istore_n (lv' := [(3, .int 0), (0, .ref b0), (1, .int b1), (2, .int b2)]) hx hb d_Model_firstOf_1 rfl hl (by decide) rfl (fun ls hl => ?_)
  suffices key : ∀ (k_17 : Nat) (y_18 : Int32) (H : Heap) (locs : List Loc) (ls : Array Slot), (zI y_18 0 12) → (12 : Int) - y_18.toInt < (k_17 : Int) → va_P G.1 classes [(b0, .inr (12, [.int b3, .ref b4, .ref b5, .ref b6, .ref b7, .int b8, .ref b9, .int b10, .int b11, .int b12, .int b13, .ref b14, .ref b15, .ref b16, .int b17, .ref b18, .ref b19, .ref b20, .ref b21, .ref b22, .ref b23, .ref b24, .ref b25, .ref b26, .ref b27, .ref b28, .ref b29, .int b30, .ref b31, .ref b32, .int b33, .int b34, .int b35, .int b36, .ref b37, .ref b38, .ref b39, .ref b40, .ref b41, .ref b42, .ref b43, .int b44, .ref b45, .ref b46, .int b47, .ref b48, .ref b49, .ref b50, .ref b51, .ref b52, .int b53, .ref b54, .ref b55, .ref b56])), (b4, .inl (G.2 0, 503, .inl b57))] H → va_D A [(b0, .inr (12, [.int b3, .ref b4, .ref b5, .ref b6, .ref b7, .int b8, .ref b9, .int b10, .int b11, .int b12, .int b13, .ref b14, .ref b15, .ref b16, .int b17, .ref b18, .ref b19, .ref b20, .ref b21, .ref b22, .ref b23, .ref b24, .ref b25, .ref b26, .ref b27, .ref b28, .ref b29, .int b30, .ref b31, .ref b32, .int b33, .int b34, .int b35, .int b36, .ref b37, .ref b38, .ref b39, .ref b40, .ref b41, .ref b42, .ref b43, .int b44, .ref b45, .ref b46, .int b47, .ref b48, .ref b49, .ref b50, .ref b51, .ref b52, .int b53, .ref b54, .ref b55, .ref b56])), (b4, .inl (G.2 0, 503, .inl b57))] → va_S A s.heap H locs → lv_has ls 4 [(3, .int y_18), (0, .ref b0), (1, .int b1), (2, .int b2)] → W p l e m_s1_Model_firstOf s m ([.ref b0, .int b1, .int b2] : List Value).toArray below meth c H locs 0 0 (MQ below (zQ G (fun v w => ∃ (e0 : Int32), v = some (.int e0) ∧ w = [(b0, .inr (12, [.int b3, .ref b4, .ref b5, .ref b6, .ref b7, .int b8, .ref b9, .int b10, .int b11, .int b12, .int b13, .ref b14, .ref b15, .ref b16, .int b17, .ref b18, .ref b19, .ref b20, .ref b21, .ref b22, .ref b23, .ref b24, .ref b25, .ref b26, .ref b27, .ref b28, .ref b29, .int b30, .ref b31, .ref b32, .int b33, .int b34, .int b35, .int b36, .ref b37, .ref b38, .ref b39, .ref b40, .ref b41, .ref b42, .ref b43, .int b44, .ref b45, .ref b46, .int b47, .ref b48, .ref b49, .ref b50, .ref b51, .ref b52, .int b53, .ref b54, .ref b55, .ref b56])), (b4, .inl (G.2 0, 503, .inl b57))] ∧ (zI e0 0 12)) A) ([.ref b0, .int b1, .int b2] : List Value).toArray s m_s1_Model_firstOf.cells m_s1_Model_firstOf.slots A) (F0 m 2 ls []) by
    exact key 13 (0) _ _ _ (zI.wk (l' := 0) (h' := 12) zc_0 (by decide)) (zm_upi (zI.wk (l' := 0) (h' := 12) zc_0 (by decide)) (by decide)) hP hD hS (lv_sub hl [0, 1, 2, 3] rfl)
  intro k_17
  induction k_17 with
  | zero =>
    intro y_18 H locs ls hy_18 hmk_17 hP hD hS hl
    exact (zm_up0 hy_18 hmk_17).elim
  | succ k_17 ihk_17 =>
    intro y_18 H locs ls hy_18 hmk_17 hP hD hS hl
    refine lv_iload_n hx hb d_Model_firstOf_2 rfl (lv_at hl 0 rfl) ?_
    refine lv_aload_n hx hb d_Model_firstOf_3 rfl (lv_at hl 1 rfl) ?_
    refine lv_iload_n hx hb d_Model_firstOf_4 rfl (lv_at hl 2 rfl) ?_
    refine z_callV (index := 203) (As := [.int b1]) (rest := [.int y_18]) (wr := []) Z (s1_Model_calls l G (b0) (b1) (b3) (b4) (b5) (b6) (b7) (b8) (b9) (b10) (b11) (b12) (b13) (b14) (b15) (b16) (b17) (b18) (b19) (b20) (b21) (b22) (b23) (b24) (b25) (b26) (b27) (b28) (b29) (b30) (b31) (b32) (b33) (b34) (b35) (b36) (b37) (b38) (b39) (b40) (b41) (b42) (b43) (b44) (b45) (b46) (b47) (b48) (b49) (b50) (b51) (b52) (b53) (b54) (b55) (b56) (b57) hb1 hb8 hb10 hb11 hb13 hb17 hb30 hb33 hb44 hb47 hb53 hb57) hl.1 q1352 q1354 qs54 q14 q1355 ⟨by decide, by decide, by show _ = some 1; decide +kernel⟩ ⟨Nat.le_of_ble_eq_true rfl, Nat.le_of_ble_eq_true rfl⟩ ⟨Nat.le_of_ble_eq_true rfl, Nat.le_of_ble_eq_true rfl⟩ rfl (Nat.le_of_ble_eq_true rfl) d_Model_firstOf_5 hP hD hS hA 0 12 rfl rfl rfl [0, 1] [] rfl rfl rfl rfl (by decide) (fun v w1 H locs hw_19 hP hD hS => ?_)
    obtain ⟨x_20, rfl, rfl, hx_20, hfx_21⟩ := hw_19
    have hP : va_P G.1 classes [(b0, .inr (12, [.int b3, .ref b4, .ref b5, .ref b6, .ref b7, .int b8, .ref b9, .int b10, .int b11, .int b12, .int b13, .ref b14, .ref b15, .ref b16, .int b17, .ref b18, .ref b19, .ref b20, .ref b21, .ref b22, .ref b23, .ref b24, .ref b25, .ref b26, .ref b27, .ref b28, .ref b29, .int b30, .ref b31, .ref b32, .int b33, .int b34, .int b35, .int b36, .ref b37, .ref b38, .ref b39, .ref b40, .ref b41, .ref b42, .ref b43, .int b44, .ref b45, .ref b46, .int b47, .ref b48, .ref b49, .ref b50, .ref b51, .ref b52, .int b53, .ref b54, .ref b55, .ref b56])), (b4, .inl (G.2 0, 503, .inl b57))] H := hP
    have hD := z_tie hP hD rfl
    refine W.widen (k := 0) (n := 0) (Nat.le_of_ble_eq_true rfl) (Nat.le_of_ble_eq_true rfl) ?_
    refine lv_icmp_ge (tgt := 27) hx hb d_Model_firstOf_8 (by decide) (fun hc_22 => ?_) (fun hc_22 => ?_)
    · have _nhc_22 := hc_22
      have ni_23 := (fa_le _ _).mp hc_22
      refine lv_iload_n hx hb d_Model_firstOf_27 rfl (lv_at hl 0 rfl) ?_
      exact z_iret hx hb hr hlocks hP hD hS (Nat.le_of_ble_eq_true rfl) (Nat.le_of_ble_eq_true rfl) d_Model_firstOf_28 ⟨y_18, rfl, rfl, hy_18⟩
    · have _nhc_22 := hc_22
      have ni_24 := (fa_lt _ _).mp (zi_nle hc_22)
      have hv_25 : zI y_18 0 11 := zI.lt_l hy_18 hx_20 (zi_nle hc_22) (by decide)
      have hv_26 : zI x_20 1 12 := zI.lt_r hy_18 hx_20 (zi_nle hc_22) (by decide)
      refine lv_aload_n hx hb d_Model_firstOf_11 rfl (lv_at hl 1 rfl) ?_
      refine lv_iload_n hx hb d_Model_firstOf_12 rfl (lv_at hl 2 rfl) ?_
      refine lv_iload_n hx hb d_Model_firstOf_13 rfl (lv_at hl 0 rfl) ?_
      refine z_callV (index := 207) (As := [.int b1, .int y_18]) (rest := []) (wr := []) Z (s1_Model_letterAt l G (b0) (b1) (y_18) (b3) (b4) (b5) (b6) (b7) (b8) (b9) (b10) (b11) (b12) (b13) (b14) (b15) (b16) (b17) (b18) (b19) (b20) (b21) (b22) (b23) (b24) (b25) (b26) (b27) (b28) (b29) (b30) (b31) (b32) (b33) (b34) (b35) (b36) (b37) (b38) (b39) (b40) (b41) (b42) (b43) (b44) (b45) (b46) (b47) (b48) (b49) (b50) (b51) (b52) (b53) (b54) (b55) (b56) (b57) hb1 hv_25 hb8 hb10 hb11 hb13 hb17 hb30 hb33 hb44 hb47 hb53 hb57) hl.1 q1372 q1374 qs59 q14 q1375 ⟨by decide, by decide, by show _ = some 2; decide +kernel⟩ ⟨Nat.le_of_ble_eq_true rfl, Nat.le_of_ble_eq_true rfl⟩ ⟨Nat.le_of_ble_eq_true rfl, Nat.le_of_ble_eq_true rfl⟩ rfl (Nat.le_of_ble_eq_true rfl) d_Model_firstOf_14 hP hD hS hA 0 12 rfl rfl rfl [0, 1] [] rfl rfl rfl rfl (by decide) (fun v w1 H locs hw_27 hP hD hS => ?_)
      obtain ⟨x_28, rfl, rfl, hx_28⟩ := hw_27
      have hP : va_P G.1 classes [(b0, .inr (12, [.int b3, .ref b4, .ref b5, .ref b6, .ref b7, .int b8, .ref b9, .int b10, .int b11, .int b12, .int b13, .ref b14, .ref b15, .ref b16, .int b17, .ref b18, .ref b19, .ref b20, .ref b21, .ref b22, .ref b23, .ref b24, .ref b25, .ref b26, .ref b27, .ref b28, .ref b29, .int b30, .ref b31, .ref b32, .int b33, .int b34, .int b35, .int b36, .ref b37, .ref b38, .ref b39, .ref b40, .ref b41, .ref b42, .ref b43, .int b44, .ref b45, .ref b46, .int b47, .ref b48, .ref b49, .ref b50, .ref b51, .ref b52, .int b53, .ref b54, .ref b55, .ref b56])), (b4, .inl (G.2 0, 503, .inl b57))] H := hP
      have hD := z_tie hP hD rfl
      refine W.widen (k := 0) (n := 0) (Nat.le_of_ble_eq_true rfl) (Nat.le_of_ble_eq_true rfl) ?_
      refine lv_iload_n hx hb d_Model_firstOf_17 rfl (lv_at hl 3 rfl) ?_
      refine lv_icmp_eq (tgt := 27) hx hb d_Model_firstOf_18 (by decide) (fun hc_29 => ?_) (fun hc_29 => ?_)
      · have _nhc_29 := hc_29
        have ni_30 := (fa_eq _ _).mp hc_29
        have hv_31 : zI b2 0 9 := zI.eq_l (zI_all b2) hx_28 hc_29.symm
        refine lv_iload_n hx hb d_Model_firstOf_27 rfl (lv_at hl 0 rfl) ?_
        exact z_iret hx hb hr hlocks hP hD hS (Nat.le_of_ble_eq_true rfl) (Nat.le_of_ble_eq_true rfl) d_Model_firstOf_28 ⟨y_18, rfl, rfl, (zI.wk (l' := 0) (h' := 12) hv_25 (by decide))⟩
      · have _nhc_29 := hc_29
        have ni_32 : ¬ (x_28 : Int32).toInt = (b2 : Int32).toInt := fun z => hc_29 ((fa_eq _ _).mpr z)
        obtain ⟨v_33, ev_33⟩ : ∃ z : Int32, z = y_18 + 1 := ⟨_, rfl⟩
        obtain ⟨qv_33, hv_33⟩ := zI_add (l := 1) (h := 12) hv_25 zc_1 ev_33 (by decide)
        rw [li_1] at qv_33
        refine lv_iinc (v := v_33) (lv' := [(3, .int v_33), (0, .ref b0), (1, .int b1), (2, .int b2)]) hx hb d_Model_firstOf_21 hl (k := 0) rfl (by rw [ev_33]; rfl) (by decide) rfl (fun ls hl => ?_)
        refine lv_goto (tgt := 2) hx hb d_Model_firstOf_24 (by decide) ?_
        exact ihk_17 (v_33) _ _ _ (zI.wk (l' := 0) (h' := 12) hv_33 (by decide)) (zm_up qv_33 hmk_17 (by decide)) hP hD hS (lv_sub hl [0, 1, 2, 3] rfl)
theorem d_Model_lastOf_0 : decode prog_14_method_73_code 0 = .ok (.aload_n 0, 1) := by decide +kernel
theorem d_Model_lastOf_1 : decode prog_14_method_73_code 1 = .ok (.iload_n 1, 1) := by decide +kernel
theorem d_Model_lastOf_2 : decode prog_14_method_73_code 2 = .ok (.invokevirtual 203, 3) := by decide +kernel
theorem d_Model_lastOf_5 : decode prog_14_method_73_code 5 = .ok (.iconst 1, 1) := by decide +kernel
theorem d_Model_lastOf_6 : decode prog_14_method_73_code 6 = .ok (.isub, 1) := by decide +kernel
theorem d_Model_lastOf_7 : decode prog_14_method_73_code 7 = .ok (.istore_n 3, 1) := by decide +kernel
theorem d_Model_lastOf_8 : decode prog_14_method_73_code 8 = .ok (.iload_n 3, 1) := by decide +kernel
theorem d_Model_lastOf_9 : decode prog_14_method_73_code 9 = .ok (.ifCond .lt 19, 3) := by decide +kernel
theorem d_Model_lastOf_12 : decode prog_14_method_73_code 12 = .ok (.aload_n 0, 1) := by decide +kernel
theorem d_Model_lastOf_13 : decode prog_14_method_73_code 13 = .ok (.iload_n 1, 1) := by decide +kernel
theorem d_Model_lastOf_14 : decode prog_14_method_73_code 14 = .ok (.iload_n 3, 1) := by decide +kernel
theorem d_Model_lastOf_15 : decode prog_14_method_73_code 15 = .ok (.invokevirtual 207, 3) := by decide +kernel
theorem d_Model_lastOf_18 : decode prog_14_method_73_code 18 = .ok (.iload_n 2, 1) := by decide +kernel
theorem d_Model_lastOf_19 : decode prog_14_method_73_code 19 = .ok (.if_icmp .eq 9, 3) := by decide +kernel
theorem d_Model_lastOf_22 : decode prog_14_method_73_code 22 = .ok (.iinc 3 (-1), 3) := by decide +kernel
theorem d_Model_lastOf_25 : decode prog_14_method_73_code 25 = .ok (.goto (-17), 3) := by decide +kernel
theorem d_Model_lastOf_28 : decode prog_14_method_73_code 28 = .ok (.iload_n 3, 1) := by decide +kernel
theorem d_Model_lastOf_29 : decode prog_14_method_73_code 29 = .ok (.ireturn, 1) := by decide +kernel
abbrev m_s1_Model_lastOf : Room := { frames := 1, cells := 0, slots := 0, locals := 22 }
set_option maxHeartbeats 4000000 in
set_option maxRecDepth 100000 in
theorem s1_Model_lastOf (l : Launch) (G : zG) (b0 : Nat) (b1 : Int32) (b2 : Int32) (b3 : Int32) (b4 : Nat) (b5 : Nat) (b6 : Nat) (b7 : Nat) (b8 : Int32) (b9 : Nat) (b10 : Int32) (b11 : Int32) (b12 : Int32) (b13 : Int32) (b14 : Nat) (b15 : Nat) (b16 : Nat) (b17 : Int32) (b18 : Nat) (b19 : Nat) (b20 : Nat) (b21 : Nat) (b22 : Nat) (b23 : Nat) (b24 : Nat) (b25 : Nat) (b26 : Nat) (b27 : Nat) (b28 : Nat) (b29 : Nat) (b30 : Int32) (b31 : Nat) (b32 : Nat) (b33 : Int32) (b34 : Int32) (b35 : Int32) (b36 : Int32) (b37 : Nat) (b38 : Nat) (b39 : Nat) (b40 : Nat) (b41 : Nat) (b42 : Nat) (b43 : Nat) (b44 : Int32) (b45 : Nat) (b46 : Nat) (b47 : Int32) (b48 : Nat) (b49 : Nat) (b50 : Nat) (b51 : Nat) (b52 : Nat) (b53 : Int32) (b54 : Nat) (b55 : Nat) (b56 : Nat) (b57 : Nat → Int32) (hb1 : zI b1 0 19) (hb8 : zI b8 0 8) (hb10 : zI b10 0 240) (hb11 : zI b11 0 240) (hb13 : zI b13 0 1) (hb17 : zI b17 0 12) (hb30 : zI b30 0 1) (hb33 : zI b33 0 1) (hb44 : zI b44 0 1000) (hb47 : zI b47 0 1000) (hb53 : zI b53 0 400) (hb57 : zW5 b57) : zM l G y_Model_lastOf prog_14_method_73_code 4 (Option.some Jvm.ClassFile.FieldType.int) m_s1_Model_lastOf [.ref b0, .int b1, .int b2] [(b0, .inr (12, [.int b3, .ref b4, .ref b5, .ref b6, .ref b7, .int b8, .ref b9, .int b10, .int b11, .int b12, .int b13, .ref b14, .ref b15, .ref b16, .int b17, .ref b18, .ref b19, .ref b20, .ref b21, .ref b22, .ref b23, .ref b24, .ref b25, .ref b26, .ref b27, .ref b28, .ref b29, .int b30, .ref b31, .ref b32, .int b33, .int b34, .int b35, .int b36, .ref b37, .ref b38, .ref b39, .ref b40, .ref b41, .ref b42, .ref b43, .int b44, .ref b45, .ref b46, .int b47, .ref b48, .ref b49, .ref b50, .ref b51, .ref b52, .int b53, .ref b54, .ref b55, .ref b56])), (b4, .inl (G.2 0, 503, .inl b57))] (fun v w => ∃ (e0 : Int32), v = some (.int e0) ∧ w = [(b0, .inr (12, [.int b3, .ref b4, .ref b5, .ref b6, .ref b7, .int b8, .ref b9, .int b10, .int b11, .int b12, .int b13, .ref b14, .ref b15, .ref b16, .int b17, .ref b18, .ref b19, .ref b20, .ref b21, .ref b22, .ref b23, .ref b24, .ref b25, .ref b26, .ref b27, .ref b28, .ref b29, .int b30, .ref b31, .ref b32, .int b33, .int b34, .int b35, .int b36, .ref b37, .ref b38, .ref b39, .ref b40, .ref b41, .ref b42, .ref b43, .int b44, .ref b45, .ref b46, .int b47, .ref b48, .ref b49, .ref b50, .ref b51, .ref b52, .int b53, .ref b54, .ref b55, .ref b56])), (b4, .inl (G.2 0, 503, .inl b57))] ∧ (zI e0 (-1) 11)) := by
  refine z_start (by decide +kernel) (Nat.le_of_ble_eq_true rfl) ?_
  intro p e s m below meth c A Z hr hnm hA hP hD hS ls hl
  have Z : zC p s m _ meth c prog_14_method_73_code 4 "TraceMachinesModel" G := Z
  obtain ⟨hx, hb, hml, hown, hts, hK, hN, hlocks⟩ := id Z
  have hl : lv_has ls 4 [(0, .ref b0), (1, .int b1), (2, .int b2)] := hl
  refine lv_aload_n hx hb d_Model_lastOf_0 rfl (lv_at hl 0 rfl) ?_
  refine lv_iload_n hx hb d_Model_lastOf_1 rfl (lv_at hl 1 rfl) ?_
  refine z_callV (index := 203) (As := [.int b1]) (rest := []) (wr := []) Z (s1_Model_calls l G (b0) (b1) (b3) (b4) (b5) (b6) (b7) (b8) (b9) (b10) (b11) (b12) (b13) (b14) (b15) (b16) (b17) (b18) (b19) (b20) (b21) (b22) (b23) (b24) (b25) (b26) (b27) (b28) (b29) (b30) (b31) (b32) (b33) (b34) (b35) (b36) (b37) (b38) (b39) (b40) (b41) (b42) (b43) (b44) (b45) (b46) (b47) (b48) (b49) (b50) (b51) (b52) (b53) (b54) (b55) (b56) (b57) hb1 hb8 hb10 hb11 hb13 hb17 hb30 hb33 hb44 hb47 hb53 hb57) hl.1 q1352 q1354 qs54 q14 q1355 ⟨by decide, by decide, by show _ = some 1; decide +kernel⟩ ⟨Nat.le_of_ble_eq_true rfl, Nat.le_of_ble_eq_true rfl⟩ ⟨Nat.le_of_ble_eq_true rfl, Nat.le_of_ble_eq_true rfl⟩ rfl (Nat.le_of_ble_eq_true rfl) d_Model_lastOf_2 hP hD hS hA 0 12 rfl rfl rfl [0, 1] [] rfl rfl rfl rfl (by decide) (fun v w1 H locs hw_1 hP hD hS => ?_)
  obtain ⟨x_2, rfl, rfl, hx_2, hfx_3⟩ := hw_1
  have hP : va_P G.1 classes [(b0, .inr (12, [.int b3, .ref b4, .ref b5, .ref b6, .ref b7, .int b8, .ref b9, .int b10, .int b11, .int b12, .int b13, .ref b14, .ref b15, .ref b16, .int b17, .ref b18, .ref b19, .ref b20, .ref b21, .ref b22, .ref b23, .ref b24, .ref b25, .ref b26, .ref b27, .ref b28, .ref b29, .int b30, .ref b31, .ref b32, .int b33, .int b34, .int b35, .int b36, .ref b37, .ref b38, .ref b39, .ref b40, .ref b41, .ref b42, .ref b43, .int b44, .ref b45, .ref b46, .int b47, .ref b48, .ref b49, .ref b50, .ref b51, .ref b52, .int b53, .ref b54, .ref b55, .ref b56])), (b4, .inl (G.2 0, 503, .inl b57))] H := hP
  have hD := z_tie hP hD rfl
  refine W.widen (k := 0) (n := 0) (Nat.le_of_ble_eq_true rfl) (Nat.le_of_ble_eq_true rfl) ?_
  refine lv_iconst (v := 1) hx hb d_Model_lastOf_5 (by decide) ?_
  refine lv_isub hx hb d_Model_lastOf_6 ?_
  refine lv_topi (fun v_4 ev_4 => ?_)
  obtain ⟨qv_4, hv_4⟩ := zI_sub (l := -1) (h := 11) hx_2 zc_1 ev_4 (by decide)
  rw [li_1] at qv_4
  refine lv_istore_n (lv' := [(3, .int v_4), (0, .ref b0), (1, .int b1), (2, .int b2)]) hx hb d_Model_lastOf_7 rfl hl (by decide) rfl (fun ls hl => ?_)
  suffices key : ∀ (k_18 : Nat) (y_19 : Int32) (H : Heap) (locs : List Loc) (ls : Array Slot), (zI y_19 (-1) 11) → y_19.toInt - ((-1)) < (k_18 : Int) → va_P G.1 classes [(b0, .inr (12, [.int b3, .ref b4, .ref b5, .ref b6, .ref b7, .int b8, .ref b9, .int b10, .int b11, .int b12, .int b13, .ref b14, .ref b15, .ref b16, .int b17, .ref b18, .ref b19, .ref b20, .ref b21, .ref b22, .ref b23, .ref b24, .ref b25, .ref b26, .ref b27, .ref b28, .ref b29, .int b30, .ref b31, .ref b32, .int b33, .int b34, .int b35, .int b36, .ref b37, .ref b38, .ref b39, .ref b40, .ref b41, .ref b42, .ref b43, .int b44, .ref b45, .ref b46, .int b47, .ref b48, .ref b49, .ref b50, .ref b51, .ref b52, .int b53, .ref b54, .ref b55, .ref b56])), (b4, .inl (G.2 0, 503, .inl b57))] H → va_D A [(b0, .inr (12, [.int b3, .ref b4, .ref b5, .ref b6, .ref b7, .int b8, .ref b9, .int b10, .int b11, .int b12, .int b13, .ref b14, .ref b15, .ref b16, .int b17, .ref b18, .ref b19, .ref b20, .ref b21, .ref b22, .ref b23, .ref b24, .ref b25, .ref b26, .ref b27, .ref b28, .ref b29, .int b30, .ref b31, .ref b32, .int b33, .int b34, .int b35, .int b36, .ref b37, .ref b38, .ref b39, .ref b40, .ref b41, .ref b42, .ref b43, .int b44, .ref b45, .ref b46, .int b47, .ref b48, .ref b49, .ref b50, .ref b51, .ref b52, .int b53, .ref b54, .ref b55, .ref b56])), (b4, .inl (G.2 0, 503, .inl b57))] → va_S A s.heap H locs → lv_has ls 4 [(3, .int y_19), (0, .ref b0), (1, .int b1), (2, .int b2)] → W p l e m_s1_Model_lastOf s m ([.ref b0, .int b1, .int b2] : List Value).toArray below meth c H locs 0 0 (MQ below (zQ G (fun v w => ∃ (e0 : Int32), v = some (.int e0) ∧ w = [(b0, .inr (12, [.int b3, .ref b4, .ref b5, .ref b6, .ref b7, .int b8, .ref b9, .int b10, .int b11, .int b12, .int b13, .ref b14, .ref b15, .ref b16, .int b17, .ref b18, .ref b19, .ref b20, .ref b21, .ref b22, .ref b23, .ref b24, .ref b25, .ref b26, .ref b27, .ref b28, .ref b29, .int b30, .ref b31, .ref b32, .int b33, .int b34, .int b35, .int b36, .ref b37, .ref b38, .ref b39, .ref b40, .ref b41, .ref b42, .ref b43, .int b44, .ref b45, .ref b46, .int b47, .ref b48, .ref b49, .ref b50, .ref b51, .ref b52, .int b53, .ref b54, .ref b55, .ref b56])), (b4, .inl (G.2 0, 503, .inl b57))] ∧ (zI e0 (-1) 11)) A) ([.ref b0, .int b1, .int b2] : List Value).toArray s m_s1_Model_lastOf.cells m_s1_Model_lastOf.slots A) (F0 m 8 ls []) by
    exact key 13 (v_4) _ _ _ hv_4 (zm_dni hv_4 (by decide)) hP hD hS (lv_sub hl [0, 1, 2, 3] rfl)
  intro k_18
  induction k_18 with
  | zero =>
    intro y_19 H locs ls hy_19 hmk_18 hP hD hS hl
    exact (zm_dn0 hy_19 hmk_18).elim
  | succ k_18 ihk_18 =>
    intro y_19 H locs ls hy_19 hmk_18 hP hD hS hl
    refine lv_iload_n hx hb d_Model_lastOf_8 rfl (lv_at hl 0 rfl) ?_
    refine lv_if_lt (tgt := 28) hx hb d_Model_lastOf_9 (by decide) (fun hc_20 => ?_) (fun hc_20 => ?_)
    · have _nhc_20 := hc_20
      have ni_21 := (fa_lt _ _).mp hc_20
      rw [li_0] at ni_21
      have hv_22 : zI y_19 (-1) (-1) := zI.lt_l hy_19 zc_0 hc_20 (by decide)
      refine lv_iload_n hx hb d_Model_lastOf_28 rfl (lv_at hl 0 rfl) ?_
      exact z_iret hx hb hr hlocks hP hD hS (Nat.le_of_ble_eq_true rfl) (Nat.le_of_ble_eq_true rfl) d_Model_lastOf_29 ⟨y_19, rfl, rfl, (zI.wk (l' := (-1)) (h' := 11) hv_22 (by decide))⟩
    · have _nhc_20 := hc_20
      have ni_23 := (fa_le _ _).mp (zi_nlt hc_20)
      rw [li_0] at ni_23
      have hv_24 : zI y_19 0 11 := zI.le_r zc_0 hy_19 (zi_nlt hc_20) (by decide)
      refine lv_aload_n hx hb d_Model_lastOf_12 rfl (lv_at hl 1 rfl) ?_
      refine lv_iload_n hx hb d_Model_lastOf_13 rfl (lv_at hl 2 rfl) ?_
      refine lv_iload_n hx hb d_Model_lastOf_14 rfl (lv_at hl 0 rfl) ?_
      refine z_callV (index := 207) (As := [.int b1, .int y_19]) (rest := []) (wr := []) Z (s1_Model_letterAt l G (b0) (b1) (y_19) (b3) (b4) (b5) (b6) (b7) (b8) (b9) (b10) (b11) (b12) (b13) (b14) (b15) (b16) (b17) (b18) (b19) (b20) (b21) (b22) (b23) (b24) (b25) (b26) (b27) (b28) (b29) (b30) (b31) (b32) (b33) (b34) (b35) (b36) (b37) (b38) (b39) (b40) (b41) (b42) (b43) (b44) (b45) (b46) (b47) (b48) (b49) (b50) (b51) (b52) (b53) (b54) (b55) (b56) (b57) hb1 hv_24 hb8 hb10 hb11 hb13 hb17 hb30 hb33 hb44 hb47 hb53 hb57) hl.1 q1372 q1374 qs59 q14 q1375 ⟨by decide, by decide, by show _ = some 2; decide +kernel⟩ ⟨Nat.le_of_ble_eq_true rfl, Nat.le_of_ble_eq_true rfl⟩ ⟨Nat.le_of_ble_eq_true rfl, Nat.le_of_ble_eq_true rfl⟩ rfl (Nat.le_of_ble_eq_true rfl) d_Model_lastOf_15 hP hD hS hA 0 12 rfl rfl rfl [0, 1] [] rfl rfl rfl rfl (by decide) (fun v w1 H locs hw_25 hP hD hS => ?_)
      obtain ⟨x_26, rfl, rfl, hx_26⟩ := hw_25
      have hP : va_P G.1 classes [(b0, .inr (12, [.int b3, .ref b4, .ref b5, .ref b6, .ref b7, .int b8, .ref b9, .int b10, .int b11, .int b12, .int b13, .ref b14, .ref b15, .ref b16, .int b17, .ref b18, .ref b19, .ref b20, .ref b21, .ref b22, .ref b23, .ref b24, .ref b25, .ref b26, .ref b27, .ref b28, .ref b29, .int b30, .ref b31, .ref b32, .int b33, .int b34, .int b35, .int b36, .ref b37, .ref b38, .ref b39, .ref b40, .ref b41, .ref b42, .ref b43, .int b44, .ref b45, .ref b46, .int b47, .ref b48, .ref b49, .ref b50, .ref b51, .ref b52, .int b53, .ref b54, .ref b55, .ref b56])), (b4, .inl (G.2 0, 503, .inl b57))] H := hP
      have hD := z_tie hP hD rfl
      refine W.widen (k := 0) (n := 0) (Nat.le_of_ble_eq_true rfl) (Nat.le_of_ble_eq_true rfl) ?_
      refine lv_iload_n hx hb d_Model_lastOf_18 rfl (lv_at hl 3 rfl) ?_
      refine lv_icmp_eq (tgt := 28) hx hb d_Model_lastOf_19 (by decide) (fun hc_27 => ?_) (fun hc_27 => ?_)
      · have _nhc_27 := hc_27
        have ni_28 := (fa_eq _ _).mp hc_27
        have hv_29 : zI b2 0 9 := zI.eq_l (zI_all b2) hx_26 hc_27.symm
        refine lv_iload_n hx hb d_Model_lastOf_28 rfl (lv_at hl 0 rfl) ?_
        exact z_iret hx hb hr hlocks hP hD hS (Nat.le_of_ble_eq_true rfl) (Nat.le_of_ble_eq_true rfl) d_Model_lastOf_29 ⟨y_19, rfl, rfl, (zI.wk (l' := (-1)) (h' := 11) hv_24 (by decide))⟩
      · have _nhc_27 := hc_27
        have ni_30 : ¬ (x_26 : Int32).toInt = (b2 : Int32).toInt := fun z => hc_27 ((fa_eq _ _).mpr z)
        obtain ⟨v_31, ev_31⟩ : ∃ z : Int32, z = y_19 + (-1) := ⟨_, rfl⟩
        obtain ⟨qv_31, hv_31⟩ := zI_add (l := -1) (h := 10) hv_24 zc_m1 ev_31 (by decide)
        rw [li_m1] at qv_31
        refine lv_iinc (v := v_31) (lv' := [(3, .int v_31), (0, .ref b0), (1, .int b1), (2, .int b2)]) hx hb d_Model_lastOf_22 hl (k := 0) rfl (by rw [ev_31]; rfl) (by decide) rfl (fun ls hl => ?_)
        refine lv_goto (tgt := 8) hx hb d_Model_lastOf_25 (by decide) ?_
        exact ihk_18 (v_31) _ _ _ (zI.wk (l' := (-1)) (h' := 11) hv_31 (by decide)) (zm_dn qv_31 hmk_18 (by decide)) hP hD hS (lv_sub hl [0, 1, 2, 3] rfl)
theorem d_Model_howOften_0 : decode prog_14_method_74_code 0 = .ok (.iconst 0, 1) := by decide +kernel
theorem d_Model_howOften_1 : decode prog_14_method_74_code 1 = .ok (.istore_n 3, 1) := by decide +kernel
theorem d_Model_howOften_2 : decode prog_14_method_74_code 2 = .ok (.iconst 0, 1) := by decide +kernel
theorem d_Model_howOften_3 : decode prog_14_method_74_code 3 = .ok (.istore 4, 2) := by decide +kernel
theorem d_Model_howOften_5 : decode prog_14_method_74_code 5 = .ok (.iload 4, 2) := by decide +kernel
theorem d_Model_howOften_7 : decode prog_14_method_74_code 7 = .ok (.aload_n 0, 1) := by decide +kernel
theorem d_Model_howOften_8 : decode prog_14_method_74_code 8 = .ok (.iload_n 1, 1) := by decide +kernel
theorem d_Model_howOften_9 : decode prog_14_method_74_code 9 = .ok (.invokevirtual 203, 3) := by decide +kernel
theorem d_Model_howOften_12 : decode prog_14_method_74_code 12 = .ok (.if_icmp .ge 28, 3) := by decide +kernel
theorem d_Model_howOften_15 : decode prog_14_method_74_code 15 = .ok (.iload_n 3, 1) := by decide +kernel
theorem d_Model_howOften_16 : decode prog_14_method_74_code 16 = .ok (.aload_n 0, 1) := by decide +kernel
theorem d_Model_howOften_17 : decode prog_14_method_74_code 17 = .ok (.iload_n 1, 1) := by decide +kernel
theorem d_Model_howOften_18 : decode prog_14_method_74_code 18 = .ok (.iload 4, 2) := by decide +kernel
theorem d_Model_howOften_20 : decode prog_14_method_74_code 20 = .ok (.invokevirtual 207, 3) := by decide +kernel
theorem d_Model_howOften_23 : decode prog_14_method_74_code 23 = .ok (.iload_n 2, 1) := by decide +kernel
theorem d_Model_howOften_24 : decode prog_14_method_74_code 24 = .ok (.if_icmp .ne 7, 3) := by decide +kernel
theorem d_Model_howOften_27 : decode prog_14_method_74_code 27 = .ok (.iconst 1, 1) := by decide +kernel
theorem d_Model_howOften_28 : decode prog_14_method_74_code 28 = .ok (.goto 4, 3) := by decide +kernel
theorem d_Model_howOften_31 : decode prog_14_method_74_code 31 = .ok (.iconst 0, 1) := by decide +kernel
theorem d_Model_howOften_32 : decode prog_14_method_74_code 32 = .ok (.iadd, 1) := by decide +kernel
theorem d_Model_howOften_33 : decode prog_14_method_74_code 33 = .ok (.istore_n 3, 1) := by decide +kernel
theorem d_Model_howOften_34 : decode prog_14_method_74_code 34 = .ok (.iinc 4 1, 3) := by decide +kernel
theorem d_Model_howOften_37 : decode prog_14_method_74_code 37 = .ok (.goto (-32), 3) := by decide +kernel
theorem d_Model_howOften_40 : decode prog_14_method_74_code 40 = .ok (.iload_n 3, 1) := by decide +kernel
theorem d_Model_howOften_41 : decode prog_14_method_74_code 41 = .ok (.ireturn, 1) := by decide +kernel
abbrev m_s1_Model_howOften : Room := { frames := 1, cells := 0, slots := 0, locals := 22 }
set_option maxHeartbeats 4000000 in
set_option maxRecDepth 100000 in
theorem s1_Model_howOften (l : Launch) (G : zG) (b0 : Nat) (b1 : Int32) (b2 : Int32) (b3 : Int32) (b4 : Nat) (b5 : Nat) (b6 : Nat) (b7 : Nat) (b8 : Int32) (b9 : Nat) (b10 : Int32) (b11 : Int32) (b12 : Int32) (b13 : Int32) (b14 : Nat) (b15 : Nat) (b16 : Nat) (b17 : Int32) (b18 : Nat) (b19 : Nat) (b20 : Nat) (b21 : Nat) (b22 : Nat) (b23 : Nat) (b24 : Nat) (b25 : Nat) (b26 : Nat) (b27 : Nat) (b28 : Nat) (b29 : Nat) (b30 : Int32) (b31 : Nat) (b32 : Nat) (b33 : Int32) (b34 : Int32) (b35 : Int32) (b36 : Int32) (b37 : Nat) (b38 : Nat) (b39 : Nat) (b40 : Nat) (b41 : Nat) (b42 : Nat) (b43 : Nat) (b44 : Int32) (b45 : Nat) (b46 : Nat) (b47 : Int32) (b48 : Nat) (b49 : Nat) (b50 : Nat) (b51 : Nat) (b52 : Nat) (b53 : Int32) (b54 : Nat) (b55 : Nat) (b56 : Nat) (b57 : Nat → Int32) (hb1 : zI b1 0 19) (hb8 : zI b8 0 8) (hb10 : zI b10 0 240) (hb11 : zI b11 0 240) (hb13 : zI b13 0 1) (hb17 : zI b17 0 12) (hb30 : zI b30 0 1) (hb33 : zI b33 0 1) (hb44 : zI b44 0 1000) (hb47 : zI b47 0 1000) (hb53 : zI b53 0 400) (hb57 : zW5 b57) : zM l G y_Model_howOften prog_14_method_74_code 5 (Option.some Jvm.ClassFile.FieldType.int) m_s1_Model_howOften [.ref b0, .int b1, .int b2] [(b0, .inr (12, [.int b3, .ref b4, .ref b5, .ref b6, .ref b7, .int b8, .ref b9, .int b10, .int b11, .int b12, .int b13, .ref b14, .ref b15, .ref b16, .int b17, .ref b18, .ref b19, .ref b20, .ref b21, .ref b22, .ref b23, .ref b24, .ref b25, .ref b26, .ref b27, .ref b28, .ref b29, .int b30, .ref b31, .ref b32, .int b33, .int b34, .int b35, .int b36, .ref b37, .ref b38, .ref b39, .ref b40, .ref b41, .ref b42, .ref b43, .int b44, .ref b45, .ref b46, .int b47, .ref b48, .ref b49, .ref b50, .ref b51, .ref b52, .int b53, .ref b54, .ref b55, .ref b56])), (b4, .inl (G.2 0, 503, .inl b57))] (fun v w => ∃ (e0 : Int32), v = some (.int e0) ∧ w = [(b0, .inr (12, [.int b3, .ref b4, .ref b5, .ref b6, .ref b7, .int b8, .ref b9, .int b10, .int b11, .int b12, .int b13, .ref b14, .ref b15, .ref b16, .int b17, .ref b18, .ref b19, .ref b20, .ref b21, .ref b22, .ref b23, .ref b24, .ref b25, .ref b26, .ref b27, .ref b28, .ref b29, .int b30, .ref b31, .ref b32, .int b33, .int b34, .int b35, .int b36, .ref b37, .ref b38, .ref b39, .ref b40, .ref b41, .ref b42, .ref b43, .int b44, .ref b45, .ref b46, .int b47, .ref b48, .ref b49, .ref b50, .ref b51, .ref b52, .int b53, .ref b54, .ref b55, .ref b56])), (b4, .inl (G.2 0, 503, .inl b57))]) := by
  refine z_start (by decide +kernel) (Nat.le_of_ble_eq_true rfl) ?_
  intro p e s m below meth c A Z hr hnm hA hP hD hS ls hl
  have Z : zC p s m _ meth c prog_14_method_74_code 5 "TraceMachinesModel" G := Z
  obtain ⟨hx, hb, hml, hown, hts, hK, hN, hlocks⟩ := id Z
  have hl : lv_has ls 5 [(0, .ref b0), (1, .int b1), (2, .int b2)] := hl
  refine lv_iconst (v := 0) hx hb d_Model_howOften_0 (by decide) ?_
  refine lv_istore_n (lv' := [(3, .int 0), (0, .ref b0), (1, .int b1), (2, .int b2)]) hx hb d_Model_howOften_1 rfl hl (by decide) rfl (fun ls hl => ?_)
  refine lv_iconst (v := 0) hx hb d_Model_howOften_2 (by decide) ?_
  refine lv_istore (lv' := [(4, .int 0), (3, .int 0), (0, .ref b0), (1, .int b1), (2, .int b2)]) hx hb d_Model_howOften_3 hl (by decide) rfl (fun ls hl => ?_)
  suffices key : ∀ (k_21 : Nat) (y_22 : Int32) (y_23 : Int32) (H : Heap) (locs : List Loc) (ls : Array Slot), (zI y_22 0 12) → (12 : Int) - y_22.toInt < (k_21 : Int) → va_P G.1 classes [(b0, .inr (12, [.int b3, .ref b4, .ref b5, .ref b6, .ref b7, .int b8, .ref b9, .int b10, .int b11, .int b12, .int b13, .ref b14, .ref b15, .ref b16, .int b17, .ref b18, .ref b19, .ref b20, .ref b21, .ref b22, .ref b23, .ref b24, .ref b25, .ref b26, .ref b27, .ref b28, .ref b29, .int b30, .ref b31, .ref b32, .int b33, .int b34, .int b35, .int b36, .ref b37, .ref b38, .ref b39, .ref b40, .ref b41, .ref b42, .ref b43, .int b44, .ref b45, .ref b46, .int b47, .ref b48, .ref b49, .ref b50, .ref b51, .ref b52, .int b53, .ref b54, .ref b55, .ref b56])), (b4, .inl (G.2 0, 503, .inl b57))] H → va_D A [(b0, .inr (12, [.int b3, .ref b4, .ref b5, .ref b6, .ref b7, .int b8, .ref b9, .int b10, .int b11, .int b12, .int b13, .ref b14, .ref b15, .ref b16, .int b17, .ref b18, .ref b19, .ref b20, .ref b21, .ref b22, .ref b23, .ref b24, .ref b25, .ref b26, .ref b27, .ref b28, .ref b29, .int b30, .ref b31, .ref b32, .int b33, .int b34, .int b35, .int b36, .ref b37, .ref b38, .ref b39, .ref b40, .ref b41, .ref b42, .ref b43, .int b44, .ref b45, .ref b46, .int b47, .ref b48, .ref b49, .ref b50, .ref b51, .ref b52, .int b53, .ref b54, .ref b55, .ref b56])), (b4, .inl (G.2 0, 503, .inl b57))] → va_S A s.heap H locs → lv_has ls 5 [(4, .int y_22), (3, .int y_23), (0, .ref b0), (1, .int b1), (2, .int b2)] → W p l e m_s1_Model_howOften s m ([.ref b0, .int b1, .int b2] : List Value).toArray below meth c H locs 0 0 (MQ below (zQ G (fun v w => ∃ (e0 : Int32), v = some (.int e0) ∧ w = [(b0, .inr (12, [.int b3, .ref b4, .ref b5, .ref b6, .ref b7, .int b8, .ref b9, .int b10, .int b11, .int b12, .int b13, .ref b14, .ref b15, .ref b16, .int b17, .ref b18, .ref b19, .ref b20, .ref b21, .ref b22, .ref b23, .ref b24, .ref b25, .ref b26, .ref b27, .ref b28, .ref b29, .int b30, .ref b31, .ref b32, .int b33, .int b34, .int b35, .int b36, .ref b37, .ref b38, .ref b39, .ref b40, .ref b41, .ref b42, .ref b43, .int b44, .ref b45, .ref b46, .int b47, .ref b48, .ref b49, .ref b50, .ref b51, .ref b52, .int b53, .ref b54, .ref b55, .ref b56])), (b4, .inl (G.2 0, 503, .inl b57))]) A) ([.ref b0, .int b1, .int b2] : List Value).toArray s m_s1_Model_howOften.cells m_s1_Model_howOften.slots A) (F0 m 5 ls []) by
    exact key 13 (0) (0) _ _ _ (zI.wk (l' := 0) (h' := 12) zc_0 (by decide)) (zm_upi (zI.wk (l' := 0) (h' := 12) zc_0 (by decide)) (by decide)) hP hD hS (lv_sub hl [0, 1, 2, 3, 4] rfl)
  intro k_21
  induction k_21 with
  | zero =>
    intro y_22 y_23 H locs ls hy_22 hmk_21 hP hD hS hl
    exact (zm_up0 hy_22 hmk_21).elim
  | succ k_21 ihk_21 =>
    intro y_22 y_23 H locs ls hy_22 hmk_21 hP hD hS hl
    refine lv_iload hx hb d_Model_howOften_5 (lv_at hl 0 rfl) ?_
    refine lv_aload_n hx hb d_Model_howOften_7 rfl (lv_at hl 2 rfl) ?_
    refine lv_iload_n hx hb d_Model_howOften_8 rfl (lv_at hl 3 rfl) ?_
    refine z_callV (index := 203) (As := [.int b1]) (rest := [.int y_22]) (wr := []) Z (s1_Model_calls l G (b0) (b1) (b3) (b4) (b5) (b6) (b7) (b8) (b9) (b10) (b11) (b12) (b13) (b14) (b15) (b16) (b17) (b18) (b19) (b20) (b21) (b22) (b23) (b24) (b25) (b26) (b27) (b28) (b29) (b30) (b31) (b32) (b33) (b34) (b35) (b36) (b37) (b38) (b39) (b40) (b41) (b42) (b43) (b44) (b45) (b46) (b47) (b48) (b49) (b50) (b51) (b52) (b53) (b54) (b55) (b56) (b57) hb1 hb8 hb10 hb11 hb13 hb17 hb30 hb33 hb44 hb47 hb53 hb57) hl.1 q1352 q1354 qs54 q14 q1355 ⟨by decide, by decide, by show _ = some 1; decide +kernel⟩ ⟨Nat.le_of_ble_eq_true rfl, Nat.le_of_ble_eq_true rfl⟩ ⟨Nat.le_of_ble_eq_true rfl, Nat.le_of_ble_eq_true rfl⟩ rfl (Nat.le_of_ble_eq_true rfl) d_Model_howOften_9 hP hD hS hA 0 12 rfl rfl rfl [0, 1] [] rfl rfl rfl rfl (by decide) (fun v w1 H locs hw_24 hP hD hS => ?_)
    obtain ⟨x_25, rfl, rfl, hx_25, hfx_26⟩ := hw_24
    have hP : va_P G.1 classes [(b0, .inr (12, [.int b3, .ref b4, .ref b5, .ref b6, .ref b7, .int b8, .ref b9, .int b10, .int b11, .int b12, .int b13, .ref b14, .ref b15, .ref b16, .int b17, .ref b18, .ref b19, .ref b20, .ref b21, .ref b22, .ref b23, .ref b24, .ref b25, .ref b26, .ref b27, .ref b28, .ref b29, .int b30, .ref b31, .ref b32, .int b33, .int b34, .int b35, .int b36, .ref b37, .ref b38, .ref b39, .ref b40, .ref b41, .ref b42, .ref b43, .int b44, .ref b45, .ref b46, .int b47, .ref b48, .ref b49, .ref b50, .ref b51, .ref b52, .int b53, .ref b54, .ref b55, .ref b56])), (b4, .inl (G.2 0, 503, .inl b57))] H := hP
    have hD := z_tie hP hD rfl
    refine W.widen (k := 0) (n := 0) (Nat.le_of_ble_eq_true rfl) (Nat.le_of_ble_eq_true rfl) ?_
    refine lv_icmp_ge (tgt := 40) hx hb d_Model_howOften_12 (by decide) (fun hc_27 => ?_) (fun hc_27 => ?_)
    · have _nhc_27 := hc_27
      have ni_28 := (fa_le _ _).mp hc_27
      refine lv_iload_n hx hb d_Model_howOften_40 rfl (lv_at hl 1 rfl) ?_
      exact z_iret hx hb hr hlocks hP hD hS (Nat.le_of_ble_eq_true rfl) (Nat.le_of_ble_eq_true rfl) d_Model_howOften_41 ⟨y_23, rfl, rfl⟩
    · have _nhc_27 := hc_27
      have ni_29 := (fa_lt _ _).mp (zi_nle hc_27)
      have hv_30 : zI y_22 0 11 := zI.lt_l hy_22 hx_25 (zi_nle hc_27) (by decide)
      have hv_31 : zI x_25 1 12 := zI.lt_r hy_22 hx_25 (zi_nle hc_27) (by decide)
      refine lv_iload_n hx hb d_Model_howOften_15 rfl (lv_at hl 1 rfl) ?_
      refine lv_aload_n hx hb d_Model_howOften_16 rfl (lv_at hl 2 rfl) ?_
      refine lv_iload_n hx hb d_Model_howOften_17 rfl (lv_at hl 3 rfl) ?_
      refine lv_iload hx hb d_Model_howOften_18 (lv_at hl 0 rfl) ?_
      refine z_callV (index := 207) (As := [.int b1, .int y_22]) (rest := [.int y_23]) (wr := []) Z (s1_Model_letterAt l G (b0) (b1) (y_22) (b3) (b4) (b5) (b6) (b7) (b8) (b9) (b10) (b11) (b12) (b13) (b14) (b15) (b16) (b17) (b18) (b19) (b20) (b21) (b22) (b23) (b24) (b25) (b26) (b27) (b28) (b29) (b30) (b31) (b32) (b33) (b34) (b35) (b36) (b37) (b38) (b39) (b40) (b41) (b42) (b43) (b44) (b45) (b46) (b47) (b48) (b49) (b50) (b51) (b52) (b53) (b54) (b55) (b56) (b57) hb1 hv_30 hb8 hb10 hb11 hb13 hb17 hb30 hb33 hb44 hb47 hb53 hb57) hl.1 q1372 q1374 qs59 q14 q1375 ⟨by decide, by decide, by show _ = some 2; decide +kernel⟩ ⟨Nat.le_of_ble_eq_true rfl, Nat.le_of_ble_eq_true rfl⟩ ⟨Nat.le_of_ble_eq_true rfl, Nat.le_of_ble_eq_true rfl⟩ rfl (Nat.le_of_ble_eq_true rfl) d_Model_howOften_20 hP hD hS hA 0 12 rfl rfl rfl [0, 1] [] rfl rfl rfl rfl (by decide) (fun v w1 H locs hw_32 hP hD hS => ?_)
      obtain ⟨x_33, rfl, rfl, hx_33⟩ := hw_32
      have hP : va_P G.1 classes [(b0, .inr (12, [.int b3, .ref b4, .ref b5, .ref b6, .ref b7, .int b8, .ref b9, .int b10, .int b11, .int b12, .int b13, .ref b14, .ref b15, .ref b16, .int b17, .ref b18, .ref b19, .ref b20, .ref b21, .ref b22, .ref b23, .ref b24, .ref b25, .ref b26, .ref b27, .ref b28, .ref b29, .int b30, .ref b31, .ref b32, .int b33, .int b34, .int b35, .int b36, .ref b37, .ref b38, .ref b39, .ref b40, .ref b41, .ref b42, .ref b43, .int b44, .ref b45, .ref b46, .int b47, .ref b48, .ref b49, .ref b50, .ref b51, .ref b52, .int b53, .ref b54, .ref b55, .ref b56])), (b4, .inl (G.2 0, 503, .inl b57))] H := hP
      have hD := z_tie hP hD rfl
      refine W.widen (k := 0) (n := 0) (Nat.le_of_ble_eq_true rfl) (Nat.le_of_ble_eq_true rfl) ?_
      refine lv_iload_n hx hb d_Model_howOften_23 rfl (lv_at hl 4 rfl) ?_
      refine lv_icmp_ne (tgt := 31) hx hb d_Model_howOften_24 (by decide) (fun hc_34 => ?_) (fun hc_34 => ?_)
      · have _nhc_34 := hc_34
        have ni_35 : ¬ (x_33 : Int32).toInt = (b2 : Int32).toInt := fun z => hc_34 ((fa_eq _ _).mpr z)
        refine lv_iconst (v := 0) hx hb d_Model_howOften_31 (by decide) ?_
        refine lv_iadd hx hb d_Model_howOften_32 ?_
        refine lv_topi (fun v_36 ev_36 => ?_)
        obtain ⟨qv_36, hv_36⟩ := zI_add (l := -2147483648) (h := 2147483647) (zI_all y_23) zc_0 ev_36 (by decide)
        rw [li_0] at qv_36
        refine lv_istore_n (lv' := [(3, .int v_36), (4, .int y_22), (0, .ref b0), (1, .int b1), (2, .int b2)]) hx hb d_Model_howOften_33 rfl hl (by decide) rfl (fun ls hl => ?_)
        obtain ⟨v_37, ev_37⟩ : ∃ z : Int32, z = y_22 + 1 := ⟨_, rfl⟩
        obtain ⟨qv_37, hv_37⟩ := zI_add (l := 1) (h := 12) hv_30 zc_1 ev_37 (by decide)
        rw [li_1] at qv_37
        refine lv_iinc (v := v_37) (lv' := [(4, .int v_37), (3, .int v_36), (0, .ref b0), (1, .int b1), (2, .int b2)]) hx hb d_Model_howOften_34 hl (k := 1) rfl (by rw [ev_37]; rfl) (by decide) rfl (fun ls hl => ?_)
        refine lv_goto (tgt := 5) hx hb d_Model_howOften_37 (by decide) ?_
        exact ihk_21 (v_37) (v_36) _ _ _ (zI.wk (l' := 0) (h' := 12) hv_37 (by decide)) (zm_up qv_37 hmk_21 (by decide)) hP hD hS (lv_sub hl [0, 1, 2, 3, 4] rfl)
      · have _nhc_34 := hc_34
        have ni_38 := (fa_eq _ _).mp hc_34
        have hv_39 : zI b2 0 9 := zI.eq_l (zI_all b2) hx_33 hc_34.symm
        refine lv_iconst (v := 1) hx hb d_Model_howOften_27 (by decide) ?_
        refine lv_goto (tgt := 32) hx hb d_Model_howOften_28 (by decide) ?_
        refine lv_iadd hx hb d_Model_howOften_32 ?_
        refine lv_topi (fun v_40 ev_40 => ?_)
        refine lv_istore_n (lv' := [(3, .int v_40), (4, .int y_22), (0, .ref b0), (1, .int b1), (2, .int b2)]) hx hb d_Model_howOften_33 rfl hl (by decide) rfl (fun ls hl => ?_)
        obtain ⟨v_41, ev_41⟩ : ∃ z : Int32, z = y_22 + 1 := ⟨_, rfl⟩
        obtain ⟨qv_41, hv_41⟩ := zI_add (l := 1) (h := 12) hv_30 zc_1 ev_41 (by decide)
        rw [li_1] at qv_41
        refine lv_iinc (v := v_41) (lv' := [(4, .int v_41), (3, .int v_40), (0, .ref b0), (1, .int b1), (2, .int b2)]) hx hb d_Model_howOften_34 hl (k := 1) rfl (by rw [ev_41]; rfl) (by decide) rfl (fun ls hl => ?_)
        refine lv_goto (tgt := 5) hx hb d_Model_howOften_37 (by decide) ?_
        exact ihk_21 (v_41) (v_40) _ _ _ (zI.wk (l' := 0) (h' := 12) hv_41 (by decide)) (zm_up qv_41 hmk_21 (by decide)) hP hD hS (lv_sub hl [0, 1, 2, 3, 4] rfl)
theorem d_Model_rightBehind_0 : decode prog_14_method_75_code 0 = .ok (.iconst 1, 1) := by decide +kernel
theorem d_Model_rightBehind_1 : decode prog_14_method_75_code 1 = .ok (.istore 4, 2) := by decide +kernel
theorem d_Model_rightBehind_3 : decode prog_14_method_75_code 3 = .ok (.iconst 0, 1) := by decide +kernel
theorem d_Model_rightBehind_4 : decode prog_14_method_75_code 4 = .ok (.istore 5, 2) := by decide +kernel
theorem d_Model_rightBehind_6 : decode prog_14_method_75_code 6 = .ok (.iload 5, 2) := by decide +kernel
theorem d_Model_rightBehind_8 : decode prog_14_method_75_code 8 = .ok (.aload_n 0, 1) := by decide +kernel
theorem d_Model_rightBehind_9 : decode prog_14_method_75_code 9 = .ok (.iload_n 1, 1) := by decide +kernel
theorem d_Model_rightBehind_10 : decode prog_14_method_75_code 10 = .ok (.invokevirtual 203, 3) := by decide +kernel
theorem d_Model_rightBehind_13 : decode prog_14_method_75_code 13 = .ok (.if_icmp .ge 57, 3) := by decide +kernel
theorem d_Model_rightBehind_16 : decode prog_14_method_75_code 16 = .ok (.iload 4, 2) := by decide +kernel
theorem d_Model_rightBehind_18 : decode prog_14_method_75_code 18 = .ok (.ifCond .eq 43, 3) := by decide +kernel
theorem d_Model_rightBehind_21 : decode prog_14_method_75_code 21 = .ok (.aload_n 0, 1) := by decide +kernel
theorem d_Model_rightBehind_22 : decode prog_14_method_75_code 22 = .ok (.iload_n 1, 1) := by decide +kernel
theorem d_Model_rightBehind_23 : decode prog_14_method_75_code 23 = .ok (.iload 5, 2) := by decide +kernel
theorem d_Model_rightBehind_25 : decode prog_14_method_75_code 25 = .ok (.invokevirtual 207, 3) := by decide +kernel
theorem d_Model_rightBehind_28 : decode prog_14_method_75_code 28 = .ok (.iload_n 2, 1) := by decide +kernel
theorem d_Model_rightBehind_29 : decode prog_14_method_75_code 29 = .ok (.if_icmp .ne 28, 3) := by decide +kernel
theorem d_Model_rightBehind_32 : decode prog_14_method_75_code 32 = .ok (.iload 5, 2) := by decide +kernel
theorem d_Model_rightBehind_34 : decode prog_14_method_75_code 34 = .ok (.iconst 1, 1) := by decide +kernel
theorem d_Model_rightBehind_35 : decode prog_14_method_75_code 35 = .ok (.iadd, 1) := by decide +kernel
theorem d_Model_rightBehind_36 : decode prog_14_method_75_code 36 = .ok (.aload_n 0, 1) := by decide +kernel
theorem d_Model_rightBehind_37 : decode prog_14_method_75_code 37 = .ok (.iload_n 1, 1) := by decide +kernel
theorem d_Model_rightBehind_38 : decode prog_14_method_75_code 38 = .ok (.invokevirtual 203, 3) := by decide +kernel
theorem d_Model_rightBehind_41 : decode prog_14_method_75_code 41 = .ok (.if_icmp .ge 20, 3) := by decide +kernel
theorem d_Model_rightBehind_44 : decode prog_14_method_75_code 44 = .ok (.aload_n 0, 1) := by decide +kernel
theorem d_Model_rightBehind_45 : decode prog_14_method_75_code 45 = .ok (.iload_n 1, 1) := by decide +kernel
theorem d_Model_rightBehind_46 : decode prog_14_method_75_code 46 = .ok (.iload 5, 2) := by decide +kernel
theorem d_Model_rightBehind_48 : decode prog_14_method_75_code 48 = .ok (.iconst 1, 1) := by decide +kernel
theorem d_Model_rightBehind_49 : decode prog_14_method_75_code 49 = .ok (.iadd, 1) := by decide +kernel
theorem d_Model_rightBehind_50 : decode prog_14_method_75_code 50 = .ok (.invokevirtual 207, 3) := by decide +kernel
theorem d_Model_rightBehind_53 : decode prog_14_method_75_code 53 = .ok (.iload_n 3, 1) := by decide +kernel
theorem d_Model_rightBehind_54 : decode prog_14_method_75_code 54 = .ok (.if_icmp .ne 7, 3) := by decide +kernel
theorem d_Model_rightBehind_57 : decode prog_14_method_75_code 57 = .ok (.iconst 1, 1) := by decide +kernel
theorem d_Model_rightBehind_58 : decode prog_14_method_75_code 58 = .ok (.goto 4, 3) := by decide +kernel
theorem d_Model_rightBehind_61 : decode prog_14_method_75_code 61 = .ok (.iconst 0, 1) := by decide +kernel
theorem d_Model_rightBehind_62 : decode prog_14_method_75_code 62 = .ok (.istore 4, 2) := by decide +kernel
theorem d_Model_rightBehind_64 : decode prog_14_method_75_code 64 = .ok (.iinc 5 1, 3) := by decide +kernel
theorem d_Model_rightBehind_67 : decode prog_14_method_75_code 67 = .ok (.goto (-61), 3) := by decide +kernel
theorem d_Model_rightBehind_70 : decode prog_14_method_75_code 70 = .ok (.iload 4, 2) := by decide +kernel
theorem d_Model_rightBehind_72 : decode prog_14_method_75_code 72 = .ok (.ireturn, 1) := by decide +kernel
abbrev m_s1_Model_rightBehind : Room := { frames := 1, cells := 0, slots := 0, locals := 22 }
set_option maxHeartbeats 4000000 in
set_option maxRecDepth 100000 in
theorem s1_Model_rightBehind (l : Launch) (G : zG) (b0 : Nat) (b1 : Int32) (b2 : Int32) (b3 : Int32) (b4 : Int32) (b5 : Nat) (b6 : Nat) (b7 : Nat) (b8 : Nat) (b9 : Int32) (b10 : Nat) (b11 : Int32) (b12 : Int32) (b13 : Int32) (b14 : Int32) (b15 : Nat) (b16 : Nat) (b17 : Nat) (b18 : Int32) (b19 : Nat) (b20 : Nat) (b21 : Nat) (b22 : Nat) (b23 : Nat) (b24 : Nat) (b25 : Nat) (b26 : Nat) (b27 : Nat) (b28 : Nat) (b29 : Nat) (b30 : Nat) (b31 : Int32) (b32 : Nat) (b33 : Nat) (b34 : Int32) (b35 : Int32) (b36 : Int32) (b37 : Int32) (b38 : Nat) (b39 : Nat) (b40 : Nat) (b41 : Nat) (b42 : Nat) (b43 : Nat) (b44 : Nat) (b45 : Int32) (b46 : Nat) (b47 : Nat) (b48 : Int32) (b49 : Nat) (b50 : Nat) (b51 : Nat) (b52 : Nat) (b53 : Nat) (b54 : Int32) (b55 : Nat) (b56 : Nat) (b57 : Nat) (b58 : Nat → Int32) (hb1 : zI b1 0 19) (hb9 : zI b9 0 8) (hb11 : zI b11 0 240) (hb12 : zI b12 0 240) (hb14 : zI b14 0 1) (hb18 : zI b18 0 12) (hb31 : zI b31 0 1) (hb34 : zI b34 0 1) (hb45 : zI b45 0 1000) (hb48 : zI b48 0 1000) (hb54 : zI b54 0 400) (hb58 : zW5 b58) : zM l G y_Model_rightBehind prog_14_method_75_code 6 (Option.some Jvm.ClassFile.FieldType.boolean) m_s1_Model_rightBehind [.ref b0, .int b1, .int b2, .int b3] [(b0, .inr (12, [.int b4, .ref b5, .ref b6, .ref b7, .ref b8, .int b9, .ref b10, .int b11, .int b12, .int b13, .int b14, .ref b15, .ref b16, .ref b17, .int b18, .ref b19, .ref b20, .ref b21, .ref b22, .ref b23, .ref b24, .ref b25, .ref b26, .ref b27, .ref b28, .ref b29, .ref b30, .int b31, .ref b32, .ref b33, .int b34, .int b35, .int b36, .int b37, .ref b38, .ref b39, .ref b40, .ref b41, .ref b42, .ref b43, .ref b44, .int b45, .ref b46, .ref b47, .int b48, .ref b49, .ref b50, .ref b51, .ref b52, .ref b53, .int b54, .ref b55, .ref b56, .ref b57])), (b5, .inl (G.2 0, 503, .inl b58))] (fun v w => ∃ (e0 : Int32), v = some (.int e0) ∧ w = [(b0, .inr (12, [.int b4, .ref b5, .ref b6, .ref b7, .ref b8, .int b9, .ref b10, .int b11, .int b12, .int b13, .int b14, .ref b15, .ref b16, .ref b17, .int b18, .ref b19, .ref b20, .ref b21, .ref b22, .ref b23, .ref b24, .ref b25, .ref b26, .ref b27, .ref b28, .ref b29, .ref b30, .int b31, .ref b32, .ref b33, .int b34, .int b35, .int b36, .int b37, .ref b38, .ref b39, .ref b40, .ref b41, .ref b42, .ref b43, .ref b44, .int b45, .ref b46, .ref b47, .int b48, .ref b49, .ref b50, .ref b51, .ref b52, .ref b53, .int b54, .ref b55, .ref b56, .ref b57])), (b5, .inl (G.2 0, 503, .inl b58))] ∧ (zI e0 0 1)) := by
  refine z_start (by decide +kernel) (Nat.le_of_ble_eq_true rfl) ?_
  intro p e s m below meth c A Z hr hnm hA hP hD hS ls hl
  have Z : zC p s m _ meth c prog_14_method_75_code 6 "TraceMachinesModel" G := Z
  obtain ⟨hx, hb, hml, hown, hts, hK, hN, hlocks⟩ := id Z
  have hl : lv_has ls 6 [(0, .ref b0), (1, .int b1), (2, .int b2), (3, .int b3)] := hl
  refine lv_iconst (v := 1) hx hb d_Model_rightBehind_0 (by decide) ?_
  refine lv_istore (lv' := [(4, .int 1), (0, .ref b0), (1, .int b1), (2, .int b2), (3, .int b3)]) hx hb d_Model_rightBehind_1 hl (by decide) rfl (fun ls hl => ?_)
  refine lv_iconst (v := 0) hx hb d_Model_rightBehind_3 (by decide) ?_
  refine lv_istore (lv' := [(5, .int 0), (4, .int 1), (0, .ref b0), (1, .int b1), (2, .int b2), (3, .int b3)]) hx hb d_Model_rightBehind_4 hl (by decide) rfl (fun ls hl => ?_)
  suffices key : ∀ (k_44 : Nat) (y_45 : Int32) (y_46 : Int32) (H : Heap) (locs : List Loc) (ls : Array Slot), (zI y_45 0 12) → (zI y_46 0 1) → (12 : Int) - y_45.toInt < (k_44 : Int) → va_P G.1 classes [(b0, .inr (12, [.int b4, .ref b5, .ref b6, .ref b7, .ref b8, .int b9, .ref b10, .int b11, .int b12, .int b13, .int b14, .ref b15, .ref b16, .ref b17, .int b18, .ref b19, .ref b20, .ref b21, .ref b22, .ref b23, .ref b24, .ref b25, .ref b26, .ref b27, .ref b28, .ref b29, .ref b30, .int b31, .ref b32, .ref b33, .int b34, .int b35, .int b36, .int b37, .ref b38, .ref b39, .ref b40, .ref b41, .ref b42, .ref b43, .ref b44, .int b45, .ref b46, .ref b47, .int b48, .ref b49, .ref b50, .ref b51, .ref b52, .ref b53, .int b54, .ref b55, .ref b56, .ref b57])), (b5, .inl (G.2 0, 503, .inl b58))] H → va_D A [(b0, .inr (12, [.int b4, .ref b5, .ref b6, .ref b7, .ref b8, .int b9, .ref b10, .int b11, .int b12, .int b13, .int b14, .ref b15, .ref b16, .ref b17, .int b18, .ref b19, .ref b20, .ref b21, .ref b22, .ref b23, .ref b24, .ref b25, .ref b26, .ref b27, .ref b28, .ref b29, .ref b30, .int b31, .ref b32, .ref b33, .int b34, .int b35, .int b36, .int b37, .ref b38, .ref b39, .ref b40, .ref b41, .ref b42, .ref b43, .ref b44, .int b45, .ref b46, .ref b47, .int b48, .ref b49, .ref b50, .ref b51, .ref b52, .ref b53, .int b54, .ref b55, .ref b56, .ref b57])), (b5, .inl (G.2 0, 503, .inl b58))] → va_S A s.heap H locs → lv_has ls 6 [(5, .int y_45), (4, .int y_46), (0, .ref b0), (1, .int b1), (2, .int b2), (3, .int b3)] → W p l e m_s1_Model_rightBehind s m ([.ref b0, .int b1, .int b2, .int b3] : List Value).toArray below meth c H locs 0 0 (MQ below (zQ G (fun v w => ∃ (e0 : Int32), v = some (.int e0) ∧ w = [(b0, .inr (12, [.int b4, .ref b5, .ref b6, .ref b7, .ref b8, .int b9, .ref b10, .int b11, .int b12, .int b13, .int b14, .ref b15, .ref b16, .ref b17, .int b18, .ref b19, .ref b20, .ref b21, .ref b22, .ref b23, .ref b24, .ref b25, .ref b26, .ref b27, .ref b28, .ref b29, .ref b30, .int b31, .ref b32, .ref b33, .int b34, .int b35, .int b36, .int b37, .ref b38, .ref b39, .ref b40, .ref b41, .ref b42, .ref b43, .ref b44, .int b45, .ref b46, .ref b47, .int b48, .ref b49, .ref b50, .ref b51, .ref b52, .ref b53, .int b54, .ref b55, .ref b56, .ref b57])), (b5, .inl (G.2 0, 503, .inl b58))] ∧ (zI e0 0 1)) A) ([.ref b0, .int b1, .int b2, .int b3] : List Value).toArray s m_s1_Model_rightBehind.cells m_s1_Model_rightBehind.slots A) (F0 m 6 ls []) by
    exact key 13 (0) (1) _ _ _ (zI.wk (l' := 0) (h' := 12) zc_0 (by decide)) (zI.wk (l' := 0) (h' := 1) zc_1 (by decide)) (zm_upi (zI.wk (l' := 0) (h' := 12) zc_0 (by decide)) (by decide)) hP hD hS (lv_sub hl [0, 1, 2, 3, 4, 5] rfl)
  intro k_44
  induction k_44 with
  | zero =>
    intro y_45 y_46 H locs ls hy_45 hy_46 hmk_44 hP hD hS hl
    exact (zm_up0 hy_45 hmk_44).elim
  | succ k_44 ihk_44 =>
    intro y_45 y_46 H locs ls hy_45 hy_46 hmk_44 hP hD hS hl
    refine lv_iload hx hb d_Model_rightBehind_6 (lv_at hl 0 rfl) ?_
    refine lv_aload_n hx hb d_Model_rightBehind_8 rfl (lv_at hl 2 rfl) ?_
    refine lv_iload_n hx hb d_Model_rightBehind_9 rfl (lv_at hl 3 rfl) ?_
    refine z_callV (index := 203) (As := [.int b1]) (rest := [.int y_45]) (wr := []) Z (s1_Model_calls l G (b0) (b1) (b4) (b5) (b6) (b7) (b8) (b9) (b10) (b11) (b12) (b13) (b14) (b15) (b16) (b17) (b18) (b19) (b20) (b21) (b22) (b23) (b24) (b25) (b26) (b27) (b28) (b29) (b30) (b31) (b32) (b33) (b34) (b35) (b36) (b37) (b38) (b39) (b40) (b41) (b42) (b43) (b44) (b45) (b46) (b47) (b48) (b49) (b50) (b51) (b52) (b53) (b54) (b55) (b56) (b57) (b58) hb1 hb9 hb11 hb12 hb14 hb18 hb31 hb34 hb45 hb48 hb54 hb58) hl.1 q1352 q1354 qs54 q14 q1355 ⟨by decide, by decide, by show _ = some 1; decide +kernel⟩ ⟨Nat.le_of_ble_eq_true rfl, Nat.le_of_ble_eq_true rfl⟩ ⟨Nat.le_of_ble_eq_true rfl, Nat.le_of_ble_eq_true rfl⟩ rfl (Nat.le_of_ble_eq_true rfl) d_Model_rightBehind_10 hP hD hS hA 0 12 rfl rfl rfl [0, 1] [] rfl rfl rfl rfl (by decide) (fun v w1 H locs hw_47 hP hD hS => ?_)
    obtain ⟨x_48, rfl, rfl, hx_48, hfx_49⟩ := hw_47
    have hP : va_P G.1 classes [(b0, .inr (12, [.int b4, .ref b5, .ref b6, .ref b7, .ref b8, .int b9, .ref b10, .int b11, .int b12, .int b13, .int b14, .ref b15, .ref b16, .ref b17, .int b18, .ref b19, .ref b20, .ref b21, .ref b22, .ref b23, .ref b24, .ref b25, .ref b26, .ref b27, .ref b28, .ref b29, .ref b30, .int b31, .ref b32, .ref b33, .int b34, .int b35, .int b36, .int b37, .ref b38, .ref b39, .ref b40, .ref b41, .ref b42, .ref b43, .ref b44, .int b45, .ref b46, .ref b47, .int b48, .ref b49, .ref b50, .ref b51, .ref b52, .ref b53, .int b54, .ref b55, .ref b56, .ref b57])), (b5, .inl (G.2 0, 503, .inl b58))] H := hP
    have hD := z_tie hP hD rfl
    refine W.widen (k := 0) (n := 0) (Nat.le_of_ble_eq_true rfl) (Nat.le_of_ble_eq_true rfl) ?_
    refine lv_icmp_ge (tgt := 70) hx hb d_Model_rightBehind_13 (by decide) (fun hc_50 => ?_) (fun hc_50 => ?_)
    · have _nhc_50 := hc_50
      have ni_51 := (fa_le _ _).mp hc_50
      refine lv_iload hx hb d_Model_rightBehind_70 (lv_at hl 1 rfl) ?_
      exact z_zret hx hb hr hlocks (zi_nb hy_46) hP hD hS (Nat.le_of_ble_eq_true rfl) (Nat.le_of_ble_eq_true rfl) d_Model_rightBehind_72 ⟨y_46, rfl, rfl, hy_46⟩
    · have _nhc_50 := hc_50
      have ni_52 := (fa_lt _ _).mp (zi_nle hc_50)
      have hv_53 : zI y_45 0 11 := zI.lt_l hy_45 hx_48 (zi_nle hc_50) (by decide)
      have hv_54 : zI x_48 1 12 := zI.lt_r hy_45 hx_48 (zi_nle hc_50) (by decide)
      refine lv_iload hx hb d_Model_rightBehind_16 (lv_at hl 1 rfl) ?_
      refine lv_if_eq (tgt := 61) hx hb d_Model_rightBehind_18 (by decide) (fun hc_55 => ?_) (fun hc_55 => ?_)
      · have _nhc_55 := hc_55
        have ni_56 := (fa_eq _ _).mp hc_55
        rw [li_0] at ni_56
        have hv_57 : zI y_46 0 0 := zI.eq_l hy_46 zc_0 hc_55
        refine lv_iconst (v := 0) hx hb d_Model_rightBehind_61 (by decide) ?_
        refine lv_istore (lv' := [(4, .int 0), (5, .int y_45), (0, .ref b0), (1, .int b1), (2, .int b2), (3, .int b3)]) hx hb d_Model_rightBehind_62 hl (by decide) rfl (fun ls hl => ?_)
        obtain ⟨v_58, ev_58⟩ : ∃ z : Int32, z = y_45 + 1 := ⟨_, rfl⟩
        obtain ⟨qv_58, hv_58⟩ := zI_add (l := 1) (h := 12) hv_53 zc_1 ev_58 (by decide)
        rw [li_1] at qv_58
        refine lv_iinc (v := v_58) (lv' := [(5, .int v_58), (4, .int 0), (0, .ref b0), (1, .int b1), (2, .int b2), (3, .int b3)]) hx hb d_Model_rightBehind_64 hl (k := 1) rfl (by rw [ev_58]; rfl) (by decide) rfl (fun ls hl => ?_)
        refine lv_goto (tgt := 6) hx hb d_Model_rightBehind_67 (by decide) ?_
        exact ihk_44 (v_58) (0) _ _ _ (zI.wk (l' := 0) (h' := 12) hv_58 (by decide)) (zI.wk (l' := 0) (h' := 1) zc_0 (by decide)) (zm_up qv_58 hmk_44 (by decide)) hP hD hS (lv_sub hl [0, 1, 2, 3, 4, 5] rfl)
      · have _nhc_55 := hc_55
        have ni_59 : ¬ (y_46 : Int32).toInt = (0 : Int32).toInt := fun z => hc_55 ((fa_eq _ _).mpr z)
        simp only [li_0] at ni_59
        have hv_60 : zI y_46 1 1 := zI.ne_lo hy_46 zc_0 hc_55 (by decide)
        refine lv_aload_n hx hb d_Model_rightBehind_21 rfl (lv_at hl 2 rfl) ?_
        refine lv_iload_n hx hb d_Model_rightBehind_22 rfl (lv_at hl 3 rfl) ?_
        refine lv_iload hx hb d_Model_rightBehind_23 (lv_at hl 0 rfl) ?_
        refine z_callV (index := 207) (As := [.int b1, .int y_45]) (rest := []) (wr := []) Z (s1_Model_letterAt l G (b0) (b1) (y_45) (b4) (b5) (b6) (b7) (b8) (b9) (b10) (b11) (b12) (b13) (b14) (b15) (b16) (b17) (b18) (b19) (b20) (b21) (b22) (b23) (b24) (b25) (b26) (b27) (b28) (b29) (b30) (b31) (b32) (b33) (b34) (b35) (b36) (b37) (b38) (b39) (b40) (b41) (b42) (b43) (b44) (b45) (b46) (b47) (b48) (b49) (b50) (b51) (b52) (b53) (b54) (b55) (b56) (b57) (b58) hb1 hv_53 hb9 hb11 hb12 hb14 hb18 hb31 hb34 hb45 hb48 hb54 hb58) hl.1 q1372 q1374 qs59 q14 q1375 ⟨by decide, by decide, by show _ = some 2; decide +kernel⟩ ⟨Nat.le_of_ble_eq_true rfl, Nat.le_of_ble_eq_true rfl⟩ ⟨Nat.le_of_ble_eq_true rfl, Nat.le_of_ble_eq_true rfl⟩ rfl (Nat.le_of_ble_eq_true rfl) d_Model_rightBehind_25 hP hD hS hA 0 12 rfl rfl rfl [0, 1] [] rfl rfl rfl rfl (by decide) (fun v w1 H locs hw_61 hP hD hS => ?_)
        obtain ⟨x_62, rfl, rfl, hx_62⟩ := hw_61
        have hP : va_P G.1 classes [(b0, .inr (12, [.int b4, .ref b5, .ref b6, .ref b7, .ref b8, .int b9, .ref b10, .int b11, .int b12, .int b13, .int b14, .ref b15, .ref b16, .ref b17, .int b18, .ref b19, .ref b20, .ref b21, .ref b22, .ref b23, .ref b24, .ref b25, .ref b26, .ref b27, .ref b28, .ref b29, .ref b30, .int b31, .ref b32, .ref b33, .int b34, .int b35, .int b36, .int b37, .ref b38, .ref b39, .ref b40, .ref b41, .ref b42, .ref b43, .ref b44, .int b45, .ref b46, .ref b47, .int b48, .ref b49, .ref b50, .ref b51, .ref b52, .ref b53, .int b54, .ref b55, .ref b56, .ref b57])), (b5, .inl (G.2 0, 503, .inl b58))] H := hP
        have hD := z_tie hP hD rfl
        refine W.widen (k := 0) (n := 0) (Nat.le_of_ble_eq_true rfl) (Nat.le_of_ble_eq_true rfl) ?_
        refine lv_iload_n hx hb d_Model_rightBehind_28 rfl (lv_at hl 4 rfl) ?_
        refine lv_icmp_ne (tgt := 57) hx hb d_Model_rightBehind_29 (by decide) (fun hc_63 => ?_) (fun hc_63 => ?_)
        · have _nhc_63 := hc_63
          have ni_64 : ¬ (x_62 : Int32).toInt = (b2 : Int32).toInt := fun z => hc_63 ((fa_eq _ _).mpr z)
          refine lv_iconst (v := 1) hx hb d_Model_rightBehind_57 (by decide) ?_
          refine lv_goto (tgt := 62) hx hb d_Model_rightBehind_58 (by decide) ?_
          refine lv_istore (lv' := [(4, .int 1), (5, .int y_45), (0, .ref b0), (1, .int b1), (2, .int b2), (3, .int b3)]) hx hb d_Model_rightBehind_62 hl (by decide) rfl (fun ls hl => ?_)
          obtain ⟨v_65, ev_65⟩ : ∃ z : Int32, z = y_45 + 1 := ⟨_, rfl⟩
          obtain ⟨qv_65, hv_65⟩ := zI_add (l := 1) (h := 12) hv_53 zc_1 ev_65 (by decide)
          rw [li_1] at qv_65
          refine lv_iinc (v := v_65) (lv' := [(5, .int v_65), (4, .int 1), (0, .ref b0), (1, .int b1), (2, .int b2), (3, .int b3)]) hx hb d_Model_rightBehind_64 hl (k := 1) rfl (by rw [ev_65]; rfl) (by decide) rfl (fun ls hl => ?_)
          refine lv_goto (tgt := 6) hx hb d_Model_rightBehind_67 (by decide) ?_
          exact ihk_44 (v_65) (1) _ _ _ (zI.wk (l' := 0) (h' := 12) hv_65 (by decide)) (zI.wk (l' := 0) (h' := 1) zc_1 (by decide)) (zm_up qv_65 hmk_44 (by decide)) hP hD hS (lv_sub hl [0, 1, 2, 3, 4, 5] rfl)
        · have _nhc_63 := hc_63
          have ni_66 := (fa_eq _ _).mp hc_63
          have hv_67 : zI b2 0 9 := zI.eq_l (zI_all b2) hx_62 hc_63.symm
          refine lv_iload hx hb d_Model_rightBehind_32 (lv_at hl 0 rfl) ?_
          refine lv_iconst (v := 1) hx hb d_Model_rightBehind_34 (by decide) ?_
          refine lv_iadd hx hb d_Model_rightBehind_35 ?_
          refine lv_topi (fun v_68 ev_68 => ?_)
          obtain ⟨qv_68, hv_68⟩ := zI_add (l := 1) (h := 12) hv_53 zc_1 ev_68 (by decide)
          rw [li_1] at qv_68
          refine lv_aload_n hx hb d_Model_rightBehind_36 rfl (lv_at hl 2 rfl) ?_
          refine lv_iload_n hx hb d_Model_rightBehind_37 rfl (lv_at hl 3 rfl) ?_
          refine z_callV (index := 203) (As := [.int b1]) (rest := [.int v_68]) (wr := []) Z (s1_Model_calls l G (b0) (b1) (b4) (b5) (b6) (b7) (b8) (b9) (b10) (b11) (b12) (b13) (b14) (b15) (b16) (b17) (b18) (b19) (b20) (b21) (b22) (b23) (b24) (b25) (b26) (b27) (b28) (b29) (b30) (b31) (b32) (b33) (b34) (b35) (b36) (b37) (b38) (b39) (b40) (b41) (b42) (b43) (b44) (b45) (b46) (b47) (b48) (b49) (b50) (b51) (b52) (b53) (b54) (b55) (b56) (b57) (b58) hb1 hb9 hb11 hb12 hb14 hb18 hb31 hb34 hb45 hb48 hb54 hb58) hl.1 q1352 q1354 qs54 q14 q1355 ⟨by decide, by decide, by show _ = some 1; decide +kernel⟩ ⟨Nat.le_of_ble_eq_true rfl, Nat.le_of_ble_eq_true rfl⟩ ⟨Nat.le_of_ble_eq_true rfl, Nat.le_of_ble_eq_true rfl⟩ rfl (Nat.le_of_ble_eq_true rfl) d_Model_rightBehind_38 hP hD hS hA 0 12 rfl rfl rfl [0, 1] [] rfl rfl rfl rfl (by decide) (fun v w1 H locs hw_69 hP hD hS => ?_)
          obtain ⟨x_70, rfl, rfl, hx_70, hfx_71⟩ := hw_69
          have hP : va_P G.1 classes [(b0, .inr (12, [.int b4, .ref b5, .ref b6, .ref b7, .ref b8, .int b9, .ref b10, .int b11, .int b12, .int b13, .int b14, .ref b15, .ref b16, .ref b17, .int b18, .ref b19, .ref b20, .ref b21, .ref b22, .ref b23, .ref b24, .ref b25, .ref b26, .ref b27, .ref b28, .ref b29, .ref b30, .int b31, .ref b32, .ref b33, .int b34, .int b35, .int b36, .int b37, .ref b38, .ref b39, .ref b40, .ref b41, .ref b42, .ref b43, .ref b44, .int b45, .ref b46, .ref b47, .int b48, .ref b49, .ref b50, .ref b51, .ref b52, .ref b53, .int b54, .ref b55, .ref b56, .ref b57])), (b5, .inl (G.2 0, 503, .inl b58))] H := hP
          have hD := z_tie hP hD rfl
          refine W.widen (k := 0) (n := 0) (Nat.le_of_ble_eq_true rfl) (Nat.le_of_ble_eq_true rfl) ?_
          refine lv_icmp_ge (tgt := 61) hx hb d_Model_rightBehind_41 (by decide) (fun hc_72 => ?_) (fun hc_72 => ?_)
          · have _nhc_72 := hc_72
            have ni_73 := (fa_le _ _).mp hc_72
            refine lv_iconst (v := 0) hx hb d_Model_rightBehind_61 (by decide) ?_
            refine lv_istore (lv' := [(4, .int 0), (5, .int y_45), (0, .ref b0), (1, .int b1), (2, .int b2), (3, .int b3)]) hx hb d_Model_rightBehind_62 hl (by decide) rfl (fun ls hl => ?_)
            obtain ⟨v_74, ev_74⟩ : ∃ z : Int32, z = y_45 + 1 := ⟨_, rfl⟩
            obtain ⟨qv_74, hv_74⟩ := zI_add (l := 1) (h := 12) hv_53 zc_1 ev_74 (by decide)
            rw [li_1] at qv_74
            refine lv_iinc (v := v_74) (lv' := [(5, .int v_74), (4, .int 0), (0, .ref b0), (1, .int b1), (2, .int b2), (3, .int b3)]) hx hb d_Model_rightBehind_64 hl (k := 1) rfl (by rw [ev_74]; rfl) (by decide) rfl (fun ls hl => ?_)
            refine lv_goto (tgt := 6) hx hb d_Model_rightBehind_67 (by decide) ?_
            exact ihk_44 (v_74) (0) _ _ _ (zI.wk (l' := 0) (h' := 12) hv_74 (by decide)) (zI.wk (l' := 0) (h' := 1) zc_0 (by decide)) (zm_up qv_74 hmk_44 (by decide)) hP hD hS (lv_sub hl [0, 1, 2, 3, 4, 5] rfl)
          · have _nhc_72 := hc_72
            have ni_75 := (fa_lt _ _).mp (zi_nle hc_72)
            have hv_76 : zI v_68 1 11 := zI.lt_l hv_68 hx_70 (zi_nle hc_72) (by decide)
            have hv_77 : zI y_45 0 10 := by have _a := hv_76; have _b := qv_68; have _c := zc_1; have _d := hv_53; exact ⟨by omega, by omega⟩
            have hv_78 : zI x_70 2 12 := zI.lt_r hv_68 hx_70 (zi_nle hc_72) (by decide)
            refine lv_aload_n hx hb d_Model_rightBehind_44 rfl (lv_at hl 2 rfl) ?_
            refine lv_iload_n hx hb d_Model_rightBehind_45 rfl (lv_at hl 3 rfl) ?_
            refine lv_iload hx hb d_Model_rightBehind_46 (lv_at hl 0 rfl) ?_
            refine lv_iconst (v := 1) hx hb d_Model_rightBehind_48 (by decide) ?_
            refine lv_iadd hx hb d_Model_rightBehind_49 ?_
            refine lv_topi (fun v_79 ev_79 => ?_)
            obtain rfl : v_68 = v_79 := ev_68.trans ev_79.symm
            refine z_callV (index := 207) (As := [.int b1, .int v_68]) (rest := []) (wr := []) Z (s1_Model_letterAt l G (b0) (b1) (v_68) (b4) (b5) (b6) (b7) (b8) (b9) (b10) (b11) (b12) (b13) (b14) (b15) (b16) (b17) (b18) (b19) (b20) (b21) (b22) (b23) (b24) (b25) (b26) (b27) (b28) (b29) (b30) (b31) (b32) (b33) (b34) (b35) (b36) (b37) (b38) (b39) (b40) (b41) (b42) (b43) (b44) (b45) (b46) (b47) (b48) (b49) (b50) (b51) (b52) (b53) (b54) (b55) (b56) (b57) (b58) hb1 (zI.wk (l' := 0) (h' := 11) hv_76 (by decide)) hb9 hb11 hb12 hb14 hb18 hb31 hb34 hb45 hb48 hb54 hb58) hl.1 q1372 q1374 qs59 q14 q1375 ⟨by decide, by decide, by show _ = some 2; decide +kernel⟩ ⟨Nat.le_of_ble_eq_true rfl, Nat.le_of_ble_eq_true rfl⟩ ⟨Nat.le_of_ble_eq_true rfl, Nat.le_of_ble_eq_true rfl⟩ rfl (Nat.le_of_ble_eq_true rfl) d_Model_rightBehind_50 hP hD hS hA 0 12 rfl rfl rfl [0, 1] [] rfl rfl rfl rfl (by decide) (fun v w1 H locs hw_80 hP hD hS => ?_)
            obtain ⟨x_81, rfl, rfl, hx_81⟩ := hw_80
            have hP : va_P G.1 classes [(b0, .inr (12, [.int b4, .ref b5, .ref b6, .ref b7, .ref b8, .int b9, .ref b10, .int b11, .int b12, .int b13, .int b14, .ref b15, .ref b16, .ref b17, .int b18, .ref b19, .ref b20, .ref b21, .ref b22, .ref b23, .ref b24, .ref b25, .ref b26, .ref b27, .ref b28, .ref b29, .ref b30, .int b31, .ref b32, .ref b33, .int b34, .int b35, .int b36, .int b37, .ref b38, .ref b39, .ref b40, .ref b41, .ref b42, .ref b43, .ref b44, .int b45, .ref b46, .ref b47, .int b48, .ref b49, .ref b50, .ref b51, .ref b52, .ref b53, .int b54, .ref b55, .ref b56, .ref b57])), (b5, .inl (G.2 0, 503, .inl b58))] H := hP
            have hD := z_tie hP hD rfl
            refine W.widen (k := 0) (n := 0) (Nat.le_of_ble_eq_true rfl) (Nat.le_of_ble_eq_true rfl) ?_
            refine lv_iload_n hx hb d_Model_rightBehind_53 rfl (lv_at hl 5 rfl) ?_
            refine lv_icmp_ne (tgt := 61) hx hb d_Model_rightBehind_54 (by decide) (fun hc_82 => ?_) (fun hc_82 => ?_)
            · have _nhc_82 := hc_82
              have ni_83 : ¬ (x_81 : Int32).toInt = (b3 : Int32).toInt := fun z => hc_82 ((fa_eq _ _).mpr z)
              refine lv_iconst (v := 0) hx hb d_Model_rightBehind_61 (by decide) ?_
              refine lv_istore (lv' := [(4, .int 0), (5, .int y_45), (0, .ref b0), (1, .int b1), (2, .int b2), (3, .int b3)]) hx hb d_Model_rightBehind_62 hl (by decide) rfl (fun ls hl => ?_)
              obtain ⟨v_84, ev_84⟩ : ∃ z : Int32, z = y_45 + 1 := ⟨_, rfl⟩
              obtain ⟨qv_84, hv_84⟩ := zI_add (l := 1) (h := 11) hv_77 zc_1 ev_84 (by decide)
              rw [li_1] at qv_84
              refine lv_iinc (v := v_84) (lv' := [(5, .int v_84), (4, .int 0), (0, .ref b0), (1, .int b1), (2, .int b2), (3, .int b3)]) hx hb d_Model_rightBehind_64 hl (k := 1) rfl (by rw [ev_84]; rfl) (by decide) rfl (fun ls hl => ?_)
              refine lv_goto (tgt := 6) hx hb d_Model_rightBehind_67 (by decide) ?_
              exact ihk_44 (v_84) (0) _ _ _ (zI.wk (l' := 0) (h' := 12) hv_84 (by decide)) (zI.wk (l' := 0) (h' := 1) zc_0 (by decide)) (zm_up qv_84 hmk_44 (by decide)) hP hD hS (lv_sub hl [0, 1, 2, 3, 4, 5] rfl)
            · have _nhc_82 := hc_82
              have ni_85 := (fa_eq _ _).mp hc_82
              have hv_86 : zI b3 0 9 := zI.eq_l (zI_all b3) hx_81 hc_82.symm
              refine lv_iconst (v := 1) hx hb d_Model_rightBehind_57 (by decide) ?_
              refine lv_goto (tgt := 62) hx hb d_Model_rightBehind_58 (by decide) ?_
              refine lv_istore (lv' := [(4, .int 1), (5, .int y_45), (0, .ref b0), (1, .int b1), (2, .int b2), (3, .int b3)]) hx hb d_Model_rightBehind_62 hl (by decide) rfl (fun ls hl => ?_)
              obtain ⟨v_87, ev_87⟩ : ∃ z : Int32, z = y_45 + 1 := ⟨_, rfl⟩
              obtain ⟨qv_87, hv_87⟩ := zI_add (l := 1) (h := 11) hv_77 zc_1 ev_87 (by decide)
              rw [li_1] at qv_87
              refine lv_iinc (v := v_87) (lv' := [(5, .int v_87), (4, .int 1), (0, .ref b0), (1, .int b1), (2, .int b2), (3, .int b3)]) hx hb d_Model_rightBehind_64 hl (k := 1) rfl (by rw [ev_87]; rfl) (by decide) rfl (fun ls hl => ?_)
              refine lv_goto (tgt := 6) hx hb d_Model_rightBehind_67 (by decide) ?_
              exact ihk_44 (v_87) (1) _ _ _ (zI.wk (l' := 0) (h' := 12) hv_87 (by decide)) (zI.wk (l' := 0) (h' := 1) zc_1 (by decide)) (zm_up qv_87 hmk_44 (by decide)) hP hD hS (lv_sub hl [0, 1, 2, 3, 4, 5] rfl)
theorem d_Model_inTurn_0 : decode prog_14_method_76_code 0 = .ok (.iconst 1, 1) := by decide +kernel
theorem d_Model_inTurn_1 : decode prog_14_method_76_code 1 = .ok (.istore 4, 2) := by decide +kernel
theorem d_Model_inTurn_3 : decode prog_14_method_76_code 3 = .ok (.iload_n 2, 1) := by decide +kernel
theorem d_Model_inTurn_4 : decode prog_14_method_76_code 4 = .ok (.istore 5, 2) := by decide +kernel
theorem d_Model_inTurn_6 : decode prog_14_method_76_code 6 = .ok (.iconst 0, 1) := by decide +kernel
theorem d_Model_inTurn_7 : decode prog_14_method_76_code 7 = .ok (.istore 6, 2) := by decide +kernel
theorem d_Model_inTurn_9 : decode prog_14_method_76_code 9 = .ok (.iload 6, 2) := by decide +kernel
theorem d_Model_inTurn_11 : decode prog_14_method_76_code 11 = .ok (.aload_n 0, 1) := by decide +kernel
theorem d_Model_inTurn_12 : decode prog_14_method_76_code 12 = .ok (.iload_n 1, 1) := by decide +kernel
theorem d_Model_inTurn_13 : decode prog_14_method_76_code 13 = .ok (.invokevirtual 203, 3) := by decide +kernel
theorem d_Model_inTurn_16 : decode prog_14_method_76_code 16 = .ok (.if_icmp .ge 62, 3) := by decide +kernel
theorem d_Model_inTurn_19 : decode prog_14_method_76_code 19 = .ok (.aload_n 0, 1) := by decide +kernel
theorem d_Model_inTurn_20 : decode prog_14_method_76_code 20 = .ok (.iload_n 1, 1) := by decide +kernel
theorem d_Model_inTurn_21 : decode prog_14_method_76_code 21 = .ok (.iload 6, 2) := by decide +kernel
theorem d_Model_inTurn_23 : decode prog_14_method_76_code 23 = .ok (.invokevirtual 207, 3) := by decide +kernel
theorem d_Model_inTurn_26 : decode prog_14_method_76_code 26 = .ok (.istore 7, 2) := by decide +kernel
theorem d_Model_inTurn_28 : decode prog_14_method_76_code 28 = .ok (.iload 7, 2) := by decide +kernel
theorem d_Model_inTurn_30 : decode prog_14_method_76_code 30 = .ok (.iload_n 2, 1) := by decide +kernel
theorem d_Model_inTurn_31 : decode prog_14_method_76_code 31 = .ok (.if_icmp .eq 9, 3) := by decide +kernel
theorem d_Model_inTurn_34 : decode prog_14_method_76_code 34 = .ok (.iload 7, 2) := by decide +kernel
theorem d_Model_inTurn_36 : decode prog_14_method_76_code 36 = .ok (.iload_n 3, 1) := by decide +kernel
theorem d_Model_inTurn_37 : decode prog_14_method_76_code 37 = .ok (.if_icmp .ne 35, 3) := by decide +kernel
theorem d_Model_inTurn_40 : decode prog_14_method_76_code 40 = .ok (.iload 4, 2) := by decide +kernel
theorem d_Model_inTurn_42 : decode prog_14_method_76_code 42 = .ok (.ifCond .eq 14, 3) := by decide +kernel
theorem d_Model_inTurn_45 : decode prog_14_method_76_code 45 = .ok (.iload 7, 2) := by decide +kernel
theorem d_Model_inTurn_47 : decode prog_14_method_76_code 47 = .ok (.iload 5, 2) := by decide +kernel
theorem d_Model_inTurn_49 : decode prog_14_method_76_code 49 = .ok (.if_icmp .ne 7, 3) := by decide +kernel
theorem d_Model_inTurn_52 : decode prog_14_method_76_code 52 = .ok (.iconst 1, 1) := by decide +kernel
theorem d_Model_inTurn_53 : decode prog_14_method_76_code 53 = .ok (.goto 4, 3) := by decide +kernel
theorem d_Model_inTurn_56 : decode prog_14_method_76_code 56 = .ok (.iconst 0, 1) := by decide +kernel
theorem d_Model_inTurn_57 : decode prog_14_method_76_code 57 = .ok (.istore 4, 2) := by decide +kernel
theorem d_Model_inTurn_59 : decode prog_14_method_76_code 59 = .ok (.iload 7, 2) := by decide +kernel
theorem d_Model_inTurn_61 : decode prog_14_method_76_code 61 = .ok (.iload_n 2, 1) := by decide +kernel
theorem d_Model_inTurn_62 : decode prog_14_method_76_code 62 = .ok (.if_icmp .ne 7, 3) := by decide +kernel
theorem d_Model_inTurn_65 : decode prog_14_method_76_code 65 = .ok (.iload_n 3, 1) := by decide +kernel
theorem d_Model_inTurn_66 : decode prog_14_method_76_code 66 = .ok (.goto 4, 3) := by decide +kernel
theorem d_Model_inTurn_69 : decode prog_14_method_76_code 69 = .ok (.iload_n 2, 1) := by decide +kernel
theorem d_Model_inTurn_70 : decode prog_14_method_76_code 70 = .ok (.istore 5, 2) := by decide +kernel
theorem d_Model_inTurn_72 : decode prog_14_method_76_code 72 = .ok (.iinc 6 1, 3) := by decide +kernel
theorem d_Model_inTurn_75 : decode prog_14_method_76_code 75 = .ok (.goto (-66), 3) := by decide +kernel
theorem d_Model_inTurn_78 : decode prog_14_method_76_code 78 = .ok (.iload 4, 2) := by decide +kernel
theorem d_Model_inTurn_80 : decode prog_14_method_76_code 80 = .ok (.ifCond .eq 13, 3) := by decide +kernel
theorem d_Model_inTurn_83 : decode prog_14_method_76_code 83 = .ok (.iload 5, 2) := by decide +kernel
theorem d_Model_inTurn_85 : decode prog_14_method_76_code 85 = .ok (.iload_n 2, 1) := by decide +kernel
theorem d_Model_inTurn_86 : decode prog_14_method_76_code 86 = .ok (.if_icmp .ne 7, 3) := by decide +kernel
theorem d_Model_inTurn_89 : decode prog_14_method_76_code 89 = .ok (.iconst 1, 1) := by decide +kernel
theorem d_Model_inTurn_90 : decode prog_14_method_76_code 90 = .ok (.goto 4, 3) := by decide +kernel
theorem d_Model_inTurn_93 : decode prog_14_method_76_code 93 = .ok (.iconst 0, 1) := by decide +kernel
theorem d_Model_inTurn_94 : decode prog_14_method_76_code 94 = .ok (.ireturn, 1) := by decide +kernel
abbrev m_s1_Model_inTurn : Room := { frames := 1, cells := 0, slots := 0, locals := 22 }
set_option maxHeartbeats 4000000 in
set_option maxRecDepth 100000 in
theorem s1_Model_inTurn (l : Launch) (G : zG) (b0 : Nat) (b1 : Int32) (b2 : Int32) (b3 : Int32) (b4 : Int32) (b5 : Nat) (b6 : Nat) (b7 : Nat) (b8 : Nat) (b9 : Int32) (b10 : Nat) (b11 : Int32) (b12 : Int32) (b13 : Int32) (b14 : Int32) (b15 : Nat) (b16 : Nat) (b17 : Nat) (b18 : Int32) (b19 : Nat) (b20 : Nat) (b21 : Nat) (b22 : Nat) (b23 : Nat) (b24 : Nat) (b25 : Nat) (b26 : Nat) (b27 : Nat) (b28 : Nat) (b29 : Nat) (b30 : Nat) (b31 : Int32) (b32 : Nat) (b33 : Nat) (b34 : Int32) (b35 : Int32) (b36 : Int32) (b37 : Int32) (b38 : Nat) (b39 : Nat) (b40 : Nat) (b41 : Nat) (b42 : Nat) (b43 : Nat) (b44 : Nat) (b45 : Int32) (b46 : Nat) (b47 : Nat) (b48 : Int32) (b49 : Nat) (b50 : Nat) (b51 : Nat) (b52 : Nat) (b53 : Nat) (b54 : Int32) (b55 : Nat) (b56 : Nat) (b57 : Nat) (b58 : Nat → Int32) (hb1 : zI b1 0 19) (hb9 : zI b9 0 8) (hb11 : zI b11 0 240) (hb12 : zI b12 0 240) (hb14 : zI b14 0 1) (hb18 : zI b18 0 12) (hb31 : zI b31 0 1) (hb34 : zI b34 0 1) (hb45 : zI b45 0 1000) (hb48 : zI b48 0 1000) (hb54 : zI b54 0 400) (hb58 : zW5 b58) : zM l G y_Model_inTurn prog_14_method_76_code 8 (Option.some Jvm.ClassFile.FieldType.boolean) m_s1_Model_inTurn [.ref b0, .int b1, .int b2, .int b3] [(b0, .inr (12, [.int b4, .ref b5, .ref b6, .ref b7, .ref b8, .int b9, .ref b10, .int b11, .int b12, .int b13, .int b14, .ref b15, .ref b16, .ref b17, .int b18, .ref b19, .ref b20, .ref b21, .ref b22, .ref b23, .ref b24, .ref b25, .ref b26, .ref b27, .ref b28, .ref b29, .ref b30, .int b31, .ref b32, .ref b33, .int b34, .int b35, .int b36, .int b37, .ref b38, .ref b39, .ref b40, .ref b41, .ref b42, .ref b43, .ref b44, .int b45, .ref b46, .ref b47, .int b48, .ref b49, .ref b50, .ref b51, .ref b52, .ref b53, .int b54, .ref b55, .ref b56, .ref b57])), (b5, .inl (G.2 0, 503, .inl b58))] (fun v w => ∃ (e0 : Int32), v = some (.int e0) ∧ w = [(b0, .inr (12, [.int b4, .ref b5, .ref b6, .ref b7, .ref b8, .int b9, .ref b10, .int b11, .int b12, .int b13, .int b14, .ref b15, .ref b16, .ref b17, .int b18, .ref b19, .ref b20, .ref b21, .ref b22, .ref b23, .ref b24, .ref b25, .ref b26, .ref b27, .ref b28, .ref b29, .ref b30, .int b31, .ref b32, .ref b33, .int b34, .int b35, .int b36, .int b37, .ref b38, .ref b39, .ref b40, .ref b41, .ref b42, .ref b43, .ref b44, .int b45, .ref b46, .ref b47, .int b48, .ref b49, .ref b50, .ref b51, .ref b52, .ref b53, .int b54, .ref b55, .ref b56, .ref b57])), (b5, .inl (G.2 0, 503, .inl b58))] ∧ (zI e0 0 1)) := by
  refine z_start (by decide +kernel) (Nat.le_of_ble_eq_true rfl) ?_
  intro p e s m below meth c A Z hr hnm hA hP hD hS ls hl
  have Z : zC p s m _ meth c prog_14_method_76_code 8 "TraceMachinesModel" G := Z
  obtain ⟨hx, hb, hml, hown, hts, hK, hN, hlocks⟩ := id Z
  have hl : lv_has ls 8 [(0, .ref b0), (1, .int b1), (2, .int b2), (3, .int b3)] := hl
  refine lv_iconst (v := 1) hx hb d_Model_inTurn_0 (by decide) ?_
  refine lv_istore (lv' := [(4, .int 1), (0, .ref b0), (1, .int b1), (2, .int b2), (3, .int b3)]) hx hb d_Model_inTurn_1 hl (by decide) rfl (fun ls hl => ?_)
  refine lv_iload_n hx hb d_Model_inTurn_3 rfl (lv_at hl 3 rfl) ?_
  refine lv_istore (lv' := [(5, .int b2), (4, .int 1), (0, .ref b0), (1, .int b1), (2, .int b2), (3, .int b3)]) hx hb d_Model_inTurn_4 hl (by decide) rfl (fun ls hl => ?_)
  refine lv_iconst (v := 0) hx hb d_Model_inTurn_6 (by decide) ?_
  refine lv_istore (lv' := [(6, .int 0), (5, .int b2), (4, .int 1), (0, .ref b0), (1, .int b1), (2, .int b2), (3, .int b3)]) hx hb d_Model_inTurn_7 hl (by decide) rfl (fun ls hl => ?_)
  suffices key : ∀ (k_82 : Nat) (y_83 : Int32) (y_84 : Int32) (y_85 : Int32) (H : Heap) (locs : List Loc) (ls : Array Slot), (zI y_83 0 12) → (zI y_84 0 1) → (12 : Int) - y_83.toInt < (k_82 : Int) → va_P G.1 classes [(b0, .inr (12, [.int b4, .ref b5, .ref b6, .ref b7, .ref b8, .int b9, .ref b10, .int b11, .int b12, .int b13, .int b14, .ref b15, .ref b16, .ref b17, .int b18, .ref b19, .ref b20, .ref b21, .ref b22, .ref b23, .ref b24, .ref b25, .ref b26, .ref b27, .ref b28, .ref b29, .ref b30, .int b31, .ref b32, .ref b33, .int b34, .int b35, .int b36, .int b37, .ref b38, .ref b39, .ref b40, .ref b41, .ref b42, .ref b43, .ref b44, .int b45, .ref b46, .ref b47, .int b48, .ref b49, .ref b50, .ref b51, .ref b52, .ref b53, .int b54, .ref b55, .ref b56, .ref b57])), (b5, .inl (G.2 0, 503, .inl b58))] H → va_D A [(b0, .inr (12, [.int b4, .ref b5, .ref b6, .ref b7, .ref b8, .int b9, .ref b10, .int b11, .int b12, .int b13, .int b14, .ref b15, .ref b16, .ref b17, .int b18, .ref b19, .ref b20, .ref b21, .ref b22, .ref b23, .ref b24, .ref b25, .ref b26, .ref b27, .ref b28, .ref b29, .ref b30, .int b31, .ref b32, .ref b33, .int b34, .int b35, .int b36, .int b37, .ref b38, .ref b39, .ref b40, .ref b41, .ref b42, .ref b43, .ref b44, .int b45, .ref b46, .ref b47, .int b48, .ref b49, .ref b50, .ref b51, .ref b52, .ref b53, .int b54, .ref b55, .ref b56, .ref b57])), (b5, .inl (G.2 0, 503, .inl b58))] → va_S A s.heap H locs → lv_has ls 8 [(6, .int y_83), (5, .int y_85), (4, .int y_84), (0, .ref b0), (1, .int b1), (2, .int b2), (3, .int b3)] → W p l e m_s1_Model_inTurn s m ([.ref b0, .int b1, .int b2, .int b3] : List Value).toArray below meth c H locs 0 0 (MQ below (zQ G (fun v w => ∃ (e0 : Int32), v = some (.int e0) ∧ w = [(b0, .inr (12, [.int b4, .ref b5, .ref b6, .ref b7, .ref b8, .int b9, .ref b10, .int b11, .int b12, .int b13, .int b14, .ref b15, .ref b16, .ref b17, .int b18, .ref b19, .ref b20, .ref b21, .ref b22, .ref b23, .ref b24, .ref b25, .ref b26, .ref b27, .ref b28, .ref b29, .ref b30, .int b31, .ref b32, .ref b33, .int b34, .int b35, .int b36, .int b37, .ref b38, .ref b39, .ref b40, .ref b41, .ref b42, .ref b43, .ref b44, .int b45, .ref b46, .ref b47, .int b48, .ref b49, .ref b50, .ref b51, .ref b52, .ref b53, .int b54, .ref b55, .ref b56, .ref b57])), (b5, .inl (G.2 0, 503, .inl b58))] ∧ (zI e0 0 1)) A) ([.ref b0, .int b1, .int b2, .int b3] : List Value).toArray s m_s1_Model_inTurn.cells m_s1_Model_inTurn.slots A) (F0 m 9 ls []) by
    exact key 13 (0) (1) (b2) _ _ _ (zI.wk (l' := 0) (h' := 12) zc_0 (by decide)) (zI.wk (l' := 0) (h' := 1) zc_1 (by decide)) (zm_upi (zI.wk (l' := 0) (h' := 12) zc_0 (by decide)) (by decide)) hP hD hS (lv_sub hl [0, 1, 2, 3, 4, 5, 6] rfl)
  intro k_82
  induction k_82 with
  | zero =>
    intro y_83 y_84 y_85 H locs ls hy_83 hy_84 hmk_82 hP hD hS hl
    exact (zm_up0 hy_83 hmk_82).elim
  | succ k_82 ihk_82 =>
    intro y_83 y_84 y_85 H locs ls hy_83 hy_84 hmk_82 hP hD hS hl
    refine lv_iload hx hb d_Model_inTurn_9 (lv_at hl 0 rfl) ?_
    refine lv_aload_n hx hb d_Model_inTurn_11 rfl (lv_at hl 3 rfl) ?_
    refine lv_iload_n hx hb d_Model_inTurn_12 rfl (lv_at hl 4 rfl) ?_
    refine z_callV (index := 203) (As := [.int b1]) (rest := [.int y_83]) (wr := []) Z (s1_Model_calls l G (b0) (b1) (b4) (b5) (b6) (b7) (b8) (b9) (b10) (b11) (b12) (b13) (b14) (b15) (b16) (b17) (b18) (b19) (b20) (b21) (b22) (b23) (b24) (b25) (b26) (b27) (b28) (b29) (b30) (b31) (b32) (b33) (b34) (b35) (b36) (b37) (b38) (b39) (b40) (b41) (b42) (b43) (b44) (b45) (b46) (b47) (b48) (b49) (b50) (b51) (b52) (b53) (b54) (b55) (b56) (b57) (b58) hb1 hb9 hb11 hb12 hb14 hb18 hb31 hb34 hb45 hb48 hb54 hb58) hl.1 q1352 q1354 qs54 q14 q1355 ⟨by decide, by decide, by show _ = some 1; decide +kernel⟩ ⟨Nat.le_of_ble_eq_true rfl, Nat.le_of_ble_eq_true rfl⟩ ⟨Nat.le_of_ble_eq_true rfl, Nat.le_of_ble_eq_true rfl⟩ rfl (Nat.le_of_ble_eq_true rfl) d_Model_inTurn_13 hP hD hS hA 0 12 rfl rfl rfl [0, 1] [] rfl rfl rfl rfl (by decide) (fun v w1 H locs hw_86 hP hD hS => ?_)
    obtain ⟨x_87, rfl, rfl, hx_87, hfx_88⟩ := hw_86
    have hP : va_P G.1 classes [(b0, .inr (12, [.int b4, .ref b5, .ref b6, .ref b7, .ref b8, .int b9, .ref b10, .int b11, .int b12, .int b13, .int b14, .ref b15, .ref b16, .ref b17, .int b18, .ref b19, .ref b20, .ref b21, .ref b22, .ref b23, .ref b24, .ref b25, .ref b26, .ref b27, .ref b28, .ref b29, .ref b30, .int b31, .ref b32, .ref b33, .int b34, .int b35, .int b36, .int b37, .ref b38, .ref b39, .ref b40, .ref b41, .ref b42, .ref b43, .ref b44, .int b45, .ref b46, .ref b47, .int b48, .ref b49, .ref b50, .ref b51, .ref b52, .ref b53, .int b54, .ref b55, .ref b56, .ref b57])), (b5, .inl (G.2 0, 503, .inl b58))] H := hP
    have hD := z_tie hP hD rfl
    refine W.widen (k := 0) (n := 0) (Nat.le_of_ble_eq_true rfl) (Nat.le_of_ble_eq_true rfl) ?_
    refine lv_icmp_ge (tgt := 78) hx hb d_Model_inTurn_16 (by decide) (fun hc_89 => ?_) (fun hc_89 => ?_)
    · have _nhc_89 := hc_89
      have ni_90 := (fa_le _ _).mp hc_89
      refine lv_iload hx hb d_Model_inTurn_78 (lv_at hl 2 rfl) ?_
      refine lv_if_eq (tgt := 93) hx hb d_Model_inTurn_80 (by decide) (fun hc_91 => ?_) (fun hc_91 => ?_)
      · have _nhc_91 := hc_91
        have ni_92 := (fa_eq _ _).mp hc_91
        rw [li_0] at ni_92
        have hv_93 : zI y_84 0 0 := zI.eq_l hy_84 zc_0 hc_91
        refine lv_iconst (v := 0) hx hb d_Model_inTurn_93 (by decide) ?_
        exact z_zret hx hb hr hlocks rfl hP hD hS (Nat.le_of_ble_eq_true rfl) (Nat.le_of_ble_eq_true rfl) d_Model_inTurn_94 ⟨0, rfl, rfl, (zI.wk (l' := 0) (h' := 1) zc_0 (by decide))⟩
      · have _nhc_91 := hc_91
        have ni_94 : ¬ (y_84 : Int32).toInt = (0 : Int32).toInt := fun z => hc_91 ((fa_eq _ _).mpr z)
        simp only [li_0] at ni_94
        have hv_95 : zI y_84 1 1 := zI.ne_lo hy_84 zc_0 hc_91 (by decide)
        refine lv_iload hx hb d_Model_inTurn_83 (lv_at hl 1 rfl) ?_
        refine lv_iload_n hx hb d_Model_inTurn_85 rfl (lv_at hl 5 rfl) ?_
        refine lv_icmp_ne (tgt := 93) hx hb d_Model_inTurn_86 (by decide) (fun hc_96 => ?_) (fun hc_96 => ?_)
        · have _nhc_96 := hc_96
          have ni_97 : ¬ (y_85 : Int32).toInt = (b2 : Int32).toInt := fun z => hc_96 ((fa_eq _ _).mpr z)
          refine lv_iconst (v := 0) hx hb d_Model_inTurn_93 (by decide) ?_
          exact z_zret hx hb hr hlocks rfl hP hD hS (Nat.le_of_ble_eq_true rfl) (Nat.le_of_ble_eq_true rfl) d_Model_inTurn_94 ⟨0, rfl, rfl, (zI.wk (l' := 0) (h' := 1) zc_0 (by decide))⟩
        · have _nhc_96 := hc_96
          have ni_98 := (fa_eq _ _).mp hc_96
          refine lv_iconst (v := 1) hx hb d_Model_inTurn_89 (by decide) ?_
          refine lv_goto (tgt := 94) hx hb d_Model_inTurn_90 (by decide) ?_
          exact z_zret hx hb hr hlocks rfl hP hD hS (Nat.le_of_ble_eq_true rfl) (Nat.le_of_ble_eq_true rfl) d_Model_inTurn_94 ⟨1, rfl, rfl, (zI.wk (l' := 0) (h' := 1) zc_1 (by decide))⟩
    · have _nhc_89 := hc_89
      have ni_99 := (fa_lt _ _).mp (zi_nle hc_89)
      have hv_100 : zI y_83 0 11 := zI.lt_l hy_83 hx_87 (zi_nle hc_89) (by decide)
      have hv_101 : zI x_87 1 12 := zI.lt_r hy_83 hx_87 (zi_nle hc_89) (by decide)
      refine lv_aload_n hx hb d_Model_inTurn_19 rfl (lv_at hl 3 rfl) ?_
      refine lv_iload_n hx hb d_Model_inTurn_20 rfl (lv_at hl 4 rfl) ?_
      refine lv_iload hx hb d_Model_inTurn_21 (lv_at hl 0 rfl) ?_
      refine z_callV (index := 207) (As := [.int b1, .int y_83]) (rest := []) (wr := []) Z (s1_Model_letterAt l G (b0) (b1) (y_83) (b4) (b5) (b6) (b7) (b8) (b9) (b10) (b11) (b12) (b13) (b14) (b15) (b16) (b17) (b18) (b19) (b20) (b21) (b22) (b23) (b24) (b25) (b26) (b27) (b28) (b29) (b30) (b31) (b32) (b33) (b34) (b35) (b36) (b37) (b38) (b39) (b40) (b41) (b42) (b43) (b44) (b45) (b46) (b47) (b48) (b49) (b50) (b51) (b52) (b53) (b54) (b55) (b56) (b57) (b58) hb1 hv_100 hb9 hb11 hb12 hb14 hb18 hb31 hb34 hb45 hb48 hb54 hb58) hl.1 q1372 q1374 qs59 q14 q1375 ⟨by decide, by decide, by show _ = some 2; decide +kernel⟩ ⟨Nat.le_of_ble_eq_true rfl, Nat.le_of_ble_eq_true rfl⟩ ⟨Nat.le_of_ble_eq_true rfl, Nat.le_of_ble_eq_true rfl⟩ rfl (Nat.le_of_ble_eq_true rfl) d_Model_inTurn_23 hP hD hS hA 0 12 rfl rfl rfl [0, 1] [] rfl rfl rfl rfl (by decide) (fun v w1 H locs hw_102 hP hD hS => ?_)
      obtain ⟨x_103, rfl, rfl, hx_103⟩ := hw_102
      have hP : va_P G.1 classes [(b0, .inr (12, [.int b4, .ref b5, .ref b6, .ref b7, .ref b8, .int b9, .ref b10, .int b11, .int b12, .int b13, .int b14, .ref b15, .ref b16, .ref b17, .int b18, .ref b19, .ref b20, .ref b21, .ref b22, .ref b23, .ref b24, .ref b25, .ref b26, .ref b27, .ref b28, .ref b29, .ref b30, .int b31, .ref b32, .ref b33, .int b34, .int b35, .int b36, .int b37, .ref b38, .ref b39, .ref b40, .ref b41, .ref b42, .ref b43, .ref b44, .int b45, .ref b46, .ref b47, .int b48, .ref b49, .ref b50, .ref b51, .ref b52, .ref b53, .int b54, .ref b55, .ref b56, .ref b57])), (b5, .inl (G.2 0, 503, .inl b58))] H := hP
      have hD := z_tie hP hD rfl
      refine W.widen (k := 0) (n := 0) (Nat.le_of_ble_eq_true rfl) (Nat.le_of_ble_eq_true rfl) ?_
      refine lv_istore (lv' := [(7, .int x_103), (6, .int y_83), (5, .int y_85), (4, .int y_84), (0, .ref b0), (1, .int b1), (2, .int b2), (3, .int b3)]) hx hb d_Model_inTurn_26 hl (by decide) rfl (fun ls hl => ?_)
      refine lv_iload hx hb d_Model_inTurn_28 (lv_at hl 0 rfl) ?_
      refine lv_iload_n hx hb d_Model_inTurn_30 rfl (lv_at hl 6 rfl) ?_
      refine lv_icmp_eq (tgt := 40) hx hb d_Model_inTurn_31 (by decide) (fun hc_104 => ?_) (fun hc_104 => ?_)
      · have _nhc_104 := hc_104
        have ni_105 := (fa_eq _ _).mp hc_104
        have hv_106 : zI b2 0 9 := zI.eq_l (zI_all b2) hx_103 hc_104.symm
        refine lv_iload hx hb d_Model_inTurn_40 (lv_at hl 3 rfl) ?_
        refine lv_if_eq (tgt := 56) hx hb d_Model_inTurn_42 (by decide) (fun hc_107 => ?_) (fun hc_107 => ?_)
        · have _nhc_107 := hc_107
          have ni_108 := (fa_eq _ _).mp hc_107
          rw [li_0] at ni_108
          have hv_109 : zI y_84 0 0 := zI.eq_l hy_84 zc_0 hc_107
          refine lv_iconst (v := 0) hx hb d_Model_inTurn_56 (by decide) ?_
          refine lv_istore (lv' := [(4, .int 0), (7, .int x_103), (6, .int y_83), (5, .int y_85), (0, .ref b0), (1, .int b1), (2, .int b2), (3, .int b3)]) hx hb d_Model_inTurn_57 hl (by decide) rfl (fun ls hl => ?_)
          refine lv_iload hx hb d_Model_inTurn_59 (lv_at hl 1 rfl) ?_
          refine lv_iload_n hx hb d_Model_inTurn_61 rfl (lv_at hl 6 rfl) ?_
          refine lv_icmp_ne (tgt := 69) hx hb d_Model_inTurn_62 (by decide) (fun hc_110 => ?_) (fun hc_110 => ?_)
          · have _nhc_110 := hc_110
            have ni_111 : ¬ (x_103 : Int32).toInt = (b2 : Int32).toInt := fun z => hc_110 ((fa_eq _ _).mpr z)
            refine lv_iload_n hx hb d_Model_inTurn_69 rfl (lv_at hl 6 rfl) ?_
            refine lv_istore (lv' := [(5, .int b2), (4, .int 0), (7, .int x_103), (6, .int y_83), (0, .ref b0), (1, .int b1), (2, .int b2), (3, .int b3)]) hx hb d_Model_inTurn_70 hl (by decide) rfl (fun ls hl => ?_)
            obtain ⟨v_112, ev_112⟩ : ∃ z : Int32, z = y_83 + 1 := ⟨_, rfl⟩
            obtain ⟨qv_112, hv_112⟩ := zI_add (l := 1) (h := 12) hv_100 zc_1 ev_112 (by decide)
            rw [li_1] at qv_112
            refine lv_iinc (v := v_112) (lv' := [(6, .int v_112), (5, .int b2), (4, .int 0), (7, .int x_103), (0, .ref b0), (1, .int b1), (2, .int b2), (3, .int b3)]) hx hb d_Model_inTurn_72 hl (k := 3) rfl (by rw [ev_112]; rfl) (by decide) rfl (fun ls hl => ?_)
            refine lv_goto (tgt := 9) hx hb d_Model_inTurn_75 (by decide) ?_
            exact ihk_82 (v_112) (0) (b2) _ _ _ (zI.wk (l' := 0) (h' := 12) hv_112 (by decide)) (zI.wk (l' := 0) (h' := 1) zc_0 (by decide)) (zm_up qv_112 hmk_82 (by decide)) hP hD hS (lv_sub hl [0, 1, 2, 4, 5, 6, 7] rfl)
          · have _nhc_110 := hc_110
            have ni_113 := (fa_eq _ _).mp hc_110
            refine lv_iload_n hx hb d_Model_inTurn_65 rfl (lv_at hl 7 rfl) ?_
            refine lv_goto (tgt := 70) hx hb d_Model_inTurn_66 (by decide) ?_
            refine lv_istore (lv' := [(5, .int b3), (4, .int 0), (7, .int x_103), (6, .int y_83), (0, .ref b0), (1, .int b1), (2, .int b2), (3, .int b3)]) hx hb d_Model_inTurn_70 hl (by decide) rfl (fun ls hl => ?_)
            obtain ⟨v_114, ev_114⟩ : ∃ z : Int32, z = y_83 + 1 := ⟨_, rfl⟩
            obtain ⟨qv_114, hv_114⟩ := zI_add (l := 1) (h := 12) hv_100 zc_1 ev_114 (by decide)
            rw [li_1] at qv_114
            refine lv_iinc (v := v_114) (lv' := [(6, .int v_114), (5, .int b3), (4, .int 0), (7, .int x_103), (0, .ref b0), (1, .int b1), (2, .int b2), (3, .int b3)]) hx hb d_Model_inTurn_72 hl (k := 3) rfl (by rw [ev_114]; rfl) (by decide) rfl (fun ls hl => ?_)
            refine lv_goto (tgt := 9) hx hb d_Model_inTurn_75 (by decide) ?_
            exact ihk_82 (v_114) (0) (b3) _ _ _ (zI.wk (l' := 0) (h' := 12) hv_114 (by decide)) (zI.wk (l' := 0) (h' := 1) zc_0 (by decide)) (zm_up qv_114 hmk_82 (by decide)) hP hD hS (lv_sub hl [0, 1, 2, 4, 5, 6, 7] rfl)
        · have _nhc_107 := hc_107
          have ni_115 : ¬ (y_84 : Int32).toInt = (0 : Int32).toInt := fun z => hc_107 ((fa_eq _ _).mpr z)
          simp only [li_0] at ni_115
          have hv_116 : zI y_84 1 1 := zI.ne_lo hy_84 zc_0 hc_107 (by decide)
          refine lv_iload hx hb d_Model_inTurn_45 (lv_at hl 0 rfl) ?_
          refine lv_iload hx hb d_Model_inTurn_47 (lv_at hl 2 rfl) ?_
          refine lv_icmp_ne (tgt := 56) hx hb d_Model_inTurn_49 (by decide) (fun hc_117 => ?_) (fun hc_117 => ?_)
          · have _nhc_117 := hc_117
            have ni_118 : ¬ (x_103 : Int32).toInt = (y_85 : Int32).toInt := fun z => hc_117 ((fa_eq _ _).mpr z)
            refine lv_iconst (v := 0) hx hb d_Model_inTurn_56 (by decide) ?_
            refine lv_istore (lv' := [(4, .int 0), (7, .int x_103), (6, .int y_83), (5, .int y_85), (0, .ref b0), (1, .int b1), (2, .int b2), (3, .int b3)]) hx hb d_Model_inTurn_57 hl (by decide) rfl (fun ls hl => ?_)
            refine lv_iload hx hb d_Model_inTurn_59 (lv_at hl 1 rfl) ?_
            refine lv_iload_n hx hb d_Model_inTurn_61 rfl (lv_at hl 6 rfl) ?_
            refine lv_icmp_ne (tgt := 69) hx hb d_Model_inTurn_62 (by decide) (fun hc_119 => ?_) (fun hc_119 => ?_)
            · have _nhc_119 := hc_119
              have ni_120 : ¬ (x_103 : Int32).toInt = (b2 : Int32).toInt := fun z => hc_119 ((fa_eq _ _).mpr z)
              refine lv_iload_n hx hb d_Model_inTurn_69 rfl (lv_at hl 6 rfl) ?_
              refine lv_istore (lv' := [(5, .int b2), (4, .int 0), (7, .int x_103), (6, .int y_83), (0, .ref b0), (1, .int b1), (2, .int b2), (3, .int b3)]) hx hb d_Model_inTurn_70 hl (by decide) rfl (fun ls hl => ?_)
              obtain ⟨v_121, ev_121⟩ : ∃ z : Int32, z = y_83 + 1 := ⟨_, rfl⟩
              obtain ⟨qv_121, hv_121⟩ := zI_add (l := 1) (h := 12) hv_100 zc_1 ev_121 (by decide)
              rw [li_1] at qv_121
              refine lv_iinc (v := v_121) (lv' := [(6, .int v_121), (5, .int b2), (4, .int 0), (7, .int x_103), (0, .ref b0), (1, .int b1), (2, .int b2), (3, .int b3)]) hx hb d_Model_inTurn_72 hl (k := 3) rfl (by rw [ev_121]; rfl) (by decide) rfl (fun ls hl => ?_)
              refine lv_goto (tgt := 9) hx hb d_Model_inTurn_75 (by decide) ?_
              exact ihk_82 (v_121) (0) (b2) _ _ _ (zI.wk (l' := 0) (h' := 12) hv_121 (by decide)) (zI.wk (l' := 0) (h' := 1) zc_0 (by decide)) (zm_up qv_121 hmk_82 (by decide)) hP hD hS (lv_sub hl [0, 1, 2, 4, 5, 6, 7] rfl)
            · have _nhc_119 := hc_119
              have ni_122 := (fa_eq _ _).mp hc_119
              refine lv_iload_n hx hb d_Model_inTurn_65 rfl (lv_at hl 7 rfl) ?_
              refine lv_goto (tgt := 70) hx hb d_Model_inTurn_66 (by decide) ?_
              refine lv_istore (lv' := [(5, .int b3), (4, .int 0), (7, .int x_103), (6, .int y_83), (0, .ref b0), (1, .int b1), (2, .int b2), (3, .int b3)]) hx hb d_Model_inTurn_70 hl (by decide) rfl (fun ls hl => ?_)
              obtain ⟨v_123, ev_123⟩ : ∃ z : Int32, z = y_83 + 1 := ⟨_, rfl⟩
              obtain ⟨qv_123, hv_123⟩ := zI_add (l := 1) (h := 12) hv_100 zc_1 ev_123 (by decide)
              rw [li_1] at qv_123
              refine lv_iinc (v := v_123) (lv' := [(6, .int v_123), (5, .int b3), (4, .int 0), (7, .int x_103), (0, .ref b0), (1, .int b1), (2, .int b2), (3, .int b3)]) hx hb d_Model_inTurn_72 hl (k := 3) rfl (by rw [ev_123]; rfl) (by decide) rfl (fun ls hl => ?_)
              refine lv_goto (tgt := 9) hx hb d_Model_inTurn_75 (by decide) ?_
              exact ihk_82 (v_123) (0) (b3) _ _ _ (zI.wk (l' := 0) (h' := 12) hv_123 (by decide)) (zI.wk (l' := 0) (h' := 1) zc_0 (by decide)) (zm_up qv_123 hmk_82 (by decide)) hP hD hS (lv_sub hl [0, 1, 2, 4, 5, 6, 7] rfl)
          · have _nhc_117 := hc_117
            have ni_124 := (fa_eq _ _).mp hc_117
            have hv_125 : zI y_85 0 9 := zI.eq_l (zI_all y_85) hx_103 hc_117.symm
            refine lv_iconst (v := 1) hx hb d_Model_inTurn_52 (by decide) ?_
            refine lv_goto (tgt := 57) hx hb d_Model_inTurn_53 (by decide) ?_
            refine lv_istore (lv' := [(4, .int 1), (7, .int x_103), (6, .int y_83), (5, .int y_85), (0, .ref b0), (1, .int b1), (2, .int b2), (3, .int b3)]) hx hb d_Model_inTurn_57 hl (by decide) rfl (fun ls hl => ?_)
            refine lv_iload hx hb d_Model_inTurn_59 (lv_at hl 1 rfl) ?_
            refine lv_iload_n hx hb d_Model_inTurn_61 rfl (lv_at hl 6 rfl) ?_
            refine lv_icmp_ne (tgt := 69) hx hb d_Model_inTurn_62 (by decide) (fun hc_126 => ?_) (fun hc_126 => ?_)
            · have _nhc_126 := hc_126
              have ni_127 : ¬ (x_103 : Int32).toInt = (b2 : Int32).toInt := fun z => hc_126 ((fa_eq _ _).mpr z)
              refine lv_iload_n hx hb d_Model_inTurn_69 rfl (lv_at hl 6 rfl) ?_
              refine lv_istore (lv' := [(5, .int b2), (4, .int 1), (7, .int x_103), (6, .int y_83), (0, .ref b0), (1, .int b1), (2, .int b2), (3, .int b3)]) hx hb d_Model_inTurn_70 hl (by decide) rfl (fun ls hl => ?_)
              obtain ⟨v_128, ev_128⟩ : ∃ z : Int32, z = y_83 + 1 := ⟨_, rfl⟩
              obtain ⟨qv_128, hv_128⟩ := zI_add (l := 1) (h := 12) hv_100 zc_1 ev_128 (by decide)
              rw [li_1] at qv_128
              refine lv_iinc (v := v_128) (lv' := [(6, .int v_128), (5, .int b2), (4, .int 1), (7, .int x_103), (0, .ref b0), (1, .int b1), (2, .int b2), (3, .int b3)]) hx hb d_Model_inTurn_72 hl (k := 3) rfl (by rw [ev_128]; rfl) (by decide) rfl (fun ls hl => ?_)
              refine lv_goto (tgt := 9) hx hb d_Model_inTurn_75 (by decide) ?_
              exact ihk_82 (v_128) (1) (b2) _ _ _ (zI.wk (l' := 0) (h' := 12) hv_128 (by decide)) (zI.wk (l' := 0) (h' := 1) zc_1 (by decide)) (zm_up qv_128 hmk_82 (by decide)) hP hD hS (lv_sub hl [0, 1, 2, 4, 5, 6, 7] rfl)
            · have _nhc_126 := hc_126
              have ni_129 := (fa_eq _ _).mp hc_126
              refine lv_iload_n hx hb d_Model_inTurn_65 rfl (lv_at hl 7 rfl) ?_
              refine lv_goto (tgt := 70) hx hb d_Model_inTurn_66 (by decide) ?_
              refine lv_istore (lv' := [(5, .int b3), (4, .int 1), (7, .int x_103), (6, .int y_83), (0, .ref b0), (1, .int b1), (2, .int b2), (3, .int b3)]) hx hb d_Model_inTurn_70 hl (by decide) rfl (fun ls hl => ?_)
              obtain ⟨v_130, ev_130⟩ : ∃ z : Int32, z = y_83 + 1 := ⟨_, rfl⟩
              obtain ⟨qv_130, hv_130⟩ := zI_add (l := 1) (h := 12) hv_100 zc_1 ev_130 (by decide)
              rw [li_1] at qv_130
              refine lv_iinc (v := v_130) (lv' := [(6, .int v_130), (5, .int b3), (4, .int 1), (7, .int x_103), (0, .ref b0), (1, .int b1), (2, .int b2), (3, .int b3)]) hx hb d_Model_inTurn_72 hl (k := 3) rfl (by rw [ev_130]; rfl) (by decide) rfl (fun ls hl => ?_)
              refine lv_goto (tgt := 9) hx hb d_Model_inTurn_75 (by decide) ?_
              exact ihk_82 (v_130) (1) (b3) _ _ _ (zI.wk (l' := 0) (h' := 12) hv_130 (by decide)) (zI.wk (l' := 0) (h' := 1) zc_1 (by decide)) (zm_up qv_130 hmk_82 (by decide)) hP hD hS (lv_sub hl [0, 1, 2, 4, 5, 6, 7] rfl)
      · have _nhc_104 := hc_104
        have ni_131 : ¬ (x_103 : Int32).toInt = (b2 : Int32).toInt := fun z => hc_104 ((fa_eq _ _).mpr z)
        refine lv_iload hx hb d_Model_inTurn_34 (lv_at hl 0 rfl) ?_
        refine lv_iload_n hx hb d_Model_inTurn_36 rfl (lv_at hl 7 rfl) ?_
        refine lv_icmp_ne (tgt := 72) hx hb d_Model_inTurn_37 (by decide) (fun hc_132 => ?_) (fun hc_132 => ?_)
        · have _nhc_132 := hc_132
          have ni_133 : ¬ (x_103 : Int32).toInt = (b3 : Int32).toInt := fun z => hc_132 ((fa_eq _ _).mpr z)
          obtain ⟨v_134, ev_134⟩ : ∃ z : Int32, z = y_83 + 1 := ⟨_, rfl⟩
          obtain ⟨qv_134, hv_134⟩ := zI_add (l := 1) (h := 12) hv_100 zc_1 ev_134 (by decide)
          rw [li_1] at qv_134
          refine lv_iinc (v := v_134) (lv' := [(6, .int v_134), (7, .int x_103), (5, .int y_85), (4, .int y_84), (0, .ref b0), (1, .int b1), (2, .int b2), (3, .int b3)]) hx hb d_Model_inTurn_72 hl (k := 1) rfl (by rw [ev_134]; rfl) (by decide) rfl (fun ls hl => ?_)
          refine lv_goto (tgt := 9) hx hb d_Model_inTurn_75 (by decide) ?_
          exact ihk_82 (v_134) (y_84) (y_85) _ _ _ (zI.wk (l' := 0) (h' := 12) hv_134 (by decide)) hy_84 (zm_up qv_134 hmk_82 (by decide)) hP hD hS (lv_sub hl [0, 2, 3, 4, 5, 6, 7] rfl)
        · have _nhc_132 := hc_132
          have ni_135 := (fa_eq _ _).mp hc_132
          have hv_136 : zI b3 0 9 := zI.eq_l (zI_all b3) hx_103 hc_132.symm
          refine lv_iload hx hb d_Model_inTurn_40 (lv_at hl 3 rfl) ?_
          refine lv_if_eq (tgt := 56) hx hb d_Model_inTurn_42 (by decide) (fun hc_137 => ?_) (fun hc_137 => ?_)
          · have _nhc_137 := hc_137
            have ni_138 := (fa_eq _ _).mp hc_137
            rw [li_0] at ni_138
            have hv_139 : zI y_84 0 0 := zI.eq_l hy_84 zc_0 hc_137
            refine lv_iconst (v := 0) hx hb d_Model_inTurn_56 (by decide) ?_
            refine lv_istore (lv' := [(4, .int 0), (7, .int x_103), (6, .int y_83), (5, .int y_85), (0, .ref b0), (1, .int b1), (2, .int b2), (3, .int b3)]) hx hb d_Model_inTurn_57 hl (by decide) rfl (fun ls hl => ?_)
            refine lv_iload hx hb d_Model_inTurn_59 (lv_at hl 1 rfl) ?_
            refine lv_iload_n hx hb d_Model_inTurn_61 rfl (lv_at hl 6 rfl) ?_
            refine lv_icmp_ne (tgt := 69) hx hb d_Model_inTurn_62 (by decide) (fun hc_140 => ?_) (fun hc_140 => ?_)
            · have _nhc_140 := hc_140
              have ni_141 : ¬ (x_103 : Int32).toInt = (b2 : Int32).toInt := fun z => hc_140 ((fa_eq _ _).mpr z)
              refine lv_iload_n hx hb d_Model_inTurn_69 rfl (lv_at hl 6 rfl) ?_
              refine lv_istore (lv' := [(5, .int b2), (4, .int 0), (7, .int x_103), (6, .int y_83), (0, .ref b0), (1, .int b1), (2, .int b2), (3, .int b3)]) hx hb d_Model_inTurn_70 hl (by decide) rfl (fun ls hl => ?_)
              obtain ⟨v_142, ev_142⟩ : ∃ z : Int32, z = y_83 + 1 := ⟨_, rfl⟩
              obtain ⟨qv_142, hv_142⟩ := zI_add (l := 1) (h := 12) hv_100 zc_1 ev_142 (by decide)
              rw [li_1] at qv_142
              refine lv_iinc (v := v_142) (lv' := [(6, .int v_142), (5, .int b2), (4, .int 0), (7, .int x_103), (0, .ref b0), (1, .int b1), (2, .int b2), (3, .int b3)]) hx hb d_Model_inTurn_72 hl (k := 3) rfl (by rw [ev_142]; rfl) (by decide) rfl (fun ls hl => ?_)
              refine lv_goto (tgt := 9) hx hb d_Model_inTurn_75 (by decide) ?_
              exact ihk_82 (v_142) (0) (b2) _ _ _ (zI.wk (l' := 0) (h' := 12) hv_142 (by decide)) (zI.wk (l' := 0) (h' := 1) zc_0 (by decide)) (zm_up qv_142 hmk_82 (by decide)) hP hD hS (lv_sub hl [0, 1, 2, 4, 5, 6, 7] rfl)
            · have _nhc_140 := hc_140
              have ni_143 := (fa_eq _ _).mp hc_140
              have hv_144 : zI b2 0 9 := zI.eq_l (zI_all b2) hx_103 hc_140.symm
              refine lv_iload_n hx hb d_Model_inTurn_65 rfl (lv_at hl 7 rfl) ?_
              refine lv_goto (tgt := 70) hx hb d_Model_inTurn_66 (by decide) ?_
              refine lv_istore (lv' := [(5, .int b3), (4, .int 0), (7, .int x_103), (6, .int y_83), (0, .ref b0), (1, .int b1), (2, .int b2), (3, .int b3)]) hx hb d_Model_inTurn_70 hl (by decide) rfl (fun ls hl => ?_)
              obtain ⟨v_145, ev_145⟩ : ∃ z : Int32, z = y_83 + 1 := ⟨_, rfl⟩
              obtain ⟨qv_145, hv_145⟩ := zI_add (l := 1) (h := 12) hv_100 zc_1 ev_145 (by decide)
              rw [li_1] at qv_145
              refine lv_iinc (v := v_145) (lv' := [(6, .int v_145), (5, .int b3), (4, .int 0), (7, .int x_103), (0, .ref b0), (1, .int b1), (2, .int b2), (3, .int b3)]) hx hb d_Model_inTurn_72 hl (k := 3) rfl (by rw [ev_145]; rfl) (by decide) rfl (fun ls hl => ?_)
              refine lv_goto (tgt := 9) hx hb d_Model_inTurn_75 (by decide) ?_
              exact ihk_82 (v_145) (0) (b3) _ _ _ (zI.wk (l' := 0) (h' := 12) hv_145 (by decide)) (zI.wk (l' := 0) (h' := 1) zc_0 (by decide)) (zm_up qv_145 hmk_82 (by decide)) hP hD hS (lv_sub hl [0, 1, 2, 4, 5, 6, 7] rfl)
          · have _nhc_137 := hc_137
            have ni_146 : ¬ (y_84 : Int32).toInt = (0 : Int32).toInt := fun z => hc_137 ((fa_eq _ _).mpr z)
            simp only [li_0] at ni_146
            have hv_147 : zI y_84 1 1 := zI.ne_lo hy_84 zc_0 hc_137 (by decide)
            refine lv_iload hx hb d_Model_inTurn_45 (lv_at hl 0 rfl) ?_
            refine lv_iload hx hb d_Model_inTurn_47 (lv_at hl 2 rfl) ?_
            refine lv_icmp_ne (tgt := 56) hx hb d_Model_inTurn_49 (by decide) (fun hc_148 => ?_) (fun hc_148 => ?_)
            · have _nhc_148 := hc_148
              have ni_149 : ¬ (x_103 : Int32).toInt = (y_85 : Int32).toInt := fun z => hc_148 ((fa_eq _ _).mpr z)
              refine lv_iconst (v := 0) hx hb d_Model_inTurn_56 (by decide) ?_
              refine lv_istore (lv' := [(4, .int 0), (7, .int x_103), (6, .int y_83), (5, .int y_85), (0, .ref b0), (1, .int b1), (2, .int b2), (3, .int b3)]) hx hb d_Model_inTurn_57 hl (by decide) rfl (fun ls hl => ?_)
              refine lv_iload hx hb d_Model_inTurn_59 (lv_at hl 1 rfl) ?_
              refine lv_iload_n hx hb d_Model_inTurn_61 rfl (lv_at hl 6 rfl) ?_
              refine lv_icmp_ne (tgt := 69) hx hb d_Model_inTurn_62 (by decide) (fun hc_150 => ?_) (fun hc_150 => ?_)
              · have _nhc_150 := hc_150
                have ni_151 : ¬ (x_103 : Int32).toInt = (b2 : Int32).toInt := fun z => hc_150 ((fa_eq _ _).mpr z)
                refine lv_iload_n hx hb d_Model_inTurn_69 rfl (lv_at hl 6 rfl) ?_
                refine lv_istore (lv' := [(5, .int b2), (4, .int 0), (7, .int x_103), (6, .int y_83), (0, .ref b0), (1, .int b1), (2, .int b2), (3, .int b3)]) hx hb d_Model_inTurn_70 hl (by decide) rfl (fun ls hl => ?_)
                obtain ⟨v_152, ev_152⟩ : ∃ z : Int32, z = y_83 + 1 := ⟨_, rfl⟩
                obtain ⟨qv_152, hv_152⟩ := zI_add (l := 1) (h := 12) hv_100 zc_1 ev_152 (by decide)
                rw [li_1] at qv_152
                refine lv_iinc (v := v_152) (lv' := [(6, .int v_152), (5, .int b2), (4, .int 0), (7, .int x_103), (0, .ref b0), (1, .int b1), (2, .int b2), (3, .int b3)]) hx hb d_Model_inTurn_72 hl (k := 3) rfl (by rw [ev_152]; rfl) (by decide) rfl (fun ls hl => ?_)
                refine lv_goto (tgt := 9) hx hb d_Model_inTurn_75 (by decide) ?_
                exact ihk_82 (v_152) (0) (b2) _ _ _ (zI.wk (l' := 0) (h' := 12) hv_152 (by decide)) (zI.wk (l' := 0) (h' := 1) zc_0 (by decide)) (zm_up qv_152 hmk_82 (by decide)) hP hD hS (lv_sub hl [0, 1, 2, 4, 5, 6, 7] rfl)
              · have _nhc_150 := hc_150
                have ni_153 := (fa_eq _ _).mp hc_150
                have hv_154 : zI b2 0 9 := zI.eq_l (zI_all b2) hx_103 hc_150.symm
                refine lv_iload_n hx hb d_Model_inTurn_65 rfl (lv_at hl 7 rfl) ?_
                refine lv_goto (tgt := 70) hx hb d_Model_inTurn_66 (by decide) ?_
                refine lv_istore (lv' := [(5, .int b3), (4, .int 0), (7, .int x_103), (6, .int y_83), (0, .ref b0), (1, .int b1), (2, .int b2), (3, .int b3)]) hx hb d_Model_inTurn_70 hl (by decide) rfl (fun ls hl => ?_)
                obtain ⟨v_155, ev_155⟩ : ∃ z : Int32, z = y_83 + 1 := ⟨_, rfl⟩
                obtain ⟨qv_155, hv_155⟩ := zI_add (l := 1) (h := 12) hv_100 zc_1 ev_155 (by decide)
                rw [li_1] at qv_155
                refine lv_iinc (v := v_155) (lv' := [(6, .int v_155), (5, .int b3), (4, .int 0), (7, .int x_103), (0, .ref b0), (1, .int b1), (2, .int b2), (3, .int b3)]) hx hb d_Model_inTurn_72 hl (k := 3) rfl (by rw [ev_155]; rfl) (by decide) rfl (fun ls hl => ?_)
                refine lv_goto (tgt := 9) hx hb d_Model_inTurn_75 (by decide) ?_
                exact ihk_82 (v_155) (0) (b3) _ _ _ (zI.wk (l' := 0) (h' := 12) hv_155 (by decide)) (zI.wk (l' := 0) (h' := 1) zc_0 (by decide)) (zm_up qv_155 hmk_82 (by decide)) hP hD hS (lv_sub hl [0, 1, 2, 4, 5, 6, 7] rfl)
            · have _nhc_148 := hc_148
              have ni_156 := (fa_eq _ _).mp hc_148
              have hv_157 : zI y_85 0 9 := zI.eq_l (zI_all y_85) hx_103 hc_148.symm
              refine lv_iconst (v := 1) hx hb d_Model_inTurn_52 (by decide) ?_
              refine lv_goto (tgt := 57) hx hb d_Model_inTurn_53 (by decide) ?_
              refine lv_istore (lv' := [(4, .int 1), (7, .int x_103), (6, .int y_83), (5, .int y_85), (0, .ref b0), (1, .int b1), (2, .int b2), (3, .int b3)]) hx hb d_Model_inTurn_57 hl (by decide) rfl (fun ls hl => ?_)
              refine lv_iload hx hb d_Model_inTurn_59 (lv_at hl 1 rfl) ?_
              refine lv_iload_n hx hb d_Model_inTurn_61 rfl (lv_at hl 6 rfl) ?_
              refine lv_icmp_ne (tgt := 69) hx hb d_Model_inTurn_62 (by decide) (fun hc_158 => ?_) (fun hc_158 => ?_)
              · have _nhc_158 := hc_158
                have ni_159 : ¬ (x_103 : Int32).toInt = (b2 : Int32).toInt := fun z => hc_158 ((fa_eq _ _).mpr z)
                refine lv_iload_n hx hb d_Model_inTurn_69 rfl (lv_at hl 6 rfl) ?_
                refine lv_istore (lv' := [(5, .int b2), (4, .int 1), (7, .int x_103), (6, .int y_83), (0, .ref b0), (1, .int b1), (2, .int b2), (3, .int b3)]) hx hb d_Model_inTurn_70 hl (by decide) rfl (fun ls hl => ?_)
                obtain ⟨v_160, ev_160⟩ : ∃ z : Int32, z = y_83 + 1 := ⟨_, rfl⟩
                obtain ⟨qv_160, hv_160⟩ := zI_add (l := 1) (h := 12) hv_100 zc_1 ev_160 (by decide)
                rw [li_1] at qv_160
                refine lv_iinc (v := v_160) (lv' := [(6, .int v_160), (5, .int b2), (4, .int 1), (7, .int x_103), (0, .ref b0), (1, .int b1), (2, .int b2), (3, .int b3)]) hx hb d_Model_inTurn_72 hl (k := 3) rfl (by rw [ev_160]; rfl) (by decide) rfl (fun ls hl => ?_)
                refine lv_goto (tgt := 9) hx hb d_Model_inTurn_75 (by decide) ?_
                exact ihk_82 (v_160) (1) (b2) _ _ _ (zI.wk (l' := 0) (h' := 12) hv_160 (by decide)) (zI.wk (l' := 0) (h' := 1) zc_1 (by decide)) (zm_up qv_160 hmk_82 (by decide)) hP hD hS (lv_sub hl [0, 1, 2, 4, 5, 6, 7] rfl)
              · have _nhc_158 := hc_158
                have ni_161 := (fa_eq _ _).mp hc_158
                have hv_162 : zI b2 0 9 := zI.eq_l (zI_all b2) hx_103 hc_158.symm
                refine lv_iload_n hx hb d_Model_inTurn_65 rfl (lv_at hl 7 rfl) ?_
                refine lv_goto (tgt := 70) hx hb d_Model_inTurn_66 (by decide) ?_
                refine lv_istore (lv' := [(5, .int b3), (4, .int 1), (7, .int x_103), (6, .int y_83), (0, .ref b0), (1, .int b1), (2, .int b2), (3, .int b3)]) hx hb d_Model_inTurn_70 hl (by decide) rfl (fun ls hl => ?_)
                obtain ⟨v_163, ev_163⟩ : ∃ z : Int32, z = y_83 + 1 := ⟨_, rfl⟩
                obtain ⟨qv_163, hv_163⟩ := zI_add (l := 1) (h := 12) hv_100 zc_1 ev_163 (by decide)
                rw [li_1] at qv_163
                refine lv_iinc (v := v_163) (lv' := [(6, .int v_163), (5, .int b3), (4, .int 1), (7, .int x_103), (0, .ref b0), (1, .int b1), (2, .int b2), (3, .int b3)]) hx hb d_Model_inTurn_72 hl (k := 3) rfl (by rw [ev_163]; rfl) (by decide) rfl (fun ls hl => ?_)
                refine lv_goto (tgt := 9) hx hb d_Model_inTurn_75 (by decide) ?_
                exact ihk_82 (v_163) (1) (b3) _ _ _ (zI.wk (l' := 0) (h' := 12) hv_163 (by decide)) (zI.wk (l' := 0) (h' := 1) zc_1 (by decide)) (zm_up qv_163 hmk_82 (by decide)) hP hD hS (lv_sub hl [0, 1, 2, 4, 5, 6, 7] rfl)
theorem d_Model_isSo_0 : decode prog_14_method_77_code 0 = .ok (.iload_n 2, 1) := by decide +kernel
theorem d_Model_isSo_1 : decode prog_14_method_77_code 1 = .ok (.tableswitch 132 0 4 #[35, 57, 79, 101, 110], 35) := by decide +kernel
theorem d_Model_isSo_36 : decode prog_14_method_77_code 36 = .ok (.aload_n 0, 1) := by decide +kernel
theorem d_Model_isSo_37 : decode prog_14_method_77_code 37 = .ok (.iload_n 1, 1) := by decide +kernel
theorem d_Model_isSo_38 : decode prog_14_method_77_code 38 = .ok (.iload 4, 2) := by decide +kernel
theorem d_Model_isSo_40 : decode prog_14_method_77_code 40 = .ok (.invokevirtual 366, 3) := by decide +kernel
theorem d_Model_isSo_43 : decode prog_14_method_77_code 43 = .ok (.aload_n 0, 1) := by decide +kernel
theorem d_Model_isSo_44 : decode prog_14_method_77_code 44 = .ok (.iload_n 1, 1) := by decide +kernel
theorem d_Model_isSo_45 : decode prog_14_method_77_code 45 = .ok (.iload_n 3, 1) := by decide +kernel
theorem d_Model_isSo_46 : decode prog_14_method_77_code 46 = .ok (.invokevirtual 366, 3) := by decide +kernel
theorem d_Model_isSo_49 : decode prog_14_method_77_code 49 = .ok (.if_icmp .le 7, 3) := by decide +kernel
theorem d_Model_isSo_52 : decode prog_14_method_77_code 52 = .ok (.iconst 1, 1) := by decide +kernel
theorem d_Model_isSo_53 : decode prog_14_method_77_code 53 = .ok (.goto 4, 3) := by decide +kernel
theorem d_Model_isSo_56 : decode prog_14_method_77_code 56 = .ok (.iconst 0, 1) := by decide +kernel
theorem d_Model_isSo_57 : decode prog_14_method_77_code 57 = .ok (.ireturn, 1) := by decide +kernel
theorem d_Model_isSo_58 : decode prog_14_method_77_code 58 = .ok (.aload_n 0, 1) := by decide +kernel
theorem d_Model_isSo_59 : decode prog_14_method_77_code 59 = .ok (.iload_n 1, 1) := by decide +kernel
theorem d_Model_isSo_60 : decode prog_14_method_77_code 60 = .ok (.iload_n 3, 1) := by decide +kernel
theorem d_Model_isSo_61 : decode prog_14_method_77_code 61 = .ok (.invokevirtual 369, 3) := by decide +kernel
theorem d_Model_isSo_64 : decode prog_14_method_77_code 64 = .ok (.aload_n 0, 1) := by decide +kernel
theorem d_Model_isSo_65 : decode prog_14_method_77_code 65 = .ok (.iload_n 1, 1) := by decide +kernel
theorem d_Model_isSo_66 : decode prog_14_method_77_code 66 = .ok (.iload 4, 2) := by decide +kernel
theorem d_Model_isSo_68 : decode prog_14_method_77_code 68 = .ok (.invokevirtual 369, 3) := by decide +kernel
theorem d_Model_isSo_71 : decode prog_14_method_77_code 71 = .ok (.if_icmp .ge 7, 3) := by decide +kernel
theorem d_Model_isSo_74 : decode prog_14_method_77_code 74 = .ok (.iconst 1, 1) := by decide +kernel
theorem d_Model_isSo_75 : decode prog_14_method_77_code 75 = .ok (.goto 4, 3) := by decide +kernel
theorem d_Model_isSo_78 : decode prog_14_method_77_code 78 = .ok (.iconst 0, 1) := by decide +kernel
theorem d_Model_isSo_79 : decode prog_14_method_77_code 79 = .ok (.ireturn, 1) := by decide +kernel
theorem d_Model_isSo_80 : decode prog_14_method_77_code 80 = .ok (.aload_n 0, 1) := by decide +kernel
theorem d_Model_isSo_81 : decode prog_14_method_77_code 81 = .ok (.iload_n 1, 1) := by decide +kernel
theorem d_Model_isSo_82 : decode prog_14_method_77_code 82 = .ok (.iload 4, 2) := by decide +kernel
theorem d_Model_isSo_84 : decode prog_14_method_77_code 84 = .ok (.invokevirtual 366, 3) := by decide +kernel
theorem d_Model_isSo_87 : decode prog_14_method_77_code 87 = .ok (.aload_n 0, 1) := by decide +kernel
theorem d_Model_isSo_88 : decode prog_14_method_77_code 88 = .ok (.iload_n 1, 1) := by decide +kernel
theorem d_Model_isSo_89 : decode prog_14_method_77_code 89 = .ok (.iload_n 3, 1) := by decide +kernel
theorem d_Model_isSo_90 : decode prog_14_method_77_code 90 = .ok (.invokevirtual 369, 3) := by decide +kernel
theorem d_Model_isSo_93 : decode prog_14_method_77_code 93 = .ok (.if_icmp .ge 7, 3) := by decide +kernel
theorem d_Model_isSo_96 : decode prog_14_method_77_code 96 = .ok (.iconst 1, 1) := by decide +kernel
theorem d_Model_isSo_97 : decode prog_14_method_77_code 97 = .ok (.goto 4, 3) := by decide +kernel
theorem d_Model_isSo_100 : decode prog_14_method_77_code 100 = .ok (.iconst 0, 1) := by decide +kernel
theorem d_Model_isSo_101 : decode prog_14_method_77_code 101 = .ok (.ireturn, 1) := by decide +kernel
theorem d_Model_isSo_102 : decode prog_14_method_77_code 102 = .ok (.aload_n 0, 1) := by decide +kernel
theorem d_Model_isSo_103 : decode prog_14_method_77_code 103 = .ok (.iload_n 1, 1) := by decide +kernel
theorem d_Model_isSo_104 : decode prog_14_method_77_code 104 = .ok (.iload_n 3, 1) := by decide +kernel
theorem d_Model_isSo_105 : decode prog_14_method_77_code 105 = .ok (.iload 4, 2) := by decide +kernel
theorem d_Model_isSo_107 : decode prog_14_method_77_code 107 = .ok (.invokevirtual 372, 3) := by decide +kernel
theorem d_Model_isSo_110 : decode prog_14_method_77_code 110 = .ok (.ireturn, 1) := by decide +kernel
theorem d_Model_isSo_111 : decode prog_14_method_77_code 111 = .ok (.aload_n 0, 1) := by decide +kernel
theorem d_Model_isSo_112 : decode prog_14_method_77_code 112 = .ok (.iload_n 1, 1) := by decide +kernel
theorem d_Model_isSo_113 : decode prog_14_method_77_code 113 = .ok (.iload_n 3, 1) := by decide +kernel
theorem d_Model_isSo_114 : decode prog_14_method_77_code 114 = .ok (.invokevirtual 376, 3) := by decide +kernel
theorem d_Model_isSo_117 : decode prog_14_method_77_code 117 = .ok (.aload_n 0, 1) := by decide +kernel
theorem d_Model_isSo_118 : decode prog_14_method_77_code 118 = .ok (.iload_n 1, 1) := by decide +kernel
theorem d_Model_isSo_119 : decode prog_14_method_77_code 119 = .ok (.iload 4, 2) := by decide +kernel
theorem d_Model_isSo_121 : decode prog_14_method_77_code 121 = .ok (.invokevirtual 376, 3) := by decide +kernel
theorem d_Model_isSo_124 : decode prog_14_method_77_code 124 = .ok (.if_icmp .ne 7, 3) := by decide +kernel
theorem d_Model_isSo_127 : decode prog_14_method_77_code 127 = .ok (.iconst 1, 1) := by decide +kernel
theorem d_Model_isSo_128 : decode prog_14_method_77_code 128 = .ok (.goto 4, 3) := by decide +kernel
theorem d_Model_isSo_131 : decode prog_14_method_77_code 131 = .ok (.iconst 0, 1) := by decide +kernel
theorem d_Model_isSo_132 : decode prog_14_method_77_code 132 = .ok (.ireturn, 1) := by decide +kernel
theorem d_Model_isSo_133 : decode prog_14_method_77_code 133 = .ok (.aload_n 0, 1) := by decide +kernel
theorem d_Model_isSo_134 : decode prog_14_method_77_code 134 = .ok (.iload_n 1, 1) := by decide +kernel
theorem d_Model_isSo_135 : decode prog_14_method_77_code 135 = .ok (.iload_n 3, 1) := by decide +kernel
theorem d_Model_isSo_136 : decode prog_14_method_77_code 136 = .ok (.iload 4, 2) := by decide +kernel
theorem d_Model_isSo_138 : decode prog_14_method_77_code 138 = .ok (.invokevirtual 379, 3) := by decide +kernel
theorem d_Model_isSo_141 : decode prog_14_method_77_code 141 = .ok (.ireturn, 1) := by decide +kernel
abbrev m_s1_Model_isSo : Room := { frames := 2, cells := 0, slots := 0, locals := 49 }
set_option maxHeartbeats 4000000 in
set_option maxRecDepth 100000 in
theorem s1_Model_isSo (l : Launch) (G : zG) (b0 : Nat) (b1 : Int32) (b2 : Int32) (b3 : Int32) (b4 : Int32) (b5 : Int32) (b6 : Nat) (b7 : Nat) (b8 : Nat) (b9 : Nat) (b10 : Int32) (b11 : Nat) (b12 : Int32) (b13 : Int32) (b14 : Int32) (b15 : Int32) (b16 : Nat) (b17 : Nat) (b18 : Nat) (b19 : Int32) (b20 : Nat) (b21 : Nat) (b22 : Nat) (b23 : Nat) (b24 : Nat) (b25 : Nat) (b26 : Nat) (b27 : Nat) (b28 : Nat) (b29 : Nat) (b30 : Nat) (b31 : Nat) (b32 : Int32) (b33 : Nat) (b34 : Nat) (b35 : Int32) (b36 : Int32) (b37 : Int32) (b38 : Int32) (b39 : Nat) (b40 : Nat) (b41 : Nat) (b42 : Nat) (b43 : Nat) (b44 : Nat) (b45 : Nat) (b46 : Int32) (b47 : Nat) (b48 : Nat) (b49 : Int32) (b50 : Nat) (b51 : Nat) (b52 : Nat) (b53 : Nat) (b54 : Nat) (b55 : Int32) (b56 : Nat) (b57 : Nat) (b58 : Nat) (b59 : Nat → Int32) (hb1 : zI b1 0 19) (hb10 : zI b10 0 8) (hb12 : zI b12 0 240) (hb13 : zI b13 0 240) (hb15 : zI b15 0 1) (hb19 : zI b19 0 12) (hb32 : zI b32 0 1) (hb35 : zI b35 0 1) (hb46 : zI b46 0 1000) (hb49 : zI b49 0 1000) (hb55 : zI b55 0 400) (hb59 : zW5 b59) : zM l G y_Model_isSo prog_14_method_77_code 5 (Option.some Jvm.ClassFile.FieldType.boolean) m_s1_Model_isSo [.ref b0, .int b1, .int b2, .int b3, .int b4] [(b0, .inr (12, [.int b5, .ref b6, .ref b7, .ref b8, .ref b9, .int b10, .ref b11, .int b12, .int b13, .int b14, .int b15, .ref b16, .ref b17, .ref b18, .int b19, .ref b20, .ref b21, .ref b22, .ref b23, .ref b24, .ref b25, .ref b26, .ref b27, .ref b28, .ref b29, .ref b30, .ref b31, .int b32, .ref b33, .ref b34, .int b35, .int b36, .int b37, .int b38, .ref b39, .ref b40, .ref b41, .ref b42, .ref b43, .ref b44, .ref b45, .int b46, .ref b47, .ref b48, .int b49, .ref b50, .ref b51, .ref b52, .ref b53, .ref b54, .int b55, .ref b56, .ref b57, .ref b58])), (b6, .inl (G.2 0, 503, .inl b59))] (fun v w => ∃ (e0 : Int32), v = some (.int e0) ∧ w = [(b0, .inr (12, [.int b5, .ref b6, .ref b7, .ref b8, .ref b9, .int b10, .ref b11, .int b12, .int b13, .int b14, .int b15, .ref b16, .ref b17, .ref b18, .int b19, .ref b20, .ref b21, .ref b22, .ref b23, .ref b24, .ref b25, .ref b26, .ref b27, .ref b28, .ref b29, .ref b30, .ref b31, .int b32, .ref b33, .ref b34, .int b35, .int b36, .int b37, .int b38, .ref b39, .ref b40, .ref b41, .ref b42, .ref b43, .ref b44, .ref b45, .int b46, .ref b47, .ref b48, .int b49, .ref b50, .ref b51, .ref b52, .ref b53, .ref b54, .int b55, .ref b56, .ref b57, .ref b58])), (b6, .inl (G.2 0, 503, .inl b59))] ∧ (zI e0 0 1)) := by
  refine z_start (by decide +kernel) (Nat.le_of_ble_eq_true rfl) ?_
  intro p e s m below meth c A Z hr hnm hA hP hD hS ls hl
  have Z : zC p s m _ meth c prog_14_method_77_code 5 "TraceMachinesModel" G := Z
  obtain ⟨hx, hb, hml, hown, hts, hK, hN, hlocks⟩ := id Z
  have hl : lv_has ls 5 [(0, .ref b0), (1, .int b1), (2, .int b2), (3, .int b3), (4, .int b4)] := hl
  refine lv_iload_n hx hb d_Model_isSo_0 rfl (lv_at hl 2 rfl) ?_
  by_cases hs_1 : b2 = 0
  · subst hs_1
    refine lv_tableIn (off := 35) (tgt := 36) hx hb d_Model_isSo_1 (by decide +kernel) (by decide +kernel) rfl (by decide) ?_
    refine lv_aload_n hx hb d_Model_isSo_36 rfl (lv_at hl 0 rfl) ?_
    refine lv_iload_n hx hb d_Model_isSo_37 rfl (lv_at hl 1 rfl) ?_
    refine lv_iload hx hb d_Model_isSo_38 (lv_at hl 4 rfl) ?_
    refine z_callV (index := 366) (As := [.int b1, .int b4]) (rest := []) (wr := []) Z (s1_Model_lastOf l G (b0) (b1) (b4) (b5) (b6) (b7) (b8) (b9) (b10) (b11) (b12) (b13) (b14) (b15) (b16) (b17) (b18) (b19) (b20) (b21) (b22) (b23) (b24) (b25) (b26) (b27) (b28) (b29) (b30) (b31) (b32) (b33) (b34) (b35) (b36) (b37) (b38) (b39) (b40) (b41) (b42) (b43) (b44) (b45) (b46) (b47) (b48) (b49) (b50) (b51) (b52) (b53) (b54) (b55) (b56) (b57) (b58) (b59) hb1 hb10 hb12 hb13 hb15 hb19 hb32 hb35 hb46 hb49 hb55 hb59) hl.1 q1569 q1571 qs91 q14 q1572 ⟨by decide, by decide, by show _ = some 2; decide +kernel⟩ ⟨Nat.le_of_ble_eq_true rfl, Nat.le_of_ble_eq_true rfl⟩ ⟨Nat.le_of_ble_eq_true rfl, Nat.le_of_ble_eq_true rfl⟩ rfl (Nat.le_of_ble_eq_true rfl) d_Model_isSo_40 hP hD hS hA 0 12 rfl rfl rfl [0, 1] [] rfl rfl rfl rfl (by decide) (fun v w1 H locs hw_2 hP hD hS => ?_)
    obtain ⟨x_3, rfl, rfl, hx_3⟩ := hw_2
    have hP : va_P G.1 classes [(b0, .inr (12, [.int b5, .ref b6, .ref b7, .ref b8, .ref b9, .int b10, .ref b11, .int b12, .int b13, .int b14, .int b15, .ref b16, .ref b17, .ref b18, .int b19, .ref b20, .ref b21, .ref b22, .ref b23, .ref b24, .ref b25, .ref b26, .ref b27, .ref b28, .ref b29, .ref b30, .ref b31, .int b32, .ref b33, .ref b34, .int b35, .int b36, .int b37, .int b38, .ref b39, .ref b40, .ref b41, .ref b42, .ref b43, .ref b44, .ref b45, .int b46, .ref b47, .ref b48, .int b49, .ref b50, .ref b51, .ref b52, .ref b53, .ref b54, .int b55, .ref b56, .ref b57, .ref b58])), (b6, .inl (G.2 0, 503, .inl b59))] H := hP
    have hD := z_tie hP hD rfl
    refine W.widen (k := 0) (n := 0) (Nat.le_of_ble_eq_true rfl) (Nat.le_of_ble_eq_true rfl) ?_
    refine lv_aload_n hx hb d_Model_isSo_43 rfl (lv_at hl 0 rfl) ?_
    refine lv_iload_n hx hb d_Model_isSo_44 rfl (lv_at hl 1 rfl) ?_
    refine lv_iload_n hx hb d_Model_isSo_45 rfl (lv_at hl 3 rfl) ?_
    refine z_callV (index := 366) (As := [.int b1, .int b3]) (rest := [.int x_3]) (wr := []) Z (s1_Model_lastOf l G (b0) (b1) (b3) (b5) (b6) (b7) (b8) (b9) (b10) (b11) (b12) (b13) (b14) (b15) (b16) (b17) (b18) (b19) (b20) (b21) (b22) (b23) (b24) (b25) (b26) (b27) (b28) (b29) (b30) (b31) (b32) (b33) (b34) (b35) (b36) (b37) (b38) (b39) (b40) (b41) (b42) (b43) (b44) (b45) (b46) (b47) (b48) (b49) (b50) (b51) (b52) (b53) (b54) (b55) (b56) (b57) (b58) (b59) hb1 hb10 hb12 hb13 hb15 hb19 hb32 hb35 hb46 hb49 hb55 hb59) hl.1 q1569 q1571 qs91 q14 q1572 ⟨by decide, by decide, by show _ = some 2; decide +kernel⟩ ⟨Nat.le_of_ble_eq_true rfl, Nat.le_of_ble_eq_true rfl⟩ ⟨Nat.le_of_ble_eq_true rfl, Nat.le_of_ble_eq_true rfl⟩ rfl (Nat.le_of_ble_eq_true rfl) d_Model_isSo_46 hP hD hS hA 0 12 rfl rfl rfl [0, 1] [] rfl rfl rfl rfl (by decide) (fun v w1 H locs hw_4 hP hD hS => ?_)
    obtain ⟨x_5, rfl, rfl, hx_5⟩ := hw_4
    have hP : va_P G.1 classes [(b0, .inr (12, [.int b5, .ref b6, .ref b7, .ref b8, .ref b9, .int b10, .ref b11, .int b12, .int b13, .int b14, .int b15, .ref b16, .ref b17, .ref b18, .int b19, .ref b20, .ref b21, .ref b22, .ref b23, .ref b24, .ref b25, .ref b26, .ref b27, .ref b28, .ref b29, .ref b30, .ref b31, .int b32, .ref b33, .ref b34, .int b35, .int b36, .int b37, .int b38, .ref b39, .ref b40, .ref b41, .ref b42, .ref b43, .ref b44, .ref b45, .int b46, .ref b47, .ref b48, .int b49, .ref b50, .ref b51, .ref b52, .ref b53, .ref b54, .int b55, .ref b56, .ref b57, .ref b58])), (b6, .inl (G.2 0, 503, .inl b59))] H := hP
    have hD := z_tie hP hD rfl
    refine W.widen (k := 0) (n := 0) (Nat.le_of_ble_eq_true rfl) (Nat.le_of_ble_eq_true rfl) ?_
    refine lv_icmp_le (tgt := 56) hx hb d_Model_isSo_49 (by decide) (fun hc_6 => ?_) (fun hc_6 => ?_)
    · have _nhc_6 := hc_6
      have ni_7 := (fa_le _ _).mp hc_6
      refine lv_iconst (v := 0) hx hb d_Model_isSo_56 (by decide) ?_
      exact z_zret hx hb hr hlocks rfl hP hD hS (Nat.le_of_ble_eq_true rfl) (Nat.le_of_ble_eq_true rfl) d_Model_isSo_57 ⟨0, rfl, rfl, (zI.wk (l' := 0) (h' := 1) zc_0 (by decide))⟩
    · have _nhc_6 := hc_6
      have ni_8 := (fa_lt _ _).mp (zi_nle hc_6)
      have hv_9 : zI x_5 (-1) 10 := zI.lt_l hx_5 hx_3 (zi_nle hc_6) (by decide)
      have hv_10 : zI x_3 0 11 := zI.lt_r hx_5 hx_3 (zi_nle hc_6) (by decide)
      refine lv_iconst (v := 1) hx hb d_Model_isSo_52 (by decide) ?_
      refine lv_goto (tgt := 57) hx hb d_Model_isSo_53 (by decide) ?_
      exact z_zret hx hb hr hlocks rfl hP hD hS (Nat.le_of_ble_eq_true rfl) (Nat.le_of_ble_eq_true rfl) d_Model_isSo_57 ⟨1, rfl, rfl, (zI.wk (l' := 0) (h' := 1) zc_1 (by decide))⟩
  simp only [fa_lt, fa_le, fa_eq, Int32.toInt_toInt64, li_0] at hs_1
  by_cases hs_11 : b2 = 1
  · subst hs_11
    refine lv_tableIn (off := 57) (tgt := 58) hx hb d_Model_isSo_1 (by decide +kernel) (by decide +kernel) rfl (by decide) ?_
    refine lv_aload_n hx hb d_Model_isSo_58 rfl (lv_at hl 0 rfl) ?_
    refine lv_iload_n hx hb d_Model_isSo_59 rfl (lv_at hl 1 rfl) ?_
    refine lv_iload_n hx hb d_Model_isSo_60 rfl (lv_at hl 3 rfl) ?_
    refine z_callV (index := 369) (As := [.int b1, .int b3]) (rest := []) (wr := []) Z (s1_Model_firstOf l G (b0) (b1) (b3) (b5) (b6) (b7) (b8) (b9) (b10) (b11) (b12) (b13) (b14) (b15) (b16) (b17) (b18) (b19) (b20) (b21) (b22) (b23) (b24) (b25) (b26) (b27) (b28) (b29) (b30) (b31) (b32) (b33) (b34) (b35) (b36) (b37) (b38) (b39) (b40) (b41) (b42) (b43) (b44) (b45) (b46) (b47) (b48) (b49) (b50) (b51) (b52) (b53) (b54) (b55) (b56) (b57) (b58) (b59) hb1 hb10 hb12 hb13 hb15 hb19 hb32 hb35 hb46 hb49 hb55 hb59) hl.1 q1573 q1575 qs92 q14 q1576 ⟨by decide, by decide, by show _ = some 2; decide +kernel⟩ ⟨Nat.le_of_ble_eq_true rfl, Nat.le_of_ble_eq_true rfl⟩ ⟨Nat.le_of_ble_eq_true rfl, Nat.le_of_ble_eq_true rfl⟩ rfl (Nat.le_of_ble_eq_true rfl) d_Model_isSo_61 hP hD hS hA 0 12 rfl rfl rfl [0, 1] [] rfl rfl rfl rfl (by decide) (fun v w1 H locs hw_12 hP hD hS => ?_)
    obtain ⟨x_13, rfl, rfl, hx_13⟩ := hw_12
    have hP : va_P G.1 classes [(b0, .inr (12, [.int b5, .ref b6, .ref b7, .ref b8, .ref b9, .int b10, .ref b11, .int b12, .int b13, .int b14, .int b15, .ref b16, .ref b17, .ref b18, .int b19, .ref b20, .ref b21, .ref b22, .ref b23, .ref b24, .ref b25, .ref b26, .ref b27, .ref b28, .ref b29, .ref b30, .ref b31, .int b32, .ref b33, .ref b34, .int b35, .int b36, .int b37, .int b38, .ref b39, .ref b40, .ref b41, .ref b42, .ref b43, .ref b44, .ref b45, .int b46, .ref b47, .ref b48, .int b49, .ref b50, .ref b51, .ref b52, .ref b53, .ref b54, .int b55, .ref b56, .ref b57, .ref b58])), (b6, .inl (G.2 0, 503, .inl b59))] H := hP
    have hD := z_tie hP hD rfl
    refine W.widen (k := 0) (n := 0) (Nat.le_of_ble_eq_true rfl) (Nat.le_of_ble_eq_true rfl) ?_
    refine lv_aload_n hx hb d_Model_isSo_64 rfl (lv_at hl 0 rfl) ?_
    refine lv_iload_n hx hb d_Model_isSo_65 rfl (lv_at hl 1 rfl) ?_
    refine lv_iload hx hb d_Model_isSo_66 (lv_at hl 4 rfl) ?_
    refine z_callV (index := 369) (As := [.int b1, .int b4]) (rest := [.int x_13]) (wr := []) Z (s1_Model_firstOf l G (b0) (b1) (b4) (b5) (b6) (b7) (b8) (b9) (b10) (b11) (b12) (b13) (b14) (b15) (b16) (b17) (b18) (b19) (b20) (b21) (b22) (b23) (b24) (b25) (b26) (b27) (b28) (b29) (b30) (b31) (b32) (b33) (b34) (b35) (b36) (b37) (b38) (b39) (b40) (b41) (b42) (b43) (b44) (b45) (b46) (b47) (b48) (b49) (b50) (b51) (b52) (b53) (b54) (b55) (b56) (b57) (b58) (b59) hb1 hb10 hb12 hb13 hb15 hb19 hb32 hb35 hb46 hb49 hb55 hb59) hl.1 q1573 q1575 qs92 q14 q1576 ⟨by decide, by decide, by show _ = some 2; decide +kernel⟩ ⟨Nat.le_of_ble_eq_true rfl, Nat.le_of_ble_eq_true rfl⟩ ⟨Nat.le_of_ble_eq_true rfl, Nat.le_of_ble_eq_true rfl⟩ rfl (Nat.le_of_ble_eq_true rfl) d_Model_isSo_68 hP hD hS hA 0 12 rfl rfl rfl [0, 1] [] rfl rfl rfl rfl (by decide) (fun v w1 H locs hw_14 hP hD hS => ?_)
    obtain ⟨x_15, rfl, rfl, hx_15⟩ := hw_14
    have hP : va_P G.1 classes [(b0, .inr (12, [.int b5, .ref b6, .ref b7, .ref b8, .ref b9, .int b10, .ref b11, .int b12, .int b13, .int b14, .int b15, .ref b16, .ref b17, .ref b18, .int b19, .ref b20, .ref b21, .ref b22, .ref b23, .ref b24, .ref b25, .ref b26, .ref b27, .ref b28, .ref b29, .ref b30, .ref b31, .int b32, .ref b33, .ref b34, .int b35, .int b36, .int b37, .int b38, .ref b39, .ref b40, .ref b41, .ref b42, .ref b43, .ref b44, .ref b45, .int b46, .ref b47, .ref b48, .int b49, .ref b50, .ref b51, .ref b52, .ref b53, .ref b54, .int b55, .ref b56, .ref b57, .ref b58])), (b6, .inl (G.2 0, 503, .inl b59))] H := hP
    have hD := z_tie hP hD rfl
    refine W.widen (k := 0) (n := 0) (Nat.le_of_ble_eq_true rfl) (Nat.le_of_ble_eq_true rfl) ?_
    refine lv_icmp_ge (tgt := 78) hx hb d_Model_isSo_71 (by decide) (fun hc_16 => ?_) (fun hc_16 => ?_)
    · have _nhc_16 := hc_16
      have ni_17 := (fa_le _ _).mp hc_16
      refine lv_iconst (v := 0) hx hb d_Model_isSo_78 (by decide) ?_
      exact z_zret hx hb hr hlocks rfl hP hD hS (Nat.le_of_ble_eq_true rfl) (Nat.le_of_ble_eq_true rfl) d_Model_isSo_79 ⟨0, rfl, rfl, (zI.wk (l' := 0) (h' := 1) zc_0 (by decide))⟩
    · have _nhc_16 := hc_16
      have ni_18 := (fa_lt _ _).mp (zi_nle hc_16)
      have hv_19 : zI x_13 0 11 := zI.lt_l hx_13 hx_15 (zi_nle hc_16) (by decide)
      have hv_20 : zI x_15 1 12 := zI.lt_r hx_13 hx_15 (zi_nle hc_16) (by decide)
      refine lv_iconst (v := 1) hx hb d_Model_isSo_74 (by decide) ?_
      refine lv_goto (tgt := 79) hx hb d_Model_isSo_75 (by decide) ?_
      exact z_zret hx hb hr hlocks rfl hP hD hS (Nat.le_of_ble_eq_true rfl) (Nat.le_of_ble_eq_true rfl) d_Model_isSo_79 ⟨1, rfl, rfl, (zI.wk (l' := 0) (h' := 1) zc_1 (by decide))⟩
  simp only [fa_lt, fa_le, fa_eq, Int32.toInt_toInt64, li_1] at hs_11
  by_cases hs_21 : b2 = 2
  · subst hs_21
    refine lv_tableIn (off := 79) (tgt := 80) hx hb d_Model_isSo_1 (by decide +kernel) (by decide +kernel) rfl (by decide) ?_
    refine lv_aload_n hx hb d_Model_isSo_80 rfl (lv_at hl 0 rfl) ?_
    refine lv_iload_n hx hb d_Model_isSo_81 rfl (lv_at hl 1 rfl) ?_
    refine lv_iload hx hb d_Model_isSo_82 (lv_at hl 4 rfl) ?_
    refine z_callV (index := 366) (As := [.int b1, .int b4]) (rest := []) (wr := []) Z (s1_Model_lastOf l G (b0) (b1) (b4) (b5) (b6) (b7) (b8) (b9) (b10) (b11) (b12) (b13) (b14) (b15) (b16) (b17) (b18) (b19) (b20) (b21) (b22) (b23) (b24) (b25) (b26) (b27) (b28) (b29) (b30) (b31) (b32) (b33) (b34) (b35) (b36) (b37) (b38) (b39) (b40) (b41) (b42) (b43) (b44) (b45) (b46) (b47) (b48) (b49) (b50) (b51) (b52) (b53) (b54) (b55) (b56) (b57) (b58) (b59) hb1 hb10 hb12 hb13 hb15 hb19 hb32 hb35 hb46 hb49 hb55 hb59) hl.1 q1569 q1571 qs91 q14 q1572 ⟨by decide, by decide, by show _ = some 2; decide +kernel⟩ ⟨Nat.le_of_ble_eq_true rfl, Nat.le_of_ble_eq_true rfl⟩ ⟨Nat.le_of_ble_eq_true rfl, Nat.le_of_ble_eq_true rfl⟩ rfl (Nat.le_of_ble_eq_true rfl) d_Model_isSo_84 hP hD hS hA 0 12 rfl rfl rfl [0, 1] [] rfl rfl rfl rfl (by decide) (fun v w1 H locs hw_22 hP hD hS => ?_)
    obtain ⟨x_23, rfl, rfl, hx_23⟩ := hw_22
    have hP : va_P G.1 classes [(b0, .inr (12, [.int b5, .ref b6, .ref b7, .ref b8, .ref b9, .int b10, .ref b11, .int b12, .int b13, .int b14, .int b15, .ref b16, .ref b17, .ref b18, .int b19, .ref b20, .ref b21, .ref b22, .ref b23, .ref b24, .ref b25, .ref b26, .ref b27, .ref b28, .ref b29, .ref b30, .ref b31, .int b32, .ref b33, .ref b34, .int b35, .int b36, .int b37, .int b38, .ref b39, .ref b40, .ref b41, .ref b42, .ref b43, .ref b44, .ref b45, .int b46, .ref b47, .ref b48, .int b49, .ref b50, .ref b51, .ref b52, .ref b53, .ref b54, .int b55, .ref b56, .ref b57, .ref b58])), (b6, .inl (G.2 0, 503, .inl b59))] H := hP
    have hD := z_tie hP hD rfl
    refine W.widen (k := 0) (n := 0) (Nat.le_of_ble_eq_true rfl) (Nat.le_of_ble_eq_true rfl) ?_
    refine lv_aload_n hx hb d_Model_isSo_87 rfl (lv_at hl 0 rfl) ?_
    refine lv_iload_n hx hb d_Model_isSo_88 rfl (lv_at hl 1 rfl) ?_
    refine lv_iload_n hx hb d_Model_isSo_89 rfl (lv_at hl 3 rfl) ?_
    refine z_callV (index := 369) (As := [.int b1, .int b3]) (rest := [.int x_23]) (wr := []) Z (s1_Model_firstOf l G (b0) (b1) (b3) (b5) (b6) (b7) (b8) (b9) (b10) (b11) (b12) (b13) (b14) (b15) (b16) (b17) (b18) (b19) (b20) (b21) (b22) (b23) (b24) (b25) (b26) (b27) (b28) (b29) (b30) (b31) (b32) (b33) (b34) (b35) (b36) (b37) (b38) (b39) (b40) (b41) (b42) (b43) (b44) (b45) (b46) (b47) (b48) (b49) (b50) (b51) (b52) (b53) (b54) (b55) (b56) (b57) (b58) (b59) hb1 hb10 hb12 hb13 hb15 hb19 hb32 hb35 hb46 hb49 hb55 hb59) hl.1 q1573 q1575 qs92 q14 q1576 ⟨by decide, by decide, by show _ = some 2; decide +kernel⟩ ⟨Nat.le_of_ble_eq_true rfl, Nat.le_of_ble_eq_true rfl⟩ ⟨Nat.le_of_ble_eq_true rfl, Nat.le_of_ble_eq_true rfl⟩ rfl (Nat.le_of_ble_eq_true rfl) d_Model_isSo_90 hP hD hS hA 0 12 rfl rfl rfl [0, 1] [] rfl rfl rfl rfl (by decide) (fun v w1 H locs hw_24 hP hD hS => ?_)
    obtain ⟨x_25, rfl, rfl, hx_25⟩ := hw_24
    have hP : va_P G.1 classes [(b0, .inr (12, [.int b5, .ref b6, .ref b7, .ref b8, .ref b9, .int b10, .ref b11, .int b12, .int b13, .int b14, .int b15, .ref b16, .ref b17, .ref b18, .int b19, .ref b20, .ref b21, .ref b22, .ref b23, .ref b24, .ref b25, .ref b26, .ref b27, .ref b28, .ref b29, .ref b30, .ref b31, .int b32, .ref b33, .ref b34, .int b35, .int b36, .int b37, .int b38, .ref b39, .ref b40, .ref b41, .ref b42, .ref b43, .ref b44, .ref b45, .int b46, .ref b47, .ref b48, .int b49, .ref b50, .ref b51, .ref b52, .ref b53, .ref b54, .int b55, .ref b56, .ref b57, .ref b58])), (b6, .inl (G.2 0, 503, .inl b59))] H := hP
    have hD := z_tie hP hD rfl
    refine W.widen (k := 0) (n := 0) (Nat.le_of_ble_eq_true rfl) (Nat.le_of_ble_eq_true rfl) ?_
    refine lv_icmp_ge (tgt := 100) hx hb d_Model_isSo_93 (by decide) (fun hc_26 => ?_) (fun hc_26 => ?_)
    · have _nhc_26 := hc_26
      have ni_27 := (fa_le _ _).mp hc_26
      have hv_28 : zI x_25 0 11 := zI.le_l hx_25 hx_23 hc_26 (by decide)
      have hv_29 : zI x_23 0 11 := zI.le_r hx_25 hx_23 hc_26 (by decide)
      refine lv_iconst (v := 0) hx hb d_Model_isSo_100 (by decide) ?_
      exact z_zret hx hb hr hlocks rfl hP hD hS (Nat.le_of_ble_eq_true rfl) (Nat.le_of_ble_eq_true rfl) d_Model_isSo_101 ⟨0, rfl, rfl, (zI.wk (l' := 0) (h' := 1) zc_0 (by decide))⟩
    · have _nhc_26 := hc_26
      have ni_30 := (fa_lt _ _).mp (zi_nle hc_26)
      refine lv_iconst (v := 1) hx hb d_Model_isSo_96 (by decide) ?_
      refine lv_goto (tgt := 101) hx hb d_Model_isSo_97 (by decide) ?_
      exact z_zret hx hb hr hlocks rfl hP hD hS (Nat.le_of_ble_eq_true rfl) (Nat.le_of_ble_eq_true rfl) d_Model_isSo_101 ⟨1, rfl, rfl, (zI.wk (l' := 0) (h' := 1) zc_1 (by decide))⟩
  simp only [fa_lt, fa_le, fa_eq, Int32.toInt_toInt64, li_2] at hs_21
  by_cases hs_31 : b2 = 3
  · subst hs_31
    refine lv_tableIn (off := 101) (tgt := 102) hx hb d_Model_isSo_1 (by decide +kernel) (by decide +kernel) rfl (by decide) ?_
    refine lv_aload_n hx hb d_Model_isSo_102 rfl (lv_at hl 0 rfl) ?_
    refine lv_iload_n hx hb d_Model_isSo_103 rfl (lv_at hl 1 rfl) ?_
    refine lv_iload_n hx hb d_Model_isSo_104 rfl (lv_at hl 3 rfl) ?_
    refine lv_iload hx hb d_Model_isSo_105 (lv_at hl 4 rfl) ?_
    refine z_callV (index := 372) (As := [.int b1, .int b3, .int b4]) (rest := []) (wr := []) Z (s1_Model_rightBehind l G (b0) (b1) (b3) (b4) (b5) (b6) (b7) (b8) (b9) (b10) (b11) (b12) (b13) (b14) (b15) (b16) (b17) (b18) (b19) (b20) (b21) (b22) (b23) (b24) (b25) (b26) (b27) (b28) (b29) (b30) (b31) (b32) (b33) (b34) (b35) (b36) (b37) (b38) (b39) (b40) (b41) (b42) (b43) (b44) (b45) (b46) (b47) (b48) (b49) (b50) (b51) (b52) (b53) (b54) (b55) (b56) (b57) (b58) (b59) hb1 hb10 hb12 hb13 hb15 hb19 hb32 hb35 hb46 hb49 hb55 hb59) hl.1 q1577 q1579 qs93 q14 q1580 ⟨by decide, by decide, by show _ = some 3; decide +kernel⟩ ⟨Nat.le_of_ble_eq_true rfl, Nat.le_of_ble_eq_true rfl⟩ ⟨Nat.le_of_ble_eq_true rfl, Nat.le_of_ble_eq_true rfl⟩ rfl (Nat.le_of_ble_eq_true rfl) d_Model_isSo_107 hP hD hS hA 0 12 rfl rfl rfl [0, 1] [] rfl rfl rfl rfl (by decide) (fun v w1 H locs hw_32 hP hD hS => ?_)
    obtain ⟨x_33, rfl, rfl, hx_33⟩ := hw_32
    have hP : va_P G.1 classes [(b0, .inr (12, [.int b5, .ref b6, .ref b7, .ref b8, .ref b9, .int b10, .ref b11, .int b12, .int b13, .int b14, .int b15, .ref b16, .ref b17, .ref b18, .int b19, .ref b20, .ref b21, .ref b22, .ref b23, .ref b24, .ref b25, .ref b26, .ref b27, .ref b28, .ref b29, .ref b30, .ref b31, .int b32, .ref b33, .ref b34, .int b35, .int b36, .int b37, .int b38, .ref b39, .ref b40, .ref b41, .ref b42, .ref b43, .ref b44, .ref b45, .int b46, .ref b47, .ref b48, .int b49, .ref b50, .ref b51, .ref b52, .ref b53, .ref b54, .int b55, .ref b56, .ref b57, .ref b58])), (b6, .inl (G.2 0, 503, .inl b59))] H := hP
    have hD := z_tie hP hD rfl
    refine W.widen (k := 0) (n := 0) (Nat.le_of_ble_eq_true rfl) (Nat.le_of_ble_eq_true rfl) ?_
    exact z_zret hx hb hr hlocks (zi_nb hx_33) hP hD hS (Nat.le_of_ble_eq_true rfl) (Nat.le_of_ble_eq_true rfl) d_Model_isSo_110 ⟨x_33, rfl, rfl, hx_33⟩
  simp only [fa_lt, fa_le, fa_eq, Int32.toInt_toInt64, li_3] at hs_31
  by_cases hs_34 : b2 = 4
  · subst hs_34
    refine lv_tableIn (off := 110) (tgt := 111) hx hb d_Model_isSo_1 (by decide +kernel) (by decide +kernel) rfl (by decide) ?_
    refine lv_aload_n hx hb d_Model_isSo_111 rfl (lv_at hl 0 rfl) ?_
    refine lv_iload_n hx hb d_Model_isSo_112 rfl (lv_at hl 1 rfl) ?_
    refine lv_iload_n hx hb d_Model_isSo_113 rfl (lv_at hl 3 rfl) ?_
    refine z_callV (index := 376) (As := [.int b1, .int b3]) (rest := []) (wr := []) Z (s1_Model_howOften l G (b0) (b1) (b3) (b5) (b6) (b7) (b8) (b9) (b10) (b11) (b12) (b13) (b14) (b15) (b16) (b17) (b18) (b19) (b20) (b21) (b22) (b23) (b24) (b25) (b26) (b27) (b28) (b29) (b30) (b31) (b32) (b33) (b34) (b35) (b36) (b37) (b38) (b39) (b40) (b41) (b42) (b43) (b44) (b45) (b46) (b47) (b48) (b49) (b50) (b51) (b52) (b53) (b54) (b55) (b56) (b57) (b58) (b59) hb1 hb10 hb12 hb13 hb15 hb19 hb32 hb35 hb46 hb49 hb55 hb59) hl.1 q1581 q1583 qs94 q14 q1584 ⟨by decide, by decide, by show _ = some 2; decide +kernel⟩ ⟨Nat.le_of_ble_eq_true rfl, Nat.le_of_ble_eq_true rfl⟩ ⟨Nat.le_of_ble_eq_true rfl, Nat.le_of_ble_eq_true rfl⟩ rfl (Nat.le_of_ble_eq_true rfl) d_Model_isSo_114 hP hD hS hA 0 12 rfl rfl rfl [0, 1] [] rfl rfl rfl rfl (by decide) (fun v w1 H locs hw_35 hP hD hS => ?_)
    obtain ⟨x_36, rfl, rfl⟩ := hw_35
    have hP : va_P G.1 classes [(b0, .inr (12, [.int b5, .ref b6, .ref b7, .ref b8, .ref b9, .int b10, .ref b11, .int b12, .int b13, .int b14, .int b15, .ref b16, .ref b17, .ref b18, .int b19, .ref b20, .ref b21, .ref b22, .ref b23, .ref b24, .ref b25, .ref b26, .ref b27, .ref b28, .ref b29, .ref b30, .ref b31, .int b32, .ref b33, .ref b34, .int b35, .int b36, .int b37, .int b38, .ref b39, .ref b40, .ref b41, .ref b42, .ref b43, .ref b44, .ref b45, .int b46, .ref b47, .ref b48, .int b49, .ref b50, .ref b51, .ref b52, .ref b53, .ref b54, .int b55, .ref b56, .ref b57, .ref b58])), (b6, .inl (G.2 0, 503, .inl b59))] H := hP
    have hD := z_tie hP hD rfl
    refine W.widen (k := 0) (n := 0) (Nat.le_of_ble_eq_true rfl) (Nat.le_of_ble_eq_true rfl) ?_
    refine lv_aload_n hx hb d_Model_isSo_117 rfl (lv_at hl 0 rfl) ?_
    refine lv_iload_n hx hb d_Model_isSo_118 rfl (lv_at hl 1 rfl) ?_
    refine lv_iload hx hb d_Model_isSo_119 (lv_at hl 4 rfl) ?_
    refine z_callV (index := 376) (As := [.int b1, .int b4]) (rest := [.int x_36]) (wr := []) Z (s1_Model_howOften l G (b0) (b1) (b4) (b5) (b6) (b7) (b8) (b9) (b10) (b11) (b12) (b13) (b14) (b15) (b16) (b17) (b18) (b19) (b20) (b21) (b22) (b23) (b24) (b25) (b26) (b27) (b28) (b29) (b30) (b31) (b32) (b33) (b34) (b35) (b36) (b37) (b38) (b39) (b40) (b41) (b42) (b43) (b44) (b45) (b46) (b47) (b48) (b49) (b50) (b51) (b52) (b53) (b54) (b55) (b56) (b57) (b58) (b59) hb1 hb10 hb12 hb13 hb15 hb19 hb32 hb35 hb46 hb49 hb55 hb59) hl.1 q1581 q1583 qs94 q14 q1584 ⟨by decide, by decide, by show _ = some 2; decide +kernel⟩ ⟨Nat.le_of_ble_eq_true rfl, Nat.le_of_ble_eq_true rfl⟩ ⟨Nat.le_of_ble_eq_true rfl, Nat.le_of_ble_eq_true rfl⟩ rfl (Nat.le_of_ble_eq_true rfl) d_Model_isSo_121 hP hD hS hA 0 12 rfl rfl rfl [0, 1] [] rfl rfl rfl rfl (by decide) (fun v w1 H locs hw_37 hP hD hS => ?_)
    obtain ⟨x_38, rfl, rfl⟩ := hw_37
    have hP : va_P G.1 classes [(b0, .inr (12, [.int b5, .ref b6, .ref b7, .ref b8, .ref b9, .int b10, .ref b11, .int b12, .int b13, .int b14, .int b15, .ref b16, .ref b17, .ref b18, .int b19, .ref b20, .ref b21, .ref b22, .ref b23, .ref b24, .ref b25, .ref b26, .ref b27, .ref b28, .ref b29, .ref b30, .ref b31, .int b32, .ref b33, .ref b34, .int b35, .int b36, .int b37, .int b38, .ref b39, .ref b40, .ref b41, .ref b42, .ref b43, .ref b44, .ref b45, .int b46, .ref b47, .ref b48, .int b49, .ref b50, .ref b51, .ref b52, .ref b53, .ref b54, .int b55, .ref b56, .ref b57, .ref b58])), (b6, .inl (G.2 0, 503, .inl b59))] H := hP
    have hD := z_tie hP hD rfl
    refine W.widen (k := 0) (n := 0) (Nat.le_of_ble_eq_true rfl) (Nat.le_of_ble_eq_true rfl) ?_
    refine lv_icmp_ne (tgt := 131) hx hb d_Model_isSo_124 (by decide) (fun hc_39 => ?_) (fun hc_39 => ?_)
    · have _nhc_39 := hc_39
      have ni_40 : ¬ (x_36 : Int32).toInt = (x_38 : Int32).toInt := fun z => hc_39 ((fa_eq _ _).mpr z)
      refine lv_iconst (v := 0) hx hb d_Model_isSo_131 (by decide) ?_
      exact z_zret hx hb hr hlocks rfl hP hD hS (Nat.le_of_ble_eq_true rfl) (Nat.le_of_ble_eq_true rfl) d_Model_isSo_132 ⟨0, rfl, rfl, (zI.wk (l' := 0) (h' := 1) zc_0 (by decide))⟩
    · have _nhc_39 := hc_39
      have ni_41 := (fa_eq _ _).mp hc_39
      refine lv_iconst (v := 1) hx hb d_Model_isSo_127 (by decide) ?_
      refine lv_goto (tgt := 132) hx hb d_Model_isSo_128 (by decide) ?_
      exact z_zret hx hb hr hlocks rfl hP hD hS (Nat.le_of_ble_eq_true rfl) (Nat.le_of_ble_eq_true rfl) d_Model_isSo_132 ⟨1, rfl, rfl, (zI.wk (l' := 0) (h' := 1) zc_1 (by decide))⟩
  simp only [fa_lt, fa_le, fa_eq, Int32.toInt_toInt64, li_4] at hs_34
  refine lv_tableOut (tgt := 133) hx hb d_Model_isSo_1 (by omega) (by decide) ?_
  refine lv_aload_n hx hb d_Model_isSo_133 rfl (lv_at hl 0 rfl) ?_
  refine lv_iload_n hx hb d_Model_isSo_134 rfl (lv_at hl 1 rfl) ?_
  refine lv_iload_n hx hb d_Model_isSo_135 rfl (lv_at hl 3 rfl) ?_
  refine lv_iload hx hb d_Model_isSo_136 (lv_at hl 4 rfl) ?_
  refine z_callV (index := 379) (As := [.int b1, .int b3, .int b4]) (rest := []) (wr := []) Z (s1_Model_inTurn l G (b0) (b1) (b3) (b4) (b5) (b6) (b7) (b8) (b9) (b10) (b11) (b12) (b13) (b14) (b15) (b16) (b17) (b18) (b19) (b20) (b21) (b22) (b23) (b24) (b25) (b26) (b27) (b28) (b29) (b30) (b31) (b32) (b33) (b34) (b35) (b36) (b37) (b38) (b39) (b40) (b41) (b42) (b43) (b44) (b45) (b46) (b47) (b48) (b49) (b50) (b51) (b52) (b53) (b54) (b55) (b56) (b57) (b58) (b59) hb1 hb10 hb12 hb13 hb15 hb19 hb32 hb35 hb46 hb49 hb55 hb59) hl.1 q1585 q1587 qs95 q14 q1588 ⟨by decide, by decide, by show _ = some 3; decide +kernel⟩ ⟨Nat.le_of_ble_eq_true rfl, Nat.le_of_ble_eq_true rfl⟩ ⟨Nat.le_of_ble_eq_true rfl, Nat.le_of_ble_eq_true rfl⟩ rfl (Nat.le_of_ble_eq_true rfl) d_Model_isSo_138 hP hD hS hA 0 12 rfl rfl rfl [0, 1] [] rfl rfl rfl rfl (by decide) (fun v w1 H locs hw_42 hP hD hS => ?_)
  obtain ⟨x_43, rfl, rfl, hx_43⟩ := hw_42
  have hP : va_P G.1 classes [(b0, .inr (12, [.int b5, .ref b6, .ref b7, .ref b8, .ref b9, .int b10, .ref b11, .int b12, .int b13, .int b14, .int b15, .ref b16, .ref b17, .ref b18, .int b19, .ref b20, .ref b21, .ref b22, .ref b23, .ref b24, .ref b25, .ref b26, .ref b27, .ref b28, .ref b29, .ref b30, .ref b31, .int b32, .ref b33, .ref b34, .int b35, .int b36, .int b37, .int b38, .ref b39, .ref b40, .ref b41, .ref b42, .ref b43, .ref b44, .ref b45, .int b46, .ref b47, .ref b48, .int b49, .ref b50, .ref b51, .ref b52, .ref b53, .ref b54, .int b55, .ref b56, .ref b57, .ref b58])), (b6, .inl (G.2 0, 503, .inl b59))] H := hP
  have hD := z_tie hP hD rfl
  refine W.widen (k := 0) (n := 0) (Nat.le_of_ble_eq_true rfl) (Nat.le_of_ble_eq_true rfl) ?_
  exact z_zret hx hb hr hlocks (zi_nb hx_43) hP hD hS (Nat.le_of_ble_eq_true rfl) (Nat.le_of_ble_eq_true rfl) d_Model_isSo_141 ⟨x_43, rfl, rfl, hx_43⟩
theorem d_Model_asked_0 : decode prog_14_method_78_code 0 = .ok (.iconst 0, 1) := by decide +kernel
theorem d_Model_asked_1 : decode prog_14_method_78_code 1 = .ok (.istore 5, 2) := by decide +kernel
theorem d_Model_asked_3 : decode prog_14_method_78_code 3 = .ok (.iconst 0, 1) := by decide +kernel
theorem d_Model_asked_4 : decode prog_14_method_78_code 4 = .ok (.istore 6, 2) := by decide +kernel
theorem d_Model_asked_6 : decode prog_14_method_78_code 6 = .ok (.iload 6, 2) := by decide +kernel
theorem d_Model_asked_8 : decode prog_14_method_78_code 8 = .ok (.aload_n 0, 1) := by decide +kernel
theorem d_Model_asked_9 : decode prog_14_method_78_code 9 = .ok (.invokevirtual 134, 3) := by decide +kernel
theorem d_Model_asked_12 : decode prog_14_method_78_code 12 = .ok (.if_icmp .ge 48, 3) := by decide +kernel
theorem d_Model_asked_15 : decode prog_14_method_78_code 15 = .ok (.iload 5, 2) := by decide +kernel
theorem d_Model_asked_17 : decode prog_14_method_78_code 17 = .ok (.aload_n 0, 1) := by decide +kernel
theorem d_Model_asked_18 : decode prog_14_method_78_code 18 = .ok (.iload 6, 2) := by decide +kernel
theorem d_Model_asked_20 : decode prog_14_method_78_code 20 = .ok (.iload_n 1, 1) := by decide +kernel
theorem d_Model_asked_21 : decode prog_14_method_78_code 21 = .ok (.iload_n 2, 1) := by decide +kernel
theorem d_Model_asked_22 : decode prog_14_method_78_code 22 = .ok (.iload_n 3, 1) := by decide +kernel
theorem d_Model_asked_23 : decode prog_14_method_78_code 23 = .ok (.invokevirtual 382, 3) := by decide +kernel
theorem d_Model_asked_26 : decode prog_14_method_78_code 26 = .ok (.ifCond .eq 24, 3) := by decide +kernel
theorem d_Model_asked_29 : decode prog_14_method_78_code 29 = .ok (.iload 4, 2) := by decide +kernel
theorem d_Model_asked_31 : decode prog_14_method_78_code 31 = .ok (.ifCond .eq 15, 3) := by decide +kernel
theorem d_Model_asked_34 : decode prog_14_method_78_code 34 = .ok (.aload_n 0, 1) := by decide +kernel
theorem d_Model_asked_35 : decode prog_14_method_78_code 35 = .ok (.iload 6, 2) := by decide +kernel
theorem d_Model_asked_37 : decode prog_14_method_78_code 37 = .ok (.iload_n 1, 1) := by decide +kernel
theorem d_Model_asked_38 : decode prog_14_method_78_code 38 = .ok (.iload_n 2, 1) := by decide +kernel
theorem d_Model_asked_39 : decode prog_14_method_78_code 39 = .ok (.iload_n 3, 1) := by decide +kernel
theorem d_Model_asked_40 : decode prog_14_method_78_code 40 = .ok (.invokevirtual 386, 3) := by decide +kernel
theorem d_Model_asked_43 : decode prog_14_method_78_code 43 = .ok (.ifCond .eq 7, 3) := by decide +kernel
theorem d_Model_asked_46 : decode prog_14_method_78_code 46 = .ok (.iconst 1, 1) := by decide +kernel
theorem d_Model_asked_47 : decode prog_14_method_78_code 47 = .ok (.goto 4, 3) := by decide +kernel
theorem d_Model_asked_50 : decode prog_14_method_78_code 50 = .ok (.iconst 0, 1) := by decide +kernel
theorem d_Model_asked_51 : decode prog_14_method_78_code 51 = .ok (.iadd, 1) := by decide +kernel
theorem d_Model_asked_52 : decode prog_14_method_78_code 52 = .ok (.istore 5, 2) := by decide +kernel
theorem d_Model_asked_54 : decode prog_14_method_78_code 54 = .ok (.iinc 6 1, 3) := by decide +kernel
theorem d_Model_asked_57 : decode prog_14_method_78_code 57 = .ok (.goto (-51), 3) := by decide +kernel
theorem d_Model_asked_60 : decode prog_14_method_78_code 60 = .ok (.iload 5, 2) := by decide +kernel
theorem d_Model_asked_62 : decode prog_14_method_78_code 62 = .ok (.ireturn, 1) := by decide +kernel
theorem d_Model_isAsked_0 : decode prog_14_method_71_code 0 = .ok (.iload_n 2, 1) := by decide +kernel
theorem d_Model_isAsked_1 : decode prog_14_method_71_code 1 = .ok (.iconst 1, 1) := by decide +kernel
theorem d_Model_isAsked_2 : decode prog_14_method_71_code 2 = .ok (.if_icmp .ne 13, 3) := by decide +kernel
theorem d_Model_isAsked_5 : decode prog_14_method_71_code 5 = .ok (.aload_n 0, 1) := by decide +kernel
theorem d_Model_isAsked_6 : decode prog_14_method_71_code 6 = .ok (.iload_n 1, 1) := by decide +kernel
theorem d_Model_isAsked_7 : decode prog_14_method_71_code 7 = .ok (.iload 4, 2) := by decide +kernel
theorem d_Model_isAsked_9 : decode prog_14_method_71_code 9 = .ok (.invokevirtual 363, 3) := by decide +kernel
theorem d_Model_isAsked_12 : decode prog_14_method_71_code 12 = .ok (.goto 32, 3) := by decide +kernel
theorem d_Model_isAsked_15 : decode prog_14_method_71_code 15 = .ok (.aload_n 0, 1) := by decide +kernel
theorem d_Model_isAsked_16 : decode prog_14_method_71_code 16 = .ok (.iload_n 1, 1) := by decide +kernel
theorem d_Model_isAsked_17 : decode prog_14_method_71_code 17 = .ok (.iload_n 3, 1) := by decide +kernel
theorem d_Model_isAsked_18 : decode prog_14_method_71_code 18 = .ok (.invokevirtual 363, 3) := by decide +kernel
theorem d_Model_isAsked_21 : decode prog_14_method_71_code 21 = .ok (.ifCond .ne 18, 3) := by decide +kernel
theorem d_Model_isAsked_24 : decode prog_14_method_71_code 24 = .ok (.iload_n 2, 1) := by decide +kernel
theorem d_Model_isAsked_25 : decode prog_14_method_71_code 25 = .ok (.iconst 3, 1) := by decide +kernel
theorem d_Model_isAsked_26 : decode prog_14_method_71_code 26 = .ok (.if_icmp .le 17, 3) := by decide +kernel
theorem d_Model_isAsked_29 : decode prog_14_method_71_code 29 = .ok (.aload_n 0, 1) := by decide +kernel
theorem d_Model_isAsked_30 : decode prog_14_method_71_code 30 = .ok (.iload_n 1, 1) := by decide +kernel
theorem d_Model_isAsked_31 : decode prog_14_method_71_code 31 = .ok (.iload 4, 2) := by decide +kernel
theorem d_Model_isAsked_33 : decode prog_14_method_71_code 33 = .ok (.invokevirtual 363, 3) := by decide +kernel
theorem d_Model_isAsked_36 : decode prog_14_method_71_code 36 = .ok (.ifCond .eq 7, 3) := by decide +kernel
theorem d_Model_isAsked_39 : decode prog_14_method_71_code 39 = .ok (.iconst 1, 1) := by decide +kernel
theorem d_Model_isAsked_40 : decode prog_14_method_71_code 40 = .ok (.goto 4, 3) := by decide +kernel
theorem d_Model_isAsked_43 : decode prog_14_method_71_code 43 = .ok (.iconst 0, 1) := by decide +kernel
theorem d_Model_isAsked_44 : decode prog_14_method_71_code 44 = .ok (.ireturn, 1) := by decide +kernel
abbrev m_s8_Model_isAsked : Room := { frames := 2, cells := 0, slots := 0, locals := 46 }
set_option maxHeartbeats 4000000 in
set_option maxRecDepth 100000 in
theorem s8_Model_isAsked (l : Launch) (G : zG) (b0 : Nat) (b1 : Int32) (b2 : Int32) (b3 : Int32) (b4 : Int32) (b5 : Int32) (b6 : Nat) (b7 : Nat) (b8 : Nat) (b9 : Nat) (b10 : Int32) (b11 : Nat) (b12 : Int32) (b13 : Int32) (b14 : Int32) (b15 : Int32) (b16 : Nat) (b17 : Nat) (b18 : Nat) (b19 : Int32) (b20 : Nat) (b21 : Nat) (b22 : Nat) (b23 : Nat) (b24 : Nat) (b25 : Nat) (b26 : Nat) (b27 : Nat) (b28 : Nat) (b29 : Nat) (b30 : Nat) (b31 : Nat) (b32 : Int32) (b33 : Nat) (b34 : Nat) (b35 : Int32) (b36 : Int32) (b37 : Int32) (b38 : Int32) (b39 : Nat) (b40 : Nat) (b41 : Nat) (b42 : Nat) (b43 : Nat) (b44 : Nat) (b45 : Nat) (b46 : Int32) (b47 : Nat) (b48 : Nat) (b49 : Int32) (b50 : Nat) (b51 : Nat) (b52 : Nat) (b53 : Nat) (b54 : Nat) (b55 : Int32) (b56 : Nat) (b57 : Nat) (b58 : Nat) (b59 : Nat → Int32) (hb1 : zI b1 0 19) (hb10 : zI b10 0 8) (hb12 : zI b12 0 240) (hb13 : zI b13 0 240) (hb15 : zI b15 0 1) (hb19 : zI b19 0 12) (hb32 : zI b32 0 1) (hb35 : zI b35 0 1) (hb46 : zI b46 0 1000) (hb49 : zI b49 0 1000) (hb55 : zI b55 0 400) (hb59 : zW5 b59) : zM l G y_Model_isAsked prog_14_method_71_code 5 (Option.some Jvm.ClassFile.FieldType.boolean) m_s8_Model_isAsked [.ref b0, .int b1, .int b2, .int b3, .int b4] [(b0, .inr (12, [.int b5, .ref b6, .ref b7, .ref b8, .ref b9, .int b10, .ref b11, .int b12, .int b13, .int b14, .int b15, .ref b16, .ref b17, .ref b18, .int b19, .ref b20, .ref b21, .ref b22, .ref b23, .ref b24, .ref b25, .ref b26, .ref b27, .ref b28, .ref b29, .ref b30, .ref b31, .int b32, .ref b33, .ref b34, .int b35, .int b36, .int b37, .int b38, .ref b39, .ref b40, .ref b41, .ref b42, .ref b43, .ref b44, .ref b45, .int b46, .ref b47, .ref b48, .int b49, .ref b50, .ref b51, .ref b52, .ref b53, .ref b54, .int b55, .ref b56, .ref b57, .ref b58])), (b6, .inl (G.2 0, 503, .inl b59))] (fun v w => ∃ (e0 : Int32), v = some (.int e0) ∧ w = [(b0, .inr (12, [.int b5, .ref b6, .ref b7, .ref b8, .ref b9, .int b10, .ref b11, .int b12, .int b13, .int b14, .int b15, .ref b16, .ref b17, .ref b18, .int b19, .ref b20, .ref b21, .ref b22, .ref b23, .ref b24, .ref b25, .ref b26, .ref b27, .ref b28, .ref b29, .ref b30, .ref b31, .int b32, .ref b33, .ref b34, .int b35, .int b36, .int b37, .int b38, .ref b39, .ref b40, .ref b41, .ref b42, .ref b43, .ref b44, .ref b45, .int b46, .ref b47, .ref b48, .int b49, .ref b50, .ref b51, .ref b52, .ref b53, .ref b54, .int b55, .ref b56, .ref b57, .ref b58])), (b6, .inl (G.2 0, 503, .inl b59))] ∧ (zI e0 0 1)) := by
  refine z_start (by decide +kernel) (Nat.le_of_ble_eq_true rfl) ?_
  intro p e s m below meth c A Z hr hnm hA hP hD hS ls hl
  have Z : zC p s m _ meth c prog_14_method_71_code 5 "TraceMachinesModel" G := Z
  obtain ⟨hx, hb, hml, hown, hts, hK, hN, hlocks⟩ := id Z
  have hl : lv_has ls 5 [(0, .ref b0), (1, .int b1), (2, .int b2), (3, .int b3), (4, .int b4)] := hl
  refine lv_iload_n hx hb d_Model_isAsked_0 rfl (lv_at hl 2 rfl) ?_
  refine lv_iconst (v := 1) hx hb d_Model_isAsked_1 (by decide) ?_
  refine lv_icmp_ne (tgt := 15) hx hb d_Model_isAsked_2 (by decide) (fun hc_1 => ?_) (fun hc_1 => ?_)
  · have _nhc_1 := hc_1
    have ni_2 : ¬ (b2 : Int32).toInt = (1 : Int32).toInt := fun z => hc_1 ((fa_eq _ _).mpr z)
    simp only [li_1] at ni_2
    refine lv_aload_n hx hb d_Model_isAsked_15 rfl (lv_at hl 0 rfl) ?_
    refine lv_iload_n hx hb d_Model_isAsked_16 rfl (lv_at hl 1 rfl) ?_
    refine lv_iload_n hx hb d_Model_isAsked_17 rfl (lv_at hl 3 rfl) ?_
    refine z_callV (index := 363) (As := [.int b1, .int b3]) (rest := []) (wr := []) Z (s1_Model_hasLetter l G (b0) (b1) (b3) (b5) (b6) (b7) (b8) (b9) (b10) (b11) (b12) (b13) (b14) (b15) (b16) (b17) (b18) (b19) (b20) (b21) (b22) (b23) (b24) (b25) (b26) (b27) (b28) (b29) (b30) (b31) (b32) (b33) (b34) (b35) (b36) (b37) (b38) (b39) (b40) (b41) (b42) (b43) (b44) (b45) (b46) (b47) (b48) (b49) (b50) (b51) (b52) (b53) (b54) (b55) (b56) (b57) (b58) (b59) hb1 hb10 hb12 hb13 hb15 hb19 hb32 hb35 hb46 hb49 hb55 hb59) hl.1 q1561 q1563 qs89 q14 q1564 ⟨by decide, by decide, by show _ = some 2; decide +kernel⟩ ⟨Nat.le_of_ble_eq_true rfl, Nat.le_of_ble_eq_true rfl⟩ ⟨Nat.le_of_ble_eq_true rfl, Nat.le_of_ble_eq_true rfl⟩ rfl (Nat.le_of_ble_eq_true rfl) d_Model_isAsked_18 hP hD hS hA 0 12 rfl rfl rfl [0, 1] [] rfl rfl rfl rfl (by decide) (fun v w1 H locs hw_3 hP hD hS => ?_)
    obtain ⟨x_4, rfl, rfl, hx_4⟩ := hw_3
    have hP : va_P G.1 classes [(b0, .inr (12, [.int b5, .ref b6, .ref b7, .ref b8, .ref b9, .int b10, .ref b11, .int b12, .int b13, .int b14, .int b15, .ref b16, .ref b17, .ref b18, .int b19, .ref b20, .ref b21, .ref b22, .ref b23, .ref b24, .ref b25, .ref b26, .ref b27, .ref b28, .ref b29, .ref b30, .ref b31, .int b32, .ref b33, .ref b34, .int b35, .int b36, .int b37, .int b38, .ref b39, .ref b40, .ref b41, .ref b42, .ref b43, .ref b44, .ref b45, .int b46, .ref b47, .ref b48, .int b49, .ref b50, .ref b51, .ref b52, .ref b53, .ref b54, .int b55, .ref b56, .ref b57, .ref b58])), (b6, .inl (G.2 0, 503, .inl b59))] H := hP
    have hD := z_tie hP hD rfl
    refine W.widen (k := 0) (n := 0) (Nat.le_of_ble_eq_true rfl) (Nat.le_of_ble_eq_true rfl) ?_
    refine lv_if_ne (tgt := 39) hx hb d_Model_isAsked_21 (by decide) (fun hc_5 => ?_) (fun hc_5 => ?_)
    · have _nhc_5 := hc_5
      have ni_6 : ¬ (x_4 : Int32).toInt = (0 : Int32).toInt := fun z => hc_5 ((fa_eq _ _).mpr z)
      simp only [li_0] at ni_6
      have hv_7 : zI x_4 1 1 := zI.ne_lo hx_4 zc_0 hc_5 (by decide)
      refine lv_iconst (v := 1) hx hb d_Model_isAsked_39 (by decide) ?_
      refine lv_goto (tgt := 44) hx hb d_Model_isAsked_40 (by decide) ?_
      exact z_zret hx hb hr hlocks rfl hP hD hS (Nat.le_of_ble_eq_true rfl) (Nat.le_of_ble_eq_true rfl) d_Model_isAsked_44 ⟨1, rfl, rfl, (zI.wk (l' := 0) (h' := 1) zc_1 (by decide))⟩
    · have _nhc_5 := hc_5
      have ni_8 := (fa_eq _ _).mp hc_5
      rw [li_0] at ni_8
      have hv_9 : zI x_4 0 0 := zI.eq_l hx_4 zc_0 hc_5
      refine lv_iload_n hx hb d_Model_isAsked_24 rfl (lv_at hl 2 rfl) ?_
      refine lv_iconst (v := 3) hx hb d_Model_isAsked_25 (by decide) ?_
      refine lv_icmp_le (tgt := 43) hx hb d_Model_isAsked_26 (by decide) (fun hc_10 => ?_) (fun hc_10 => ?_)
      · have _nhc_10 := hc_10
        have ni_11 := (fa_le _ _).mp hc_10
        rw [li_3] at ni_11
        have hv_12 : zI b2 (-2147483648) 3 := zI.le_l (zI_all b2) zc_3 hc_10 (by decide)
        refine lv_iconst (v := 0) hx hb d_Model_isAsked_43 (by decide) ?_
        exact z_zret hx hb hr hlocks rfl hP hD hS (Nat.le_of_ble_eq_true rfl) (Nat.le_of_ble_eq_true rfl) d_Model_isAsked_44 ⟨0, rfl, rfl, (zI.wk (l' := 0) (h' := 1) zc_0 (by decide))⟩
      · have _nhc_10 := hc_10
        have ni_13 := (fa_lt _ _).mp (zi_nle hc_10)
        rw [li_3] at ni_13
        have hv_14 : zI b2 4 2147483647 := zI.lt_r zc_3 (zI_all b2) (zi_nle hc_10) (by decide)
        refine lv_aload_n hx hb d_Model_isAsked_29 rfl (lv_at hl 0 rfl) ?_
        refine lv_iload_n hx hb d_Model_isAsked_30 rfl (lv_at hl 1 rfl) ?_
        refine lv_iload hx hb d_Model_isAsked_31 (lv_at hl 4 rfl) ?_
        refine z_callV (index := 363) (As := [.int b1, .int b4]) (rest := []) (wr := []) Z (s1_Model_hasLetter l G (b0) (b1) (b4) (b5) (b6) (b7) (b8) (b9) (b10) (b11) (b12) (b13) (b14) (b15) (b16) (b17) (b18) (b19) (b20) (b21) (b22) (b23) (b24) (b25) (b26) (b27) (b28) (b29) (b30) (b31) (b32) (b33) (b34) (b35) (b36) (b37) (b38) (b39) (b40) (b41) (b42) (b43) (b44) (b45) (b46) (b47) (b48) (b49) (b50) (b51) (b52) (b53) (b54) (b55) (b56) (b57) (b58) (b59) hb1 hb10 hb12 hb13 hb15 hb19 hb32 hb35 hb46 hb49 hb55 hb59) hl.1 q1561 q1563 qs89 q14 q1564 ⟨by decide, by decide, by show _ = some 2; decide +kernel⟩ ⟨Nat.le_of_ble_eq_true rfl, Nat.le_of_ble_eq_true rfl⟩ ⟨Nat.le_of_ble_eq_true rfl, Nat.le_of_ble_eq_true rfl⟩ rfl (Nat.le_of_ble_eq_true rfl) d_Model_isAsked_33 hP hD hS hA 0 12 rfl rfl rfl [0, 1] [] rfl rfl rfl rfl (by decide) (fun v w1 H locs hw_15 hP hD hS => ?_)
        obtain ⟨x_16, rfl, rfl, hx_16⟩ := hw_15
        have hP : va_P G.1 classes [(b0, .inr (12, [.int b5, .ref b6, .ref b7, .ref b8, .ref b9, .int b10, .ref b11, .int b12, .int b13, .int b14, .int b15, .ref b16, .ref b17, .ref b18, .int b19, .ref b20, .ref b21, .ref b22, .ref b23, .ref b24, .ref b25, .ref b26, .ref b27, .ref b28, .ref b29, .ref b30, .ref b31, .int b32, .ref b33, .ref b34, .int b35, .int b36, .int b37, .int b38, .ref b39, .ref b40, .ref b41, .ref b42, .ref b43, .ref b44, .ref b45, .int b46, .ref b47, .ref b48, .int b49, .ref b50, .ref b51, .ref b52, .ref b53, .ref b54, .int b55, .ref b56, .ref b57, .ref b58])), (b6, .inl (G.2 0, 503, .inl b59))] H := hP
        have hD := z_tie hP hD rfl
        refine W.widen (k := 0) (n := 0) (Nat.le_of_ble_eq_true rfl) (Nat.le_of_ble_eq_true rfl) ?_
        refine lv_if_eq (tgt := 43) hx hb d_Model_isAsked_36 (by decide) (fun hc_17 => ?_) (fun hc_17 => ?_)
        · have _nhc_17 := hc_17
          have ni_18 := (fa_eq _ _).mp hc_17
          rw [li_0] at ni_18
          have hv_19 : zI x_16 0 0 := zI.eq_l hx_16 zc_0 hc_17
          refine lv_iconst (v := 0) hx hb d_Model_isAsked_43 (by decide) ?_
          exact z_zret hx hb hr hlocks rfl hP hD hS (Nat.le_of_ble_eq_true rfl) (Nat.le_of_ble_eq_true rfl) d_Model_isAsked_44 ⟨0, rfl, rfl, (zI.wk (l' := 0) (h' := 1) zc_0 (by decide))⟩
        · have _nhc_17 := hc_17
          have ni_20 : ¬ (x_16 : Int32).toInt = (0 : Int32).toInt := fun z => hc_17 ((fa_eq _ _).mpr z)
          simp only [li_0] at ni_20
          have hv_21 : zI x_16 1 1 := zI.ne_lo hx_16 zc_0 hc_17 (by decide)
          refine lv_iconst (v := 1) hx hb d_Model_isAsked_39 (by decide) ?_
          refine lv_goto (tgt := 44) hx hb d_Model_isAsked_40 (by decide) ?_
          exact z_zret hx hb hr hlocks rfl hP hD hS (Nat.le_of_ble_eq_true rfl) (Nat.le_of_ble_eq_true rfl) d_Model_isAsked_44 ⟨1, rfl, rfl, (zI.wk (l' := 0) (h' := 1) zc_1 (by decide))⟩
  · have _nhc_1 := hc_1
    have ni_22 := (fa_eq _ _).mp hc_1
    rw [li_1] at ni_22
    have hv_23 : zI b2 1 1 := zI.eq_l (zI_all b2) zc_1 hc_1
    refine lv_aload_n hx hb d_Model_isAsked_5 rfl (lv_at hl 0 rfl) ?_
    refine lv_iload_n hx hb d_Model_isAsked_6 rfl (lv_at hl 1 rfl) ?_
    refine lv_iload hx hb d_Model_isAsked_7 (lv_at hl 4 rfl) ?_
    refine z_callV (index := 363) (As := [.int b1, .int b4]) (rest := []) (wr := []) Z (s1_Model_hasLetter l G (b0) (b1) (b4) (b5) (b6) (b7) (b8) (b9) (b10) (b11) (b12) (b13) (b14) (b15) (b16) (b17) (b18) (b19) (b20) (b21) (b22) (b23) (b24) (b25) (b26) (b27) (b28) (b29) (b30) (b31) (b32) (b33) (b34) (b35) (b36) (b37) (b38) (b39) (b40) (b41) (b42) (b43) (b44) (b45) (b46) (b47) (b48) (b49) (b50) (b51) (b52) (b53) (b54) (b55) (b56) (b57) (b58) (b59) hb1 hb10 hb12 hb13 hb15 hb19 hb32 hb35 hb46 hb49 hb55 hb59) hl.1 q1561 q1563 qs89 q14 q1564 ⟨by decide, by decide, by show _ = some 2; decide +kernel⟩ ⟨Nat.le_of_ble_eq_true rfl, Nat.le_of_ble_eq_true rfl⟩ ⟨Nat.le_of_ble_eq_true rfl, Nat.le_of_ble_eq_true rfl⟩ rfl (Nat.le_of_ble_eq_true rfl) d_Model_isAsked_9 hP hD hS hA 0 12 rfl rfl rfl [0, 1] [] rfl rfl rfl rfl (by decide) (fun v w1 H locs hw_24 hP hD hS => ?_)
    obtain ⟨x_25, rfl, rfl, hx_25⟩ := hw_24
    have hP : va_P G.1 classes [(b0, .inr (12, [.int b5, .ref b6, .ref b7, .ref b8, .ref b9, .int b10, .ref b11, .int b12, .int b13, .int b14, .int b15, .ref b16, .ref b17, .ref b18, .int b19, .ref b20, .ref b21, .ref b22, .ref b23, .ref b24, .ref b25, .ref b26, .ref b27, .ref b28, .ref b29, .ref b30, .ref b31, .int b32, .ref b33, .ref b34, .int b35, .int b36, .int b37, .int b38, .ref b39, .ref b40, .ref b41, .ref b42, .ref b43, .ref b44, .ref b45, .int b46, .ref b47, .ref b48, .int b49, .ref b50, .ref b51, .ref b52, .ref b53, .ref b54, .int b55, .ref b56, .ref b57, .ref b58])), (b6, .inl (G.2 0, 503, .inl b59))] H := hP
    have hD := z_tie hP hD rfl
    refine W.widen (k := 0) (n := 0) (Nat.le_of_ble_eq_true rfl) (Nat.le_of_ble_eq_true rfl) ?_
    refine lv_goto (tgt := 44) hx hb d_Model_isAsked_12 (by decide) ?_
    exact z_zret hx hb hr hlocks (zi_nb hx_25) hP hD hS (Nat.le_of_ble_eq_true rfl) (Nat.le_of_ble_eq_true rfl) d_Model_isAsked_44 ⟨x_25, rfl, rfl, hx_25⟩
abbrev m_s1_Model_asked : Room := { frames := 3, cells := 0, slots := 0, locals := 73 }
set_option maxHeartbeats 4000000 in
set_option maxRecDepth 100000 in
theorem s1_Model_asked (l : Launch) (G : zG) (b0 : Nat) (b1 : Int32) (b2 : Int32) (b3 : Int32) (b4 : Int32) (b5 : Int32) (b6 : Nat) (b7 : Nat) (b8 : Nat) (b9 : Nat) (b10 : Int32) (b11 : Nat) (b12 : Int32) (b13 : Int32) (b14 : Int32) (b15 : Int32) (b16 : Nat) (b17 : Nat) (b18 : Nat) (b19 : Int32) (b20 : Nat) (b21 : Nat) (b22 : Nat) (b23 : Nat) (b24 : Nat) (b25 : Nat) (b26 : Nat) (b27 : Nat) (b28 : Nat) (b29 : Nat) (b30 : Nat) (b31 : Nat) (b32 : Int32) (b33 : Nat) (b34 : Nat) (b35 : Int32) (b36 : Int32) (b37 : Int32) (b38 : Int32) (b39 : Nat) (b40 : Nat) (b41 : Nat) (b42 : Nat) (b43 : Nat) (b44 : Nat) (b45 : Nat) (b46 : Int32) (b47 : Nat) (b48 : Nat) (b49 : Int32) (b50 : Nat) (b51 : Nat) (b52 : Nat) (b53 : Nat) (b54 : Nat) (b55 : Int32) (b56 : Nat) (b57 : Nat) (b58 : Nat) (b59 : Nat → Int32) (hb10 : zI b10 0 8) (hb12 : zI b12 0 240) (hb13 : zI b13 0 240) (hb15 : zI b15 0 1) (hb19 : zI b19 0 12) (hb32 : zI b32 0 1) (hb35 : zI b35 0 1) (hb46 : zI b46 0 1000) (hb49 : zI b49 0 1000) (hb55 : zI b55 0 400) (hb59 : zW5 b59) : zM l G y_Model_asked prog_14_method_78_code 7 (Option.some Jvm.ClassFile.FieldType.int) m_s1_Model_asked [.ref b0, .int b1, .int b2, .int b3, .int b4] [(b0, .inr (12, [.int b5, .ref b6, .ref b7, .ref b8, .ref b9, .int b10, .ref b11, .int b12, .int b13, .int b14, .int b15, .ref b16, .ref b17, .ref b18, .int b19, .ref b20, .ref b21, .ref b22, .ref b23, .ref b24, .ref b25, .ref b26, .ref b27, .ref b28, .ref b29, .ref b30, .ref b31, .int b32, .ref b33, .ref b34, .int b35, .int b36, .int b37, .int b38, .ref b39, .ref b40, .ref b41, .ref b42, .ref b43, .ref b44, .ref b45, .int b46, .ref b47, .ref b48, .int b49, .ref b50, .ref b51, .ref b52, .ref b53, .ref b54, .int b55, .ref b56, .ref b57, .ref b58])), (b6, .inl (G.2 0, 503, .inl b59))] (fun v w => ∃ (e0 : Int32), v = some (.int e0) ∧ w = [(b0, .inr (12, [.int b5, .ref b6, .ref b7, .ref b8, .ref b9, .int b10, .ref b11, .int b12, .int b13, .int b14, .int b15, .ref b16, .ref b17, .ref b18, .int b19, .ref b20, .ref b21, .ref b22, .ref b23, .ref b24, .ref b25, .ref b26, .ref b27, .ref b28, .ref b29, .ref b30, .ref b31, .int b32, .ref b33, .ref b34, .int b35, .int b36, .int b37, .int b38, .ref b39, .ref b40, .ref b41, .ref b42, .ref b43, .ref b44, .ref b45, .int b46, .ref b47, .ref b48, .int b49, .ref b50, .ref b51, .ref b52, .ref b53, .ref b54, .int b55, .ref b56, .ref b57, .ref b58])), (b6, .inl (G.2 0, 503, .inl b59))]) := by
  refine z_start (by decide +kernel) (Nat.le_of_ble_eq_true rfl) ?_
  intro p e s m below meth c A Z hr hnm hA hP hD hS ls hl
  have Z : zC p s m _ meth c prog_14_method_78_code 7 "TraceMachinesModel" G := Z
  obtain ⟨hx, hb, hml, hown, hts, hK, hN, hlocks⟩ := id Z
  have hl : lv_has ls 7 [(0, .ref b0), (1, .int b1), (2, .int b2), (3, .int b3), (4, .int b4)] := hl
  refine lv_iconst (v := 0) hx hb d_Model_asked_0 (by decide) ?_
  refine lv_istore (lv' := [(5, .int 0), (0, .ref b0), (1, .int b1), (2, .int b2), (3, .int b3), (4, .int b4)]) hx hb d_Model_asked_1 hl (by decide) rfl (fun ls hl => ?_)
  refine lv_iconst (v := 0) hx hb d_Model_asked_3 (by decide) ?_
  refine lv_istore (lv' := [(6, .int 0), (5, .int 0), (0, .ref b0), (1, .int b1), (2, .int b2), (3, .int b3), (4, .int b4)]) hx hb d_Model_asked_4 hl (by decide) rfl (fun ls hl => ?_)
  suffices key : ∀ (k_37 : Nat) (y_38 : Int32) (y_39 : Int32) (H : Heap) (locs : List Loc) (ls : Array Slot), (zI y_38 0 20) → (20 : Int) - y_38.toInt < (k_37 : Int) → va_P G.1 classes [(b0, .inr (12, [.int b5, .ref b6, .ref b7, .ref b8, .ref b9, .int b10, .ref b11, .int b12, .int b13, .int b14, .int b15, .ref b16, .ref b17, .ref b18, .int b19, .ref b20, .ref b21, .ref b22, .ref b23, .ref b24, .ref b25, .ref b26, .ref b27, .ref b28, .ref b29, .ref b30, .ref b31, .int b32, .ref b33, .ref b34, .int b35, .int b36, .int b37, .int b38, .ref b39, .ref b40, .ref b41, .ref b42, .ref b43, .ref b44, .ref b45, .int b46, .ref b47, .ref b48, .int b49, .ref b50, .ref b51, .ref b52, .ref b53, .ref b54, .int b55, .ref b56, .ref b57, .ref b58])), (b6, .inl (G.2 0, 503, .inl b59))] H → va_D A [(b0, .inr (12, [.int b5, .ref b6, .ref b7, .ref b8, .ref b9, .int b10, .ref b11, .int b12, .int b13, .int b14, .int b15, .ref b16, .ref b17, .ref b18, .int b19, .ref b20, .ref b21, .ref b22, .ref b23, .ref b24, .ref b25, .ref b26, .ref b27, .ref b28, .ref b29, .ref b30, .ref b31, .int b32, .ref b33, .ref b34, .int b35, .int b36, .int b37, .int b38, .ref b39, .ref b40, .ref b41, .ref b42, .ref b43, .ref b44, .ref b45, .int b46, .ref b47, .ref b48, .int b49, .ref b50, .ref b51, .ref b52, .ref b53, .ref b54, .int b55, .ref b56, .ref b57, .ref b58])), (b6, .inl (G.2 0, 503, .inl b59))] → va_S A s.heap H locs → lv_has ls 7 [(6, .int y_38), (5, .int y_39), (0, .ref b0), (1, .int b1), (2, .int b2), (3, .int b3), (4, .int b4)] → W p l e m_s1_Model_asked s m ([.ref b0, .int b1, .int b2, .int b3, .int b4] : List Value).toArray below meth c H locs 0 0 (MQ below (zQ G (fun v w => ∃ (e0 : Int32), v = some (.int e0) ∧ w = [(b0, .inr (12, [.int b5, .ref b6, .ref b7, .ref b8, .ref b9, .int b10, .ref b11, .int b12, .int b13, .int b14, .int b15, .ref b16, .ref b17, .ref b18, .int b19, .ref b20, .ref b21, .ref b22, .ref b23, .ref b24, .ref b25, .ref b26, .ref b27, .ref b28, .ref b29, .ref b30, .ref b31, .int b32, .ref b33, .ref b34, .int b35, .int b36, .int b37, .int b38, .ref b39, .ref b40, .ref b41, .ref b42, .ref b43, .ref b44, .ref b45, .int b46, .ref b47, .ref b48, .int b49, .ref b50, .ref b51, .ref b52, .ref b53, .ref b54, .int b55, .ref b56, .ref b57, .ref b58])), (b6, .inl (G.2 0, 503, .inl b59))]) A) ([.ref b0, .int b1, .int b2, .int b3, .int b4] : List Value).toArray s m_s1_Model_asked.cells m_s1_Model_asked.slots A) (F0 m 6 ls []) by
    exact key 21 (0) (0) _ _ _ (zI.wk (l' := 0) (h' := 20) zc_0 (by decide)) (zm_upi (zI.wk (l' := 0) (h' := 20) zc_0 (by decide)) (by decide)) hP hD hS (lv_sub hl [0, 1, 2, 3, 4, 5, 6] rfl)
  intro k_37
  induction k_37 with
  | zero =>
    intro y_38 y_39 H locs ls hy_38 hmk_37 hP hD hS hl
    exact (zm_up0 hy_38 hmk_37).elim
  | succ k_37 ihk_37 =>
    intro y_38 y_39 H locs ls hy_38 hmk_37 hP hD hS hl
    refine lv_iload hx hb d_Model_asked_6 (lv_at hl 0 rfl) ?_
    refine lv_aload_n hx hb d_Model_asked_8 rfl (lv_at hl 2 rfl) ?_
    refine z_callV (index := 134) (As := []) (rest := [.int y_38]) (wr := []) Z (s1_Model_many l G (b0) (b5) (b6) (b7) (b8) (b9) (b10) (b11) (b12) (b13) (b14) (b15) (b16) (b17) (b18) (b19) (b20) (b21) (b22) (b23) (b24) (b25) (b26) (b27) (b28) (b29) (b30) (b31) (b32) (b33) (b34) (b35) (b36) (b37) (b38) (b39) (b40) (b41) (b42) (b43) (b44) (b45) (b46) (b47) (b48) (b49) (b50) (b51) (b52) (b53) (b54) (b55) (b56) (b57) (b58) (b59) hb10 hb12 hb13 hb15 hb19 hb32 hb35 hb46 hb49 hb55 hb59) hl.1 q1320 q1322 qs51 q14 q1323 ⟨by decide, by decide, by show _ = some 0; decide +kernel⟩ ⟨Nat.le_of_ble_eq_true rfl, Nat.le_of_ble_eq_true rfl⟩ ⟨Nat.le_of_ble_eq_true rfl, Nat.le_of_ble_eq_true rfl⟩ rfl (Nat.le_of_ble_eq_true rfl) d_Model_asked_9 hP hD hS hA 0 12 rfl rfl rfl [0, 1] [] rfl rfl rfl rfl (by decide) (fun v w1 H locs hw_40 hP hD hS => ?_)
    obtain ⟨x_41, rfl, rfl, hx_41, hfx_42⟩ := hw_40
    have hP : va_P G.1 classes [(b0, .inr (12, [.int b5, .ref b6, .ref b7, .ref b8, .ref b9, .int b10, .ref b11, .int b12, .int b13, .int b14, .int b15, .ref b16, .ref b17, .ref b18, .int b19, .ref b20, .ref b21, .ref b22, .ref b23, .ref b24, .ref b25, .ref b26, .ref b27, .ref b28, .ref b29, .ref b30, .ref b31, .int b32, .ref b33, .ref b34, .int b35, .int b36, .int b37, .int b38, .ref b39, .ref b40, .ref b41, .ref b42, .ref b43, .ref b44, .ref b45, .int b46, .ref b47, .ref b48, .int b49, .ref b50, .ref b51, .ref b52, .ref b53, .ref b54, .int b55, .ref b56, .ref b57, .ref b58])), (b6, .inl (G.2 0, 503, .inl b59))] H := hP
    have hD := z_tie hP hD rfl
    refine W.widen (k := 0) (n := 0) (Nat.le_of_ble_eq_true rfl) (Nat.le_of_ble_eq_true rfl) ?_
    refine lv_icmp_ge (tgt := 60) hx hb d_Model_asked_12 (by decide) (fun hc_43 => ?_) (fun hc_43 => ?_)
    · have _nhc_43 := hc_43
      have ni_44 := (fa_le _ _).mp hc_43
      refine lv_iload hx hb d_Model_asked_60 (lv_at hl 1 rfl) ?_
      exact z_iret hx hb hr hlocks hP hD hS (Nat.le_of_ble_eq_true rfl) (Nat.le_of_ble_eq_true rfl) d_Model_asked_62 ⟨y_39, rfl, rfl⟩
    · have _nhc_43 := hc_43
      have ni_45 := (fa_lt _ _).mp (zi_nle hc_43)
      have hv_46 : zI y_38 0 19 := zI.lt_l hy_38 hx_41 (zi_nle hc_43) (by decide)
      have hv_47 : zI x_41 1 20 := zI.lt_r hy_38 hx_41 (zi_nle hc_43) (by decide)
      refine lv_iload hx hb d_Model_asked_15 (lv_at hl 1 rfl) ?_
      refine lv_aload_n hx hb d_Model_asked_17 rfl (lv_at hl 2 rfl) ?_
      refine lv_iload hx hb d_Model_asked_18 (lv_at hl 0 rfl) ?_
      refine lv_iload_n hx hb d_Model_asked_20 rfl (lv_at hl 3 rfl) ?_
      refine lv_iload_n hx hb d_Model_asked_21 rfl (lv_at hl 4 rfl) ?_
      refine lv_iload_n hx hb d_Model_asked_22 rfl (lv_at hl 5 rfl) ?_
      refine z_callV (index := 382) (As := [.int y_38, .int b1, .int b2, .int b3]) (rest := [.int y_39]) (wr := []) Z (s8_Model_isAsked l G (b0) (y_38) (b1) (b2) (b3) (b5) (b6) (b7) (b8) (b9) (b10) (b11) (b12) (b13) (b14) (b15) (b16) (b17) (b18) (b19) (b20) (b21) (b22) (b23) (b24) (b25) (b26) (b27) (b28) (b29) (b30) (b31) (b32) (b33) (b34) (b35) (b36) (b37) (b38) (b39) (b40) (b41) (b42) (b43) (b44) (b45) (b46) (b47) (b48) (b49) (b50) (b51) (b52) (b53) (b54) (b55) (b56) (b57) (b58) (b59) hv_46 hb10 hb12 hb13 hb15 hb19 hb32 hb35 hb46 hb49 hb55 hb59) hl.1 q1557 q1559 qs88 q14 q1560 ⟨by decide, by decide, by show _ = some 4; decide +kernel⟩ ⟨Nat.le_of_ble_eq_true rfl, Nat.le_of_ble_eq_true rfl⟩ ⟨Nat.le_of_ble_eq_true rfl, Nat.le_of_ble_eq_true rfl⟩ rfl (Nat.le_of_ble_eq_true rfl) d_Model_asked_23 hP hD hS hA 0 12 rfl rfl rfl [0, 1] [] rfl rfl rfl rfl (by decide) (fun v w1 H locs hw_48 hP hD hS => ?_)
      obtain ⟨x_49, rfl, rfl, hx_49⟩ := hw_48
      have hP : va_P G.1 classes [(b0, .inr (12, [.int b5, .ref b6, .ref b7, .ref b8, .ref b9, .int b10, .ref b11, .int b12, .int b13, .int b14, .int b15, .ref b16, .ref b17, .ref b18, .int b19, .ref b20, .ref b21, .ref b22, .ref b23, .ref b24, .ref b25, .ref b26, .ref b27, .ref b28, .ref b29, .ref b30, .ref b31, .int b32, .ref b33, .ref b34, .int b35, .int b36, .int b37, .int b38, .ref b39, .ref b40, .ref b41, .ref b42, .ref b43, .ref b44, .ref b45, .int b46, .ref b47, .ref b48, .int b49, .ref b50, .ref b51, .ref b52, .ref b53, .ref b54, .int b55, .ref b56, .ref b57, .ref b58])), (b6, .inl (G.2 0, 503, .inl b59))] H := hP
      have hD := z_tie hP hD rfl
      refine W.widen (k := 0) (n := 0) (Nat.le_of_ble_eq_true rfl) (Nat.le_of_ble_eq_true rfl) ?_
      refine lv_if_eq (tgt := 50) hx hb d_Model_asked_26 (by decide) (fun hc_50 => ?_) (fun hc_50 => ?_)
      · have _nhc_50 := hc_50
        have ni_51 := (fa_eq _ _).mp hc_50
        rw [li_0] at ni_51
        have hv_52 : zI x_49 0 0 := zI.eq_l hx_49 zc_0 hc_50
        refine lv_iconst (v := 0) hx hb d_Model_asked_50 (by decide) ?_
        refine lv_iadd hx hb d_Model_asked_51 ?_
        refine lv_topi (fun v_53 ev_53 => ?_)
        obtain ⟨qv_53, hv_53⟩ := zI_add (l := -2147483648) (h := 2147483647) (zI_all y_39) zc_0 ev_53 (by decide)
        rw [li_0] at qv_53
        refine lv_istore (lv' := [(5, .int v_53), (6, .int y_38), (0, .ref b0), (1, .int b1), (2, .int b2), (3, .int b3), (4, .int b4)]) hx hb d_Model_asked_52 hl (by decide) rfl (fun ls hl => ?_)
        obtain ⟨v_54, ev_54⟩ : ∃ z : Int32, z = y_38 + 1 := ⟨_, rfl⟩
        obtain ⟨qv_54, hv_54⟩ := zI_add (l := 1) (h := 20) hv_46 zc_1 ev_54 (by decide)
        rw [li_1] at qv_54
        refine lv_iinc (v := v_54) (lv' := [(6, .int v_54), (5, .int v_53), (0, .ref b0), (1, .int b1), (2, .int b2), (3, .int b3), (4, .int b4)]) hx hb d_Model_asked_54 hl (k := 1) rfl (by rw [ev_54]; rfl) (by decide) rfl (fun ls hl => ?_)
        refine lv_goto (tgt := 6) hx hb d_Model_asked_57 (by decide) ?_
        exact ihk_37 (v_54) (v_53) _ _ _ (zI.wk (l' := 0) (h' := 20) hv_54 (by decide)) (zm_up qv_54 hmk_37 (by decide)) hP hD hS (lv_sub hl [0, 1, 2, 3, 4, 5, 6] rfl)
      · have _nhc_50 := hc_50
        have ni_55 : ¬ (x_49 : Int32).toInt = (0 : Int32).toInt := fun z => hc_50 ((fa_eq _ _).mpr z)
        simp only [li_0] at ni_55
        have hv_56 : zI x_49 1 1 := zI.ne_lo hx_49 zc_0 hc_50 (by decide)
        refine lv_iload hx hb d_Model_asked_29 (lv_at hl 6 rfl) ?_
        refine lv_if_eq (tgt := 46) hx hb d_Model_asked_31 (by decide) (fun hc_57 => ?_) (fun hc_57 => ?_)
        · have _nhc_57 := hc_57
          have ni_58 := (fa_eq _ _).mp hc_57
          rw [li_0] at ni_58
          have hv_59 : zI b4 0 0 := zI.eq_l (zI_all b4) zc_0 hc_57
          refine lv_iconst (v := 1) hx hb d_Model_asked_46 (by decide) ?_
          refine lv_goto (tgt := 51) hx hb d_Model_asked_47 (by decide) ?_
          refine lv_iadd hx hb d_Model_asked_51 ?_
          refine lv_topi (fun v_60 ev_60 => ?_)
          refine lv_istore (lv' := [(5, .int v_60), (6, .int y_38), (0, .ref b0), (1, .int b1), (2, .int b2), (3, .int b3), (4, .int b4)]) hx hb d_Model_asked_52 hl (by decide) rfl (fun ls hl => ?_)
          obtain ⟨v_61, ev_61⟩ : ∃ z : Int32, z = y_38 + 1 := ⟨_, rfl⟩
          obtain ⟨qv_61, hv_61⟩ := zI_add (l := 1) (h := 20) hv_46 zc_1 ev_61 (by decide)
          rw [li_1] at qv_61
          refine lv_iinc (v := v_61) (lv' := [(6, .int v_61), (5, .int v_60), (0, .ref b0), (1, .int b1), (2, .int b2), (3, .int b3), (4, .int b4)]) hx hb d_Model_asked_54 hl (k := 1) rfl (by rw [ev_61]; rfl) (by decide) rfl (fun ls hl => ?_)
          refine lv_goto (tgt := 6) hx hb d_Model_asked_57 (by decide) ?_
          exact ihk_37 (v_61) (v_60) _ _ _ (zI.wk (l' := 0) (h' := 20) hv_61 (by decide)) (zm_up qv_61 hmk_37 (by decide)) hP hD hS (lv_sub hl [0, 1, 2, 3, 4, 5, 6] rfl)
        · have _nhc_57 := hc_57
          have ni_62 : ¬ (b4 : Int32).toInt = (0 : Int32).toInt := fun z => hc_57 ((fa_eq _ _).mpr z)
          simp only [li_0] at ni_62
          refine lv_aload_n hx hb d_Model_asked_34 rfl (lv_at hl 2 rfl) ?_
          refine lv_iload hx hb d_Model_asked_35 (lv_at hl 0 rfl) ?_
          refine lv_iload_n hx hb d_Model_asked_37 rfl (lv_at hl 3 rfl) ?_
          refine lv_iload_n hx hb d_Model_asked_38 rfl (lv_at hl 4 rfl) ?_
          refine lv_iload_n hx hb d_Model_asked_39 rfl (lv_at hl 5 rfl) ?_
          refine z_callV (index := 386) (As := [.int y_38, .int b1, .int b2, .int b3]) (rest := [.int y_39]) (wr := []) Z (s1_Model_isSo l G (b0) (y_38) (b1) (b2) (b3) (b5) (b6) (b7) (b8) (b9) (b10) (b11) (b12) (b13) (b14) (b15) (b16) (b17) (b18) (b19) (b20) (b21) (b22) (b23) (b24) (b25) (b26) (b27) (b28) (b29) (b30) (b31) (b32) (b33) (b34) (b35) (b36) (b37) (b38) (b39) (b40) (b41) (b42) (b43) (b44) (b45) (b46) (b47) (b48) (b49) (b50) (b51) (b52) (b53) (b54) (b55) (b56) (b57) (b58) (b59) hv_46 hb10 hb12 hb13 hb15 hb19 hb32 hb35 hb46 hb49 hb55 hb59) hl.1 q1565 q1567 qs90 q14 q1568 ⟨by decide, by decide, by show _ = some 4; decide +kernel⟩ ⟨Nat.le_of_ble_eq_true rfl, Nat.le_of_ble_eq_true rfl⟩ ⟨Nat.le_of_ble_eq_true rfl, Nat.le_of_ble_eq_true rfl⟩ rfl (Nat.le_of_ble_eq_true rfl) d_Model_asked_40 hP hD hS hA 0 12 rfl rfl rfl [0, 1] [] rfl rfl rfl rfl (by decide) (fun v w1 H locs hw_63 hP hD hS => ?_)
          obtain ⟨x_64, rfl, rfl, hx_64⟩ := hw_63
          have hP : va_P G.1 classes [(b0, .inr (12, [.int b5, .ref b6, .ref b7, .ref b8, .ref b9, .int b10, .ref b11, .int b12, .int b13, .int b14, .int b15, .ref b16, .ref b17, .ref b18, .int b19, .ref b20, .ref b21, .ref b22, .ref b23, .ref b24, .ref b25, .ref b26, .ref b27, .ref b28, .ref b29, .ref b30, .ref b31, .int b32, .ref b33, .ref b34, .int b35, .int b36, .int b37, .int b38, .ref b39, .ref b40, .ref b41, .ref b42, .ref b43, .ref b44, .ref b45, .int b46, .ref b47, .ref b48, .int b49, .ref b50, .ref b51, .ref b52, .ref b53, .ref b54, .int b55, .ref b56, .ref b57, .ref b58])), (b6, .inl (G.2 0, 503, .inl b59))] H := hP
          have hD := z_tie hP hD rfl
          refine W.widen (k := 0) (n := 0) (Nat.le_of_ble_eq_true rfl) (Nat.le_of_ble_eq_true rfl) ?_
          refine lv_if_eq (tgt := 50) hx hb d_Model_asked_43 (by decide) (fun hc_65 => ?_) (fun hc_65 => ?_)
          · have _nhc_65 := hc_65
            have ni_66 := (fa_eq _ _).mp hc_65
            rw [li_0] at ni_66
            have hv_67 : zI x_64 0 0 := zI.eq_l hx_64 zc_0 hc_65
            refine lv_iconst (v := 0) hx hb d_Model_asked_50 (by decide) ?_
            refine lv_iadd hx hb d_Model_asked_51 ?_
            refine lv_topi (fun v_68 ev_68 => ?_)
            obtain ⟨qv_68, hv_68⟩ := zI_add (l := -2147483648) (h := 2147483647) (zI_all y_39) zc_0 ev_68 (by decide)
            rw [li_0] at qv_68
            refine lv_istore (lv' := [(5, .int v_68), (6, .int y_38), (0, .ref b0), (1, .int b1), (2, .int b2), (3, .int b3), (4, .int b4)]) hx hb d_Model_asked_52 hl (by decide) rfl (fun ls hl => ?_)
            obtain ⟨v_69, ev_69⟩ : ∃ z : Int32, z = y_38 + 1 := ⟨_, rfl⟩
            obtain ⟨qv_69, hv_69⟩ := zI_add (l := 1) (h := 20) hv_46 zc_1 ev_69 (by decide)
            rw [li_1] at qv_69
            refine lv_iinc (v := v_69) (lv' := [(6, .int v_69), (5, .int v_68), (0, .ref b0), (1, .int b1), (2, .int b2), (3, .int b3), (4, .int b4)]) hx hb d_Model_asked_54 hl (k := 1) rfl (by rw [ev_69]; rfl) (by decide) rfl (fun ls hl => ?_)
            refine lv_goto (tgt := 6) hx hb d_Model_asked_57 (by decide) ?_
            exact ihk_37 (v_69) (v_68) _ _ _ (zI.wk (l' := 0) (h' := 20) hv_69 (by decide)) (zm_up qv_69 hmk_37 (by decide)) hP hD hS (lv_sub hl [0, 1, 2, 3, 4, 5, 6] rfl)
          · have _nhc_65 := hc_65
            have ni_70 : ¬ (x_64 : Int32).toInt = (0 : Int32).toInt := fun z => hc_65 ((fa_eq _ _).mpr z)
            simp only [li_0] at ni_70
            have hv_71 : zI x_64 1 1 := zI.ne_lo hx_64 zc_0 hc_65 (by decide)
            refine lv_iconst (v := 1) hx hb d_Model_asked_46 (by decide) ?_
            refine lv_goto (tgt := 51) hx hb d_Model_asked_47 (by decide) ?_
            refine lv_iadd hx hb d_Model_asked_51 ?_
            refine lv_topi (fun v_72 ev_72 => ?_)
            refine lv_istore (lv' := [(5, .int v_72), (6, .int y_38), (0, .ref b0), (1, .int b1), (2, .int b2), (3, .int b3), (4, .int b4)]) hx hb d_Model_asked_52 hl (by decide) rfl (fun ls hl => ?_)
            obtain ⟨v_73, ev_73⟩ : ∃ z : Int32, z = y_38 + 1 := ⟨_, rfl⟩
            obtain ⟨qv_73, hv_73⟩ := zI_add (l := 1) (h := 20) hv_46 zc_1 ev_73 (by decide)
            rw [li_1] at qv_73
            refine lv_iinc (v := v_73) (lv' := [(6, .int v_73), (5, .int v_72), (0, .ref b0), (1, .int b1), (2, .int b2), (3, .int b3), (4, .int b4)]) hx hb d_Model_asked_54 hl (k := 1) rfl (by rw [ev_73]; rfl) (by decide) rfl (fun ls hl => ?_)
            refine lv_goto (tgt := 6) hx hb d_Model_asked_57 (by decide) ?_
            exact ihk_37 (v_73) (v_72) _ _ _ (zI.wk (l' := 0) (h' := 20) hv_73 (by decide)) (zm_up qv_73 hmk_37 (by decide)) hP hD hS (lv_sub hl [0, 1, 2, 3, 4, 5, 6] rfl)
theorem d_Model_ran_0 : decode prog_14_method_52_code 0 = .ok (.aload_n 0, 1) := by decide +kernel
theorem d_Model_ran_1 : decode prog_14_method_52_code 1 = .ok (.iconst 0, 1) := by decide +kernel
theorem d_Model_ran_2 : decode prog_14_method_52_code 2 = .ok (.putfield 1, 3) := by decide +kernel
theorem d_Model_ran_5 : decode prog_14_method_52_code 5 = .ok (.aload_n 0, 1) := by decide +kernel
theorem d_Model_ran_6 : decode prog_14_method_52_code 6 = .ok (.getfield 290, 3) := by decide +kernel
theorem d_Model_ran_9 : decode prog_14_method_52_code 9 = .ok (.ifCond .ne 5, 3) := by decide +kernel
theorem d_Model_ran_12 : decode prog_14_method_52_code 12 = .ok (.iconst (-1), 1) := by decide +kernel
theorem d_Model_ran_13 : decode prog_14_method_52_code 13 = .ok (.ireturn, 1) := by decide +kernel
theorem d_Model_ran_14 : decode prog_14_method_52_code 14 = .ok (.iload_n 1, 1) := by decide +kernel
theorem d_Model_ran_15 : decode prog_14_method_52_code 15 = .ok (.ifCond .ne 10, 3) := by decide +kernel
theorem d_Model_ran_18 : decode prog_14_method_52_code 18 = .ok (.aload_n 0, 1) := by decide +kernel
theorem d_Model_ran_19 : decode prog_14_method_52_code 19 = .ok (.getfield 296, 3) := by decide +kernel
theorem d_Model_ran_22 : decode prog_14_method_52_code 22 = .ok (.goto 28, 3) := by decide +kernel
theorem d_Model_ran_25 : decode prog_14_method_52_code 25 = .ok (.iload_n 1, 1) := by decide +kernel
theorem d_Model_ran_26 : decode prog_14_method_52_code 26 = .ok (.iconst 1, 1) := by decide +kernel
theorem d_Model_ran_27 : decode prog_14_method_52_code 27 = .ok (.if_icmp .ne 10, 3) := by decide +kernel
theorem d_Model_ran_30 : decode prog_14_method_52_code 30 = .ok (.aload_n 0, 1) := by decide +kernel
theorem d_Model_ran_31 : decode prog_14_method_52_code 31 = .ok (.getfield 299, 3) := by decide +kernel
theorem d_Model_ran_34 : decode prog_14_method_52_code 34 = .ok (.goto 16, 3) := by decide +kernel
theorem d_Model_ran_37 : decode prog_14_method_52_code 37 = .ok (.iload_n 1, 1) := by decide +kernel
theorem d_Model_ran_38 : decode prog_14_method_52_code 38 = .ok (.iconst 2, 1) := by decide +kernel
theorem d_Model_ran_39 : decode prog_14_method_52_code 39 = .ok (.if_icmp .ne 10, 3) := by decide +kernel
theorem d_Model_ran_42 : decode prog_14_method_52_code 42 = .ok (.aload_n 0, 1) := by decide +kernel
theorem d_Model_ran_43 : decode prog_14_method_52_code 43 = .ok (.getfield 302, 3) := by decide +kernel
theorem d_Model_ran_46 : decode prog_14_method_52_code 46 = .ok (.goto 4, 3) := by decide +kernel
theorem d_Model_ran_49 : decode prog_14_method_52_code 49 = .ok (.iconst (-1), 1) := by decide +kernel
theorem d_Model_ran_50 : decode prog_14_method_52_code 50 = .ok (.ireturn, 1) := by decide +kernel
abbrev m_s1_Model_ran : Room := { frames := 0, cells := 0, slots := 0, locals := 0 }
set_option maxHeartbeats 4000000 in
set_option maxRecDepth 100000 in
theorem s1_Model_ran (l : Launch) (G : zG) (b0 : Nat) (b1 : Int32) (b2 : Int32) (b3 : Nat) (b4 : Nat) (b5 : Nat) (b6 : Nat) (b7 : Int32) (b8 : Nat) (b9 : Int32) (b10 : Int32) (b11 : Int32) (b12 : Int32) (b13 : Nat) (b14 : Nat) (b15 : Nat) (b16 : Int32) (b17 : Nat) (b18 : Nat) (b19 : Nat) (b20 : Nat) (b21 : Nat) (b22 : Nat) (b23 : Nat) (b24 : Nat) (b25 : Nat) (b26 : Nat) (b27 : Nat) (b28 : Nat) (b29 : Int32) (b30 : Nat) (b31 : Nat) (b32 : Int32) (b33 : Int32) (b34 : Int32) (b35 : Int32) (b36 : Nat) (b37 : Nat) (b38 : Nat) (b39 : Nat) (b40 : Nat) (b41 : Nat) (b42 : Nat) (b43 : Int32) (b44 : Nat) (b45 : Nat) (b46 : Int32) (b47 : Nat) (b48 : Nat) (b49 : Nat) (b50 : Nat) (b51 : Nat) (b52 : Int32) (b53 : Nat) (b54 : Nat) (b55 : Nat) (hb7 : zI b7 0 8) (hb9 : zI b9 0 240) (hb10 : zI b10 0 240) (hb12 : zI b12 0 1) (hb16 : zI b16 0 12) (hb29 : zI b29 0 1) (hb32 : zI b32 0 1) (hb43 : zI b43 0 1000) (hb46 : zI b46 0 1000) (hb52 : zI b52 0 400) : zM l G y_Model_ran prog_14_method_52_code 2 (Option.some Jvm.ClassFile.FieldType.int) m_s1_Model_ran [.ref b0, .int b1] [(b0, .inr (12, [.int b2, .ref b3, .ref b4, .ref b5, .ref b6, .int b7, .ref b8, .int b9, .int b10, .int b11, .int b12, .ref b13, .ref b14, .ref b15, .int b16, .ref b17, .ref b18, .ref b19, .ref b20, .ref b21, .ref b22, .ref b23, .ref b24, .ref b25, .ref b26, .ref b27, .ref b28, .int b29, .ref b30, .ref b31, .int b32, .int b33, .int b34, .int b35, .ref b36, .ref b37, .ref b38, .ref b39, .ref b40, .ref b41, .ref b42, .int b43, .ref b44, .ref b45, .int b46, .ref b47, .ref b48, .ref b49, .ref b50, .ref b51, .int b52, .ref b53, .ref b54, .ref b55]))] (fun v w => ∃ (e0 : Int32), v = some (.int e0) ∧ w = [(b0, .inr (12, [.int 0, .ref b3, .ref b4, .ref b5, .ref b6, .int b7, .ref b8, .int b9, .int b10, .int b11, .int b12, .ref b13, .ref b14, .ref b15, .int b16, .ref b17, .ref b18, .ref b19, .ref b20, .ref b21, .ref b22, .ref b23, .ref b24, .ref b25, .ref b26, .ref b27, .ref b28, .int b29, .ref b30, .ref b31, .int b32, .int b33, .int b34, .int b35, .ref b36, .ref b37, .ref b38, .ref b39, .ref b40, .ref b41, .ref b42, .int b43, .ref b44, .ref b45, .int b46, .ref b47, .ref b48, .ref b49, .ref b50, .ref b51, .int b52, .ref b53, .ref b54, .ref b55]))]) := by
  refine z_start (by decide +kernel) (Nat.le_of_ble_eq_true rfl) ?_
  intro p e s m below meth c A Z hr hnm hA hP hD hS ls hl
  have Z : zC p s m _ meth c prog_14_method_52_code 2 "TraceMachinesModel" G := Z
  obtain ⟨hx, hb, hml, hown, hts, hK, hN, hlocks⟩ := id Z
  have hl : lv_has ls 2 [(0, .ref b0), (1, .int b1)] := hl
  refine lv_aload_n hx hb d_Model_ran_0 rfl (lv_at hl 0 rfl) ?_
  refine lv_iconst (v := 0) hx hb d_Model_ran_1 (by decide) ?_
  refine va_put (D := G.1) (ci := 12) (v := .int 0) (ty := .int) (C := R_Model) (T := F_Model) (N := 54) hx hb hts i_Model t_Model t_Model_ok n_Model hown hK hP hD hS 0 rfl rfl 0 (by decide) (hts _ q1109) (fun _ h9 => h9) rfl (by decide +kernel) rfl rfl (Nat.le_of_ble_eq_true rfl) d_Model_ran_2 (fun H locs hP hD hS => ?_)
  have hP : va_P G.1 classes [(b0, .inr (12, [.int 0, .ref b3, .ref b4, .ref b5, .ref b6, .int b7, .ref b8, .int b9, .int b10, .int b11, .int b12, .ref b13, .ref b14, .ref b15, .int b16, .ref b17, .ref b18, .ref b19, .ref b20, .ref b21, .ref b22, .ref b23, .ref b24, .ref b25, .ref b26, .ref b27, .ref b28, .int b29, .ref b30, .ref b31, .int b32, .int b33, .int b34, .int b35, .ref b36, .ref b37, .ref b38, .ref b39, .ref b40, .ref b41, .ref b42, .int b43, .ref b44, .ref b45, .int b46, .ref b47, .ref b48, .ref b49, .ref b50, .ref b51, .int b52, .ref b53, .ref b54, .ref b55]))] H := hP
  have hD := z_tie hP hD rfl
  refine lv_aload_n hx hb d_Model_ran_5 rfl (lv_at hl 0 rfl) ?_
  refine va_get (D := G.1) (ci := 12) (v := .int b32) (C := R_Model) (T := F_Model) (N := 54) hx hb hts i_Model hown hK hP 0 rfl rfl 30 (by decide) (hts _ q1139) (fun _ h9 => h9) rfl d_Model_ran_6 ?_
  refine lv_if_ne (tgt := 14) hx hb d_Model_ran_9 (by decide) (fun hc_1 => ?_) (fun hc_1 => ?_)
  · have _nhc_1 := hc_1
    have ni_2 : ¬ (b32 : Int32).toInt = (0 : Int32).toInt := fun z => hc_1 ((fa_eq _ _).mpr z)
    simp only [li_0] at ni_2
    have hv_3 : zI b32 1 1 := zI.ne_lo hb32 zc_0 hc_1 (by decide)
    refine lv_iload_n hx hb d_Model_ran_14 rfl (lv_at hl 1 rfl) ?_
    refine lv_if_ne (tgt := 25) hx hb d_Model_ran_15 (by decide) (fun hc_4 => ?_) (fun hc_4 => ?_)
    · have _nhc_4 := hc_4
      have ni_5 : ¬ (b1 : Int32).toInt = (0 : Int32).toInt := fun z => hc_4 ((fa_eq _ _).mpr z)
      simp only [li_0] at ni_5
      refine lv_iload_n hx hb d_Model_ran_25 rfl (lv_at hl 1 rfl) ?_
      refine lv_iconst (v := 1) hx hb d_Model_ran_26 (by decide) ?_
      refine lv_icmp_ne (tgt := 37) hx hb d_Model_ran_27 (by decide) (fun hc_6 => ?_) (fun hc_6 => ?_)
      · have _nhc_6 := hc_6
        have ni_7 : ¬ (b1 : Int32).toInt = (1 : Int32).toInt := fun z => hc_6 ((fa_eq _ _).mpr z)
        simp only [li_1] at ni_7
        refine lv_iload_n hx hb d_Model_ran_37 rfl (lv_at hl 1 rfl) ?_
        refine lv_iconst (v := 2) hx hb d_Model_ran_38 (by decide) ?_
        refine lv_icmp_ne (tgt := 49) hx hb d_Model_ran_39 (by decide) (fun hc_8 => ?_) (fun hc_8 => ?_)
        · have _nhc_8 := hc_8
          have ni_9 : ¬ (b1 : Int32).toInt = (2 : Int32).toInt := fun z => hc_8 ((fa_eq _ _).mpr z)
          simp only [li_2] at ni_9
          refine lv_iconst (v := (-1)) hx hb d_Model_ran_49 (by decide) ?_
          exact z_iret hx hb hr hlocks hP hD hS (Nat.le_of_ble_eq_true rfl) (Nat.le_of_ble_eq_true rfl) d_Model_ran_50 ⟨(-1), rfl, rfl⟩
        · have _nhc_8 := hc_8
          have ni_10 := (fa_eq _ _).mp hc_8
          rw [li_2] at ni_10
          have hv_11 : zI b1 2 2 := zI.eq_l (zI_all b1) zc_2 hc_8
          refine lv_aload_n hx hb d_Model_ran_42 rfl (lv_at hl 0 rfl) ?_
          refine va_get (D := G.1) (ci := 12) (v := .int b35) (C := R_Model) (T := F_Model) (N := 54) hx hb hts i_Model hown hK hP 0 rfl rfl 33 (by decide) (hts _ q1142) (fun _ h9 => h9) rfl d_Model_ran_43 ?_
          refine lv_goto (tgt := 50) hx hb d_Model_ran_46 (by decide) ?_
          exact z_iret hx hb hr hlocks hP hD hS (Nat.le_of_ble_eq_true rfl) (Nat.le_of_ble_eq_true rfl) d_Model_ran_50 ⟨b35, rfl, rfl⟩
      · have _nhc_6 := hc_6
        have ni_12 := (fa_eq _ _).mp hc_6
        rw [li_1] at ni_12
        have hv_13 : zI b1 1 1 := zI.eq_l (zI_all b1) zc_1 hc_6
        refine lv_aload_n hx hb d_Model_ran_30 rfl (lv_at hl 0 rfl) ?_
        refine va_get (D := G.1) (ci := 12) (v := .int b34) (C := R_Model) (T := F_Model) (N := 54) hx hb hts i_Model hown hK hP 0 rfl rfl 32 (by decide) (hts _ q1141) (fun _ h9 => h9) rfl d_Model_ran_31 ?_
        refine lv_goto (tgt := 50) hx hb d_Model_ran_34 (by decide) ?_
        exact z_iret hx hb hr hlocks hP hD hS (Nat.le_of_ble_eq_true rfl) (Nat.le_of_ble_eq_true rfl) d_Model_ran_50 ⟨b34, rfl, rfl⟩
    · have _nhc_4 := hc_4
      have ni_14 := (fa_eq _ _).mp hc_4
      rw [li_0] at ni_14
      have hv_15 : zI b1 0 0 := zI.eq_l (zI_all b1) zc_0 hc_4
      refine lv_aload_n hx hb d_Model_ran_18 rfl (lv_at hl 0 rfl) ?_
      refine va_get (D := G.1) (ci := 12) (v := .int b33) (C := R_Model) (T := F_Model) (N := 54) hx hb hts i_Model hown hK hP 0 rfl rfl 31 (by decide) (hts _ q1140) (fun _ h9 => h9) rfl d_Model_ran_19 ?_
      refine lv_goto (tgt := 50) hx hb d_Model_ran_22 (by decide) ?_
      exact z_iret hx hb hr hlocks hP hD hS (Nat.le_of_ble_eq_true rfl) (Nat.le_of_ble_eq_true rfl) d_Model_ran_50 ⟨b33, rfl, rfl⟩
  · have _nhc_1 := hc_1
    have ni_16 := (fa_eq _ _).mp hc_1
    rw [li_0] at ni_16
    have hv_17 : zI b32 0 0 := zI.eq_l hb32 zc_0 hc_1
    refine lv_iconst (v := (-1)) hx hb d_Model_ran_12 (by decide) ?_
    exact z_iret hx hb hr hlocks hP hD hS (Nat.le_of_ble_eq_true rfl) (Nat.le_of_ble_eq_true rfl) d_Model_ran_13 ⟨(-1), rfl, rfl⟩
theorem d_Model_isTrace_0 : decode prog_14_method_5_code 0 = .ok (.iload_n 1, 1) := by decide +kernel
theorem d_Model_isTrace_1 : decode prog_14_method_5_code 1 = .ok (.i2l, 1) := by decide +kernel
theorem d_Model_isTrace_2 : decode prog_14_method_5_code 2 = .ok (.lconst 0, 1) := by decide +kernel
theorem d_Model_isTrace_3 : decode prog_14_method_5_code 3 = .ok (.aload_n 0, 1) := by decide +kernel
theorem d_Model_isTrace_4 : decode prog_14_method_5_code 4 = .ok (.invokevirtual 134, 3) := by decide +kernel
theorem d_Model_isTrace_7 : decode prog_14_method_5_code 7 = .ok (.i2l, 1) := by decide +kernel
theorem d_Model_isTrace_8 : decode prog_14_method_5_code 8 = .ok (.lconst 1, 1) := by decide +kernel
theorem d_Model_isTrace_9 : decode prog_14_method_5_code 9 = .ok (.lsub, 1) := by decide +kernel
theorem d_Model_isTrace_10 : decode prog_14_method_5_code 10 = .ok (.invokestatic 138, 3) := by decide +kernel
theorem d_Model_in_0 : decode prog_14_method_3_code 0 = .ok (.lload_n 0, 1) := by decide +kernel
theorem d_Model_in_1 : decode prog_14_method_3_code 1 = .ok (.lload_n 2, 1) := by decide +kernel
theorem d_Model_in_2 : decode prog_14_method_3_code 2 = .ok (.lcmp, 1) := by decide +kernel
theorem d_Model_in_3 : decode prog_14_method_3_code 3 = .ok (.ifCond .lt 14, 3) := by decide +kernel
theorem d_Model_in_6 : decode prog_14_method_3_code 6 = .ok (.lload_n 0, 1) := by decide +kernel
theorem d_Model_in_7 : decode prog_14_method_3_code 7 = .ok (.lload 4, 2) := by decide +kernel
theorem d_Model_in_9 : decode prog_14_method_3_code 9 = .ok (.lcmp, 1) := by decide +kernel
theorem d_Model_in_10 : decode prog_14_method_3_code 10 = .ok (.ifCond .gt 7, 3) := by decide +kernel
theorem d_Model_in_13 : decode prog_14_method_3_code 13 = .ok (.iconst 1, 1) := by decide +kernel
theorem d_Model_in_14 : decode prog_14_method_3_code 14 = .ok (.goto 4, 3) := by decide +kernel
theorem d_Model_in_17 : decode prog_14_method_3_code 17 = .ok (.iconst 0, 1) := by decide +kernel
theorem d_Model_in_18 : decode prog_14_method_3_code 18 = .ok (.ireturn, 1) := by decide +kernel
theorem zcl_1 : zJ 1 1 1 := ⟨by decide +kernel, by decide +kernel⟩
theorem ll_1 : (1 : Int64).toInt = 1 := by decide +kernel
abbrev m_s2_Model_in : Room := { frames := 0, cells := 0, slots := 0, locals := 0 }
set_option maxHeartbeats 4000000 in
set_option maxRecDepth 100000 in
theorem s2_Model_in (l : Launch) (G : zG) (b0 : Int64) (b1 : Int64) (b2 : Int64)  : zM l G y_Model_in prog_14_method_3_code 6 (Option.some Jvm.ClassFile.FieldType.boolean) m_s2_Model_in [.long b0, .long b1, .long b2] [] (fun v w => (v = some (.int 0) ∧ w = [] ∧ b0.toInt < b1.toInt) ∨ (v = some (.int 0) ∧ w = [] ∧ b1.toInt ≤ b0.toInt ∧ b2.toInt < b0.toInt) ∨ (v = some (.int 1) ∧ w = [] ∧ b1.toInt ≤ b0.toInt ∧ b0.toInt ≤ b2.toInt)) := by
  refine z_start (by decide +kernel) (Nat.le_of_ble_eq_true rfl) ?_
  intro p e s m below meth c A Z hr hnm hA hP hD hS ls hl
  have Z : zC p s m _ meth c prog_14_method_3_code 6 "TraceMachinesModel" G := Z
  obtain ⟨hx, hb, hml, hown, hts, hK, hN, hlocks⟩ := id Z
  have hl : lv_has ls 6 [(0, .long b0), (2, .long b1), (4, .long b2)] := hl
  refine lv_lload_n hx hb d_Model_in_0 rfl (lv_at hl 0 rfl) ?_
  refine lv_lload_n hx hb d_Model_in_1 rfl (lv_at hl 1 rfl) ?_
  refine W.lcmp hx hb d_Model_in_2 ?_
  refine lv_topi (fun v_1 ev_1 => ?_)
  refine lv_if_lt (tgt := 17) hx hb d_Model_in_3 (by decide) (fun hc_2 => ?_) (fun hc_2 => ?_)
  · have ni_3 := hc_2
    rw [ev_1] at ni_3
    simp only [lg_cmp_lt, lg_cmp_le, lg_cmp_gt, lg_cmp_ge, lg_cmp_eq, fa_lt64, fa_le64, fa_eq64, Int32.toInt_toInt64] at ni_3
    have hv_4 : zJ b0 (-9223372036854775808) 9223372036854775806 := by have _a := ni_3; have _b := (zJ_all b0); have _c := (zJ_all b1); simp only [Int32.toInt_toInt64] at *; exact ⟨by omega, by omega⟩
    have hv_5 : zJ b1 (-9223372036854775807) 9223372036854775807 := by have _a := ni_3; have _b := (zJ_all b1); have _c := hv_4; simp only [Int32.toInt_toInt64] at *; exact ⟨by omega, by omega⟩
    refine lv_iconst (v := 0) hx hb d_Model_in_17 (by decide) ?_
    exact z_zret hx hb hr hlocks rfl hP hD hS (Nat.le_of_ble_eq_true rfl) (Nat.le_of_ble_eq_true rfl) d_Model_in_18 (Or.inl ⟨rfl, rfl, by omega⟩)
  · have ni_6 := hc_2
    rw [ev_1] at ni_6
    simp only [lg_cmp_lt, lg_cmp_le, lg_cmp_gt, lg_cmp_ge, lg_cmp_eq, fa_lt64, fa_le64, fa_eq64, Int32.toInt_toInt64] at ni_6
    refine lv_lload_n hx hb d_Model_in_6 rfl (lv_at hl 0 rfl) ?_
    refine lv_lload hx hb d_Model_in_7 (lv_at hl 2 rfl) ?_
    refine W.lcmp hx hb d_Model_in_9 ?_
    refine lv_topi (fun v_7 ev_7 => ?_)
    refine lv_if_gt (tgt := 17) hx hb d_Model_in_10 (by decide) (fun hc_8 => ?_) (fun hc_8 => ?_)
    · have ni_9 := hc_8
      rw [ev_7] at ni_9
      simp only [lg_cmp_lt, lg_cmp_le, lg_cmp_gt, lg_cmp_ge, lg_cmp_eq, fa_lt64, fa_le64, fa_eq64, Int32.toInt_toInt64] at ni_9
      have hv_10 : zJ b0 (-9223372036854775807) 9223372036854775807 := by have _a := ni_9; have _b := (zJ_all b0); have _c := (zJ_all b2); simp only [Int32.toInt_toInt64] at *; exact ⟨by omega, by omega⟩
      have hv_11 : zJ b2 (-9223372036854775808) 9223372036854775806 := by have _a := ni_9; have _b := (zJ_all b2); have _c := hv_10; simp only [Int32.toInt_toInt64] at *; exact ⟨by omega, by omega⟩
      refine lv_iconst (v := 0) hx hb d_Model_in_17 (by decide) ?_
      exact z_zret hx hb hr hlocks rfl hP hD hS (Nat.le_of_ble_eq_true rfl) (Nat.le_of_ble_eq_true rfl) d_Model_in_18 (Or.inr (Or.inl ⟨rfl, rfl, by omega, by omega⟩))
    · have ni_12 := hc_8
      rw [ev_7] at ni_12
      simp only [lg_cmp_lt, lg_cmp_le, lg_cmp_gt, lg_cmp_ge, lg_cmp_eq, fa_lt64, fa_le64, fa_eq64, Int32.toInt_toInt64] at ni_12
      refine lv_iconst (v := 1) hx hb d_Model_in_13 (by decide) ?_
      refine lv_goto (tgt := 18) hx hb d_Model_in_14 (by decide) ?_
      exact z_zret hx hb hr hlocks rfl hP hD hS (Nat.le_of_ble_eq_true rfl) (Nat.le_of_ble_eq_true rfl) d_Model_in_18 (Or.inr (Or.inr (⟨rfl, rfl, by omega, by omega⟩)))
theorem d_Model_isTrace_13 : decode prog_14_method_5_code 13 = .ok (.ireturn, 1) := by decide +kernel
abbrev m_s1_Model_isTrace : Room := { frames := 1, cells := 0, slots := 0, locals := 25 }
set_option maxHeartbeats 4000000 in
set_option maxRecDepth 100000 in
theorem s1_Model_isTrace (l : Launch) (G : zG) (b0 : Nat) (b1 : Int32) (b2 : Int32) (b3 : Nat) (b4 : Nat) (b5 : Nat) (b6 : Nat) (b7 : Int32) (b8 : Nat) (b9 : Int32) (b10 : Int32) (b11 : Int32) (b12 : Int32) (b13 : Nat) (b14 : Nat) (b15 : Nat) (b16 : Int32) (b17 : Nat) (b18 : Nat) (b19 : Nat) (b20 : Nat) (b21 : Nat) (b22 : Nat) (b23 : Nat) (b24 : Nat) (b25 : Nat) (b26 : Nat) (b27 : Nat) (b28 : Nat) (b29 : Int32) (b30 : Nat) (b31 : Nat) (b32 : Int32) (b33 : Int32) (b34 : Int32) (b35 : Int32) (b36 : Nat) (b37 : Nat) (b38 : Nat) (b39 : Nat) (b40 : Nat) (b41 : Nat) (b42 : Nat) (b43 : Int32) (b44 : Nat) (b45 : Nat) (b46 : Int32) (b47 : Nat) (b48 : Nat) (b49 : Nat) (b50 : Nat) (b51 : Nat) (b52 : Int32) (b53 : Nat) (b54 : Nat) (b55 : Nat) (b56 : Nat → Int32) (hb7 : zI b7 0 8) (hb9 : zI b9 0 240) (hb10 : zI b10 0 240) (hb12 : zI b12 0 1) (hb16 : zI b16 0 12) (hb29 : zI b29 0 1) (hb32 : zI b32 0 1) (hb43 : zI b43 0 1000) (hb46 : zI b46 0 1000) (hb52 : zI b52 0 400) (hb56 : zW5 b56) : zM l G y_Model_isTrace prog_14_method_5_code 2 (Option.some Jvm.ClassFile.FieldType.boolean) m_s1_Model_isTrace [.ref b0, .int b1] [(b0, .inr (12, [.int b2, .ref b3, .ref b4, .ref b5, .ref b6, .int b7, .ref b8, .int b9, .int b10, .int b11, .int b12, .ref b13, .ref b14, .ref b15, .int b16, .ref b17, .ref b18, .ref b19, .ref b20, .ref b21, .ref b22, .ref b23, .ref b24, .ref b25, .ref b26, .ref b27, .ref b28, .int b29, .ref b30, .ref b31, .int b32, .int b33, .int b34, .int b35, .ref b36, .ref b37, .ref b38, .ref b39, .ref b40, .ref b41, .ref b42, .int b43, .ref b44, .ref b45, .int b46, .ref b47, .ref b48, .ref b49, .ref b50, .ref b51, .int b52, .ref b53, .ref b54, .ref b55])), (b3, .inl (G.2 0, 503, .inl b56))] (fun v w => ∃ (e0 : Int32), v = some (.int e0) ∧ w = [(b0, .inr (12, [.int b2, .ref b3, .ref b4, .ref b5, .ref b6, .int b7, .ref b8, .int b9, .int b10, .int b11, .int b12, .ref b13, .ref b14, .ref b15, .int b16, .ref b17, .ref b18, .ref b19, .ref b20, .ref b21, .ref b22, .ref b23, .ref b24, .ref b25, .ref b26, .ref b27, .ref b28, .int b29, .ref b30, .ref b31, .int b32, .int b33, .int b34, .int b35, .ref b36, .ref b37, .ref b38, .ref b39, .ref b40, .ref b41, .ref b42, .int b43, .ref b44, .ref b45, .int b46, .ref b47, .ref b48, .ref b49, .ref b50, .ref b51, .int b52, .ref b53, .ref b54, .ref b55])), (b3, .inl (G.2 0, 503, .inl b56))] ∧ (zI e0 0 1) ∧ (e0.toInt = 0 ∨ 0 ≤ b1.toInt ∧ b1.toInt < (b56 (0 : Int32).toNatClampNeg).toInt)) := by
  refine z_start (by decide +kernel) (Nat.le_of_ble_eq_true rfl) ?_
  intro p e s m below meth c A Z hr hnm hA hP hD hS ls hl
  have Z : zC p s m _ meth c prog_14_method_5_code 2 "TraceMachinesModel" G := Z
  obtain ⟨hx, hb, hml, hown, hts, hK, hN, hlocks⟩ := id Z
  have hl : lv_has ls 2 [(0, .ref b0), (1, .int b1)] := hl
  refine lv_iload_n hx hb d_Model_isTrace_0 rfl (lv_at hl 1 rfl) ?_
  refine lv_i2l (v := b1.toInt64) hx hb d_Model_isTrace_1 rfl ?_
  refine lv_lconst (v := 0) hx hb d_Model_isTrace_2 (by decide) ?_
  refine lv_aload_n hx hb d_Model_isTrace_3 rfl (lv_at hl 0 rfl) ?_
  refine z_callV (index := 134) (As := []) (rest := [.long 0, .long b1.toInt64]) (wr := []) Z (s1_Model_many l G (b0) (b2) (b3) (b4) (b5) (b6) (b7) (b8) (b9) (b10) (b11) (b12) (b13) (b14) (b15) (b16) (b17) (b18) (b19) (b20) (b21) (b22) (b23) (b24) (b25) (b26) (b27) (b28) (b29) (b30) (b31) (b32) (b33) (b34) (b35) (b36) (b37) (b38) (b39) (b40) (b41) (b42) (b43) (b44) (b45) (b46) (b47) (b48) (b49) (b50) (b51) (b52) (b53) (b54) (b55) (b56) hb7 hb9 hb10 hb12 hb16 hb29 hb32 hb43 hb46 hb52 hb56) hl.1 q1320 q1322 qs51 q14 q1323 ⟨by decide, by decide, by show _ = some 0; decide +kernel⟩ ⟨Nat.le_of_ble_eq_true rfl, Nat.le_of_ble_eq_true rfl⟩ ⟨Nat.le_of_ble_eq_true rfl, Nat.le_of_ble_eq_true rfl⟩ rfl (Nat.le_of_ble_eq_true rfl) d_Model_isTrace_4 hP hD hS hA 0 12 rfl rfl rfl [0, 1] [] rfl rfl rfl rfl (by decide) (fun v w1 H locs hw_1 hP hD hS => ?_)
  obtain ⟨x_2, rfl, rfl, hx_2, hfx_3⟩ := hw_1
  have hP : va_P G.1 classes [(b0, .inr (12, [.int b2, .ref b3, .ref b4, .ref b5, .ref b6, .int b7, .ref b8, .int b9, .int b10, .int b11, .int b12, .ref b13, .ref b14, .ref b15, .int b16, .ref b17, .ref b18, .ref b19, .ref b20, .ref b21, .ref b22, .ref b23, .ref b24, .ref b25, .ref b26, .ref b27, .ref b28, .int b29, .ref b30, .ref b31, .int b32, .int b33, .int b34, .int b35, .ref b36, .ref b37, .ref b38, .ref b39, .ref b40, .ref b41, .ref b42, .int b43, .ref b44, .ref b45, .int b46, .ref b47, .ref b48, .ref b49, .ref b50, .ref b51, .int b52, .ref b53, .ref b54, .ref b55])), (b3, .inl (G.2 0, 503, .inl b56))] H := hP
  have hD := z_tie hP hD rfl
  refine W.widen (k := 0) (n := 0) (Nat.le_of_ble_eq_true rfl) (Nat.le_of_ble_eq_true rfl) ?_
  refine lv_i2l (v := x_2.toInt64) hx hb d_Model_isTrace_7 rfl ?_
  refine lv_lconst (v := 1) hx hb d_Model_isTrace_8 (by decide) ?_
  refine lv_lsub hx hb d_Model_isTrace_9 ?_
  refine lv_topl (fun v_4 ev_4 => ?_)
  obtain ⟨qv_4, hv_4⟩ := zJ_sub (l := -1) (h := 19) (zI_i2l hx_2 rfl).2 zcl_1 ev_4 (by decide)
  try simp only [Int32.toInt_toInt64, ll_1] at qv_4
  refine z_callS (index := 138) (As := [.long b1.toInt64, .long 0, .long v_4]) (rest := []) (wr := [(b0, .inr (12, [.int b2, .ref b3, .ref b4, .ref b5, .ref b6, .int b7, .ref b8, .int b9, .int b10, .int b11, .int b12, .ref b13, .ref b14, .ref b15, .int b16, .ref b17, .ref b18, .ref b19, .ref b20, .ref b21, .ref b22, .ref b23, .ref b24, .ref b25, .ref b26, .ref b27, .ref b28, .int b29, .ref b30, .ref b31, .int b32, .int b33, .int b34, .int b35, .ref b36, .ref b37, .ref b38, .ref b39, .ref b40, .ref b41, .ref b42, .int b43, .ref b44, .ref b45, .int b46, .ref b47, .ref b48, .ref b49, .ref b50, .ref b51, .int b52, .ref b53, .ref b54, .ref b55])), (b3, .inl (G.2 0, 503, .inl b56))]) Z (s2_Model_in l G (b1.toInt64) (0) (v_4)) hl.1 q1281 q1282 q14 q1283 ⟨by decide, by decide, by show _ = some 3; decide +kernel⟩ ⟨Nat.le_of_ble_eq_true rfl, Nat.le_of_ble_eq_true rfl⟩ ⟨Nat.le_of_ble_eq_true rfl, Nat.le_of_ble_eq_true rfl⟩ rfl (Nat.le_of_ble_eq_true rfl) d_Model_isTrace_10 hP hD hS hA [] [0, 1] rfl rfl rfl rfl (by decide) (fun v w1 H locs hw_5 hP hD hS => ?_)
  rcases hw_5 with ⟨rfl, rfl, hq_6⟩ | ⟨rfl, rfl, hq_7, hq_8⟩ | ⟨rfl, rfl, hq_9, hq_10⟩
  · have hP : va_P G.1 classes [(b0, .inr (12, [.int b2, .ref b3, .ref b4, .ref b5, .ref b6, .int b7, .ref b8, .int b9, .int b10, .int b11, .int b12, .ref b13, .ref b14, .ref b15, .int b16, .ref b17, .ref b18, .ref b19, .ref b20, .ref b21, .ref b22, .ref b23, .ref b24, .ref b25, .ref b26, .ref b27, .ref b28, .int b29, .ref b30, .ref b31, .int b32, .int b33, .int b34, .int b35, .ref b36, .ref b37, .ref b38, .ref b39, .ref b40, .ref b41, .ref b42, .int b43, .ref b44, .ref b45, .int b46, .ref b47, .ref b48, .ref b49, .ref b50, .ref b51, .int b52, .ref b53, .ref b54, .ref b55])), (b3, .inl (G.2 0, 503, .inl b56))] H := hP
    have hD := z_tie hP hD rfl
    try simp only [Int32.toInt_toInt64, ll_0] at hq_6
    have hv_11 : zI b1 (-2147483648) (-1) := by have _a := hq_6; have _b := (zI_all b1); have _c := zcl_0; simp only [Int32.toInt_toInt64] at *; exact ⟨by omega, by omega⟩
    refine W.widen (k := 0) (n := 0) (Nat.le_of_ble_eq_true rfl) (Nat.le_of_ble_eq_true rfl) ?_
    exact z_zret hx hb hr hlocks rfl hP hD hS (Nat.le_of_ble_eq_true rfl) (Nat.le_of_ble_eq_true rfl) d_Model_isTrace_13 ⟨0, rfl, rfl, (zI.wk (l' := 0) (h' := 1) zc_0 (by decide)), (by rw [← hfx_3]; have _l := li_0; have _m := li_1; omega)⟩
  · have hP : va_P G.1 classes [(b0, .inr (12, [.int b2, .ref b3, .ref b4, .ref b5, .ref b6, .int b7, .ref b8, .int b9, .int b10, .int b11, .int b12, .ref b13, .ref b14, .ref b15, .int b16, .ref b17, .ref b18, .ref b19, .ref b20, .ref b21, .ref b22, .ref b23, .ref b24, .ref b25, .ref b26, .ref b27, .ref b28, .int b29, .ref b30, .ref b31, .int b32, .int b33, .int b34, .int b35, .ref b36, .ref b37, .ref b38, .ref b39, .ref b40, .ref b41, .ref b42, .int b43, .ref b44, .ref b45, .int b46, .ref b47, .ref b48, .ref b49, .ref b50, .ref b51, .int b52, .ref b53, .ref b54, .ref b55])), (b3, .inl (G.2 0, 503, .inl b56))] H := hP
    have hD := z_tie hP hD rfl
    try simp only [Int32.toInt_toInt64, ll_0] at hq_7
    have hv_12 : zI b1 0 2147483647 := by have _a := hq_7; have _b := (zI_all b1); have _c := zcl_0; simp only [Int32.toInt_toInt64] at *; exact ⟨by omega, by omega⟩
    try simp only [Int32.toInt_toInt64] at hq_8
    refine W.widen (k := 0) (n := 0) (Nat.le_of_ble_eq_true rfl) (Nat.le_of_ble_eq_true rfl) ?_
    exact z_zret hx hb hr hlocks rfl hP hD hS (Nat.le_of_ble_eq_true rfl) (Nat.le_of_ble_eq_true rfl) d_Model_isTrace_13 ⟨0, rfl, rfl, (zI.wk (l' := 0) (h' := 1) zc_0 (by decide)), (by rw [← hfx_3]; have _l := li_0; have _m := li_1; omega)⟩
  · have hP : va_P G.1 classes [(b0, .inr (12, [.int b2, .ref b3, .ref b4, .ref b5, .ref b6, .int b7, .ref b8, .int b9, .int b10, .int b11, .int b12, .ref b13, .ref b14, .ref b15, .int b16, .ref b17, .ref b18, .ref b19, .ref b20, .ref b21, .ref b22, .ref b23, .ref b24, .ref b25, .ref b26, .ref b27, .ref b28, .int b29, .ref b30, .ref b31, .int b32, .int b33, .int b34, .int b35, .ref b36, .ref b37, .ref b38, .ref b39, .ref b40, .ref b41, .ref b42, .int b43, .ref b44, .ref b45, .int b46, .ref b47, .ref b48, .ref b49, .ref b50, .ref b51, .int b52, .ref b53, .ref b54, .ref b55])), (b3, .inl (G.2 0, 503, .inl b56))] H := hP
    have hD := z_tie hP hD rfl
    try simp only [Int32.toInt_toInt64, ll_0] at hq_9
    have hv_13 : zI b1 0 2147483647 := by have _a := hq_9; have _b := (zI_all b1); have _c := zcl_0; simp only [Int32.toInt_toInt64] at *; exact ⟨by omega, by omega⟩
    try simp only [Int32.toInt_toInt64] at hq_10
    have hv_14 : zI b1 0 19 := by have _a := hq_10; have _b := hv_13; have _c := hv_4; simp only [Int32.toInt_toInt64] at *; exact ⟨by omega, by omega⟩
    have hv_15 : zJ v_4 0 19 := by have _a := hq_10; have _b := hv_4; have _c := (zI_i2l hv_14 rfl).2; simp only [Int32.toInt_toInt64] at *; exact ⟨by omega, by omega⟩
    refine W.widen (k := 0) (n := 0) (Nat.le_of_ble_eq_true rfl) (Nat.le_of_ble_eq_true rfl) ?_
    exact z_zret hx hb hr hlocks rfl hP hD hS (Nat.le_of_ble_eq_true rfl) (Nat.le_of_ble_eq_true rfl) d_Model_isTrace_13 ⟨1, rfl, rfl, (zI.wk (l' := 0) (h' := 1) zc_1 (by decide)), (by rw [← hfx_3]; have _l := li_0; have _m := li_1; omega)⟩
theorem d_Model_end_0 : decode prog_14_method_10_code 0 = .ok (.aload_n 0, 1) := by decide +kernel
theorem d_Model_end_1 : decode prog_14_method_10_code 1 = .ok (.iconst 0, 1) := by decide +kernel
theorem d_Model_end_2 : decode prog_14_method_10_code 2 = .ok (.putfield 1, 3) := by decide +kernel
theorem d_Model_end_5 : decode prog_14_method_10_code 5 = .ok (.iload_n 1, 1) := by decide +kernel
theorem d_Model_end_6 : decode prog_14_method_10_code 6 = .ok (.i2l, 1) := by decide +kernel
theorem d_Model_end_7 : decode prog_14_method_10_code 7 = .ok (.lconst 0, 1) := by decide +kernel
theorem d_Model_end_8 : decode prog_14_method_10_code 8 = .ok (.aload_n 0, 1) := by decide +kernel
theorem d_Model_end_9 : decode prog_14_method_10_code 9 = .ok (.getfield 142, 3) := by decide +kernel
theorem d_Model_end_12 : decode prog_14_method_10_code 12 = .ok (.i2l, 1) := by decide +kernel
theorem d_Model_end_13 : decode prog_14_method_10_code 13 = .ok (.invokestatic 138, 3) := by decide +kernel
theorem d_Model_end_16 : decode prog_14_method_10_code 16 = .ok (.ifCond .ne 5, 3) := by decide +kernel
theorem d_Model_end_19 : decode prog_14_method_10_code 19 = .ok (.iconst 0, 1) := by decide +kernel
theorem d_Model_end_20 : decode prog_14_method_10_code 20 = .ok (.ireturn, 1) := by decide +kernel
theorem d_Model_end_21 : decode prog_14_method_10_code 21 = .ok (.aload_n 0, 1) := by decide +kernel
theorem d_Model_end_22 : decode prog_14_method_10_code 22 = .ok (.iload_n 1, 1) := by decide +kernel
theorem d_Model_end_23 : decode prog_14_method_10_code 23 = .ok (.putfield 142, 3) := by decide +kernel
theorem d_Model_end_26 : decode prog_14_method_10_code 26 = .ok (.iconst 1, 1) := by decide +kernel
theorem d_Model_end_27 : decode prog_14_method_10_code 27 = .ok (.ireturn, 1) := by decide +kernel
abbrev m_s1_Model_end : Room := { frames := 1, cells := 0, slots := 0, locals := 25 }
set_option maxHeartbeats 4000000 in
set_option maxRecDepth 100000 in
theorem s1_Model_end (l : Launch) (G : zG) (b0 : Nat) (b1 : Int32) (b2 : Int32) (b3 : Nat) (b4 : Nat) (b5 : Nat) (b6 : Nat) (b7 : Int32) (b8 : Nat) (b9 : Int32) (b10 : Int32) (b11 : Int32) (b12 : Int32) (b13 : Nat) (b14 : Nat) (b15 : Nat) (b16 : Int32) (b17 : Nat) (b18 : Nat) (b19 : Nat) (b20 : Nat) (b21 : Nat) (b22 : Nat) (b23 : Nat) (b24 : Nat) (b25 : Nat) (b26 : Nat) (b27 : Nat) (b28 : Nat) (b29 : Int32) (b30 : Nat) (b31 : Nat) (b32 : Int32) (b33 : Int32) (b34 : Int32) (b35 : Int32) (b36 : Nat) (b37 : Nat) (b38 : Nat) (b39 : Nat) (b40 : Nat) (b41 : Nat) (b42 : Nat) (b43 : Int32) (b44 : Nat) (b45 : Nat) (b46 : Int32) (b47 : Nat) (b48 : Nat) (b49 : Nat) (b50 : Nat) (b51 : Nat) (b52 : Int32) (b53 : Nat) (b54 : Nat) (b55 : Nat) (hb7 : zI b7 0 8) (hb9 : zI b9 0 240) (hb10 : zI b10 0 240) (hb12 : zI b12 0 1) (hb16 : zI b16 0 12) (hb29 : zI b29 0 1) (hb32 : zI b32 0 1) (hb43 : zI b43 0 1000) (hb46 : zI b46 0 1000) (hb52 : zI b52 0 400) : zM l G y_Model_end prog_14_method_10_code 2 (Option.some Jvm.ClassFile.FieldType.boolean) m_s1_Model_end [.ref b0, .int b1] [(b0, .inr (12, [.int b2, .ref b3, .ref b4, .ref b5, .ref b6, .int b7, .ref b8, .int b9, .int b10, .int b11, .int b12, .ref b13, .ref b14, .ref b15, .int b16, .ref b17, .ref b18, .ref b19, .ref b20, .ref b21, .ref b22, .ref b23, .ref b24, .ref b25, .ref b26, .ref b27, .ref b28, .int b29, .ref b30, .ref b31, .int b32, .int b33, .int b34, .int b35, .ref b36, .ref b37, .ref b38, .ref b39, .ref b40, .ref b41, .ref b42, .int b43, .ref b44, .ref b45, .int b46, .ref b47, .ref b48, .ref b49, .ref b50, .ref b51, .int b52, .ref b53, .ref b54, .ref b55]))] (fun v w => ∃ (e0 : Int32), ∃ (e1 : Int32), v = some (.int e0) ∧ w = [(b0, .inr (12, [.int 0, .ref b3, .ref b4, .ref b5, .ref b6, .int b7, .ref b8, .int e1, .int b10, .int b11, .int b12, .ref b13, .ref b14, .ref b15, .int b16, .ref b17, .ref b18, .ref b19, .ref b20, .ref b21, .ref b22, .ref b23, .ref b24, .ref b25, .ref b26, .ref b27, .ref b28, .int b29, .ref b30, .ref b31, .int b32, .int b33, .int b34, .int b35, .ref b36, .ref b37, .ref b38, .ref b39, .ref b40, .ref b41, .ref b42, .int b43, .ref b44, .ref b45, .int b46, .ref b47, .ref b48, .ref b49, .ref b50, .ref b51, .int b52, .ref b53, .ref b54, .ref b55]))] ∧ (zI e0 0 1) ∧ (zI e1 0 240) ∧ ((0 ≤ (b1 : Int32).toInt ∧ (b1 : Int32).toInt ≤ (b9 : Int32).toInt) → (e0 : Int32).toInt = 1 ∧ (e1 : Int32).toInt = (b1 : Int32).toInt) ∧ (¬ (0 ≤ (b1 : Int32).toInt ∧ (b1 : Int32).toInt ≤ (b9 : Int32).toInt) → (e0 : Int32).toInt = 0 ∧ (e1 : Int32).toInt = (b9 : Int32).toInt)) := by
  refine z_start (by decide +kernel) (Nat.le_of_ble_eq_true rfl) ?_
  intro p e s m below meth c A Z hr hnm hA hP hD hS ls hl
  have Z : zC p s m _ meth c prog_14_method_10_code 2 "TraceMachinesModel" G := Z
  obtain ⟨hx, hb, hml, hown, hts, hK, hN, hlocks⟩ := id Z
  have hl : lv_has ls 2 [(0, .ref b0), (1, .int b1)] := hl
  refine lv_aload_n hx hb d_Model_end_0 rfl (lv_at hl 0 rfl) ?_
  refine lv_iconst (v := 0) hx hb d_Model_end_1 (by decide) ?_
  refine va_put (D := G.1) (ci := 12) (v := .int 0) (ty := .int) (C := R_Model) (T := F_Model) (N := 54) hx hb hts i_Model t_Model t_Model_ok n_Model hown hK hP hD hS 0 rfl rfl 0 (by decide) (hts _ q1109) (fun _ h9 => h9) rfl (by decide +kernel) rfl rfl (Nat.le_of_ble_eq_true rfl) d_Model_end_2 (fun H locs hP hD hS => ?_)
  have hP : va_P G.1 classes [(b0, .inr (12, [.int 0, .ref b3, .ref b4, .ref b5, .ref b6, .int b7, .ref b8, .int b9, .int b10, .int b11, .int b12, .ref b13, .ref b14, .ref b15, .int b16, .ref b17, .ref b18, .ref b19, .ref b20, .ref b21, .ref b22, .ref b23, .ref b24, .ref b25, .ref b26, .ref b27, .ref b28, .int b29, .ref b30, .ref b31, .int b32, .int b33, .int b34, .int b35, .ref b36, .ref b37, .ref b38, .ref b39, .ref b40, .ref b41, .ref b42, .int b43, .ref b44, .ref b45, .int b46, .ref b47, .ref b48, .ref b49, .ref b50, .ref b51, .int b52, .ref b53, .ref b54, .ref b55]))] H := hP
  have hD := z_tie hP hD rfl
  refine lv_iload_n hx hb d_Model_end_5 rfl (lv_at hl 1 rfl) ?_
  refine lv_i2l (v := b1.toInt64) hx hb d_Model_end_6 rfl ?_
  refine lv_lconst (v := 0) hx hb d_Model_end_7 (by decide) ?_
  refine lv_aload_n hx hb d_Model_end_8 rfl (lv_at hl 0 rfl) ?_
  refine va_get (D := G.1) (ci := 12) (v := .int b9) (C := R_Model) (T := F_Model) (N := 54) hx hb hts i_Model hown hK hP 0 rfl rfl 7 (by decide) (hts _ q1116) (fun _ h9 => h9) rfl d_Model_end_9 ?_
  refine lv_i2l (v := b9.toInt64) hx hb d_Model_end_12 rfl ?_
  refine z_callS (index := 138) (As := [.long b1.toInt64, .long 0, .long b9.toInt64]) (rest := []) (wr := [(b0, .inr (12, [.int 0, .ref b3, .ref b4, .ref b5, .ref b6, .int b7, .ref b8, .int b9, .int b10, .int b11, .int b12, .ref b13, .ref b14, .ref b15, .int b16, .ref b17, .ref b18, .ref b19, .ref b20, .ref b21, .ref b22, .ref b23, .ref b24, .ref b25, .ref b26, .ref b27, .ref b28, .int b29, .ref b30, .ref b31, .int b32, .int b33, .int b34, .int b35, .ref b36, .ref b37, .ref b38, .ref b39, .ref b40, .ref b41, .ref b42, .int b43, .ref b44, .ref b45, .int b46, .ref b47, .ref b48, .ref b49, .ref b50, .ref b51, .int b52, .ref b53, .ref b54, .ref b55]))]) Z (s2_Model_in l G (b1.toInt64) (0) (b9.toInt64)) hl.1 q1281 q1282 q14 q1283 ⟨by decide, by decide, by show _ = some 3; decide +kernel⟩ ⟨Nat.le_of_ble_eq_true rfl, Nat.le_of_ble_eq_true rfl⟩ ⟨Nat.le_of_ble_eq_true rfl, Nat.le_of_ble_eq_true rfl⟩ rfl (Nat.le_of_ble_eq_true rfl) d_Model_end_13 hP hD hS hA [] [0] rfl rfl rfl rfl (by decide) (fun v w1 H locs hw_1 hP hD hS => ?_)
  rcases hw_1 with ⟨rfl, rfl, hq_2⟩ | ⟨rfl, rfl, hq_3, hq_4⟩ | ⟨rfl, rfl, hq_5, hq_6⟩
  · have hP : va_P G.1 classes [(b0, .inr (12, [.int 0, .ref b3, .ref b4, .ref b5, .ref b6, .int b7, .ref b8, .int b9, .int b10, .int b11, .int b12, .ref b13, .ref b14, .ref b15, .int b16, .ref b17, .ref b18, .ref b19, .ref b20, .ref b21, .ref b22, .ref b23, .ref b24, .ref b25, .ref b26, .ref b27, .ref b28, .int b29, .ref b30, .ref b31, .int b32, .int b33, .int b34, .int b35, .ref b36, .ref b37, .ref b38, .ref b39, .ref b40, .ref b41, .ref b42, .int b43, .ref b44, .ref b45, .int b46, .ref b47, .ref b48, .ref b49, .ref b50, .ref b51, .int b52, .ref b53, .ref b54, .ref b55]))] H := hP
    have hD := z_tie hP hD rfl
    try simp only [Int32.toInt_toInt64, ll_0] at hq_2
    have hv_7 : zI b1 (-2147483648) (-1) := by have _a := hq_2; have _b := (zI_all b1); have _c := zcl_0; simp only [Int32.toInt_toInt64] at *; exact ⟨by omega, by omega⟩
    refine W.widen (k := 0) (n := 0) (Nat.le_of_ble_eq_true rfl) (Nat.le_of_ble_eq_true rfl) ?_
    refine lv_if_ne (tgt := 21) hx hb d_Model_end_16 (by decide) (fun hc => absurd hc (by decide +kernel)) (fun _ => ?_)
    refine lv_iconst (v := 0) hx hb d_Model_end_19 (by decide) ?_
    exact z_zret hx hb hr hlocks rfl hP hD hS (Nat.le_of_ble_eq_true rfl) (Nat.le_of_ble_eq_true rfl) d_Model_end_20 ⟨0, b9, rfl, rfl, (zI.wk (l' := 0) (h' := 1) zc_0 (by decide)), hb9, (by have _l0 := li_0; have _l1 := li_1; have _l2 := li_m1; intro h9; omega), (by have _l0 := li_0; have _l1 := li_1; have _l2 := li_m1; intro h9; omega)⟩
  · have hP : va_P G.1 classes [(b0, .inr (12, [.int 0, .ref b3, .ref b4, .ref b5, .ref b6, .int b7, .ref b8, .int b9, .int b10, .int b11, .int b12, .ref b13, .ref b14, .ref b15, .int b16, .ref b17, .ref b18, .ref b19, .ref b20, .ref b21, .ref b22, .ref b23, .ref b24, .ref b25, .ref b26, .ref b27, .ref b28, .int b29, .ref b30, .ref b31, .int b32, .int b33, .int b34, .int b35, .ref b36, .ref b37, .ref b38, .ref b39, .ref b40, .ref b41, .ref b42, .int b43, .ref b44, .ref b45, .int b46, .ref b47, .ref b48, .ref b49, .ref b50, .ref b51, .int b52, .ref b53, .ref b54, .ref b55]))] H := hP
    have hD := z_tie hP hD rfl
    try simp only [Int32.toInt_toInt64, ll_0] at hq_3
    have hv_8 : zI b1 0 2147483647 := by have _a := hq_3; have _b := (zI_all b1); have _c := zcl_0; simp only [Int32.toInt_toInt64] at *; exact ⟨by omega, by omega⟩
    try simp only [Int32.toInt_toInt64] at hq_4
    have hv_9 : zI b1 1 2147483647 := by have _a := hq_4; have _b := hv_8; have _c := (zI_i2l hb9 rfl).2; simp only [Int32.toInt_toInt64] at *; exact ⟨by omega, by omega⟩
    refine W.widen (k := 0) (n := 0) (Nat.le_of_ble_eq_true rfl) (Nat.le_of_ble_eq_true rfl) ?_
    refine lv_if_ne (tgt := 21) hx hb d_Model_end_16 (by decide) (fun hc => absurd hc (by decide +kernel)) (fun _ => ?_)
    refine lv_iconst (v := 0) hx hb d_Model_end_19 (by decide) ?_
    exact z_zret hx hb hr hlocks rfl hP hD hS (Nat.le_of_ble_eq_true rfl) (Nat.le_of_ble_eq_true rfl) d_Model_end_20 ⟨0, b9, rfl, rfl, (zI.wk (l' := 0) (h' := 1) zc_0 (by decide)), hb9, (by have _l0 := li_0; have _l1 := li_1; have _l2 := li_m1; intro h9; omega), (by have _l0 := li_0; have _l1 := li_1; have _l2 := li_m1; intro h9; omega)⟩
  · have hP : va_P G.1 classes [(b0, .inr (12, [.int 0, .ref b3, .ref b4, .ref b5, .ref b6, .int b7, .ref b8, .int b9, .int b10, .int b11, .int b12, .ref b13, .ref b14, .ref b15, .int b16, .ref b17, .ref b18, .ref b19, .ref b20, .ref b21, .ref b22, .ref b23, .ref b24, .ref b25, .ref b26, .ref b27, .ref b28, .int b29, .ref b30, .ref b31, .int b32, .int b33, .int b34, .int b35, .ref b36, .ref b37, .ref b38, .ref b39, .ref b40, .ref b41, .ref b42, .int b43, .ref b44, .ref b45, .int b46, .ref b47, .ref b48, .ref b49, .ref b50, .ref b51, .int b52, .ref b53, .ref b54, .ref b55]))] H := hP
    have hD := z_tie hP hD rfl
    try simp only [Int32.toInt_toInt64, ll_0] at hq_5
    have hv_10 : zI b1 0 2147483647 := by have _a := hq_5; have _b := (zI_all b1); have _c := zcl_0; simp only [Int32.toInt_toInt64] at *; exact ⟨by omega, by omega⟩
    try simp only [Int32.toInt_toInt64] at hq_6
    have hv_11 : zI b1 0 240 := by have _a := hq_6; have _b := hv_10; have _c := (zI_i2l hb9 rfl).2; simp only [Int32.toInt_toInt64] at *; exact ⟨by omega, by omega⟩
    refine W.widen (k := 0) (n := 0) (Nat.le_of_ble_eq_true rfl) (Nat.le_of_ble_eq_true rfl) ?_
    refine lv_if_ne (tgt := 21) hx hb d_Model_end_16 (by decide) (fun _ => ?_) (fun hc => absurd hc (by decide +kernel))
    refine lv_aload_n hx hb d_Model_end_21 rfl (lv_at hl 0 rfl) ?_
    refine lv_iload_n hx hb d_Model_end_22 rfl (lv_at hl 1 rfl) ?_
    refine va_put (D := G.1) (ci := 12) (v := .int b1) (ty := .int) (C := R_Model) (T := F_Model) (N := 54) hx hb hts i_Model t_Model t_Model_ok n_Model hown hK hP hD hS 0 rfl rfl 7 (by decide) (hts _ q1116) (fun _ h9 => h9) rfl (by decide +kernel) rfl rfl (Nat.le_of_ble_eq_true rfl) d_Model_end_23 (fun H locs hP hD hS => ?_)
    have hP : va_P G.1 classes [(b0, .inr (12, [.int 0, .ref b3, .ref b4, .ref b5, .ref b6, .int b7, .ref b8, .int b1, .int b10, .int b11, .int b12, .ref b13, .ref b14, .ref b15, .int b16, .ref b17, .ref b18, .ref b19, .ref b20, .ref b21, .ref b22, .ref b23, .ref b24, .ref b25, .ref b26, .ref b27, .ref b28, .int b29, .ref b30, .ref b31, .int b32, .int b33, .int b34, .int b35, .ref b36, .ref b37, .ref b38, .ref b39, .ref b40, .ref b41, .ref b42, .int b43, .ref b44, .ref b45, .int b46, .ref b47, .ref b48, .ref b49, .ref b50, .ref b51, .int b52, .ref b53, .ref b54, .ref b55]))] H := hP
    have hD := z_tie hP hD rfl
    refine lv_iconst (v := 1) hx hb d_Model_end_26 (by decide) ?_
    exact z_zret hx hb hr hlocks rfl hP hD hS (Nat.le_of_ble_eq_true rfl) (Nat.le_of_ble_eq_true rfl) d_Model_end_27 ⟨1, b1, rfl, rfl, (zI.wk (l' := 0) (h' := 1) zc_1 (by decide)), hv_11, (by have _l0 := li_0; have _l1 := li_1; have _l2 := li_m1; intro h9; omega), (by have _l0 := li_0; have _l1 := li_1; have _l2 := li_m1; intro h9; omega)⟩
theorem d_Model_isDigitHere_0 : decode prog_14_method_13_code 0 = .ok (.aload_n 0, 1) := by decide +kernel
theorem d_Model_isDigitHere_1 : decode prog_14_method_13_code 1 = .ok (.getfield 149, 3) := by decide +kernel
theorem d_Model_isDigitHere_4 : decode prog_14_method_13_code 4 = .ok (.aload_n 0, 1) := by decide +kernel
theorem d_Model_isDigitHere_5 : decode prog_14_method_13_code 5 = .ok (.getfield 142, 3) := by decide +kernel
theorem d_Model_isDigitHere_8 : decode prog_14_method_13_code 8 = .ok (.if_icmp .ge 29, 3) := by decide +kernel
theorem d_Model_isDigitHere_11 : decode prog_14_method_13_code 11 = .ok (.aload_n 0, 1) := by decide +kernel
theorem d_Model_isDigitHere_12 : decode prog_14_method_13_code 12 = .ok (.getfield 27, 3) := by decide +kernel
theorem d_Model_isDigitHere_15 : decode prog_14_method_13_code 15 = .ok (.aload_n 0, 1) := by decide +kernel
theorem d_Model_isDigitHere_16 : decode prog_14_method_13_code 16 = .ok (.getfield 149, 3) := by decide +kernel
theorem d_Model_isDigitHere_19 : decode prog_14_method_13_code 19 = .ok (.baload, 1) := by decide +kernel
theorem d_Model_isDigitHere_20 : decode prog_14_method_13_code 20 = .ok (.i2l, 1) := by decide +kernel
theorem d_Model_isDigitHere_21 : decode prog_14_method_13_code 21 = .ok (.ldc2_w 155, 3) := by decide +kernel
theorem d_Model_isDigitHere_24 : decode prog_14_method_13_code 24 = .ok (.ldc2_w 157, 3) := by decide +kernel
theorem d_Model_isDigitHere_27 : decode prog_14_method_13_code 27 = .ok (.invokestatic 138, 3) := by decide +kernel
theorem d_Model_isDigitHere_30 : decode prog_14_method_13_code 30 = .ok (.ifCond .eq 7, 3) := by decide +kernel
theorem d_Model_isDigitHere_33 : decode prog_14_method_13_code 33 = .ok (.iconst 1, 1) := by decide +kernel
theorem d_Model_isDigitHere_34 : decode prog_14_method_13_code 34 = .ok (.goto 4, 3) := by decide +kernel
theorem d_Model_isDigitHere_37 : decode prog_14_method_13_code 37 = .ok (.iconst 0, 1) := by decide +kernel
theorem d_Model_isDigitHere_38 : decode prog_14_method_13_code 38 = .ok (.ireturn, 1) := by decide +kernel
theorem ll_48 : (48 : Int64).toInt = 48 := by decide +kernel
theorem zcl_48 : zJ 48 48 48 := ⟨by decide +kernel, by decide +kernel⟩
theorem ll_57 : (57 : Int64).toInt = 57 := by decide +kernel
theorem zcl_57 : zJ 57 57 57 := ⟨by decide +kernel, by decide +kernel⟩
abbrev m_s1_Model_isDigitHere : Room := { frames := 1, cells := 0, slots := 0, locals := 25 }
set_option maxHeartbeats 4000000 in
set_option maxRecDepth 100000 in
theorem s1_Model_isDigitHere (l : Launch) (G : zG) (b0 : Nat) (b1 : Int32) (b2 : Nat) (b3 : Nat) (b4 : Nat) (b5 : Nat) (b6 : Int32) (b7 : Nat) (b8 : Int32) (b9 : Int32) (b10 : Int32) (b11 : Int32) (b12 : Nat) (b13 : Nat) (b14 : Nat) (b15 : Int32) (b16 : Nat) (b17 : Nat) (b18 : Nat) (b19 : Nat) (b20 : Nat) (b21 : Nat) (b22 : Nat) (b23 : Nat) (b24 : Nat) (b25 : Nat) (b26 : Nat) (b27 : Nat) (b28 : Int32) (b29 : Nat) (b30 : Nat) (b31 : Int32) (b32 : Int32) (b33 : Int32) (b34 : Int32) (b35 : Nat) (b36 : Nat) (b37 : Nat) (b38 : Nat) (b39 : Nat) (b40 : Nat) (b41 : Nat) (b42 : Int32) (b43 : Nat) (b44 : Nat) (b45 : Int32) (b46 : Nat) (b47 : Nat) (b48 : Nat) (b49 : Nat) (b50 : Nat) (b51 : Int32) (b52 : Nat) (b53 : Nat) (b54 : Nat) (b55 : Nat → Int32) (hb6 : zI b6 0 8) (hb8 : zI b8 0 240) (hb9 : zI b9 0 240) (hb11 : zI b11 0 1) (hb15 : zI b15 0 12) (hb28 : zI b28 0 1) (hb31 : zI b31 0 1) (hb42 : zI b42 0 1000) (hb45 : zI b45 0 1000) (hb51 : zI b51 0 400) : zM l G y_Model_isDigitHere prog_14_method_13_code 1 (Option.some Jvm.ClassFile.FieldType.boolean) m_s1_Model_isDigitHere [.ref b0] [(b0, .inr (12, [.int b1, .ref b2, .ref b3, .ref b4, .ref b5, .int b6, .ref b7, .int b8, .int b9, .int b10, .int b11, .ref b12, .ref b13, .ref b14, .int b15, .ref b16, .ref b17, .ref b18, .ref b19, .ref b20, .ref b21, .ref b22, .ref b23, .ref b24, .ref b25, .ref b26, .ref b27, .int b28, .ref b29, .ref b30, .int b31, .int b32, .int b33, .int b34, .ref b35, .ref b36, .ref b37, .ref b38, .ref b39, .ref b40, .ref b41, .int b42, .ref b43, .ref b44, .int b45, .ref b46, .ref b47, .ref b48, .ref b49, .ref b50, .int b51, .ref b52, .ref b53, .ref b54])), (b7, .inl (G.2 3, 240, .inl b55))] (fun v w => (v = some (.int 0) ∧ w = [(b0, .inr (12, [.int b1, .ref b2, .ref b3, .ref b4, .ref b5, .int b6, .ref b7, .int b8, .int b9, .int b10, .int b11, .ref b12, .ref b13, .ref b14, .int b15, .ref b16, .ref b17, .ref b18, .ref b19, .ref b20, .ref b21, .ref b22, .ref b23, .ref b24, .ref b25, .ref b26, .ref b27, .int b28, .ref b29, .ref b30, .int b31, .int b32, .int b33, .int b34, .ref b35, .ref b36, .ref b37, .ref b38, .ref b39, .ref b40, .ref b41, .int b42, .ref b43, .ref b44, .int b45, .ref b46, .ref b47, .ref b48, .ref b49, .ref b50, .int b51, .ref b52, .ref b53, .ref b54])), (b7, .inl (G.2 3, 240, .inl b55))] ∧ b8.toInt ≤ b9.toInt) ∨ (v = some (.int 0) ∧ w = [(b0, .inr (12, [.int b1, .ref b2, .ref b3, .ref b4, .ref b5, .int b6, .ref b7, .int b8, .int b9, .int b10, .int b11, .ref b12, .ref b13, .ref b14, .int b15, .ref b16, .ref b17, .ref b18, .ref b19, .ref b20, .ref b21, .ref b22, .ref b23, .ref b24, .ref b25, .ref b26, .ref b27, .int b28, .ref b29, .ref b30, .int b31, .int b32, .int b33, .int b34, .ref b35, .ref b36, .ref b37, .ref b38, .ref b39, .ref b40, .ref b41, .int b42, .ref b43, .ref b44, .int b45, .ref b46, .ref b47, .ref b48, .ref b49, .ref b50, .int b51, .ref b52, .ref b53, .ref b54])), (b7, .inl (G.2 3, 240, .inl b55))] ∧ b9.toInt < b8.toInt) ∨ (v = some (.int 0) ∧ w = [(b0, .inr (12, [.int b1, .ref b2, .ref b3, .ref b4, .ref b5, .int b6, .ref b7, .int b8, .int b9, .int b10, .int b11, .ref b12, .ref b13, .ref b14, .int b15, .ref b16, .ref b17, .ref b18, .ref b19, .ref b20, .ref b21, .ref b22, .ref b23, .ref b24, .ref b25, .ref b26, .ref b27, .int b28, .ref b29, .ref b30, .int b31, .int b32, .int b33, .int b34, .ref b35, .ref b36, .ref b37, .ref b38, .ref b39, .ref b40, .ref b41, .int b42, .ref b43, .ref b44, .int b45, .ref b46, .ref b47, .ref b48, .ref b49, .ref b50, .int b51, .ref b52, .ref b53, .ref b54])), (b7, .inl (G.2 3, 240, .inl b55))] ∧ b9.toInt < b8.toInt) ∨ (v = some (.int 1) ∧ w = [(b0, .inr (12, [.int b1, .ref b2, .ref b3, .ref b4, .ref b5, .int b6, .ref b7, .int b8, .int b9, .int b10, .int b11, .ref b12, .ref b13, .ref b14, .int b15, .ref b16, .ref b17, .ref b18, .ref b19, .ref b20, .ref b21, .ref b22, .ref b23, .ref b24, .ref b25, .ref b26, .ref b27, .int b28, .ref b29, .ref b30, .int b31, .int b32, .int b33, .int b34, .ref b35, .ref b36, .ref b37, .ref b38, .ref b39, .ref b40, .ref b41, .int b42, .ref b43, .ref b44, .int b45, .ref b46, .ref b47, .ref b48, .ref b49, .ref b50, .int b51, .ref b52, .ref b53, .ref b54])), (b7, .inl (G.2 3, 240, .inl b55))] ∧ b9.toInt < b8.toInt)) := by
  refine z_start (by decide +kernel) (Nat.le_of_ble_eq_true rfl) ?_
  intro p e s m below meth c A Z hr hnm hA hP hD hS ls hl
  have Z : zC p s m _ meth c prog_14_method_13_code 1 "TraceMachinesModel" G := Z
  obtain ⟨hx, hb, hml, hown, hts, hK, hN, hlocks⟩ := id Z
  have hl : lv_has ls 1 [(0, .ref b0)] := hl
  refine lv_aload_n hx hb d_Model_isDigitHere_0 rfl (lv_at hl 0 rfl) ?_
  refine va_get (D := G.1) (ci := 12) (v := .int b9) (C := R_Model) (T := F_Model) (N := 54) hx hb hts i_Model hown hK hP 0 rfl rfl 8 (by decide) (hts _ q1117) (fun _ h9 => h9) rfl d_Model_isDigitHere_1 ?_
  refine lv_aload_n hx hb d_Model_isDigitHere_4 rfl (lv_at hl 0 rfl) ?_
  refine va_get (D := G.1) (ci := 12) (v := .int b8) (C := R_Model) (T := F_Model) (N := 54) hx hb hts i_Model hown hK hP 0 rfl rfl 7 (by decide) (hts _ q1116) (fun _ h9 => h9) rfl d_Model_isDigitHere_5 ?_
  refine lv_icmp_ge (tgt := 37) hx hb d_Model_isDigitHere_8 (by decide) (fun hc_1 => ?_) (fun hc_1 => ?_)
  · have _nhc_1 := hc_1
    have ni_2 := (fa_le _ _).mp hc_1
    refine lv_iconst (v := 0) hx hb d_Model_isDigitHere_37 (by decide) ?_
    exact z_zret hx hb hr hlocks rfl hP hD hS (Nat.le_of_ble_eq_true rfl) (Nat.le_of_ble_eq_true rfl) d_Model_isDigitHere_38 (Or.inl ⟨rfl, rfl, by omega⟩)
  · have _nhc_1 := hc_1
    have ni_3 := (fa_lt _ _).mp (zi_nle hc_1)
    have hv_4 : zI b9 0 239 := zI.lt_l hb9 hb8 (zi_nle hc_1) (by decide)
    have hv_5 : zI b8 1 240 := zI.lt_r hb9 hb8 (zi_nle hc_1) (by decide)
    refine lv_aload_n hx hb d_Model_isDigitHere_11 rfl (lv_at hl 0 rfl) ?_
    refine va_get (D := G.1) (ci := 12) (v := .ref b7) (C := R_Model) (T := F_Model) (N := 54) hx hb hts i_Model hown hK hP 0 rfl rfl 6 (by decide) (hts _ q1115) (fun _ h9 => h9) rfl d_Model_isDigitHere_12 ?_
    refine lv_aload_n hx hb d_Model_isDigitHere_15 rfl (lv_at hl 0 rfl) ?_
    refine va_get (D := G.1) (ci := 12) (v := .int b9) (C := R_Model) (T := F_Model) (N := 54) hx hb hts i_Model hown hK hP 0 rfl rfl 8 (by decide) (hts _ q1117) (fun _ h9 => h9) rfl d_Model_isDigitHere_16 ?_
    refine va_bald hx hb hK hP 1 3 rfl rfl (zI.inn hv_4 (by decide)) d_Model_isDigitHere_19 ?_
    refine lv_topi (fun v_6 ev_6 => ?_)
    refine lv_i2l (v := v_6.toInt64) hx hb d_Model_isDigitHere_20 rfl ?_
    refine lv_ldc2 hx hb hown (hts _ q1310) d_Model_isDigitHere_21 ?_
    refine lv_ldc2 hx hb hown (hts _ q1311) d_Model_isDigitHere_24 ?_
    refine z_callS (index := 138) (As := [.long v_6.toInt64, .long 48, .long 57]) (rest := []) (wr := [(b0, .inr (12, [.int b1, .ref b2, .ref b3, .ref b4, .ref b5, .int b6, .ref b7, .int b8, .int b9, .int b10, .int b11, .ref b12, .ref b13, .ref b14, .int b15, .ref b16, .ref b17, .ref b18, .ref b19, .ref b20, .ref b21, .ref b22, .ref b23, .ref b24, .ref b25, .ref b26, .ref b27, .int b28, .ref b29, .ref b30, .int b31, .int b32, .int b33, .int b34, .ref b35, .ref b36, .ref b37, .ref b38, .ref b39, .ref b40, .ref b41, .int b42, .ref b43, .ref b44, .int b45, .ref b46, .ref b47, .ref b48, .ref b49, .ref b50, .int b51, .ref b52, .ref b53, .ref b54])), (b7, .inl (G.2 3, 240, .inl b55))]) Z (s2_Model_in l G (v_6.toInt64) (48) (57)) hl.1 q1281 q1282 q14 q1283 ⟨by decide, by decide, by show _ = some 3; decide +kernel⟩ ⟨Nat.le_of_ble_eq_true rfl, Nat.le_of_ble_eq_true rfl⟩ ⟨Nat.le_of_ble_eq_true rfl, Nat.le_of_ble_eq_true rfl⟩ rfl (Nat.le_of_ble_eq_true rfl) d_Model_isDigitHere_27 hP hD hS hA [] [0, 1] rfl rfl rfl rfl (by decide) (fun v w1 H locs hw_7 hP hD hS => ?_)
    rcases hw_7 with ⟨rfl, rfl, hq_8⟩ | ⟨rfl, rfl, hq_9, hq_10⟩ | ⟨rfl, rfl, hq_11, hq_12⟩
    · have hP : va_P G.1 classes [(b0, .inr (12, [.int b1, .ref b2, .ref b3, .ref b4, .ref b5, .int b6, .ref b7, .int b8, .int b9, .int b10, .int b11, .ref b12, .ref b13, .ref b14, .int b15, .ref b16, .ref b17, .ref b18, .ref b19, .ref b20, .ref b21, .ref b22, .ref b23, .ref b24, .ref b25, .ref b26, .ref b27, .int b28, .ref b29, .ref b30, .int b31, .int b32, .int b33, .int b34, .ref b35, .ref b36, .ref b37, .ref b38, .ref b39, .ref b40, .ref b41, .int b42, .ref b43, .ref b44, .int b45, .ref b46, .ref b47, .ref b48, .ref b49, .ref b50, .int b51, .ref b52, .ref b53, .ref b54])), (b7, .inl (G.2 3, 240, .inl b55))] H := hP
      have hD := z_tie hP hD rfl
      try simp only [Int32.toInt_toInt64, ll_48] at hq_8
      have hv_13 : zI v_6 (-2147483648) 47 := by have _a := hq_8; have _b := (zI_all v_6); have _c := zcl_48; simp only [Int32.toInt_toInt64] at *; exact ⟨by omega, by omega⟩
      refine W.widen (k := 0) (n := 0) (Nat.le_of_ble_eq_true rfl) (Nat.le_of_ble_eq_true rfl) ?_
      refine lv_if_eq (tgt := 37) hx hb d_Model_isDigitHere_30 (by decide) (fun _ => ?_) (fun hc => absurd hc (by decide +kernel))
      refine lv_iconst (v := 0) hx hb d_Model_isDigitHere_37 (by decide) ?_
      exact z_zret hx hb hr hlocks rfl hP hD hS (Nat.le_of_ble_eq_true rfl) (Nat.le_of_ble_eq_true rfl) d_Model_isDigitHere_38 (Or.inr (Or.inl ⟨rfl, rfl, by omega⟩))
    · have hP : va_P G.1 classes [(b0, .inr (12, [.int b1, .ref b2, .ref b3, .ref b4, .ref b5, .int b6, .ref b7, .int b8, .int b9, .int b10, .int b11, .ref b12, .ref b13, .ref b14, .int b15, .ref b16, .ref b17, .ref b18, .ref b19, .ref b20, .ref b21, .ref b22, .ref b23, .ref b24, .ref b25, .ref b26, .ref b27, .int b28, .ref b29, .ref b30, .int b31, .int b32, .int b33, .int b34, .ref b35, .ref b36, .ref b37, .ref b38, .ref b39, .ref b40, .ref b41, .int b42, .ref b43, .ref b44, .int b45, .ref b46, .ref b47, .ref b48, .ref b49, .ref b50, .int b51, .ref b52, .ref b53, .ref b54])), (b7, .inl (G.2 3, 240, .inl b55))] H := hP
      have hD := z_tie hP hD rfl
      try simp only [Int32.toInt_toInt64, ll_48] at hq_9
      have hv_14 : zI v_6 48 2147483647 := by have _a := hq_9; have _b := (zI_all v_6); have _c := zcl_48; simp only [Int32.toInt_toInt64] at *; exact ⟨by omega, by omega⟩
      try simp only [Int32.toInt_toInt64, ll_57] at hq_10
      have hv_15 : zI v_6 58 2147483647 := by have _a := hq_10; have _b := hv_14; have _c := zcl_57; simp only [Int32.toInt_toInt64] at *; exact ⟨by omega, by omega⟩
      refine W.widen (k := 0) (n := 0) (Nat.le_of_ble_eq_true rfl) (Nat.le_of_ble_eq_true rfl) ?_
      refine lv_if_eq (tgt := 37) hx hb d_Model_isDigitHere_30 (by decide) (fun _ => ?_) (fun hc => absurd hc (by decide +kernel))
      refine lv_iconst (v := 0) hx hb d_Model_isDigitHere_37 (by decide) ?_
      exact z_zret hx hb hr hlocks rfl hP hD hS (Nat.le_of_ble_eq_true rfl) (Nat.le_of_ble_eq_true rfl) d_Model_isDigitHere_38 (Or.inr (Or.inr (Or.inl ⟨rfl, rfl, by omega⟩)))
    · have hP : va_P G.1 classes [(b0, .inr (12, [.int b1, .ref b2, .ref b3, .ref b4, .ref b5, .int b6, .ref b7, .int b8, .int b9, .int b10, .int b11, .ref b12, .ref b13, .ref b14, .int b15, .ref b16, .ref b17, .ref b18, .ref b19, .ref b20, .ref b21, .ref b22, .ref b23, .ref b24, .ref b25, .ref b26, .ref b27, .int b28, .ref b29, .ref b30, .int b31, .int b32, .int b33, .int b34, .ref b35, .ref b36, .ref b37, .ref b38, .ref b39, .ref b40, .ref b41, .int b42, .ref b43, .ref b44, .int b45, .ref b46, .ref b47, .ref b48, .ref b49, .ref b50, .int b51, .ref b52, .ref b53, .ref b54])), (b7, .inl (G.2 3, 240, .inl b55))] H := hP
      have hD := z_tie hP hD rfl
      try simp only [Int32.toInt_toInt64, ll_48] at hq_11
      have hv_16 : zI v_6 48 2147483647 := by have _a := hq_11; have _b := (zI_all v_6); have _c := zcl_48; simp only [Int32.toInt_toInt64] at *; exact ⟨by omega, by omega⟩
      try simp only [Int32.toInt_toInt64, ll_57] at hq_12
      have hv_17 : zI v_6 48 57 := by have _a := hq_12; have _b := hv_16; have _c := zcl_57; simp only [Int32.toInt_toInt64] at *; exact ⟨by omega, by omega⟩
      refine W.widen (k := 0) (n := 0) (Nat.le_of_ble_eq_true rfl) (Nat.le_of_ble_eq_true rfl) ?_
      refine lv_if_eq (tgt := 37) hx hb d_Model_isDigitHere_30 (by decide) (fun hc => absurd hc (by decide +kernel)) (fun _ => ?_)
      refine lv_iconst (v := 1) hx hb d_Model_isDigitHere_33 (by decide) ?_
      refine lv_goto (tgt := 38) hx hb d_Model_isDigitHere_34 (by decide) ?_
      exact z_zret hx hb hr hlocks rfl hP hD hS (Nat.le_of_ble_eq_true rfl) (Nat.le_of_ble_eq_true rfl) d_Model_isDigitHere_38 (Or.inr (Or.inr (Or.inr (⟨rfl, rfl, by omega⟩))))
theorem d_Model_endsReading_0 : decode prog_14_method_17_code 0 = .ok (.aload_n 0, 1) := by decide +kernel
theorem d_Model_endsReading_1 : decode prog_14_method_17_code 1 = .ok (.getfield 145, 3) := by decide +kernel
theorem d_Model_endsReading_4 : decode prog_14_method_17_code 4 = .ok (.ifCond .eq 25, 3) := by decide +kernel
theorem d_Model_endsReading_7 : decode prog_14_method_17_code 7 = .ok (.aload_n 0, 1) := by decide +kernel
theorem d_Model_endsReading_8 : decode prog_14_method_17_code 8 = .ok (.invokevirtual 162, 3) := by decide +kernel
theorem d_Model_endsReading_11 : decode prog_14_method_17_code 11 = .ok (.ifCond .ne 14, 3) := by decide +kernel
theorem d_Model_endsReading_14 : decode prog_14_method_17_code 14 = .ok (.aload_n 0, 1) := by decide +kernel
theorem d_Model_endsReading_15 : decode prog_14_method_17_code 15 = .ok (.getfield 149, 3) := by decide +kernel
theorem d_Model_endsReading_18 : decode prog_14_method_17_code 18 = .ok (.aload_n 0, 1) := by decide +kernel
theorem d_Model_endsReading_19 : decode prog_14_method_17_code 19 = .ok (.getfield 142, 3) := by decide +kernel
theorem d_Model_endsReading_22 : decode prog_14_method_17_code 22 = .ok (.if_icmp .ge 7, 3) := by decide +kernel
theorem d_Model_endsReading_25 : decode prog_14_method_17_code 25 = .ok (.aload_n 0, 1) := by decide +kernel
theorem d_Model_endsReading_26 : decode prog_14_method_17_code 26 = .ok (.invokevirtual 169, 3) := by decide +kernel
theorem d_Model_endsReading_29 : decode prog_14_method_17_code 29 = .ok (.aload_n 0, 1) := by decide +kernel
theorem d_Model_endsReading_30 : decode prog_14_method_17_code 30 = .ok (.iconst 0, 1) := by decide +kernel
theorem d_Model_endsReading_31 : decode prog_14_method_17_code 31 = .ok (.putfield 142, 3) := by decide +kernel
theorem d_Model_endsReading_34 : decode prog_14_method_17_code 34 = .ok (.return_, 1) := by decide +kernel
abbrev m_s1_Model_endsReading : Room := { frames := 1, cells := 0, slots := 0, locals := 20 }
set_option maxHeartbeats 4000000 in
set_option maxRecDepth 100000 in
theorem s1_Model_endsReading (l : Launch) (G : zG) (b0 : Nat) (b1 : Int32) (b2 : Nat) (b3 : Nat) (b4 : Nat) (b5 : Nat) (b6 : Int32) (b7 : Nat) (b8 : Int32) (b9 : Int32) (b10 : Int32) (b11 : Int32) (b12 : Nat) (b13 : Nat) (b14 : Nat) (b15 : Int32) (b16 : Nat) (b17 : Nat) (b18 : Nat) (b19 : Nat) (b20 : Nat) (b21 : Nat) (b22 : Nat) (b23 : Nat) (b24 : Nat) (b25 : Nat) (b26 : Nat) (b27 : Nat) (b28 : Int32) (b29 : Nat) (b30 : Nat) (b31 : Int32) (b32 : Int32) (b33 : Int32) (b34 : Int32) (b35 : Nat) (b36 : Nat) (b37 : Nat) (b38 : Nat) (b39 : Nat) (b40 : Nat) (b41 : Nat) (b42 : Int32) (b43 : Nat) (b44 : Nat) (b45 : Int32) (b46 : Nat) (b47 : Nat) (b48 : Nat) (b49 : Nat) (b50 : Nat) (b51 : Int32) (b52 : Nat) (b53 : Nat) (b54 : Nat) (b55 : Nat → Int32) (hb6 : zI b6 0 8) (hb8 : zI b8 0 240) (hb9 : zI b9 0 240) (hb11 : zI b11 0 1) (hb15 : zI b15 0 12) (hb28 : zI b28 0 1) (hb31 : zI b31 0 1) (hb42 : zI b42 0 1000) (hb45 : zI b45 0 1000) (hb51 : zI b51 0 400) : zM l G y_Model_endsReading prog_14_method_17_code 1 (Option.none : Option Jvm.ClassFile.FieldType) m_s1_Model_endsReading [.ref b0] [(b0, .inr (12, [.int b1, .ref b2, .ref b3, .ref b4, .ref b5, .int b6, .ref b7, .int b8, .int b9, .int b10, .int b11, .ref b12, .ref b13, .ref b14, .int b15, .ref b16, .ref b17, .ref b18, .ref b19, .ref b20, .ref b21, .ref b22, .ref b23, .ref b24, .ref b25, .ref b26, .ref b27, .int b28, .ref b29, .ref b30, .int b31, .int b32, .int b33, .int b34, .ref b35, .ref b36, .ref b37, .ref b38, .ref b39, .ref b40, .ref b41, .int b42, .ref b43, .ref b44, .int b45, .ref b46, .ref b47, .ref b48, .ref b49, .ref b50, .int b51, .ref b52, .ref b53, .ref b54])), (b7, .inl (G.2 3, 240, .inl b55))] (fun v w => ∃ (e0 : Int32), ∃ (e1 : Int32), ∃ (e2 : Int32), v = none ∧ w = [(b0, .inr (12, [.int b1, .ref b2, .ref b3, .ref b4, .ref b5, .int b6, .ref b7, .int 0, .int e0, .int e1, .int e2, .ref b12, .ref b13, .ref b14, .int b15, .ref b16, .ref b17, .ref b18, .ref b19, .ref b20, .ref b21, .ref b22, .ref b23, .ref b24, .ref b25, .ref b26, .ref b27, .int b28, .ref b29, .ref b30, .int b31, .int b32, .int b33, .int b34, .ref b35, .ref b36, .ref b37, .ref b38, .ref b39, .ref b40, .ref b41, .int b42, .ref b43, .ref b44, .int b45, .ref b46, .ref b47, .ref b48, .ref b49, .ref b50, .int b51, .ref b52, .ref b53, .ref b54])), (b7, .inl (G.2 3, 240, .inl b55))] ∧ (zI e0 0 240) ∧ (zI e2 0 1)) := by
  refine z_start (by decide +kernel) (Nat.le_of_ble_eq_true rfl) ?_
  intro p e s m below meth c A Z hr hnm hA hP hD hS ls hl
  have Z : zC p s m _ meth c prog_14_method_17_code 1 "TraceMachinesModel" G := Z
  obtain ⟨hx, hb, hml, hown, hts, hK, hN, hlocks⟩ := id Z
  have hl : lv_has ls 1 [(0, .ref b0)] := hl
  refine lv_aload_n hx hb d_Model_endsReading_0 rfl (lv_at hl 0 rfl) ?_
  refine va_get (D := G.1) (ci := 12) (v := .int b11) (C := R_Model) (T := F_Model) (N := 54) hx hb hts i_Model hown hK hP 0 rfl rfl 10 (by decide) (hts _ q1119) (fun _ h9 => h9) rfl d_Model_endsReading_1 ?_
  refine lv_if_eq (tgt := 29) hx hb d_Model_endsReading_4 (by decide) (fun hc_1 => ?_) (fun hc_1 => ?_)
  · have _nhc_1 := hc_1
    have ni_2 := (fa_eq _ _).mp hc_1
    rw [li_0] at ni_2
    have hv_3 : zI b11 0 0 := zI.eq_l hb11 zc_0 hc_1
    refine lv_aload_n hx hb d_Model_endsReading_29 rfl (lv_at hl 0 rfl) ?_
    refine lv_iconst (v := 0) hx hb d_Model_endsReading_30 (by decide) ?_
    refine va_put (D := G.1) (ci := 12) (v := .int 0) (ty := .int) (C := R_Model) (T := F_Model) (N := 54) hx hb hts i_Model t_Model t_Model_ok n_Model hown hK hP hD hS 0 rfl rfl 7 (by decide) (hts _ q1116) (fun _ h9 => h9) rfl (by decide +kernel) rfl rfl (Nat.le_of_ble_eq_true rfl) d_Model_endsReading_31 (fun H locs hP hD hS => ?_)
    have hP : va_P G.1 classes [(b0, .inr (12, [.int b1, .ref b2, .ref b3, .ref b4, .ref b5, .int b6, .ref b7, .int 0, .int b9, .int b10, .int b11, .ref b12, .ref b13, .ref b14, .int b15, .ref b16, .ref b17, .ref b18, .ref b19, .ref b20, .ref b21, .ref b22, .ref b23, .ref b24, .ref b25, .ref b26, .ref b27, .int b28, .ref b29, .ref b30, .int b31, .int b32, .int b33, .int b34, .ref b35, .ref b36, .ref b37, .ref b38, .ref b39, .ref b40, .ref b41, .int b42, .ref b43, .ref b44, .int b45, .ref b46, .ref b47, .ref b48, .ref b49, .ref b50, .int b51, .ref b52, .ref b53, .ref b54])), (b7, .inl (G.2 3, 240, .inl b55))] H := hP
    have hD := z_tie hP hD rfl
    exact z_vret hx hb hr hlocks hP hD hS (Nat.le_of_ble_eq_true rfl) (Nat.le_of_ble_eq_true rfl) d_Model_endsReading_34 ⟨b9, b10, b11, rfl, rfl, hb9, (zI.wk (l' := 0) (h' := 1) hv_3 (by decide))⟩
  · have _nhc_1 := hc_1
    have ni_4 : ¬ (b11 : Int32).toInt = (0 : Int32).toInt := fun z => hc_1 ((fa_eq _ _).mpr z)
    simp only [li_0] at ni_4
    have hv_5 : zI b11 1 1 := zI.ne_lo hb11 zc_0 hc_1 (by decide)
    refine lv_aload_n hx hb d_Model_endsReading_7 rfl (lv_at hl 0 rfl) ?_
    refine z_callV (index := 162) (As := []) (rest := []) (wr := []) Z (s1_Model_next l G (b0) (b1) (b2) (b3) (b4) (b5) (b6) (b7) (b8) (b9) (b10) (b11) (b12) (b13) (b14) (b15) (b16) (b17) (b18) (b19) (b20) (b21) (b22) (b23) (b24) (b25) (b26) (b27) (b28) (b29) (b30) (b31) (b32) (b33) (b34) (b35) (b36) (b37) (b38) (b39) (b40) (b41) (b42) (b43) (b44) (b45) (b46) (b47) (b48) (b49) (b50) (b51) (b52) (b53) (b54) (b55) hb6 hb8 hb9 (zI.wk (l' := 0) (h' := 1) hv_5 (by decide)) hb15 hb28 hb31 hb42 hb45 hb51) hl.1 q1292 q1294 qs45 q14 q1295 ⟨by decide, by decide, by show _ = some 0; decide +kernel⟩ ⟨Nat.le_of_ble_eq_true rfl, Nat.le_of_ble_eq_true rfl⟩ ⟨Nat.le_of_ble_eq_true rfl, Nat.le_of_ble_eq_true rfl⟩ rfl (Nat.le_of_ble_eq_true rfl) d_Model_endsReading_8 hP hD hS hA 0 12 rfl rfl rfl [0, 1] [] rfl rfl rfl rfl (by decide) (fun v w1 H locs hw_6 hP hD hS => ?_)
    obtain ⟨x_7, x_8, rfl, rfl, hx_8, hfx_9, hfx_10⟩ := hw_6
    have hP : va_P G.1 classes [(b0, .inr (12, [.int b1, .ref b2, .ref b3, .ref b4, .ref b5, .int b6, .ref b7, .int b8, .int x_8, .int b10, .int b11, .ref b12, .ref b13, .ref b14, .int b15, .ref b16, .ref b17, .ref b18, .ref b19, .ref b20, .ref b21, .ref b22, .ref b23, .ref b24, .ref b25, .ref b26, .ref b27, .int b28, .ref b29, .ref b30, .int b31, .int b32, .int b33, .int b34, .ref b35, .ref b36, .ref b37, .ref b38, .ref b39, .ref b40, .ref b41, .int b42, .ref b43, .ref b44, .int b45, .ref b46, .ref b47, .ref b48, .ref b49, .ref b50, .int b51, .ref b52, .ref b53, .ref b54])), (b7, .inl (G.2 3, 240, .inl b55))] H := hP
    have hD := z_tie hP hD rfl
    refine W.widen (k := 0) (n := 0) (Nat.le_of_ble_eq_true rfl) (Nat.le_of_ble_eq_true rfl) ?_
    refine lv_if_ne (tgt := 25) hx hb d_Model_endsReading_11 (by decide) (fun hc_11 => ?_) (fun hc_11 => ?_)
    · have _nhc_11 := hc_11
      have ni_12 : ¬ (x_7 : Int32).toInt = (0 : Int32).toInt := fun z => hc_11 ((fa_eq _ _).mpr z)
      simp only [li_0] at ni_12
      refine lv_aload_n hx hb d_Model_endsReading_25 rfl (lv_at hl 0 rfl) ?_
      refine z_callV (index := 169) (As := []) (rest := []) (wr := [(b7, .inl (G.2 3, 240, .inl b55))]) Z (s1_Model_wrong l G (b0) (b1) (b2) (b3) (b4) (b5) (b6) (b7) (b8) (x_8) (b10) (b11) (b12) (b13) (b14) (b15) (b16) (b17) (b18) (b19) (b20) (b21) (b22) (b23) (b24) (b25) (b26) (b27) (b28) (b29) (b30) (b31) (b32) (b33) (b34) (b35) (b36) (b37) (b38) (b39) (b40) (b41) (b42) (b43) (b44) (b45) (b46) (b47) (b48) (b49) (b50) (b51) (b52) (b53) (b54) hb6 hb8 hx_8 (zI.wk (l' := 0) (h' := 1) hv_5 (by decide)) hb15 hb28 hb31 hb42 hb45 hb51) hl.1 q1296 q1298 qs46 q14 q1299 ⟨by decide, by decide, by show _ = some 0; decide +kernel⟩ ⟨Nat.le_of_ble_eq_true rfl, Nat.le_of_ble_eq_true rfl⟩ ⟨Nat.le_of_ble_eq_true rfl, Nat.le_of_ble_eq_true rfl⟩ rfl (Nat.le_of_ble_eq_true rfl) d_Model_endsReading_26 hP hD hS hA 0 12 rfl rfl rfl [0] [1] rfl rfl rfl rfl (by decide) (fun v w1 H locs hw_13 hP hD hS => ?_)
      obtain ⟨x_14, rfl, rfl⟩ := hw_13
      have hP : va_P G.1 classes [(b7, .inl (G.2 3, 240, .inl b55)), (b0, .inr (12, [.int b1, .ref b2, .ref b3, .ref b4, .ref b5, .int b6, .ref b7, .int b8, .int x_8, .int x_14, .int 0, .ref b12, .ref b13, .ref b14, .int b15, .ref b16, .ref b17, .ref b18, .ref b19, .ref b20, .ref b21, .ref b22, .ref b23, .ref b24, .ref b25, .ref b26, .ref b27, .int b28, .ref b29, .ref b30, .int b31, .int b32, .int b33, .int b34, .ref b35, .ref b36, .ref b37, .ref b38, .ref b39, .ref b40, .ref b41, .int b42, .ref b43, .ref b44, .int b45, .ref b46, .ref b47, .ref b48, .ref b49, .ref b50, .int b51, .ref b52, .ref b53, .ref b54]))] H := hP
      have hD := z_tie hP hD rfl
      refine W.widen (k := 0) (n := 0) (Nat.le_of_ble_eq_true rfl) (Nat.le_of_ble_eq_true rfl) ?_
      refine lv_aload_n hx hb d_Model_endsReading_29 rfl (lv_at hl 0 rfl) ?_
      refine lv_iconst (v := 0) hx hb d_Model_endsReading_30 (by decide) ?_
      refine va_put (D := G.1) (ci := 12) (v := .int 0) (ty := .int) (C := R_Model) (T := F_Model) (N := 54) hx hb hts i_Model t_Model t_Model_ok n_Model hown hK hP hD hS 1 rfl rfl 7 (by decide) (hts _ q1116) (fun _ h9 => h9) rfl (by decide +kernel) rfl rfl (Nat.le_of_ble_eq_true rfl) d_Model_endsReading_31 (fun H locs hP hD hS => ?_)
      have hP : va_P G.1 classes [(b7, .inl (G.2 3, 240, .inl b55)), (b0, .inr (12, [.int b1, .ref b2, .ref b3, .ref b4, .ref b5, .int b6, .ref b7, .int 0, .int x_8, .int x_14, .int 0, .ref b12, .ref b13, .ref b14, .int b15, .ref b16, .ref b17, .ref b18, .ref b19, .ref b20, .ref b21, .ref b22, .ref b23, .ref b24, .ref b25, .ref b26, .ref b27, .int b28, .ref b29, .ref b30, .int b31, .int b32, .int b33, .int b34, .ref b35, .ref b36, .ref b37, .ref b38, .ref b39, .ref b40, .ref b41, .int b42, .ref b43, .ref b44, .int b45, .ref b46, .ref b47, .ref b48, .ref b49, .ref b50, .int b51, .ref b52, .ref b53, .ref b54]))] H := hP
      have hD := z_tie hP hD rfl
      exact z_vret hx hb hr hlocks (hP.sub [1, 0] rfl) (hD.sub [1, 0] (by decide) rfl) hS (Nat.le_of_ble_eq_true rfl) (Nat.le_of_ble_eq_true rfl) d_Model_endsReading_34 ⟨x_8, x_14, 0, rfl, rfl, hx_8, (zI.wk (l' := 0) (h' := 1) zc_0 (by decide))⟩
    · have _nhc_11 := hc_11
      have ni_15 := (fa_eq _ _).mp hc_11
      rw [li_0] at ni_15
      have hv_16 : zI x_7 0 0 := zI.eq_l (zI_all x_7) zc_0 hc_11
      refine lv_aload_n hx hb d_Model_endsReading_14 rfl (lv_at hl 0 rfl) ?_
      refine va_get (D := G.1) (ci := 12) (v := .int x_8) (C := R_Model) (T := F_Model) (N := 54) hx hb hts i_Model hown hK hP 0 rfl rfl 8 (by decide) (hts _ q1117) (fun _ h9 => h9) rfl d_Model_endsReading_15 ?_
      refine lv_aload_n hx hb d_Model_endsReading_18 rfl (lv_at hl 0 rfl) ?_
      refine va_get (D := G.1) (ci := 12) (v := .int b8) (C := R_Model) (T := F_Model) (N := 54) hx hb hts i_Model hown hK hP 0 rfl rfl 7 (by decide) (hts _ q1116) (fun _ h9 => h9) rfl d_Model_endsReading_19 ?_
      refine lv_icmp_ge (tgt := 29) hx hb d_Model_endsReading_22 (by decide) (fun hc_17 => ?_) (fun hc_17 => ?_)
      · have _nhc_17 := hc_17
        have ni_18 := (fa_le _ _).mp hc_17
        refine lv_aload_n hx hb d_Model_endsReading_29 rfl (lv_at hl 0 rfl) ?_
        refine lv_iconst (v := 0) hx hb d_Model_endsReading_30 (by decide) ?_
        refine va_put (D := G.1) (ci := 12) (v := .int 0) (ty := .int) (C := R_Model) (T := F_Model) (N := 54) hx hb hts i_Model t_Model t_Model_ok n_Model hown hK hP hD hS 0 rfl rfl 7 (by decide) (hts _ q1116) (fun _ h9 => h9) rfl (by decide +kernel) rfl rfl (Nat.le_of_ble_eq_true rfl) d_Model_endsReading_31 (fun H locs hP hD hS => ?_)
        have hP : va_P G.1 classes [(b0, .inr (12, [.int b1, .ref b2, .ref b3, .ref b4, .ref b5, .int b6, .ref b7, .int 0, .int x_8, .int b10, .int b11, .ref b12, .ref b13, .ref b14, .int b15, .ref b16, .ref b17, .ref b18, .ref b19, .ref b20, .ref b21, .ref b22, .ref b23, .ref b24, .ref b25, .ref b26, .ref b27, .int b28, .ref b29, .ref b30, .int b31, .int b32, .int b33, .int b34, .ref b35, .ref b36, .ref b37, .ref b38, .ref b39, .ref b40, .ref b41, .int b42, .ref b43, .ref b44, .int b45, .ref b46, .ref b47, .ref b48, .ref b49, .ref b50, .int b51, .ref b52, .ref b53, .ref b54])), (b7, .inl (G.2 3, 240, .inl b55))] H := hP
        have hD := z_tie hP hD rfl
        exact z_vret hx hb hr hlocks hP hD hS (Nat.le_of_ble_eq_true rfl) (Nat.le_of_ble_eq_true rfl) d_Model_endsReading_34 ⟨x_8, b10, b11, rfl, rfl, hx_8, (zI.wk (l' := 0) (h' := 1) hv_5 (by decide))⟩
      · have _nhc_17 := hc_17
        have ni_19 := (fa_lt _ _).mp (zi_nle hc_17)
        have hv_20 : zI x_8 0 239 := zI.lt_l hx_8 hb8 (zi_nle hc_17) (by decide)
        have hv_21 : zI b8 1 240 := zI.lt_r hx_8 hb8 (zi_nle hc_17) (by decide)
        refine lv_aload_n hx hb d_Model_endsReading_25 rfl (lv_at hl 0 rfl) ?_
        refine z_callV (index := 169) (As := []) (rest := []) (wr := [(b7, .inl (G.2 3, 240, .inl b55))]) Z (s1_Model_wrong l G (b0) (b1) (b2) (b3) (b4) (b5) (b6) (b7) (b8) (x_8) (b10) (b11) (b12) (b13) (b14) (b15) (b16) (b17) (b18) (b19) (b20) (b21) (b22) (b23) (b24) (b25) (b26) (b27) (b28) (b29) (b30) (b31) (b32) (b33) (b34) (b35) (b36) (b37) (b38) (b39) (b40) (b41) (b42) (b43) (b44) (b45) (b46) (b47) (b48) (b49) (b50) (b51) (b52) (b53) (b54) hb6 (zI.wk (l' := 0) (h' := 240) hv_21 (by decide)) (zI.wk (l' := 0) (h' := 240) hv_20 (by decide)) (zI.wk (l' := 0) (h' := 1) hv_5 (by decide)) hb15 hb28 hb31 hb42 hb45 hb51) hl.1 q1296 q1298 qs46 q14 q1299 ⟨by decide, by decide, by show _ = some 0; decide +kernel⟩ ⟨Nat.le_of_ble_eq_true rfl, Nat.le_of_ble_eq_true rfl⟩ ⟨Nat.le_of_ble_eq_true rfl, Nat.le_of_ble_eq_true rfl⟩ rfl (Nat.le_of_ble_eq_true rfl) d_Model_endsReading_26 hP hD hS hA 0 12 rfl rfl rfl [0] [1] rfl rfl rfl rfl (by decide) (fun v w1 H locs hw_22 hP hD hS => ?_)
        obtain ⟨x_23, rfl, rfl⟩ := hw_22
        have hP : va_P G.1 classes [(b7, .inl (G.2 3, 240, .inl b55)), (b0, .inr (12, [.int b1, .ref b2, .ref b3, .ref b4, .ref b5, .int b6, .ref b7, .int b8, .int x_8, .int x_23, .int 0, .ref b12, .ref b13, .ref b14, .int b15, .ref b16, .ref b17, .ref b18, .ref b19, .ref b20, .ref b21, .ref b22, .ref b23, .ref b24, .ref b25, .ref b26, .ref b27, .int b28, .ref b29, .ref b30, .int b31, .int b32, .int b33, .int b34, .ref b35, .ref b36, .ref b37, .ref b38, .ref b39, .ref b40, .ref b41, .int b42, .ref b43, .ref b44, .int b45, .ref b46, .ref b47, .ref b48, .ref b49, .ref b50, .int b51, .ref b52, .ref b53, .ref b54]))] H := hP
        have hD := z_tie hP hD rfl
        refine W.widen (k := 0) (n := 0) (Nat.le_of_ble_eq_true rfl) (Nat.le_of_ble_eq_true rfl) ?_
        refine lv_aload_n hx hb d_Model_endsReading_29 rfl (lv_at hl 0 rfl) ?_
        refine lv_iconst (v := 0) hx hb d_Model_endsReading_30 (by decide) ?_
        refine va_put (D := G.1) (ci := 12) (v := .int 0) (ty := .int) (C := R_Model) (T := F_Model) (N := 54) hx hb hts i_Model t_Model t_Model_ok n_Model hown hK hP hD hS 1 rfl rfl 7 (by decide) (hts _ q1116) (fun _ h9 => h9) rfl (by decide +kernel) rfl rfl (Nat.le_of_ble_eq_true rfl) d_Model_endsReading_31 (fun H locs hP hD hS => ?_)
        have hP : va_P G.1 classes [(b7, .inl (G.2 3, 240, .inl b55)), (b0, .inr (12, [.int b1, .ref b2, .ref b3, .ref b4, .ref b5, .int b6, .ref b7, .int 0, .int x_8, .int x_23, .int 0, .ref b12, .ref b13, .ref b14, .int b15, .ref b16, .ref b17, .ref b18, .ref b19, .ref b20, .ref b21, .ref b22, .ref b23, .ref b24, .ref b25, .ref b26, .ref b27, .int b28, .ref b29, .ref b30, .int b31, .int b32, .int b33, .int b34, .ref b35, .ref b36, .ref b37, .ref b38, .ref b39, .ref b40, .ref b41, .int b42, .ref b43, .ref b44, .int b45, .ref b46, .ref b47, .ref b48, .ref b49, .ref b50, .int b51, .ref b52, .ref b53, .ref b54]))] H := hP
        have hD := z_tie hP hD rfl
        exact z_vret hx hb hr hlocks (hP.sub [1, 0] rfl) (hD.sub [1, 0] (by decide) rfl) hS (Nat.le_of_ble_eq_true rfl) (Nat.le_of_ble_eq_true rfl) d_Model_endsReading_34 ⟨x_8, x_23, 0, rfl, rfl, (zI.wk (l' := 0) (h' := 240) hv_20 (by decide)), (zI.wk (l' := 0) (h' := 1) zc_0 (by decide))⟩
theorem d_Model_depth_0 : decode prog_14_method_21_code 0 = .ok (.aload_n 0, 1) := by decide +kernel
theorem d_Model_depth_1 : decode prog_14_method_21_code 1 = .ok (.iconst 0, 1) := by decide +kernel
theorem d_Model_depth_2 : decode prog_14_method_21_code 2 = .ok (.putfield 1, 3) := by decide +kernel
theorem d_Model_depth_5 : decode prog_14_method_21_code 5 = .ok (.aload_n 0, 1) := by decide +kernel
theorem d_Model_depth_6 : decode prog_14_method_21_code 6 = .ok (.sipush 501, 3) := by decide +kernel
theorem d_Model_depth_9 : decode prog_14_method_21_code 9 = .ok (.iload_n 1, 1) := by decide +kernel
theorem d_Model_depth_10 : decode prog_14_method_21_code 10 = .ok (.iconst 3, 1) := by decide +kernel
theorem d_Model_depth_11 : decode prog_14_method_21_code 11 = .ok (.invokevirtual 195, 3) := by decide +kernel
theorem d_Model_change_0 : decode prog_14_method_20_code 0 = .ok (.iload_n 2, 1) := by decide +kernel
theorem d_Model_change_1 : decode prog_14_method_20_code 1 = .ok (.i2l, 1) := by decide +kernel
theorem d_Model_change_2 : decode prog_14_method_20_code 2 = .ok (.lconst 0, 1) := by decide +kernel
theorem d_Model_change_3 : decode prog_14_method_20_code 3 = .ok (.iload_n 3, 1) := by decide +kernel
theorem d_Model_change_4 : decode prog_14_method_20_code 4 = .ok (.i2l, 1) := by decide +kernel
theorem d_Model_change_5 : decode prog_14_method_20_code 5 = .ok (.invokestatic 138, 3) := by decide +kernel
theorem d_Model_change_8 : decode prog_14_method_20_code 8 = .ok (.ifCond .ne 5, 3) := by decide +kernel
theorem d_Model_change_11 : decode prog_14_method_20_code 11 = .ok (.iconst (-1), 1) := by decide +kernel
theorem d_Model_change_12 : decode prog_14_method_20_code 12 = .ok (.ireturn, 1) := by decide +kernel
theorem d_Model_change_13 : decode prog_14_method_20_code 13 = .ok (.aload_n 0, 1) := by decide +kernel
theorem d_Model_change_14 : decode prog_14_method_20_code 14 = .ok (.getfield 13, 3) := by decide +kernel
theorem d_Model_change_17 : decode prog_14_method_20_code 17 = .ok (.iload_n 1, 1) := by decide +kernel
theorem d_Model_change_18 : decode prog_14_method_20_code 18 = .ok (.iaload, 1) := by decide +kernel
theorem d_Model_change_19 : decode prog_14_method_20_code 19 = .ok (.istore 4, 2) := by decide +kernel
theorem d_Model_change_21 : decode prog_14_method_20_code 21 = .ok (.iload 4, 2) := by decide +kernel
theorem d_Model_change_23 : decode prog_14_method_20_code 23 = .ok (.iload_n 2, 1) := by decide +kernel
theorem d_Model_change_24 : decode prog_14_method_20_code 24 = .ok (.if_icmp .ne 6, 3) := by decide +kernel
theorem d_Model_change_27 : decode prog_14_method_20_code 27 = .ok (.bipush (-3), 2) := by decide +kernel
theorem d_Model_change_29 : decode prog_14_method_20_code 29 = .ok (.ireturn, 1) := by decide +kernel
theorem d_Model_change_30 : decode prog_14_method_20_code 30 = .ok (.aload_n 0, 1) := by decide +kernel
theorem d_Model_change_31 : decode prog_14_method_20_code 31 = .ok (.invokevirtual 188, 3) := by decide +kernel
theorem d_Model_change_34 : decode prog_14_method_20_code 34 = .ok (.aload_n 0, 1) := by decide +kernel
theorem d_Model_change_35 : decode prog_14_method_20_code 35 = .ok (.getfield 13, 3) := by decide +kernel
theorem d_Model_change_38 : decode prog_14_method_20_code 38 = .ok (.iload_n 1, 1) := by decide +kernel
theorem d_Model_change_39 : decode prog_14_method_20_code 39 = .ok (.iload_n 2, 1) := by decide +kernel
theorem d_Model_change_40 : decode prog_14_method_20_code 40 = .ok (.iastore, 1) := by decide +kernel
theorem d_Model_change_41 : decode prog_14_method_20_code 41 = .ok (.iload 4, 2) := by decide +kernel
theorem d_Model_change_43 : decode prog_14_method_20_code 43 = .ok (.ireturn, 1) := by decide +kernel
theorem ll_3 : (3 : Int64).toInt = 3 := by decide +kernel
theorem zcl_3 : zJ 3 3 3 := ⟨by decide +kernel, by decide +kernel⟩
theorem zc_501 : zI 501 501 501 := ⟨by decide +kernel, by decide +kernel⟩
abbrev m_s2_Model_change : Room := { frames := 1, cells := 0, slots := 0, locals := 25 }
set_option maxHeartbeats 4000000 in
set_option maxRecDepth 100000 in
theorem s2_Model_change (l : Launch) (G : zG) (b0 : Nat) (b1 : Int32) (b2 : Int32) (b3 : Nat) (b4 : Nat) (b5 : Nat) (b6 : Nat) (b7 : Int32) (b8 : Nat) (b9 : Int32) (b10 : Int32) (b11 : Int32) (b12 : Int32) (b13 : Nat) (b14 : Nat) (b15 : Nat) (b16 : Int32) (b17 : Nat) (b18 : Nat) (b19 : Nat) (b20 : Nat) (b21 : Nat) (b22 : Nat) (b23 : Nat) (b24 : Nat) (b25 : Nat) (b26 : Nat) (b27 : Nat) (b28 : Nat) (b29 : Int32) (b30 : Nat) (b31 : Nat) (b32 : Int32) (b33 : Int32) (b34 : Int32) (b35 : Int32) (b36 : Nat) (b37 : Nat) (b38 : Nat) (b39 : Nat) (b40 : Nat) (b41 : Nat) (b42 : Nat) (b43 : Int32) (b44 : Nat) (b45 : Nat) (b46 : Int32) (b47 : Nat) (b48 : Nat) (b49 : Nat) (b50 : Nat) (b51 : Nat) (b52 : Int32) (b53 : Nat) (b54 : Nat) (b55 : Nat) (b56 : Nat → Int32) (b57 : Nat → Int32) (hb7 : zI b7 0 8) (hb9 : zI b9 0 240) (hb10 : zI b10 0 240) (hb12 : zI b12 0 1) (hb16 : zI b16 0 12) (hb29 : zI b29 0 1) (hb32 : zI b32 0 1) (hb43 : zI b43 0 1000) (hb46 : zI b46 0 1000) (hb52 : zI b52 0 400) (hb56 : zW5 b56) (hb57 : zW5 b57) : zM l G y_Model_change prog_14_method_20_code 5 (Option.some Jvm.ClassFile.FieldType.int) m_s2_Model_change [.ref b0, .int 501, .int b1, .int 3] [(b0, .inr (12, [.int b2, .ref b3, .ref b4, .ref b5, .ref b6, .int b7, .ref b8, .int b9, .int b10, .int b11, .int b12, .ref b13, .ref b14, .ref b15, .int b16, .ref b17, .ref b18, .ref b19, .ref b20, .ref b21, .ref b22, .ref b23, .ref b24, .ref b25, .ref b26, .ref b27, .ref b28, .int b29, .ref b30, .ref b31, .int b32, .int b33, .int b34, .int b35, .ref b36, .ref b37, .ref b38, .ref b39, .ref b40, .ref b41, .ref b42, .int b43, .ref b44, .ref b45, .int b46, .ref b47, .ref b48, .ref b49, .ref b50, .ref b51, .int b52, .ref b53, .ref b54, .ref b55])), (b3, .inl (G.2 0, 503, .inl b56)), (b6, .inl (G.2 0, 4024, .inl b57))] (fun v w => ∃ (e0 : Int32), ∃ (e1 : Int32), ∃ (e2 : Nat → Int32), ∃ (e3 : Nat → Int32), v = some (.int e0) ∧ w = [(b0, .inr (12, [.int b2, .ref b3, .ref b4, .ref b5, .ref b6, .int e1, .ref b8, .int b9, .int b10, .int b11, .int b12, .ref b13, .ref b14, .ref b15, .int b16, .ref b17, .ref b18, .ref b19, .ref b20, .ref b21, .ref b22, .ref b23, .ref b24, .ref b25, .ref b26, .ref b27, .ref b28, .int b29, .ref b30, .ref b31, .int b32, .int b33, .int b34, .int b35, .ref b36, .ref b37, .ref b38, .ref b39, .ref b40, .ref b41, .ref b42, .int b43, .ref b44, .ref b45, .int b46, .ref b47, .ref b48, .ref b49, .ref b50, .ref b51, .int b52, .ref b53, .ref b54, .ref b55])), (b3, .inl (G.2 0, 503, .inl e2)), (b6, .inl (G.2 0, 4024, .inl e3))] ∧ (zI e0 (-3) 3) ∧ (zI e1 0 8) ∧ (zW5 e2) ∧ (zW5 e3)) := by
  refine z_start (by decide +kernel) (Nat.le_of_ble_eq_true rfl) ?_
  intro p e s m below meth c A Z hr hnm hA hP hD hS ls hl
  have Z : zC p s m _ meth c prog_14_method_20_code 5 "TraceMachinesModel" G := Z
  obtain ⟨hx, hb, hml, hown, hts, hK, hN, hlocks⟩ := id Z
  have hl : lv_has ls 5 [(0, .ref b0), (1, .int 501), (2, .int b1), (3, .int 3)] := hl
  refine lv_iload_n hx hb d_Model_change_0 rfl (lv_at hl 2 rfl) ?_
  refine lv_i2l (v := b1.toInt64) hx hb d_Model_change_1 rfl ?_
  refine lv_lconst (v := 0) hx hb d_Model_change_2 (by decide) ?_
  refine lv_iload_n hx hb d_Model_change_3 rfl (lv_at hl 3 rfl) ?_
  refine lv_i2l (v := 3) hx hb d_Model_change_4 (by decide +kernel) ?_
  refine z_callS (index := 138) (As := [.long b1.toInt64, .long 0, .long 3]) (rest := []) (wr := [(b0, .inr (12, [.int b2, .ref b3, .ref b4, .ref b5, .ref b6, .int b7, .ref b8, .int b9, .int b10, .int b11, .int b12, .ref b13, .ref b14, .ref b15, .int b16, .ref b17, .ref b18, .ref b19, .ref b20, .ref b21, .ref b22, .ref b23, .ref b24, .ref b25, .ref b26, .ref b27, .ref b28, .int b29, .ref b30, .ref b31, .int b32, .int b33, .int b34, .int b35, .ref b36, .ref b37, .ref b38, .ref b39, .ref b40, .ref b41, .ref b42, .int b43, .ref b44, .ref b45, .int b46, .ref b47, .ref b48, .ref b49, .ref b50, .ref b51, .int b52, .ref b53, .ref b54, .ref b55])), (b3, .inl (G.2 0, 503, .inl b56)), (b6, .inl (G.2 0, 4024, .inl b57))]) Z (s2_Model_in l G (b1.toInt64) (0) (3)) hl.1 q1281 q1282 q14 q1283 ⟨by decide, by decide, by show _ = some 3; decide +kernel⟩ ⟨Nat.le_of_ble_eq_true rfl, Nat.le_of_ble_eq_true rfl⟩ ⟨Nat.le_of_ble_eq_true rfl, Nat.le_of_ble_eq_true rfl⟩ rfl (Nat.le_of_ble_eq_true rfl) d_Model_change_5 hP hD hS hA [] [0, 1, 2] rfl rfl rfl rfl (by decide) (fun v w1 H locs hw_1 hP hD hS => ?_)
  rcases hw_1 with ⟨rfl, rfl, hq_2⟩ | ⟨rfl, rfl, hq_3, hq_4⟩ | ⟨rfl, rfl, hq_5, hq_6⟩
  · have hP : va_P G.1 classes [(b0, .inr (12, [.int b2, .ref b3, .ref b4, .ref b5, .ref b6, .int b7, .ref b8, .int b9, .int b10, .int b11, .int b12, .ref b13, .ref b14, .ref b15, .int b16, .ref b17, .ref b18, .ref b19, .ref b20, .ref b21, .ref b22, .ref b23, .ref b24, .ref b25, .ref b26, .ref b27, .ref b28, .int b29, .ref b30, .ref b31, .int b32, .int b33, .int b34, .int b35, .ref b36, .ref b37, .ref b38, .ref b39, .ref b40, .ref b41, .ref b42, .int b43, .ref b44, .ref b45, .int b46, .ref b47, .ref b48, .ref b49, .ref b50, .ref b51, .int b52, .ref b53, .ref b54, .ref b55])), (b3, .inl (G.2 0, 503, .inl b56)), (b6, .inl (G.2 0, 4024, .inl b57))] H := hP
    have hD := z_tie hP hD rfl
    try simp only [Int32.toInt_toInt64, ll_0] at hq_2
    have hv_7 : zI b1 (-2147483648) (-1) := by have _a := hq_2; have _b := (zI_all b1); have _c := zcl_0; simp only [Int32.toInt_toInt64] at *; exact ⟨by omega, by omega⟩
    refine W.widen (k := 0) (n := 0) (Nat.le_of_ble_eq_true rfl) (Nat.le_of_ble_eq_true rfl) ?_
    refine lv_if_ne (tgt := 13) hx hb d_Model_change_8 (by decide) (fun hc => absurd hc (by decide +kernel)) (fun _ => ?_)
    refine lv_iconst (v := (-1)) hx hb d_Model_change_11 (by decide) ?_
    exact z_iret hx hb hr hlocks hP hD hS (Nat.le_of_ble_eq_true rfl) (Nat.le_of_ble_eq_true rfl) d_Model_change_12 ⟨(-1), b7, b56, b57, rfl, rfl, (zI.wk (l' := (-3)) (h' := 3) zc_m1 (by decide)), hb7, hb56, hb57⟩
  · have hP : va_P G.1 classes [(b0, .inr (12, [.int b2, .ref b3, .ref b4, .ref b5, .ref b6, .int b7, .ref b8, .int b9, .int b10, .int b11, .int b12, .ref b13, .ref b14, .ref b15, .int b16, .ref b17, .ref b18, .ref b19, .ref b20, .ref b21, .ref b22, .ref b23, .ref b24, .ref b25, .ref b26, .ref b27, .ref b28, .int b29, .ref b30, .ref b31, .int b32, .int b33, .int b34, .int b35, .ref b36, .ref b37, .ref b38, .ref b39, .ref b40, .ref b41, .ref b42, .int b43, .ref b44, .ref b45, .int b46, .ref b47, .ref b48, .ref b49, .ref b50, .ref b51, .int b52, .ref b53, .ref b54, .ref b55])), (b3, .inl (G.2 0, 503, .inl b56)), (b6, .inl (G.2 0, 4024, .inl b57))] H := hP
    have hD := z_tie hP hD rfl
    try simp only [Int32.toInt_toInt64, ll_0] at hq_3
    have hv_8 : zI b1 0 2147483647 := by have _a := hq_3; have _b := (zI_all b1); have _c := zcl_0; simp only [Int32.toInt_toInt64] at *; exact ⟨by omega, by omega⟩
    try simp only [Int32.toInt_toInt64, ll_3] at hq_4
    have hv_9 : zI b1 4 2147483647 := by have _a := hq_4; have _b := hv_8; have _c := zcl_3; simp only [Int32.toInt_toInt64] at *; exact ⟨by omega, by omega⟩
    refine W.widen (k := 0) (n := 0) (Nat.le_of_ble_eq_true rfl) (Nat.le_of_ble_eq_true rfl) ?_
    refine lv_if_ne (tgt := 13) hx hb d_Model_change_8 (by decide) (fun hc => absurd hc (by decide +kernel)) (fun _ => ?_)
    refine lv_iconst (v := (-1)) hx hb d_Model_change_11 (by decide) ?_
    exact z_iret hx hb hr hlocks hP hD hS (Nat.le_of_ble_eq_true rfl) (Nat.le_of_ble_eq_true rfl) d_Model_change_12 ⟨(-1), b7, b56, b57, rfl, rfl, (zI.wk (l' := (-3)) (h' := 3) zc_m1 (by decide)), hb7, hb56, hb57⟩
  · have hP : va_P G.1 classes [(b0, .inr (12, [.int b2, .ref b3, .ref b4, .ref b5, .ref b6, .int b7, .ref b8, .int b9, .int b10, .int b11, .int b12, .ref b13, .ref b14, .ref b15, .int b16, .ref b17, .ref b18, .ref b19, .ref b20, .ref b21, .ref b22, .ref b23, .ref b24, .ref b25, .ref b26, .ref b27, .ref b28, .int b29, .ref b30, .ref b31, .int b32, .int b33, .int b34, .int b35, .ref b36, .ref b37, .ref b38, .ref b39, .ref b40, .ref b41, .ref b42, .int b43, .ref b44, .ref b45, .int b46, .ref b47, .ref b48, .ref b49, .ref b50, .ref b51, .int b52, .ref b53, .ref b54, .ref b55])), (b3, .inl (G.2 0, 503, .inl b56)), (b6, .inl (G.2 0, 4024, .inl b57))] H := hP
    have hD := z_tie hP hD rfl
    try simp only [Int32.toInt_toInt64, ll_0] at hq_5
    have hv_10 : zI b1 0 2147483647 := by have _a := hq_5; have _b := (zI_all b1); have _c := zcl_0; simp only [Int32.toInt_toInt64] at *; exact ⟨by omega, by omega⟩
    try simp only [Int32.toInt_toInt64, ll_3] at hq_6
    have hv_11 : zI b1 0 3 := by have _a := hq_6; have _b := hv_10; have _c := zcl_3; simp only [Int32.toInt_toInt64] at *; exact ⟨by omega, by omega⟩
    refine W.widen (k := 0) (n := 0) (Nat.le_of_ble_eq_true rfl) (Nat.le_of_ble_eq_true rfl) ?_
    refine lv_if_ne (tgt := 13) hx hb d_Model_change_8 (by decide) (fun _ => ?_) (fun hc => absurd hc (by decide +kernel))
    refine lv_aload_n hx hb d_Model_change_13 rfl (lv_at hl 0 rfl) ?_
    refine va_get (D := G.1) (ci := 12) (v := .ref b3) (C := R_Model) (T := F_Model) (N := 54) hx hb hts i_Model hown hK hP 0 rfl rfl 1 (by decide) (hts _ q1110) (fun _ h9 => h9) rfl d_Model_change_14 ?_
    refine lv_iload_n hx hb d_Model_change_17 rfl (lv_at hl 1 rfl) ?_
    refine va_iald hx hb hK hP 1 0 rfl rfl (i := 501) (z_in rfl) d_Model_change_18 ?_
    refine lv_topi (fun v_12 ev_12 => ?_)
    have hv_12 : zI v_12 0 3 := zW5.ld hb56 zc_501 ev_12 (by decide)
    refine lv_istore (lv' := [(4, .int v_12), (0, .ref b0), (1, .int 501), (2, .int b1), (3, .int 3)]) hx hb d_Model_change_19 hl (by decide) rfl (fun ls hl => ?_)
    refine lv_iload hx hb d_Model_change_21 (lv_at hl 0 rfl) ?_
    refine lv_iload_n hx hb d_Model_change_23 rfl (lv_at hl 3 rfl) ?_
    refine lv_icmp_ne (tgt := 30) hx hb d_Model_change_24 (by decide) (fun hc_13 => ?_) (fun hc_13 => ?_)
    · have _nhc_13 := hc_13
      have ni_14 : ¬ (v_12 : Int32).toInt = (b1 : Int32).toInt := fun z => hc_13 ((fa_eq _ _).mpr z)
      refine lv_aload_n hx hb d_Model_change_30 rfl (lv_at hl 1 rfl) ?_
      refine z_callV (index := 188) (As := []) (rest := []) (wr := []) Z (s1_Model_remember l G (b0) (b2) (b3) (b4) (b5) (b6) (b7) (b8) (b9) (b10) (b11) (b12) (b13) (b14) (b15) (b16) (b17) (b18) (b19) (b20) (b21) (b22) (b23) (b24) (b25) (b26) (b27) (b28) (b29) (b30) (b31) (b32) (b33) (b34) (b35) (b36) (b37) (b38) (b39) (b40) (b41) (b42) (b43) (b44) (b45) (b46) (b47) (b48) (b49) (b50) (b51) (b52) (b53) (b54) (b55) (b56) (b57) hb7 hb9 hb10 hb12 hb16 hb29 hb32 hb43 hb46 hb52 hb56 hb57) hl.1 q1316 q1318 qs50 q14 q1319 ⟨by decide, by decide, by show _ = some 0; decide +kernel⟩ ⟨Nat.le_of_ble_eq_true rfl, Nat.le_of_ble_eq_true rfl⟩ ⟨Nat.le_of_ble_eq_true rfl, Nat.le_of_ble_eq_true rfl⟩ rfl (Nat.le_of_ble_eq_true rfl) d_Model_change_31 hP hD hS hA 0 12 rfl rfl rfl [0, 1, 2] [] rfl rfl rfl rfl (by decide) (fun v w1 H locs hw_15 hP hD hS => ?_)
      obtain ⟨x_16, f_17, rfl, rfl, hx_16, hf_17⟩ := hw_15
      have hP : va_P G.1 classes [(b0, .inr (12, [.int b2, .ref b3, .ref b4, .ref b5, .ref b6, .int x_16, .ref b8, .int b9, .int b10, .int b11, .int b12, .ref b13, .ref b14, .ref b15, .int b16, .ref b17, .ref b18, .ref b19, .ref b20, .ref b21, .ref b22, .ref b23, .ref b24, .ref b25, .ref b26, .ref b27, .ref b28, .int b29, .ref b30, .ref b31, .int b32, .int b33, .int b34, .int b35, .ref b36, .ref b37, .ref b38, .ref b39, .ref b40, .ref b41, .ref b42, .int b43, .ref b44, .ref b45, .int b46, .ref b47, .ref b48, .ref b49, .ref b50, .ref b51, .int b52, .ref b53, .ref b54, .ref b55])), (b3, .inl (G.2 0, 503, .inl b56)), (b6, .inl (G.2 0, 4024, .inl f_17))] H := hP
      have hD := z_tie hP hD rfl
      refine W.widen (k := 0) (n := 0) (Nat.le_of_ble_eq_true rfl) (Nat.le_of_ble_eq_true rfl) ?_
      refine lv_aload_n hx hb d_Model_change_34 rfl (lv_at hl 1 rfl) ?_
      refine va_get (D := G.1) (ci := 12) (v := .ref b3) (C := R_Model) (T := F_Model) (N := 54) hx hb hts i_Model hown hK hP 0 rfl rfl 1 (by decide) (hts _ q1110) (fun _ h9 => h9) rfl d_Model_change_35 ?_
      refine lv_iload_n hx hb d_Model_change_38 rfl (lv_at hl 2 rfl) ?_
      refine lv_iload_n hx hb d_Model_change_39 rfl (lv_at hl 3 rfl) ?_
      refine va_iast hx hb hK hP hD hS 1 0 rfl rfl (i := 501) (z_in rfl) d_Model_change_40 (fun H locs hP hD hS => ?_)
      obtain ⟨f_18, hf_18, gf_18, uf_18, hP, hD⟩ := z_newfw 1 hP hD rfl hb56 (zRk_v zc_501 hv_11 (by decide))
      have hP : va_P G.1 classes [(b0, .inr (12, [.int b2, .ref b3, .ref b4, .ref b5, .ref b6, .int x_16, .ref b8, .int b9, .int b10, .int b11, .int b12, .ref b13, .ref b14, .ref b15, .int b16, .ref b17, .ref b18, .ref b19, .ref b20, .ref b21, .ref b22, .ref b23, .ref b24, .ref b25, .ref b26, .ref b27, .ref b28, .int b29, .ref b30, .ref b31, .int b32, .int b33, .int b34, .int b35, .ref b36, .ref b37, .ref b38, .ref b39, .ref b40, .ref b41, .ref b42, .int b43, .ref b44, .ref b45, .int b46, .ref b47, .ref b48, .ref b49, .ref b50, .ref b51, .int b52, .ref b53, .ref b54, .ref b55])), (b3, .inl (G.2 0, 503, .inl f_18)), (b6, .inl (G.2 0, 4024, .inl f_17))] H := hP
      have hD := z_tie hP hD rfl
      refine lv_iload hx hb d_Model_change_41 (lv_at hl 0 rfl) ?_
      exact z_iret hx hb hr hlocks hP hD hS (Nat.le_of_ble_eq_true rfl) (Nat.le_of_ble_eq_true rfl) d_Model_change_43 ⟨v_12, x_16, f_18, f_17, rfl, rfl, (zI.wk (l' := (-3)) (h' := 3) hv_12 (by decide)), hx_16, hf_18, hf_17⟩
    · have _nhc_13 := hc_13
      have ni_19 := (fa_eq _ _).mp hc_13
      refine lv_bipush (v := (-3)) hx hb d_Model_change_27 (by decide) ?_
      exact z_iret hx hb hr hlocks hP hD hS (Nat.le_of_ble_eq_true rfl) (Nat.le_of_ble_eq_true rfl) d_Model_change_29 ⟨(-3), b7, b56, b57, rfl, rfl, (zI.wk (l' := (-3)) (h' := 3) zc_m3 (by decide)), hb7, hb56, hb57⟩
theorem d_Model_depth_14 : decode prog_14_method_21_code 14 = .ok (.ireturn, 1) := by decide +kernel
abbrev m_s1_Model_depth : Room := { frames := 2, cells := 0, slots := 0, locals := 49 }
set_option maxHeartbeats 4000000 in
set_option maxRecDepth 100000 in
theorem s1_Model_depth (l : Launch) (G : zG) (b0 : Nat) (b1 : Int32) (b2 : Int32) (b3 : Nat) (b4 : Nat) (b5 : Nat) (b6 : Nat) (b7 : Int32) (b8 : Nat) (b9 : Int32) (b10 : Int32) (b11 : Int32) (b12 : Int32) (b13 : Nat) (b14 : Nat) (b15 : Nat) (b16 : Int32) (b17 : Nat) (b18 : Nat) (b19 : Nat) (b20 : Nat) (b21 : Nat) (b22 : Nat) (b23 : Nat) (b24 : Nat) (b25 : Nat) (b26 : Nat) (b27 : Nat) (b28 : Nat) (b29 : Int32) (b30 : Nat) (b31 : Nat) (b32 : Int32) (b33 : Int32) (b34 : Int32) (b35 : Int32) (b36 : Nat) (b37 : Nat) (b38 : Nat) (b39 : Nat) (b40 : Nat) (b41 : Nat) (b42 : Nat) (b43 : Int32) (b44 : Nat) (b45 : Nat) (b46 : Int32) (b47 : Nat) (b48 : Nat) (b49 : Nat) (b50 : Nat) (b51 : Nat) (b52 : Int32) (b53 : Nat) (b54 : Nat) (b55 : Nat) (b56 : Nat → Int32) (b57 : Nat → Int32) (hb7 : zI b7 0 8) (hb9 : zI b9 0 240) (hb10 : zI b10 0 240) (hb12 : zI b12 0 1) (hb16 : zI b16 0 12) (hb29 : zI b29 0 1) (hb32 : zI b32 0 1) (hb43 : zI b43 0 1000) (hb46 : zI b46 0 1000) (hb52 : zI b52 0 400) (hb56 : zW5 b56) (hb57 : zW5 b57) : zM l G y_Model_depth prog_14_method_21_code 2 (Option.some Jvm.ClassFile.FieldType.int) m_s1_Model_depth [.ref b0, .int b1] [(b0, .inr (12, [.int b2, .ref b3, .ref b4, .ref b5, .ref b6, .int b7, .ref b8, .int b9, .int b10, .int b11, .int b12, .ref b13, .ref b14, .ref b15, .int b16, .ref b17, .ref b18, .ref b19, .ref b20, .ref b21, .ref b22, .ref b23, .ref b24, .ref b25, .ref b26, .ref b27, .ref b28, .int b29, .ref b30, .ref b31, .int b32, .int b33, .int b34, .int b35, .ref b36, .ref b37, .ref b38, .ref b39, .ref b40, .ref b41, .ref b42, .int b43, .ref b44, .ref b45, .int b46, .ref b47, .ref b48, .ref b49, .ref b50, .ref b51, .int b52, .ref b53, .ref b54, .ref b55])), (b3, .inl (G.2 0, 503, .inl b56)), (b6, .inl (G.2 0, 4024, .inl b57))] (fun v w => ∃ (e0 : Int32), ∃ (e1 : Int32), ∃ (e2 : Nat → Int32), ∃ (e3 : Nat → Int32), v = some (.int e0) ∧ w = [(b0, .inr (12, [.int 0, .ref b3, .ref b4, .ref b5, .ref b6, .int e1, .ref b8, .int b9, .int b10, .int b11, .int b12, .ref b13, .ref b14, .ref b15, .int b16, .ref b17, .ref b18, .ref b19, .ref b20, .ref b21, .ref b22, .ref b23, .ref b24, .ref b25, .ref b26, .ref b27, .ref b28, .int b29, .ref b30, .ref b31, .int b32, .int b33, .int b34, .int b35, .ref b36, .ref b37, .ref b38, .ref b39, .ref b40, .ref b41, .ref b42, .int b43, .ref b44, .ref b45, .int b46, .ref b47, .ref b48, .ref b49, .ref b50, .ref b51, .int b52, .ref b53, .ref b54, .ref b55])), (b3, .inl (G.2 0, 503, .inl e2)), (b6, .inl (G.2 0, 4024, .inl e3))] ∧ (zI e0 (-3) 3) ∧ (zI e1 0 8) ∧ (zW5 e2) ∧ (zW5 e3)) := by
  refine z_start (by decide +kernel) (Nat.le_of_ble_eq_true rfl) ?_
  intro p e s m below meth c A Z hr hnm hA hP hD hS ls hl
  have Z : zC p s m _ meth c prog_14_method_21_code 2 "TraceMachinesModel" G := Z
  obtain ⟨hx, hb, hml, hown, hts, hK, hN, hlocks⟩ := id Z
  have hl : lv_has ls 2 [(0, .ref b0), (1, .int b1)] := hl
  refine lv_aload_n hx hb d_Model_depth_0 rfl (lv_at hl 0 rfl) ?_
  refine lv_iconst (v := 0) hx hb d_Model_depth_1 (by decide) ?_
  refine va_put (D := G.1) (ci := 12) (v := .int 0) (ty := .int) (C := R_Model) (T := F_Model) (N := 54) hx hb hts i_Model t_Model t_Model_ok n_Model hown hK hP hD hS 0 rfl rfl 0 (by decide) (hts _ q1109) (fun _ h9 => h9) rfl (by decide +kernel) rfl rfl (Nat.le_of_ble_eq_true rfl) d_Model_depth_2 (fun H locs hP hD hS => ?_)
  have hP : va_P G.1 classes [(b0, .inr (12, [.int 0, .ref b3, .ref b4, .ref b5, .ref b6, .int b7, .ref b8, .int b9, .int b10, .int b11, .int b12, .ref b13, .ref b14, .ref b15, .int b16, .ref b17, .ref b18, .ref b19, .ref b20, .ref b21, .ref b22, .ref b23, .ref b24, .ref b25, .ref b26, .ref b27, .ref b28, .int b29, .ref b30, .ref b31, .int b32, .int b33, .int b34, .int b35, .ref b36, .ref b37, .ref b38, .ref b39, .ref b40, .ref b41, .ref b42, .int b43, .ref b44, .ref b45, .int b46, .ref b47, .ref b48, .ref b49, .ref b50, .ref b51, .int b52, .ref b53, .ref b54, .ref b55])), (b3, .inl (G.2 0, 503, .inl b56)), (b6, .inl (G.2 0, 4024, .inl b57))] H := hP
  have hD := z_tie hP hD rfl
  refine lv_aload_n hx hb d_Model_depth_5 rfl (lv_at hl 0 rfl) ?_
  refine lv_sipush (v := 501) hx hb d_Model_depth_6 (by decide) ?_
  refine lv_iload_n hx hb d_Model_depth_9 rfl (lv_at hl 1 rfl) ?_
  refine lv_iconst (v := 3) hx hb d_Model_depth_10 (by decide) ?_
  refine z_callV (index := 195) (As := [.int 501, .int b1, .int 3]) (rest := []) (wr := []) Z (s2_Model_change l G (b0) (b1) (0) (b3) (b4) (b5) (b6) (b7) (b8) (b9) (b10) (b11) (b12) (b13) (b14) (b15) (b16) (b17) (b18) (b19) (b20) (b21) (b22) (b23) (b24) (b25) (b26) (b27) (b28) (b29) (b30) (b31) (b32) (b33) (b34) (b35) (b36) (b37) (b38) (b39) (b40) (b41) (b42) (b43) (b44) (b45) (b46) (b47) (b48) (b49) (b50) (b51) (b52) (b53) (b54) (b55) (b56) (b57) hb7 hb9 hb10 hb12 hb16 hb29 hb32 hb43 hb46 hb52 hb56 hb57) hl.1 q1336 q1338 qs53 q14 q1339 ⟨by decide, by decide, by show _ = some 3; decide +kernel⟩ ⟨Nat.le_of_ble_eq_true rfl, Nat.le_of_ble_eq_true rfl⟩ ⟨Nat.le_of_ble_eq_true rfl, Nat.le_of_ble_eq_true rfl⟩ rfl (Nat.le_of_ble_eq_true rfl) d_Model_depth_11 hP hD hS hA 0 12 rfl rfl rfl [0, 1, 2] [] rfl rfl rfl rfl (by decide) (fun v w1 H locs hw_1 hP hD hS => ?_)
  obtain ⟨x_2, x_3, f_4, f_5, rfl, rfl, hx_2, hx_3, hf_4, hf_5⟩ := hw_1
  have hP : va_P G.1 classes [(b0, .inr (12, [.int 0, .ref b3, .ref b4, .ref b5, .ref b6, .int x_3, .ref b8, .int b9, .int b10, .int b11, .int b12, .ref b13, .ref b14, .ref b15, .int b16, .ref b17, .ref b18, .ref b19, .ref b20, .ref b21, .ref b22, .ref b23, .ref b24, .ref b25, .ref b26, .ref b27, .ref b28, .int b29, .ref b30, .ref b31, .int b32, .int b33, .int b34, .int b35, .ref b36, .ref b37, .ref b38, .ref b39, .ref b40, .ref b41, .ref b42, .int b43, .ref b44, .ref b45, .int b46, .ref b47, .ref b48, .ref b49, .ref b50, .ref b51, .int b52, .ref b53, .ref b54, .ref b55])), (b3, .inl (G.2 0, 503, .inl f_4)), (b6, .inl (G.2 0, 4024, .inl f_5))] H := hP
  have hD := z_tie hP hD rfl
  refine W.widen (k := 0) (n := 0) (Nat.le_of_ble_eq_true rfl) (Nat.le_of_ble_eq_true rfl) ?_
  exact z_iret hx hb hr hlocks hP hD hS (Nat.le_of_ble_eq_true rfl) (Nat.le_of_ble_eq_true rfl) d_Model_depth_14 ⟨x_2, x_3, f_4, f_5, rfl, rfl, hx_2, hx_3, hf_4, hf_5⟩
theorem d_Model_margin_0 : decode prog_14_method_22_code 0 = .ok (.aload_n 0, 1) := by decide +kernel
theorem d_Model_margin_1 : decode prog_14_method_22_code 1 = .ok (.iconst 0, 1) := by decide +kernel
theorem d_Model_margin_2 : decode prog_14_method_22_code 2 = .ok (.putfield 1, 3) := by decide +kernel
theorem d_Model_margin_5 : decode prog_14_method_22_code 5 = .ok (.aload_n 0, 1) := by decide +kernel
theorem d_Model_margin_6 : decode prog_14_method_22_code 6 = .ok (.sipush 502, 3) := by decide +kernel
theorem d_Model_margin_9 : decode prog_14_method_22_code 9 = .ok (.iload_n 1, 1) := by decide +kernel
theorem d_Model_margin_10 : decode prog_14_method_22_code 10 = .ok (.bipush 20, 2) := by decide +kernel
theorem d_Model_margin_12 : decode prog_14_method_22_code 12 = .ok (.invokevirtual 195, 3) := by decide +kernel
theorem ll_20 : (20 : Int64).toInt = 20 := by decide +kernel
theorem zcl_20 : zJ 20 20 20 := ⟨by decide +kernel, by decide +kernel⟩
theorem zc_502 : zI 502 502 502 := ⟨by decide +kernel, by decide +kernel⟩
abbrev m_s4_Model_change : Room := { frames := 1, cells := 0, slots := 0, locals := 25 }
set_option maxHeartbeats 4000000 in
set_option maxRecDepth 100000 in
theorem s4_Model_change (l : Launch) (G : zG) (b0 : Nat) (b1 : Int32) (b2 : Int32) (b3 : Nat) (b4 : Nat) (b5 : Nat) (b6 : Nat) (b7 : Int32) (b8 : Nat) (b9 : Int32) (b10 : Int32) (b11 : Int32) (b12 : Int32) (b13 : Nat) (b14 : Nat) (b15 : Nat) (b16 : Int32) (b17 : Nat) (b18 : Nat) (b19 : Nat) (b20 : Nat) (b21 : Nat) (b22 : Nat) (b23 : Nat) (b24 : Nat) (b25 : Nat) (b26 : Nat) (b27 : Nat) (b28 : Nat) (b29 : Int32) (b30 : Nat) (b31 : Nat) (b32 : Int32) (b33 : Int32) (b34 : Int32) (b35 : Int32) (b36 : Nat) (b37 : Nat) (b38 : Nat) (b39 : Nat) (b40 : Nat) (b41 : Nat) (b42 : Nat) (b43 : Int32) (b44 : Nat) (b45 : Nat) (b46 : Int32) (b47 : Nat) (b48 : Nat) (b49 : Nat) (b50 : Nat) (b51 : Nat) (b52 : Int32) (b53 : Nat) (b54 : Nat) (b55 : Nat) (b56 : Nat → Int32) (b57 : Nat → Int32) (hb7 : zI b7 0 8) (hb9 : zI b9 0 240) (hb10 : zI b10 0 240) (hb12 : zI b12 0 1) (hb16 : zI b16 0 12) (hb29 : zI b29 0 1) (hb32 : zI b32 0 1) (hb43 : zI b43 0 1000) (hb46 : zI b46 0 1000) (hb52 : zI b52 0 400) (hb56 : zW5 b56) (hb57 : zW5 b57) : zM l G y_Model_change prog_14_method_20_code 5 (Option.some Jvm.ClassFile.FieldType.int) m_s4_Model_change [.ref b0, .int 502, .int b1, .int 20] [(b0, .inr (12, [.int b2, .ref b3, .ref b4, .ref b5, .ref b6, .int b7, .ref b8, .int b9, .int b10, .int b11, .int b12, .ref b13, .ref b14, .ref b15, .int b16, .ref b17, .ref b18, .ref b19, .ref b20, .ref b21, .ref b22, .ref b23, .ref b24, .ref b25, .ref b26, .ref b27, .ref b28, .int b29, .ref b30, .ref b31, .int b32, .int b33, .int b34, .int b35, .ref b36, .ref b37, .ref b38, .ref b39, .ref b40, .ref b41, .ref b42, .int b43, .ref b44, .ref b45, .int b46, .ref b47, .ref b48, .ref b49, .ref b50, .ref b51, .int b52, .ref b53, .ref b54, .ref b55])), (b3, .inl (G.2 0, 503, .inl b56)), (b6, .inl (G.2 0, 4024, .inl b57))] (fun v w => ∃ (e0 : Int32), ∃ (e1 : Int32), ∃ (e2 : Nat → Int32), ∃ (e3 : Nat → Int32), v = some (.int e0) ∧ w = [(b0, .inr (12, [.int b2, .ref b3, .ref b4, .ref b5, .ref b6, .int e1, .ref b8, .int b9, .int b10, .int b11, .int b12, .ref b13, .ref b14, .ref b15, .int b16, .ref b17, .ref b18, .ref b19, .ref b20, .ref b21, .ref b22, .ref b23, .ref b24, .ref b25, .ref b26, .ref b27, .ref b28, .int b29, .ref b30, .ref b31, .int b32, .int b33, .int b34, .int b35, .ref b36, .ref b37, .ref b38, .ref b39, .ref b40, .ref b41, .ref b42, .int b43, .ref b44, .ref b45, .int b46, .ref b47, .ref b48, .ref b49, .ref b50, .ref b51, .int b52, .ref b53, .ref b54, .ref b55])), (b3, .inl (G.2 0, 503, .inl e2)), (b6, .inl (G.2 0, 4024, .inl e3))] ∧ (zI e0 (-3) 20) ∧ (zI e1 0 8) ∧ (zW5 e2) ∧ (zW5 e3)) := by
  refine z_start (by decide +kernel) (Nat.le_of_ble_eq_true rfl) ?_
  intro p e s m below meth c A Z hr hnm hA hP hD hS ls hl
  have Z : zC p s m _ meth c prog_14_method_20_code 5 "TraceMachinesModel" G := Z
  obtain ⟨hx, hb, hml, hown, hts, hK, hN, hlocks⟩ := id Z
  have hl : lv_has ls 5 [(0, .ref b0), (1, .int 502), (2, .int b1), (3, .int 20)] := hl
  refine lv_iload_n hx hb d_Model_change_0 rfl (lv_at hl 2 rfl) ?_
  refine lv_i2l (v := b1.toInt64) hx hb d_Model_change_1 rfl ?_
  refine lv_lconst (v := 0) hx hb d_Model_change_2 (by decide) ?_
  refine lv_iload_n hx hb d_Model_change_3 rfl (lv_at hl 3 rfl) ?_
  refine lv_i2l (v := 20) hx hb d_Model_change_4 (by decide +kernel) ?_
  refine z_callS (index := 138) (As := [.long b1.toInt64, .long 0, .long 20]) (rest := []) (wr := [(b0, .inr (12, [.int b2, .ref b3, .ref b4, .ref b5, .ref b6, .int b7, .ref b8, .int b9, .int b10, .int b11, .int b12, .ref b13, .ref b14, .ref b15, .int b16, .ref b17, .ref b18, .ref b19, .ref b20, .ref b21, .ref b22, .ref b23, .ref b24, .ref b25, .ref b26, .ref b27, .ref b28, .int b29, .ref b30, .ref b31, .int b32, .int b33, .int b34, .int b35, .ref b36, .ref b37, .ref b38, .ref b39, .ref b40, .ref b41, .ref b42, .int b43, .ref b44, .ref b45, .int b46, .ref b47, .ref b48, .ref b49, .ref b50, .ref b51, .int b52, .ref b53, .ref b54, .ref b55])), (b3, .inl (G.2 0, 503, .inl b56)), (b6, .inl (G.2 0, 4024, .inl b57))]) Z (s2_Model_in l G (b1.toInt64) (0) (20)) hl.1 q1281 q1282 q14 q1283 ⟨by decide, by decide, by show _ = some 3; decide +kernel⟩ ⟨Nat.le_of_ble_eq_true rfl, Nat.le_of_ble_eq_true rfl⟩ ⟨Nat.le_of_ble_eq_true rfl, Nat.le_of_ble_eq_true rfl⟩ rfl (Nat.le_of_ble_eq_true rfl) d_Model_change_5 hP hD hS hA [] [0, 1, 2] rfl rfl rfl rfl (by decide) (fun v w1 H locs hw_1 hP hD hS => ?_)
  rcases hw_1 with ⟨rfl, rfl, hq_2⟩ | ⟨rfl, rfl, hq_3, hq_4⟩ | ⟨rfl, rfl, hq_5, hq_6⟩
  · have hP : va_P G.1 classes [(b0, .inr (12, [.int b2, .ref b3, .ref b4, .ref b5, .ref b6, .int b7, .ref b8, .int b9, .int b10, .int b11, .int b12, .ref b13, .ref b14, .ref b15, .int b16, .ref b17, .ref b18, .ref b19, .ref b20, .ref b21, .ref b22, .ref b23, .ref b24, .ref b25, .ref b26, .ref b27, .ref b28, .int b29, .ref b30, .ref b31, .int b32, .int b33, .int b34, .int b35, .ref b36, .ref b37, .ref b38, .ref b39, .ref b40, .ref b41, .ref b42, .int b43, .ref b44, .ref b45, .int b46, .ref b47, .ref b48, .ref b49, .ref b50, .ref b51, .int b52, .ref b53, .ref b54, .ref b55])), (b3, .inl (G.2 0, 503, .inl b56)), (b6, .inl (G.2 0, 4024, .inl b57))] H := hP
    have hD := z_tie hP hD rfl
    try simp only [Int32.toInt_toInt64, ll_0] at hq_2
    have hv_7 : zI b1 (-2147483648) (-1) := by have _a := hq_2; have _b := (zI_all b1); have _c := zcl_0; simp only [Int32.toInt_toInt64] at *; exact ⟨by omega, by omega⟩
    refine W.widen (k := 0) (n := 0) (Nat.le_of_ble_eq_true rfl) (Nat.le_of_ble_eq_true rfl) ?_
    refine lv_if_ne (tgt := 13) hx hb d_Model_change_8 (by decide) (fun hc => absurd hc (by decide +kernel)) (fun _ => ?_)
    refine lv_iconst (v := (-1)) hx hb d_Model_change_11 (by decide) ?_
    exact z_iret hx hb hr hlocks hP hD hS (Nat.le_of_ble_eq_true rfl) (Nat.le_of_ble_eq_true rfl) d_Model_change_12 ⟨(-1), b7, b56, b57, rfl, rfl, (zI.wk (l' := (-3)) (h' := 20) zc_m1 (by decide)), hb7, hb56, hb57⟩
  · have hP : va_P G.1 classes [(b0, .inr (12, [.int b2, .ref b3, .ref b4, .ref b5, .ref b6, .int b7, .ref b8, .int b9, .int b10, .int b11, .int b12, .ref b13, .ref b14, .ref b15, .int b16, .ref b17, .ref b18, .ref b19, .ref b20, .ref b21, .ref b22, .ref b23, .ref b24, .ref b25, .ref b26, .ref b27, .ref b28, .int b29, .ref b30, .ref b31, .int b32, .int b33, .int b34, .int b35, .ref b36, .ref b37, .ref b38, .ref b39, .ref b40, .ref b41, .ref b42, .int b43, .ref b44, .ref b45, .int b46, .ref b47, .ref b48, .ref b49, .ref b50, .ref b51, .int b52, .ref b53, .ref b54, .ref b55])), (b3, .inl (G.2 0, 503, .inl b56)), (b6, .inl (G.2 0, 4024, .inl b57))] H := hP
    have hD := z_tie hP hD rfl
    try simp only [Int32.toInt_toInt64, ll_0] at hq_3
    have hv_8 : zI b1 0 2147483647 := by have _a := hq_3; have _b := (zI_all b1); have _c := zcl_0; simp only [Int32.toInt_toInt64] at *; exact ⟨by omega, by omega⟩
    try simp only [Int32.toInt_toInt64, ll_20] at hq_4
    have hv_9 : zI b1 21 2147483647 := by have _a := hq_4; have _b := hv_8; have _c := zcl_20; simp only [Int32.toInt_toInt64] at *; exact ⟨by omega, by omega⟩
    refine W.widen (k := 0) (n := 0) (Nat.le_of_ble_eq_true rfl) (Nat.le_of_ble_eq_true rfl) ?_
    refine lv_if_ne (tgt := 13) hx hb d_Model_change_8 (by decide) (fun hc => absurd hc (by decide +kernel)) (fun _ => ?_)
    refine lv_iconst (v := (-1)) hx hb d_Model_change_11 (by decide) ?_
    exact z_iret hx hb hr hlocks hP hD hS (Nat.le_of_ble_eq_true rfl) (Nat.le_of_ble_eq_true rfl) d_Model_change_12 ⟨(-1), b7, b56, b57, rfl, rfl, (zI.wk (l' := (-3)) (h' := 20) zc_m1 (by decide)), hb7, hb56, hb57⟩
  · have hP : va_P G.1 classes [(b0, .inr (12, [.int b2, .ref b3, .ref b4, .ref b5, .ref b6, .int b7, .ref b8, .int b9, .int b10, .int b11, .int b12, .ref b13, .ref b14, .ref b15, .int b16, .ref b17, .ref b18, .ref b19, .ref b20, .ref b21, .ref b22, .ref b23, .ref b24, .ref b25, .ref b26, .ref b27, .ref b28, .int b29, .ref b30, .ref b31, .int b32, .int b33, .int b34, .int b35, .ref b36, .ref b37, .ref b38, .ref b39, .ref b40, .ref b41, .ref b42, .int b43, .ref b44, .ref b45, .int b46, .ref b47, .ref b48, .ref b49, .ref b50, .ref b51, .int b52, .ref b53, .ref b54, .ref b55])), (b3, .inl (G.2 0, 503, .inl b56)), (b6, .inl (G.2 0, 4024, .inl b57))] H := hP
    have hD := z_tie hP hD rfl
    try simp only [Int32.toInt_toInt64, ll_0] at hq_5
    have hv_10 : zI b1 0 2147483647 := by have _a := hq_5; have _b := (zI_all b1); have _c := zcl_0; simp only [Int32.toInt_toInt64] at *; exact ⟨by omega, by omega⟩
    try simp only [Int32.toInt_toInt64, ll_20] at hq_6
    have hv_11 : zI b1 0 20 := by have _a := hq_6; have _b := hv_10; have _c := zcl_20; simp only [Int32.toInt_toInt64] at *; exact ⟨by omega, by omega⟩
    refine W.widen (k := 0) (n := 0) (Nat.le_of_ble_eq_true rfl) (Nat.le_of_ble_eq_true rfl) ?_
    refine lv_if_ne (tgt := 13) hx hb d_Model_change_8 (by decide) (fun _ => ?_) (fun hc => absurd hc (by decide +kernel))
    refine lv_aload_n hx hb d_Model_change_13 rfl (lv_at hl 0 rfl) ?_
    refine va_get (D := G.1) (ci := 12) (v := .ref b3) (C := R_Model) (T := F_Model) (N := 54) hx hb hts i_Model hown hK hP 0 rfl rfl 1 (by decide) (hts _ q1110) (fun _ h9 => h9) rfl d_Model_change_14 ?_
    refine lv_iload_n hx hb d_Model_change_17 rfl (lv_at hl 1 rfl) ?_
    refine va_iald hx hb hK hP 1 0 rfl rfl (i := 502) (z_in rfl) d_Model_change_18 ?_
    refine lv_topi (fun v_12 ev_12 => ?_)
    have hv_12 : zI v_12 0 20 := zW5.ld hb56 zc_502 ev_12 (by decide)
    refine lv_istore (lv' := [(4, .int v_12), (0, .ref b0), (1, .int 502), (2, .int b1), (3, .int 20)]) hx hb d_Model_change_19 hl (by decide) rfl (fun ls hl => ?_)
    refine lv_iload hx hb d_Model_change_21 (lv_at hl 0 rfl) ?_
    refine lv_iload_n hx hb d_Model_change_23 rfl (lv_at hl 3 rfl) ?_
    refine lv_icmp_ne (tgt := 30) hx hb d_Model_change_24 (by decide) (fun hc_13 => ?_) (fun hc_13 => ?_)
    · have _nhc_13 := hc_13
      have ni_14 : ¬ (v_12 : Int32).toInt = (b1 : Int32).toInt := fun z => hc_13 ((fa_eq _ _).mpr z)
      refine lv_aload_n hx hb d_Model_change_30 rfl (lv_at hl 1 rfl) ?_
      refine z_callV (index := 188) (As := []) (rest := []) (wr := []) Z (s1_Model_remember l G (b0) (b2) (b3) (b4) (b5) (b6) (b7) (b8) (b9) (b10) (b11) (b12) (b13) (b14) (b15) (b16) (b17) (b18) (b19) (b20) (b21) (b22) (b23) (b24) (b25) (b26) (b27) (b28) (b29) (b30) (b31) (b32) (b33) (b34) (b35) (b36) (b37) (b38) (b39) (b40) (b41) (b42) (b43) (b44) (b45) (b46) (b47) (b48) (b49) (b50) (b51) (b52) (b53) (b54) (b55) (b56) (b57) hb7 hb9 hb10 hb12 hb16 hb29 hb32 hb43 hb46 hb52 hb56 hb57) hl.1 q1316 q1318 qs50 q14 q1319 ⟨by decide, by decide, by show _ = some 0; decide +kernel⟩ ⟨Nat.le_of_ble_eq_true rfl, Nat.le_of_ble_eq_true rfl⟩ ⟨Nat.le_of_ble_eq_true rfl, Nat.le_of_ble_eq_true rfl⟩ rfl (Nat.le_of_ble_eq_true rfl) d_Model_change_31 hP hD hS hA 0 12 rfl rfl rfl [0, 1, 2] [] rfl rfl rfl rfl (by decide) (fun v w1 H locs hw_15 hP hD hS => ?_)
      obtain ⟨x_16, f_17, rfl, rfl, hx_16, hf_17⟩ := hw_15
      have hP : va_P G.1 classes [(b0, .inr (12, [.int b2, .ref b3, .ref b4, .ref b5, .ref b6, .int x_16, .ref b8, .int b9, .int b10, .int b11, .int b12, .ref b13, .ref b14, .ref b15, .int b16, .ref b17, .ref b18, .ref b19, .ref b20, .ref b21, .ref b22, .ref b23, .ref b24, .ref b25, .ref b26, .ref b27, .ref b28, .int b29, .ref b30, .ref b31, .int b32, .int b33, .int b34, .int b35, .ref b36, .ref b37, .ref b38, .ref b39, .ref b40, .ref b41, .ref b42, .int b43, .ref b44, .ref b45, .int b46, .ref b47, .ref b48, .ref b49, .ref b50, .ref b51, .int b52, .ref b53, .ref b54, .ref b55])), (b3, .inl (G.2 0, 503, .inl b56)), (b6, .inl (G.2 0, 4024, .inl f_17))] H := hP
      have hD := z_tie hP hD rfl
      refine W.widen (k := 0) (n := 0) (Nat.le_of_ble_eq_true rfl) (Nat.le_of_ble_eq_true rfl) ?_
      refine lv_aload_n hx hb d_Model_change_34 rfl (lv_at hl 1 rfl) ?_
      refine va_get (D := G.1) (ci := 12) (v := .ref b3) (C := R_Model) (T := F_Model) (N := 54) hx hb hts i_Model hown hK hP 0 rfl rfl 1 (by decide) (hts _ q1110) (fun _ h9 => h9) rfl d_Model_change_35 ?_
      refine lv_iload_n hx hb d_Model_change_38 rfl (lv_at hl 2 rfl) ?_
      refine lv_iload_n hx hb d_Model_change_39 rfl (lv_at hl 3 rfl) ?_
      refine va_iast hx hb hK hP hD hS 1 0 rfl rfl (i := 502) (z_in rfl) d_Model_change_40 (fun H locs hP hD hS => ?_)
      obtain ⟨f_18, hf_18, gf_18, uf_18, hP, hD⟩ := z_newfw 1 hP hD rfl hb56 (zRk_v zc_502 hv_11 (by decide))
      have hP : va_P G.1 classes [(b0, .inr (12, [.int b2, .ref b3, .ref b4, .ref b5, .ref b6, .int x_16, .ref b8, .int b9, .int b10, .int b11, .int b12, .ref b13, .ref b14, .ref b15, .int b16, .ref b17, .ref b18, .ref b19, .ref b20, .ref b21, .ref b22, .ref b23, .ref b24, .ref b25, .ref b26, .ref b27, .ref b28, .int b29, .ref b30, .ref b31, .int b32, .int b33, .int b34, .int b35, .ref b36, .ref b37, .ref b38, .ref b39, .ref b40, .ref b41, .ref b42, .int b43, .ref b44, .ref b45, .int b46, .ref b47, .ref b48, .ref b49, .ref b50, .ref b51, .int b52, .ref b53, .ref b54, .ref b55])), (b3, .inl (G.2 0, 503, .inl f_18)), (b6, .inl (G.2 0, 4024, .inl f_17))] H := hP
      have hD := z_tie hP hD rfl
      refine lv_iload hx hb d_Model_change_41 (lv_at hl 0 rfl) ?_
      exact z_iret hx hb hr hlocks hP hD hS (Nat.le_of_ble_eq_true rfl) (Nat.le_of_ble_eq_true rfl) d_Model_change_43 ⟨v_12, x_16, f_18, f_17, rfl, rfl, (zI.wk (l' := (-3)) (h' := 20) hv_12 (by decide)), hx_16, hf_18, hf_17⟩
    · have _nhc_13 := hc_13
      have ni_19 := (fa_eq _ _).mp hc_13
      refine lv_bipush (v := (-3)) hx hb d_Model_change_27 (by decide) ?_
      exact z_iret hx hb hr hlocks hP hD hS (Nat.le_of_ble_eq_true rfl) (Nat.le_of_ble_eq_true rfl) d_Model_change_29 ⟨(-3), b7, b56, b57, rfl, rfl, (zI.wk (l' := (-3)) (h' := 20) zc_m3 (by decide)), hb7, hb56, hb57⟩
theorem d_Model_margin_15 : decode prog_14_method_22_code 15 = .ok (.ireturn, 1) := by decide +kernel
abbrev m_s1_Model_margin : Room := { frames := 2, cells := 0, slots := 0, locals := 49 }
set_option maxHeartbeats 4000000 in
set_option maxRecDepth 100000 in
theorem s1_Model_margin (l : Launch) (G : zG) (b0 : Nat) (b1 : Int32) (b2 : Int32) (b3 : Nat) (b4 : Nat) (b5 : Nat) (b6 : Nat) (b7 : Int32) (b8 : Nat) (b9 : Int32) (b10 : Int32) (b11 : Int32) (b12 : Int32) (b13 : Nat) (b14 : Nat) (b15 : Nat) (b16 : Int32) (b17 : Nat) (b18 : Nat) (b19 : Nat) (b20 : Nat) (b21 : Nat) (b22 : Nat) (b23 : Nat) (b24 : Nat) (b25 : Nat) (b26 : Nat) (b27 : Nat) (b28 : Nat) (b29 : Int32) (b30 : Nat) (b31 : Nat) (b32 : Int32) (b33 : Int32) (b34 : Int32) (b35 : Int32) (b36 : Nat) (b37 : Nat) (b38 : Nat) (b39 : Nat) (b40 : Nat) (b41 : Nat) (b42 : Nat) (b43 : Int32) (b44 : Nat) (b45 : Nat) (b46 : Int32) (b47 : Nat) (b48 : Nat) (b49 : Nat) (b50 : Nat) (b51 : Nat) (b52 : Int32) (b53 : Nat) (b54 : Nat) (b55 : Nat) (b56 : Nat → Int32) (b57 : Nat → Int32) (hb7 : zI b7 0 8) (hb9 : zI b9 0 240) (hb10 : zI b10 0 240) (hb12 : zI b12 0 1) (hb16 : zI b16 0 12) (hb29 : zI b29 0 1) (hb32 : zI b32 0 1) (hb43 : zI b43 0 1000) (hb46 : zI b46 0 1000) (hb52 : zI b52 0 400) (hb56 : zW5 b56) (hb57 : zW5 b57) : zM l G y_Model_margin prog_14_method_22_code 2 (Option.some Jvm.ClassFile.FieldType.int) m_s1_Model_margin [.ref b0, .int b1] [(b0, .inr (12, [.int b2, .ref b3, .ref b4, .ref b5, .ref b6, .int b7, .ref b8, .int b9, .int b10, .int b11, .int b12, .ref b13, .ref b14, .ref b15, .int b16, .ref b17, .ref b18, .ref b19, .ref b20, .ref b21, .ref b22, .ref b23, .ref b24, .ref b25, .ref b26, .ref b27, .ref b28, .int b29, .ref b30, .ref b31, .int b32, .int b33, .int b34, .int b35, .ref b36, .ref b37, .ref b38, .ref b39, .ref b40, .ref b41, .ref b42, .int b43, .ref b44, .ref b45, .int b46, .ref b47, .ref b48, .ref b49, .ref b50, .ref b51, .int b52, .ref b53, .ref b54, .ref b55])), (b3, .inl (G.2 0, 503, .inl b56)), (b6, .inl (G.2 0, 4024, .inl b57))] (fun v w => ∃ (e0 : Int32), ∃ (e1 : Int32), ∃ (e2 : Nat → Int32), ∃ (e3 : Nat → Int32), v = some (.int e0) ∧ w = [(b0, .inr (12, [.int 0, .ref b3, .ref b4, .ref b5, .ref b6, .int e1, .ref b8, .int b9, .int b10, .int b11, .int b12, .ref b13, .ref b14, .ref b15, .int b16, .ref b17, .ref b18, .ref b19, .ref b20, .ref b21, .ref b22, .ref b23, .ref b24, .ref b25, .ref b26, .ref b27, .ref b28, .int b29, .ref b30, .ref b31, .int b32, .int b33, .int b34, .int b35, .ref b36, .ref b37, .ref b38, .ref b39, .ref b40, .ref b41, .ref b42, .int b43, .ref b44, .ref b45, .int b46, .ref b47, .ref b48, .ref b49, .ref b50, .ref b51, .int b52, .ref b53, .ref b54, .ref b55])), (b3, .inl (G.2 0, 503, .inl e2)), (b6, .inl (G.2 0, 4024, .inl e3))] ∧ (zI e0 (-3) 20) ∧ (zI e1 0 8) ∧ (zW5 e2) ∧ (zW5 e3)) := by
  refine z_start (by decide +kernel) (Nat.le_of_ble_eq_true rfl) ?_
  intro p e s m below meth c A Z hr hnm hA hP hD hS ls hl
  have Z : zC p s m _ meth c prog_14_method_22_code 2 "TraceMachinesModel" G := Z
  obtain ⟨hx, hb, hml, hown, hts, hK, hN, hlocks⟩ := id Z
  have hl : lv_has ls 2 [(0, .ref b0), (1, .int b1)] := hl
  refine lv_aload_n hx hb d_Model_margin_0 rfl (lv_at hl 0 rfl) ?_
  refine lv_iconst (v := 0) hx hb d_Model_margin_1 (by decide) ?_
  refine va_put (D := G.1) (ci := 12) (v := .int 0) (ty := .int) (C := R_Model) (T := F_Model) (N := 54) hx hb hts i_Model t_Model t_Model_ok n_Model hown hK hP hD hS 0 rfl rfl 0 (by decide) (hts _ q1109) (fun _ h9 => h9) rfl (by decide +kernel) rfl rfl (Nat.le_of_ble_eq_true rfl) d_Model_margin_2 (fun H locs hP hD hS => ?_)
  have hP : va_P G.1 classes [(b0, .inr (12, [.int 0, .ref b3, .ref b4, .ref b5, .ref b6, .int b7, .ref b8, .int b9, .int b10, .int b11, .int b12, .ref b13, .ref b14, .ref b15, .int b16, .ref b17, .ref b18, .ref b19, .ref b20, .ref b21, .ref b22, .ref b23, .ref b24, .ref b25, .ref b26, .ref b27, .ref b28, .int b29, .ref b30, .ref b31, .int b32, .int b33, .int b34, .int b35, .ref b36, .ref b37, .ref b38, .ref b39, .ref b40, .ref b41, .ref b42, .int b43, .ref b44, .ref b45, .int b46, .ref b47, .ref b48, .ref b49, .ref b50, .ref b51, .int b52, .ref b53, .ref b54, .ref b55])), (b3, .inl (G.2 0, 503, .inl b56)), (b6, .inl (G.2 0, 4024, .inl b57))] H := hP
  have hD := z_tie hP hD rfl
  refine lv_aload_n hx hb d_Model_margin_5 rfl (lv_at hl 0 rfl) ?_
  refine lv_sipush (v := 502) hx hb d_Model_margin_6 (by decide) ?_
  refine lv_iload_n hx hb d_Model_margin_9 rfl (lv_at hl 1 rfl) ?_
  refine lv_bipush (v := 20) hx hb d_Model_margin_10 (by decide) ?_
  refine z_callV (index := 195) (As := [.int 502, .int b1, .int 20]) (rest := []) (wr := []) Z (s4_Model_change l G (b0) (b1) (0) (b3) (b4) (b5) (b6) (b7) (b8) (b9) (b10) (b11) (b12) (b13) (b14) (b15) (b16) (b17) (b18) (b19) (b20) (b21) (b22) (b23) (b24) (b25) (b26) (b27) (b28) (b29) (b30) (b31) (b32) (b33) (b34) (b35) (b36) (b37) (b38) (b39) (b40) (b41) (b42) (b43) (b44) (b45) (b46) (b47) (b48) (b49) (b50) (b51) (b52) (b53) (b54) (b55) (b56) (b57) hb7 hb9 hb10 hb12 hb16 hb29 hb32 hb43 hb46 hb52 hb56 hb57) hl.1 q1336 q1338 qs53 q14 q1339 ⟨by decide, by decide, by show _ = some 3; decide +kernel⟩ ⟨Nat.le_of_ble_eq_true rfl, Nat.le_of_ble_eq_true rfl⟩ ⟨Nat.le_of_ble_eq_true rfl, Nat.le_of_ble_eq_true rfl⟩ rfl (Nat.le_of_ble_eq_true rfl) d_Model_margin_12 hP hD hS hA 0 12 rfl rfl rfl [0, 1, 2] [] rfl rfl rfl rfl (by decide) (fun v w1 H locs hw_1 hP hD hS => ?_)
  obtain ⟨x_2, x_3, f_4, f_5, rfl, rfl, hx_2, hx_3, hf_4, hf_5⟩ := hw_1
  have hP : va_P G.1 classes [(b0, .inr (12, [.int 0, .ref b3, .ref b4, .ref b5, .ref b6, .int x_3, .ref b8, .int b9, .int b10, .int b11, .int b12, .ref b13, .ref b14, .ref b15, .int b16, .ref b17, .ref b18, .ref b19, .ref b20, .ref b21, .ref b22, .ref b23, .ref b24, .ref b25, .ref b26, .ref b27, .ref b28, .int b29, .ref b30, .ref b31, .int b32, .int b33, .int b34, .int b35, .ref b36, .ref b37, .ref b38, .ref b39, .ref b40, .ref b41, .ref b42, .int b43, .ref b44, .ref b45, .int b46, .ref b47, .ref b48, .ref b49, .ref b50, .ref b51, .int b52, .ref b53, .ref b54, .ref b55])), (b3, .inl (G.2 0, 503, .inl f_4)), (b6, .inl (G.2 0, 4024, .inl f_5))] H := hP
  have hD := z_tie hP hD rfl
  refine W.widen (k := 0) (n := 0) (Nat.le_of_ble_eq_true rfl) (Nat.le_of_ble_eq_true rfl) ?_
  exact z_iret hx hb hr hlocks hP hD hS (Nat.le_of_ble_eq_true rfl) (Nat.le_of_ble_eq_true rfl) d_Model_margin_15 ⟨x_2, x_3, f_4, f_5, rfl, rfl, hx_2, hx_3, hf_4, hf_5⟩
theorem d_Model_keep_0 : decode prog_14_method_92_code 0 = .ok (.aload_n 0, 1) := by decide +kernel
theorem d_Model_keep_1 : decode prog_14_method_92_code 1 = .ok (.iconst 0, 1) := by decide +kernel
theorem d_Model_keep_2 : decode prog_14_method_92_code 2 = .ok (.putfield 1, 3) := by decide +kernel
theorem d_Model_keep_5 : decode prog_14_method_92_code 5 = .ok (.iload_n 1, 1) := by decide +kernel
theorem d_Model_keep_6 : decode prog_14_method_92_code 6 = .ok (.i2l, 1) := by decide +kernel
theorem d_Model_keep_7 : decode prog_14_method_92_code 7 = .ok (.lconst 0, 1) := by decide +kernel
theorem d_Model_keep_8 : decode prog_14_method_92_code 8 = .ok (.lconst 1, 1) := by decide +kernel
theorem d_Model_keep_9 : decode prog_14_method_92_code 9 = .ok (.invokestatic 138, 3) := by decide +kernel
theorem d_Model_keep_12 : decode prog_14_method_92_code 12 = .ok (.ifCond .ne 5, 3) := by decide +kernel
theorem d_Model_keep_15 : decode prog_14_method_92_code 15 = .ok (.iconst 0, 1) := by decide +kernel
theorem d_Model_keep_16 : decode prog_14_method_92_code 16 = .ok (.ireturn, 1) := by decide +kernel
theorem d_Model_keep_17 : decode prog_14_method_92_code 17 = .ok (.iconst 0, 1) := by decide +kernel
theorem d_Model_keep_18 : decode prog_14_method_92_code 18 = .ok (.istore_n 2, 1) := by decide +kernel
theorem d_Model_keep_19 : decode prog_14_method_92_code 19 = .ok (.iload_n 2, 1) := by decide +kernel
theorem d_Model_keep_20 : decode prog_14_method_92_code 20 = .ok (.sipush 503, 3) := by decide +kernel
theorem d_Model_keep_23 : decode prog_14_method_92_code 23 = .ok (.if_icmp .ge 27, 3) := by decide +kernel
theorem d_Model_keep_26 : decode prog_14_method_92_code 26 = .ok (.aload_n 0, 1) := by decide +kernel
theorem d_Model_keep_27 : decode prog_14_method_92_code 27 = .ok (.getfield 17, 3) := by decide +kernel
theorem d_Model_keep_30 : decode prog_14_method_92_code 30 = .ok (.sipush 503, 3) := by decide +kernel
theorem d_Model_keep_33 : decode prog_14_method_92_code 33 = .ok (.iload_n 1, 1) := by decide +kernel
theorem d_Model_keep_34 : decode prog_14_method_92_code 34 = .ok (.imul, 1) := by decide +kernel
theorem d_Model_keep_35 : decode prog_14_method_92_code 35 = .ok (.iload_n 2, 1) := by decide +kernel
theorem d_Model_keep_36 : decode prog_14_method_92_code 36 = .ok (.iadd, 1) := by decide +kernel
theorem d_Model_keep_37 : decode prog_14_method_92_code 37 = .ok (.aload_n 0, 1) := by decide +kernel
theorem d_Model_keep_38 : decode prog_14_method_92_code 38 = .ok (.getfield 13, 3) := by decide +kernel
theorem d_Model_keep_41 : decode prog_14_method_92_code 41 = .ok (.iload_n 2, 1) := by decide +kernel
theorem d_Model_keep_42 : decode prog_14_method_92_code 42 = .ok (.iaload, 1) := by decide +kernel
theorem d_Model_keep_43 : decode prog_14_method_92_code 43 = .ok (.iastore, 1) := by decide +kernel
theorem d_Model_keep_44 : decode prog_14_method_92_code 44 = .ok (.iinc 2 1, 3) := by decide +kernel
theorem d_Model_keep_47 : decode prog_14_method_92_code 47 = .ok (.goto (-28), 3) := by decide +kernel
theorem d_Model_keep_50 : decode prog_14_method_92_code 50 = .ok (.aload_n 0, 1) := by decide +kernel
theorem d_Model_keep_51 : decode prog_14_method_92_code 51 = .ok (.getfield 20, 3) := by decide +kernel
theorem d_Model_keep_54 : decode prog_14_method_92_code 54 = .ok (.iload_n 1, 1) := by decide +kernel
theorem d_Model_keep_55 : decode prog_14_method_92_code 55 = .ok (.iconst 1, 1) := by decide +kernel
theorem d_Model_keep_56 : decode prog_14_method_92_code 56 = .ok (.bastore, 1) := by decide +kernel
theorem d_Model_keep_57 : decode prog_14_method_92_code 57 = .ok (.iconst 1, 1) := by decide +kernel
theorem d_Model_keep_58 : decode prog_14_method_92_code 58 = .ok (.ireturn, 1) := by decide +kernel
abbrev m_s1_Model_keep : Room := { frames := 1, cells := 0, slots := 0, locals := 25 }
set_option maxHeartbeats 4000000 in
set_option maxRecDepth 100000 in
theorem s1_Model_keep (l : Launch) (G : zG) (b0 : Nat) (b1 : Int32) (b2 : Int32) (b3 : Nat) (b4 : Nat) (b5 : Nat) (b6 : Nat) (b7 : Int32) (b8 : Nat) (b9 : Int32) (b10 : Int32) (b11 : Int32) (b12 : Int32) (b13 : Nat) (b14 : Nat) (b15 : Nat) (b16 : Int32) (b17 : Nat) (b18 : Nat) (b19 : Nat) (b20 : Nat) (b21 : Nat) (b22 : Nat) (b23 : Nat) (b24 : Nat) (b25 : Nat) (b26 : Nat) (b27 : Nat) (b28 : Nat) (b29 : Int32) (b30 : Nat) (b31 : Nat) (b32 : Int32) (b33 : Int32) (b34 : Int32) (b35 : Int32) (b36 : Nat) (b37 : Nat) (b38 : Nat) (b39 : Nat) (b40 : Nat) (b41 : Nat) (b42 : Nat) (b43 : Int32) (b44 : Nat) (b45 : Nat) (b46 : Int32) (b47 : Nat) (b48 : Nat) (b49 : Nat) (b50 : Nat) (b51 : Nat) (b52 : Int32) (b53 : Nat) (b54 : Nat) (b55 : Nat) (b56 : Nat → Int32) (b57 : Nat → Int32) (b58 : Nat → Int32) (hb7 : zI b7 0 8) (hb9 : zI b9 0 240) (hb10 : zI b10 0 240) (hb12 : zI b12 0 1) (hb16 : zI b16 0 12) (hb29 : zI b29 0 1) (hb32 : zI b32 0 1) (hb43 : zI b43 0 1000) (hb46 : zI b46 0 1000) (hb52 : zI b52 0 400) (hb56 : zW5 b56) (hb57 : zW5 b57) : zM l G y_Model_keep prog_14_method_92_code 3 (Option.some Jvm.ClassFile.FieldType.boolean) m_s1_Model_keep [.ref b0, .int b1] [(b0, .inr (12, [.int b2, .ref b3, .ref b4, .ref b5, .ref b6, .int b7, .ref b8, .int b9, .int b10, .int b11, .int b12, .ref b13, .ref b14, .ref b15, .int b16, .ref b17, .ref b18, .ref b19, .ref b20, .ref b21, .ref b22, .ref b23, .ref b24, .ref b25, .ref b26, .ref b27, .ref b28, .int b29, .ref b30, .ref b31, .int b32, .int b33, .int b34, .int b35, .ref b36, .ref b37, .ref b38, .ref b39, .ref b40, .ref b41, .ref b42, .int b43, .ref b44, .ref b45, .int b46, .ref b47, .ref b48, .ref b49, .ref b50, .ref b51, .int b52, .ref b53, .ref b54, .ref b55])), (b3, .inl (G.2 0, 503, .inl b56)), (b4, .inl (G.2 0, 1006, .inl b57)), (b5, .inl (G.2 4, 2, .inl b58))] (fun v w => ∃ (e0 : Int32), ∃ (e1 : Nat → Int32), ∃ (e2 : Nat → Int32), v = some (.int e0) ∧ w = [(b0, .inr (12, [.int 0, .ref b3, .ref b4, .ref b5, .ref b6, .int b7, .ref b8, .int b9, .int b10, .int b11, .int b12, .ref b13, .ref b14, .ref b15, .int b16, .ref b17, .ref b18, .ref b19, .ref b20, .ref b21, .ref b22, .ref b23, .ref b24, .ref b25, .ref b26, .ref b27, .ref b28, .int b29, .ref b30, .ref b31, .int b32, .int b33, .int b34, .int b35, .ref b36, .ref b37, .ref b38, .ref b39, .ref b40, .ref b41, .ref b42, .int b43, .ref b44, .ref b45, .int b46, .ref b47, .ref b48, .ref b49, .ref b50, .ref b51, .int b52, .ref b53, .ref b54, .ref b55])), (b3, .inl (G.2 0, 503, .inl b56)), (b4, .inl (G.2 0, 1006, .inl e1)), (b5, .inl (G.2 4, 2, .inl e2))] ∧ (zI e0 0 1) ∧ (zW5 e1) ∧ ((0 ≤ (b1 : Int32).toInt ∧ (b1 : Int32).toInt ≤ 1) → (e0 : Int32).toInt = 1) ∧ (¬ (0 ≤ (b1 : Int32).toInt ∧ (b1 : Int32).toInt ≤ 1) → (e0 : Int32).toInt = 0) ∧ (∀ q : Nat, e2 q = if (e0 : Int32).toInt = 1 ∧ q = (b1 : Int32).toNatClampNeg then 1 else b58 q)) := by
  refine z_start (by decide +kernel) (Nat.le_of_ble_eq_true rfl) ?_
  intro p e s m below meth c A Z hr hnm hA hP hD hS ls hl
  have Z : zC p s m _ meth c prog_14_method_92_code 3 "TraceMachinesModel" G := Z
  obtain ⟨hx, hb, hml, hown, hts, hK, hN, hlocks⟩ := id Z
  have hl : lv_has ls 3 [(0, .ref b0), (1, .int b1)] := hl
  refine lv_aload_n hx hb d_Model_keep_0 rfl (lv_at hl 0 rfl) ?_
  refine lv_iconst (v := 0) hx hb d_Model_keep_1 (by decide) ?_
  refine va_put (D := G.1) (ci := 12) (v := .int 0) (ty := .int) (C := R_Model) (T := F_Model) (N := 54) hx hb hts i_Model t_Model t_Model_ok n_Model hown hK hP hD hS 0 rfl rfl 0 (by decide) (hts _ q1109) (fun _ h9 => h9) rfl (by decide +kernel) rfl rfl (Nat.le_of_ble_eq_true rfl) d_Model_keep_2 (fun H locs hP hD hS => ?_)
  have hP : va_P G.1 classes [(b0, .inr (12, [.int 0, .ref b3, .ref b4, .ref b5, .ref b6, .int b7, .ref b8, .int b9, .int b10, .int b11, .int b12, .ref b13, .ref b14, .ref b15, .int b16, .ref b17, .ref b18, .ref b19, .ref b20, .ref b21, .ref b22, .ref b23, .ref b24, .ref b25, .ref b26, .ref b27, .ref b28, .int b29, .ref b30, .ref b31, .int b32, .int b33, .int b34, .int b35, .ref b36, .ref b37, .ref b38, .ref b39, .ref b40, .ref b41, .ref b42, .int b43, .ref b44, .ref b45, .int b46, .ref b47, .ref b48, .ref b49, .ref b50, .ref b51, .int b52, .ref b53, .ref b54, .ref b55])), (b3, .inl (G.2 0, 503, .inl b56)), (b4, .inl (G.2 0, 1006, .inl b57)), (b5, .inl (G.2 4, 2, .inl b58))] H := hP
  have hD := z_tie hP hD rfl
  refine lv_iload_n hx hb d_Model_keep_5 rfl (lv_at hl 1 rfl) ?_
  refine lv_i2l (v := b1.toInt64) hx hb d_Model_keep_6 rfl ?_
  refine lv_lconst (v := 0) hx hb d_Model_keep_7 (by decide) ?_
  refine lv_lconst (v := 1) hx hb d_Model_keep_8 (by decide) ?_
  refine z_callS (index := 138) (As := [.long b1.toInt64, .long 0, .long 1]) (rest := []) (wr := [(b0, .inr (12, [.int 0, .ref b3, .ref b4, .ref b5, .ref b6, .int b7, .ref b8, .int b9, .int b10, .int b11, .int b12, .ref b13, .ref b14, .ref b15, .int b16, .ref b17, .ref b18, .ref b19, .ref b20, .ref b21, .ref b22, .ref b23, .ref b24, .ref b25, .ref b26, .ref b27, .ref b28, .int b29, .ref b30, .ref b31, .int b32, .int b33, .int b34, .int b35, .ref b36, .ref b37, .ref b38, .ref b39, .ref b40, .ref b41, .ref b42, .int b43, .ref b44, .ref b45, .int b46, .ref b47, .ref b48, .ref b49, .ref b50, .ref b51, .int b52, .ref b53, .ref b54, .ref b55])), (b3, .inl (G.2 0, 503, .inl b56)), (b4, .inl (G.2 0, 1006, .inl b57)), (b5, .inl (G.2 4, 2, .inl b58))]) Z (s2_Model_in l G (b1.toInt64) (0) (1)) hl.1 q1281 q1282 q14 q1283 ⟨by decide, by decide, by show _ = some 3; decide +kernel⟩ ⟨Nat.le_of_ble_eq_true rfl, Nat.le_of_ble_eq_true rfl⟩ ⟨Nat.le_of_ble_eq_true rfl, Nat.le_of_ble_eq_true rfl⟩ rfl (Nat.le_of_ble_eq_true rfl) d_Model_keep_9 hP hD hS hA [] [0, 1, 2, 3] rfl rfl rfl rfl (by decide) (fun v w1 H locs hw_1 hP hD hS => ?_)
  rcases hw_1 with ⟨rfl, rfl, hq_2⟩ | ⟨rfl, rfl, hq_3, hq_4⟩ | ⟨rfl, rfl, hq_5, hq_6⟩
  · have hP : va_P G.1 classes [(b0, .inr (12, [.int 0, .ref b3, .ref b4, .ref b5, .ref b6, .int b7, .ref b8, .int b9, .int b10, .int b11, .int b12, .ref b13, .ref b14, .ref b15, .int b16, .ref b17, .ref b18, .ref b19, .ref b20, .ref b21, .ref b22, .ref b23, .ref b24, .ref b25, .ref b26, .ref b27, .ref b28, .int b29, .ref b30, .ref b31, .int b32, .int b33, .int b34, .int b35, .ref b36, .ref b37, .ref b38, .ref b39, .ref b40, .ref b41, .ref b42, .int b43, .ref b44, .ref b45, .int b46, .ref b47, .ref b48, .ref b49, .ref b50, .ref b51, .int b52, .ref b53, .ref b54, .ref b55])), (b3, .inl (G.2 0, 503, .inl b56)), (b4, .inl (G.2 0, 1006, .inl b57)), (b5, .inl (G.2 4, 2, .inl b58))] H := hP
    have hD := z_tie hP hD rfl
    try simp only [Int32.toInt_toInt64, ll_0] at hq_2
    have hv_7 : zI b1 (-2147483648) (-1) := by have _a := hq_2; have _b := (zI_all b1); have _c := zcl_0; simp only [Int32.toInt_toInt64] at *; exact ⟨by omega, by omega⟩
    refine W.widen (k := 0) (n := 0) (Nat.le_of_ble_eq_true rfl) (Nat.le_of_ble_eq_true rfl) ?_
    refine lv_if_ne (tgt := 17) hx hb d_Model_keep_12 (by decide) (fun hc => absurd hc (by decide +kernel)) (fun _ => ?_)
    refine lv_iconst (v := 0) hx hb d_Model_keep_15 (by decide) ?_
    exact z_zret hx hb hr hlocks rfl hP hD hS (Nat.le_of_ble_eq_true rfl) (Nat.le_of_ble_eq_true rfl) d_Model_keep_16 ⟨0, b57, b58, rfl, rfl, (zI.wk (l' := 0) (h' := 1) zc_0 (by decide)), hb57, (by have _l0 := li_0; have _l1 := li_1; have _l2 := li_m1; intro h9; omega), (by have _l0 := li_0; have _l1 := li_1; have _l2 := li_m1; intro h9; omega), (by have _l0 := li_0; have _l1 := li_1; intro q; rw [if_neg (by omega)])⟩
  · have hP : va_P G.1 classes [(b0, .inr (12, [.int 0, .ref b3, .ref b4, .ref b5, .ref b6, .int b7, .ref b8, .int b9, .int b10, .int b11, .int b12, .ref b13, .ref b14, .ref b15, .int b16, .ref b17, .ref b18, .ref b19, .ref b20, .ref b21, .ref b22, .ref b23, .ref b24, .ref b25, .ref b26, .ref b27, .ref b28, .int b29, .ref b30, .ref b31, .int b32, .int b33, .int b34, .int b35, .ref b36, .ref b37, .ref b38, .ref b39, .ref b40, .ref b41, .ref b42, .int b43, .ref b44, .ref b45, .int b46, .ref b47, .ref b48, .ref b49, .ref b50, .ref b51, .int b52, .ref b53, .ref b54, .ref b55])), (b3, .inl (G.2 0, 503, .inl b56)), (b4, .inl (G.2 0, 1006, .inl b57)), (b5, .inl (G.2 4, 2, .inl b58))] H := hP
    have hD := z_tie hP hD rfl
    try simp only [Int32.toInt_toInt64, ll_0] at hq_3
    have hv_8 : zI b1 0 2147483647 := by have _a := hq_3; have _b := (zI_all b1); have _c := zcl_0; simp only [Int32.toInt_toInt64] at *; exact ⟨by omega, by omega⟩
    try simp only [Int32.toInt_toInt64, ll_1] at hq_4
    have hv_9 : zI b1 2 2147483647 := by have _a := hq_4; have _b := hv_8; have _c := zcl_1; simp only [Int32.toInt_toInt64] at *; exact ⟨by omega, by omega⟩
    refine W.widen (k := 0) (n := 0) (Nat.le_of_ble_eq_true rfl) (Nat.le_of_ble_eq_true rfl) ?_
    refine lv_if_ne (tgt := 17) hx hb d_Model_keep_12 (by decide) (fun hc => absurd hc (by decide +kernel)) (fun _ => ?_)
    refine lv_iconst (v := 0) hx hb d_Model_keep_15 (by decide) ?_
    exact z_zret hx hb hr hlocks rfl hP hD hS (Nat.le_of_ble_eq_true rfl) (Nat.le_of_ble_eq_true rfl) d_Model_keep_16 ⟨0, b57, b58, rfl, rfl, (zI.wk (l' := 0) (h' := 1) zc_0 (by decide)), hb57, (by have _l0 := li_0; have _l1 := li_1; have _l2 := li_m1; intro h9; omega), (by have _l0 := li_0; have _l1 := li_1; have _l2 := li_m1; intro h9; omega), (by have _l0 := li_0; have _l1 := li_1; intro q; rw [if_neg (by omega)])⟩
  · have hP : va_P G.1 classes [(b0, .inr (12, [.int 0, .ref b3, .ref b4, .ref b5, .ref b6, .int b7, .ref b8, .int b9, .int b10, .int b11, .int b12, .ref b13, .ref b14, .ref b15, .int b16, .ref b17, .ref b18, .ref b19, .ref b20, .ref b21, .ref b22, .ref b23, .ref b24, .ref b25, .ref b26, .ref b27, .ref b28, .int b29, .ref b30, .ref b31, .int b32, .int b33, .int b34, .int b35, .ref b36, .ref b37, .ref b38, .ref b39, .ref b40, .ref b41, .ref b42, .int b43, .ref b44, .ref b45, .int b46, .ref b47, .ref b48, .ref b49, .ref b50, .ref b51, .int b52, .ref b53, .ref b54, .ref b55])), (b3, .inl (G.2 0, 503, .inl b56)), (b4, .inl (G.2 0, 1006, .inl b57)), (b5, .inl (G.2 4, 2, .inl b58))] H := hP
    have hD := z_tie hP hD rfl
    try simp only [Int32.toInt_toInt64, ll_0] at hq_5
    have hv_10 : zI b1 0 2147483647 := by have _a := hq_5; have _b := (zI_all b1); have _c := zcl_0; simp only [Int32.toInt_toInt64] at *; exact ⟨by omega, by omega⟩
    try simp only [Int32.toInt_toInt64, ll_1] at hq_6
    have hv_11 : zI b1 0 1 := by have _a := hq_6; have _b := hv_10; have _c := zcl_1; simp only [Int32.toInt_toInt64] at *; exact ⟨by omega, by omega⟩
    refine W.widen (k := 0) (n := 0) (Nat.le_of_ble_eq_true rfl) (Nat.le_of_ble_eq_true rfl) ?_
    refine lv_if_ne (tgt := 17) hx hb d_Model_keep_12 (by decide) (fun _ => ?_) (fun hc => absurd hc (by decide +kernel))
    refine lv_iconst (v := 0) hx hb d_Model_keep_17 (by decide) ?_
    refine lv_istore_n (lv' := [(2, .int 0), (0, .ref b0), (1, .int b1)]) hx hb d_Model_keep_18 rfl hl (by decide) rfl (fun ls hl => ?_)
    suffices key : ∀ (k_25 : Nat) (y_26 : Int32) (y_27 : Nat → Int32) (H : Heap) (locs : List Loc) (ls : Array Slot), (zI y_26 0 503) → (zW5 y_27) → (503 : Int) - y_26.toInt < (k_25 : Int) → va_P G.1 classes [(b0, .inr (12, [.int 0, .ref b3, .ref b4, .ref b5, .ref b6, .int b7, .ref b8, .int b9, .int b10, .int b11, .int b12, .ref b13, .ref b14, .ref b15, .int b16, .ref b17, .ref b18, .ref b19, .ref b20, .ref b21, .ref b22, .ref b23, .ref b24, .ref b25, .ref b26, .ref b27, .ref b28, .int b29, .ref b30, .ref b31, .int b32, .int b33, .int b34, .int b35, .ref b36, .ref b37, .ref b38, .ref b39, .ref b40, .ref b41, .ref b42, .int b43, .ref b44, .ref b45, .int b46, .ref b47, .ref b48, .ref b49, .ref b50, .ref b51, .int b52, .ref b53, .ref b54, .ref b55])), (b3, .inl (G.2 0, 503, .inl b56)), (b4, .inl (G.2 0, 1006, .inl y_27)), (b5, .inl (G.2 4, 2, .inl b58))] H → va_D A [(b0, .inr (12, [.int 0, .ref b3, .ref b4, .ref b5, .ref b6, .int b7, .ref b8, .int b9, .int b10, .int b11, .int b12, .ref b13, .ref b14, .ref b15, .int b16, .ref b17, .ref b18, .ref b19, .ref b20, .ref b21, .ref b22, .ref b23, .ref b24, .ref b25, .ref b26, .ref b27, .ref b28, .int b29, .ref b30, .ref b31, .int b32, .int b33, .int b34, .int b35, .ref b36, .ref b37, .ref b38, .ref b39, .ref b40, .ref b41, .ref b42, .int b43, .ref b44, .ref b45, .int b46, .ref b47, .ref b48, .ref b49, .ref b50, .ref b51, .int b52, .ref b53, .ref b54, .ref b55])), (b3, .inl (G.2 0, 503, .inl b56)), (b4, .inl (G.2 0, 1006, .inl y_27)), (b5, .inl (G.2 4, 2, .inl b58))] → va_S A s.heap H locs → lv_has ls 3 [(2, .int y_26), (0, .ref b0), (1, .int b1)] → W p l e m_s1_Model_keep s m ([.ref b0, .int b1] : List Value).toArray below meth c H locs 0 0 (MQ below (zQ G (fun v w => ∃ (e0 : Int32), ∃ (e1 : Nat → Int32), ∃ (e2 : Nat → Int32), v = some (.int e0) ∧ w = [(b0, .inr (12, [.int 0, .ref b3, .ref b4, .ref b5, .ref b6, .int b7, .ref b8, .int b9, .int b10, .int b11, .int b12, .ref b13, .ref b14, .ref b15, .int b16, .ref b17, .ref b18, .ref b19, .ref b20, .ref b21, .ref b22, .ref b23, .ref b24, .ref b25, .ref b26, .ref b27, .ref b28, .int b29, .ref b30, .ref b31, .int b32, .int b33, .int b34, .int b35, .ref b36, .ref b37, .ref b38, .ref b39, .ref b40, .ref b41, .ref b42, .int b43, .ref b44, .ref b45, .int b46, .ref b47, .ref b48, .ref b49, .ref b50, .ref b51, .int b52, .ref b53, .ref b54, .ref b55])), (b3, .inl (G.2 0, 503, .inl b56)), (b4, .inl (G.2 0, 1006, .inl e1)), (b5, .inl (G.2 4, 2, .inl e2))] ∧ (zI e0 0 1) ∧ (zW5 e1) ∧ ((0 ≤ (b1 : Int32).toInt ∧ (b1 : Int32).toInt ≤ 1) → (e0 : Int32).toInt = 1) ∧ (¬ (0 ≤ (b1 : Int32).toInt ∧ (b1 : Int32).toInt ≤ 1) → (e0 : Int32).toInt = 0) ∧ (∀ q : Nat, e2 q = if (e0 : Int32).toInt = 1 ∧ q = (b1 : Int32).toNatClampNeg then 1 else b58 q)) A) ([.ref b0, .int b1] : List Value).toArray s m_s1_Model_keep.cells m_s1_Model_keep.slots A) (F0 m 19 ls []) by
      exact key 504 (0) (b57) _ _ _ (zI.wk (l' := 0) (h' := 503) zc_0 (by decide)) hb57 (zm_upi (zI.wk (l' := 0) (h' := 503) zc_0 (by decide)) (by decide)) hP hD hS (lv_sub hl [0, 1, 2] rfl)
    intro k_25
    induction k_25 with
    | zero =>
      intro y_26 y_27 H locs ls hy_26 hy_27 hmk_25 hP hD hS hl
      exact (zm_up0 hy_26 hmk_25).elim
    | succ k_25 ihk_25 =>
      intro y_26 y_27 H locs ls hy_26 hy_27 hmk_25 hP hD hS hl
      refine lv_iload_n hx hb d_Model_keep_19 rfl (lv_at hl 0 rfl) ?_
      refine lv_sipush (v := 503) hx hb d_Model_keep_20 (by decide) ?_
      refine lv_icmp_ge (tgt := 50) hx hb d_Model_keep_23 (by decide) (fun hc_28 => ?_) (fun hc_28 => ?_)
      · have _nhc_28 := hc_28
        have ni_29 := (fa_le _ _).mp hc_28
        rw [li_503] at ni_29
        have hv_30 : zI y_26 503 503 := zI.le_r zc_503 hy_26 hc_28 (by decide)
        refine lv_aload_n hx hb d_Model_keep_50 rfl (lv_at hl 1 rfl) ?_
        refine va_get (D := G.1) (ci := 12) (v := .ref b5) (C := R_Model) (T := F_Model) (N := 54) hx hb hts i_Model hown hK hP 0 rfl rfl 3 (by decide) (hts _ q1112) (fun _ h9 => h9) rfl d_Model_keep_51 ?_
        refine lv_iload_n hx hb d_Model_keep_54 rfl (lv_at hl 2 rfl) ?_
        refine lv_iconst (v := 1) hx hb d_Model_keep_55 (by decide) ?_
        refine va_zast hx hb hK hP hD hS 3 4 rfl rfl (zI.inn hv_11 (by decide)) d_Model_keep_56 (fun H locs hP hD hS => ?_)
        obtain ⟨f_31, gf_31, uf_31, hP, hD⟩ := z_newFu 3 hP hD rfl
        have hP : va_P G.1 classes [(b0, .inr (12, [.int 0, .ref b3, .ref b4, .ref b5, .ref b6, .int b7, .ref b8, .int b9, .int b10, .int b11, .int b12, .ref b13, .ref b14, .ref b15, .int b16, .ref b17, .ref b18, .ref b19, .ref b20, .ref b21, .ref b22, .ref b23, .ref b24, .ref b25, .ref b26, .ref b27, .ref b28, .int b29, .ref b30, .ref b31, .int b32, .int b33, .int b34, .int b35, .ref b36, .ref b37, .ref b38, .ref b39, .ref b40, .ref b41, .ref b42, .int b43, .ref b44, .ref b45, .int b46, .ref b47, .ref b48, .ref b49, .ref b50, .ref b51, .int b52, .ref b53, .ref b54, .ref b55])), (b3, .inl (G.2 0, 503, .inl b56)), (b4, .inl (G.2 0, 1006, .inl y_27)), (b5, .inl (G.2 4, 2, .inl f_31))] H := hP
        have hD := z_tie hP hD rfl
        refine lv_iconst (v := 1) hx hb d_Model_keep_57 (by decide) ?_
        exact z_zret hx hb hr hlocks rfl hP hD hS (Nat.le_of_ble_eq_true rfl) (Nat.le_of_ble_eq_true rfl) d_Model_keep_58 ⟨1, y_27, f_31, rfl, rfl, (zI.wk (l' := 0) (h' := 1) zc_1 (by decide)), hy_27, (by have _l0 := li_0; have _l1 := li_1; have _l2 := li_m1; intro h9; omega), (by have _l0 := li_0; have _l1 := li_1; have _l2 := li_m1; intro h9; omega), (by have _l0 := li_0; have _l1 := li_1; intro q; rw [uf_31, z_at]; exact (if h9 : q = b1.toNatClampNeg then (by rw [if_pos h9, if_pos ⟨by omega, h9⟩]; first | done | decide +kernel) else (by rw [if_neg h9, if_neg (fun h8 => h9 h8.2)])))⟩
      · have _nhc_28 := hc_28
        have ni_32 := (fa_lt _ _).mp (zi_nle hc_28)
        rw [li_503] at ni_32
        have hv_33 : zI y_26 0 502 := zI.lt_l hy_26 zc_503 (zi_nle hc_28) (by decide)
        refine lv_aload_n hx hb d_Model_keep_26 rfl (lv_at hl 1 rfl) ?_
        refine va_get (D := G.1) (ci := 12) (v := .ref b4) (C := R_Model) (T := F_Model) (N := 54) hx hb hts i_Model hown hK hP 0 rfl rfl 2 (by decide) (hts _ q1111) (fun _ h9 => h9) rfl d_Model_keep_27 ?_
        refine lv_sipush (v := 503) hx hb d_Model_keep_30 (by decide) ?_
        refine lv_iload_n hx hb d_Model_keep_33 rfl (lv_at hl 2 rfl) ?_
        refine lv_imul hx hb d_Model_keep_34 ?_
        refine lv_topi (fun v_34 ev_34 => ?_)
        obtain ⟨qv_34, hv_34⟩ := zI_mul (l := 0) (h := 503) zc_503 hv_11 ev_34 (by decide)
        rw [li_503] at qv_34
        refine lv_iload_n hx hb d_Model_keep_35 rfl (lv_at hl 0 rfl) ?_
        refine lv_iadd hx hb d_Model_keep_36 ?_
        refine lv_topi (fun v_35 ev_35 => ?_)
        obtain ⟨qv_35, hv_35⟩ := zI_add (l := 0) (h := 1005) hv_34 hv_33 ev_35 (by decide)
        refine lv_aload_n hx hb d_Model_keep_37 rfl (lv_at hl 1 rfl) ?_
        refine va_get (D := G.1) (ci := 12) (v := .ref b3) (C := R_Model) (T := F_Model) (N := 54) hx hb hts i_Model hown hK hP 0 rfl rfl 1 (by decide) (hts _ q1110) (fun _ h9 => h9) rfl d_Model_keep_38 ?_
        refine lv_iload_n hx hb d_Model_keep_41 rfl (lv_at hl 0 rfl) ?_
        refine va_iald hx hb hK hP 1 0 rfl rfl (zI.inn hv_33 (by decide)) d_Model_keep_42 ?_
        refine lv_topi (fun v_36 ev_36 => ?_)
        refine va_iast hx hb hK hP hD hS 2 0 rfl rfl (zI.inn hv_35 (by decide)) d_Model_keep_43 (fun H locs hP hD hS => ?_)
        obtain ⟨f_37, hf_37, gf_37, uf_37, hP, hD⟩ := z_newfw 2 hP hD rfl hy_27 (zRk_s hb56 ev_36 hv_33 hv_35 (by decide) (by omega))
        have hP : va_P G.1 classes [(b0, .inr (12, [.int 0, .ref b3, .ref b4, .ref b5, .ref b6, .int b7, .ref b8, .int b9, .int b10, .int b11, .int b12, .ref b13, .ref b14, .ref b15, .int b16, .ref b17, .ref b18, .ref b19, .ref b20, .ref b21, .ref b22, .ref b23, .ref b24, .ref b25, .ref b26, .ref b27, .ref b28, .int b29, .ref b30, .ref b31, .int b32, .int b33, .int b34, .int b35, .ref b36, .ref b37, .ref b38, .ref b39, .ref b40, .ref b41, .ref b42, .int b43, .ref b44, .ref b45, .int b46, .ref b47, .ref b48, .ref b49, .ref b50, .ref b51, .int b52, .ref b53, .ref b54, .ref b55])), (b3, .inl (G.2 0, 503, .inl b56)), (b4, .inl (G.2 0, 1006, .inl f_37)), (b5, .inl (G.2 4, 2, .inl b58))] H := hP
        have hD := z_tie hP hD rfl
        obtain ⟨v_38, ev_38⟩ : ∃ z : Int32, z = y_26 + 1 := ⟨_, rfl⟩
        obtain ⟨qv_38, hv_38⟩ := zI_add (l := 1) (h := 503) hv_33 zc_1 ev_38 (by decide)
        rw [li_1] at qv_38
        refine lv_iinc (v := v_38) (lv' := [(2, .int v_38), (0, .ref b0), (1, .int b1)]) hx hb d_Model_keep_44 hl (k := 0) rfl (by rw [ev_38]; rfl) (by decide) rfl (fun ls hl => ?_)
        refine lv_goto (tgt := 19) hx hb d_Model_keep_47 (by decide) ?_
        exact ihk_25 (v_38) (f_37) _ _ _ (zI.wk (l' := 0) (h' := 503) hv_38 (by decide)) hf_37 (zm_up qv_38 hmk_25 (by decide)) hP hD hS (lv_sub hl [0, 1, 2] rfl)
theorem d_Model_again_0 : decode prog_14_method_93_code 0 = .ok (.aload_n 0, 1) := by decide +kernel
theorem d_Model_again_1 : decode prog_14_method_93_code 1 = .ok (.iconst 0, 1) := by decide +kernel
theorem d_Model_again_2 : decode prog_14_method_93_code 2 = .ok (.putfield 1, 3) := by decide +kernel
theorem d_Model_again_5 : decode prog_14_method_93_code 5 = .ok (.iload_n 1, 1) := by decide +kernel
theorem d_Model_again_6 : decode prog_14_method_93_code 6 = .ok (.i2l, 1) := by decide +kernel
theorem d_Model_again_7 : decode prog_14_method_93_code 7 = .ok (.lconst 0, 1) := by decide +kernel
theorem d_Model_again_8 : decode prog_14_method_93_code 8 = .ok (.lconst 1, 1) := by decide +kernel
theorem d_Model_again_9 : decode prog_14_method_93_code 9 = .ok (.invokestatic 138, 3) := by decide +kernel
theorem d_Model_again_12 : decode prog_14_method_93_code 12 = .ok (.ifCond .eq 12, 3) := by decide +kernel
theorem d_Model_again_15 : decode prog_14_method_93_code 15 = .ok (.aload_n 0, 1) := by decide +kernel
theorem d_Model_again_16 : decode prog_14_method_93_code 16 = .ok (.getfield 20, 3) := by decide +kernel
theorem d_Model_again_19 : decode prog_14_method_93_code 19 = .ok (.iload_n 1, 1) := by decide +kernel
theorem d_Model_again_20 : decode prog_14_method_93_code 20 = .ok (.baload, 1) := by decide +kernel
theorem d_Model_again_21 : decode prog_14_method_93_code 21 = .ok (.ifCond .ne 5, 3) := by decide +kernel
theorem d_Model_again_24 : decode prog_14_method_93_code 24 = .ok (.iconst 0, 1) := by decide +kernel
theorem d_Model_again_25 : decode prog_14_method_93_code 25 = .ok (.ireturn, 1) := by decide +kernel
theorem d_Model_again_26 : decode prog_14_method_93_code 26 = .ok (.iconst 0, 1) := by decide +kernel
theorem d_Model_again_27 : decode prog_14_method_93_code 27 = .ok (.istore_n 2, 1) := by decide +kernel
theorem d_Model_again_28 : decode prog_14_method_93_code 28 = .ok (.iload_n 2, 1) := by decide +kernel
theorem d_Model_again_29 : decode prog_14_method_93_code 29 = .ok (.sipush 503, 3) := by decide +kernel
theorem d_Model_again_32 : decode prog_14_method_93_code 32 = .ok (.if_icmp .ge 27, 3) := by decide +kernel
theorem d_Model_again_35 : decode prog_14_method_93_code 35 = .ok (.aload_n 0, 1) := by decide +kernel
theorem d_Model_again_36 : decode prog_14_method_93_code 36 = .ok (.getfield 13, 3) := by decide +kernel
theorem d_Model_again_39 : decode prog_14_method_93_code 39 = .ok (.iload_n 2, 1) := by decide +kernel
theorem d_Model_again_40 : decode prog_14_method_93_code 40 = .ok (.aload_n 0, 1) := by decide +kernel
theorem d_Model_again_41 : decode prog_14_method_93_code 41 = .ok (.getfield 17, 3) := by decide +kernel
theorem d_Model_again_44 : decode prog_14_method_93_code 44 = .ok (.sipush 503, 3) := by decide +kernel
theorem d_Model_again_47 : decode prog_14_method_93_code 47 = .ok (.iload_n 1, 1) := by decide +kernel
theorem d_Model_again_48 : decode prog_14_method_93_code 48 = .ok (.imul, 1) := by decide +kernel
theorem d_Model_again_49 : decode prog_14_method_93_code 49 = .ok (.iload_n 2, 1) := by decide +kernel
theorem d_Model_again_50 : decode prog_14_method_93_code 50 = .ok (.iadd, 1) := by decide +kernel
theorem d_Model_again_51 : decode prog_14_method_93_code 51 = .ok (.iaload, 1) := by decide +kernel
theorem d_Model_again_52 : decode prog_14_method_93_code 52 = .ok (.iastore, 1) := by decide +kernel
theorem d_Model_again_53 : decode prog_14_method_93_code 53 = .ok (.iinc 2 1, 3) := by decide +kernel
theorem d_Model_again_56 : decode prog_14_method_93_code 56 = .ok (.goto (-28), 3) := by decide +kernel
theorem d_Model_again_59 : decode prog_14_method_93_code 59 = .ok (.aload_n 0, 1) := by decide +kernel
theorem d_Model_again_60 : decode prog_14_method_93_code 60 = .ok (.iconst 0, 1) := by decide +kernel
theorem d_Model_again_61 : decode prog_14_method_93_code 61 = .ok (.putfield 179, 3) := by decide +kernel
theorem d_Model_again_64 : decode prog_14_method_93_code 64 = .ok (.iconst 1, 1) := by decide +kernel
theorem d_Model_again_65 : decode prog_14_method_93_code 65 = .ok (.ireturn, 1) := by decide +kernel
abbrev m_s1_Model_again : Room := { frames := 1, cells := 0, slots := 0, locals := 25 }
set_option maxHeartbeats 4000000 in
set_option maxRecDepth 100000 in
theorem s1_Model_again (l : Launch) (G : zG) (b0 : Nat) (b1 : Int32) (b2 : Int32) (b3 : Nat) (b4 : Nat) (b5 : Nat) (b6 : Nat) (b7 : Int32) (b8 : Nat) (b9 : Int32) (b10 : Int32) (b11 : Int32) (b12 : Int32) (b13 : Nat) (b14 : Nat) (b15 : Nat) (b16 : Int32) (b17 : Nat) (b18 : Nat) (b19 : Nat) (b20 : Nat) (b21 : Nat) (b22 : Nat) (b23 : Nat) (b24 : Nat) (b25 : Nat) (b26 : Nat) (b27 : Nat) (b28 : Nat) (b29 : Int32) (b30 : Nat) (b31 : Nat) (b32 : Int32) (b33 : Int32) (b34 : Int32) (b35 : Int32) (b36 : Nat) (b37 : Nat) (b38 : Nat) (b39 : Nat) (b40 : Nat) (b41 : Nat) (b42 : Nat) (b43 : Int32) (b44 : Nat) (b45 : Nat) (b46 : Int32) (b47 : Nat) (b48 : Nat) (b49 : Nat) (b50 : Nat) (b51 : Nat) (b52 : Int32) (b53 : Nat) (b54 : Nat) (b55 : Nat) (b56 : Nat → Int32) (b57 : Nat → Int32) (b58 : Nat → Int32) (hb7 : zI b7 0 8) (hb9 : zI b9 0 240) (hb10 : zI b10 0 240) (hb12 : zI b12 0 1) (hb16 : zI b16 0 12) (hb29 : zI b29 0 1) (hb32 : zI b32 0 1) (hb43 : zI b43 0 1000) (hb46 : zI b46 0 1000) (hb52 : zI b52 0 400) (hb56 : zW5 b56) (hb57 : zW5 b57) : zM l G y_Model_again prog_14_method_93_code 3 (Option.some Jvm.ClassFile.FieldType.boolean) m_s1_Model_again [.ref b0, .int b1] [(b0, .inr (12, [.int b2, .ref b3, .ref b4, .ref b5, .ref b6, .int b7, .ref b8, .int b9, .int b10, .int b11, .int b12, .ref b13, .ref b14, .ref b15, .int b16, .ref b17, .ref b18, .ref b19, .ref b20, .ref b21, .ref b22, .ref b23, .ref b24, .ref b25, .ref b26, .ref b27, .ref b28, .int b29, .ref b30, .ref b31, .int b32, .int b33, .int b34, .int b35, .ref b36, .ref b37, .ref b38, .ref b39, .ref b40, .ref b41, .ref b42, .int b43, .ref b44, .ref b45, .int b46, .ref b47, .ref b48, .ref b49, .ref b50, .ref b51, .int b52, .ref b53, .ref b54, .ref b55])), (b3, .inl (G.2 0, 503, .inl b56)), (b4, .inl (G.2 0, 1006, .inl b57)), (b5, .inl (G.2 4, 2, .inl b58))] (fun v w => ∃ (e0 : Int32), ∃ (e1 : Int32), ∃ (e2 : Nat → Int32), v = some (.int e0) ∧ w = [(b0, .inr (12, [.int 0, .ref b3, .ref b4, .ref b5, .ref b6, .int e1, .ref b8, .int b9, .int b10, .int b11, .int b12, .ref b13, .ref b14, .ref b15, .int b16, .ref b17, .ref b18, .ref b19, .ref b20, .ref b21, .ref b22, .ref b23, .ref b24, .ref b25, .ref b26, .ref b27, .ref b28, .int b29, .ref b30, .ref b31, .int b32, .int b33, .int b34, .int b35, .ref b36, .ref b37, .ref b38, .ref b39, .ref b40, .ref b41, .ref b42, .int b43, .ref b44, .ref b45, .int b46, .ref b47, .ref b48, .ref b49, .ref b50, .ref b51, .int b52, .ref b53, .ref b54, .ref b55])), (b3, .inl (G.2 0, 503, .inl e2)), (b4, .inl (G.2 0, 1006, .inl b57)), (b5, .inl (G.2 4, 2, .inl b58))] ∧ (zI e0 0 1) ∧ (zI e1 0 8) ∧ (zW5 e2) ∧ ((0 ≤ (b1 : Int32).toInt ∧ (b1 : Int32).toInt ≤ 1) ∧ (b58 (b1 : Int32).toNatClampNeg).toInt ≠ 0 → (e0 : Int32).toInt = 1) ∧ (¬ ((0 ≤ (b1 : Int32).toInt ∧ (b1 : Int32).toInt ≤ 1) ∧ (b58 (b1 : Int32).toNatClampNeg).toInt ≠ 0) → (e0 : Int32).toInt = 0)) := by
  refine z_start (by decide +kernel) (Nat.le_of_ble_eq_true rfl) ?_
  intro p e s m below meth c A Z hr hnm hA hP hD hS ls hl
  have Z : zC p s m _ meth c prog_14_method_93_code 3 "TraceMachinesModel" G := Z
  obtain ⟨hx, hb, hml, hown, hts, hK, hN, hlocks⟩ := id Z
  have hl : lv_has ls 3 [(0, .ref b0), (1, .int b1)] := hl
  refine lv_aload_n hx hb d_Model_again_0 rfl (lv_at hl 0 rfl) ?_
  refine lv_iconst (v := 0) hx hb d_Model_again_1 (by decide) ?_
  refine va_put (D := G.1) (ci := 12) (v := .int 0) (ty := .int) (C := R_Model) (T := F_Model) (N := 54) hx hb hts i_Model t_Model t_Model_ok n_Model hown hK hP hD hS 0 rfl rfl 0 (by decide) (hts _ q1109) (fun _ h9 => h9) rfl (by decide +kernel) rfl rfl (Nat.le_of_ble_eq_true rfl) d_Model_again_2 (fun H locs hP hD hS => ?_)
  have hP : va_P G.1 classes [(b0, .inr (12, [.int 0, .ref b3, .ref b4, .ref b5, .ref b6, .int b7, .ref b8, .int b9, .int b10, .int b11, .int b12, .ref b13, .ref b14, .ref b15, .int b16, .ref b17, .ref b18, .ref b19, .ref b20, .ref b21, .ref b22, .ref b23, .ref b24, .ref b25, .ref b26, .ref b27, .ref b28, .int b29, .ref b30, .ref b31, .int b32, .int b33, .int b34, .int b35, .ref b36, .ref b37, .ref b38, .ref b39, .ref b40, .ref b41, .ref b42, .int b43, .ref b44, .ref b45, .int b46, .ref b47, .ref b48, .ref b49, .ref b50, .ref b51, .int b52, .ref b53, .ref b54, .ref b55])), (b3, .inl (G.2 0, 503, .inl b56)), (b4, .inl (G.2 0, 1006, .inl b57)), (b5, .inl (G.2 4, 2, .inl b58))] H := hP
  have hD := z_tie hP hD rfl
  refine lv_iload_n hx hb d_Model_again_5 rfl (lv_at hl 1 rfl) ?_
  refine lv_i2l (v := b1.toInt64) hx hb d_Model_again_6 rfl ?_
  refine lv_lconst (v := 0) hx hb d_Model_again_7 (by decide) ?_
  refine lv_lconst (v := 1) hx hb d_Model_again_8 (by decide) ?_
  refine z_callS (index := 138) (As := [.long b1.toInt64, .long 0, .long 1]) (rest := []) (wr := [(b0, .inr (12, [.int 0, .ref b3, .ref b4, .ref b5, .ref b6, .int b7, .ref b8, .int b9, .int b10, .int b11, .int b12, .ref b13, .ref b14, .ref b15, .int b16, .ref b17, .ref b18, .ref b19, .ref b20, .ref b21, .ref b22, .ref b23, .ref b24, .ref b25, .ref b26, .ref b27, .ref b28, .int b29, .ref b30, .ref b31, .int b32, .int b33, .int b34, .int b35, .ref b36, .ref b37, .ref b38, .ref b39, .ref b40, .ref b41, .ref b42, .int b43, .ref b44, .ref b45, .int b46, .ref b47, .ref b48, .ref b49, .ref b50, .ref b51, .int b52, .ref b53, .ref b54, .ref b55])), (b3, .inl (G.2 0, 503, .inl b56)), (b4, .inl (G.2 0, 1006, .inl b57)), (b5, .inl (G.2 4, 2, .inl b58))]) Z (s2_Model_in l G (b1.toInt64) (0) (1)) hl.1 q1281 q1282 q14 q1283 ⟨by decide, by decide, by show _ = some 3; decide +kernel⟩ ⟨Nat.le_of_ble_eq_true rfl, Nat.le_of_ble_eq_true rfl⟩ ⟨Nat.le_of_ble_eq_true rfl, Nat.le_of_ble_eq_true rfl⟩ rfl (Nat.le_of_ble_eq_true rfl) d_Model_again_9 hP hD hS hA [] [0, 1, 2, 3] rfl rfl rfl rfl (by decide) (fun v w1 H locs hw_1 hP hD hS => ?_)
  rcases hw_1 with ⟨rfl, rfl, hq_2⟩ | ⟨rfl, rfl, hq_3, hq_4⟩ | ⟨rfl, rfl, hq_5, hq_6⟩
  · have hP : va_P G.1 classes [(b0, .inr (12, [.int 0, .ref b3, .ref b4, .ref b5, .ref b6, .int b7, .ref b8, .int b9, .int b10, .int b11, .int b12, .ref b13, .ref b14, .ref b15, .int b16, .ref b17, .ref b18, .ref b19, .ref b20, .ref b21, .ref b22, .ref b23, .ref b24, .ref b25, .ref b26, .ref b27, .ref b28, .int b29, .ref b30, .ref b31, .int b32, .int b33, .int b34, .int b35, .ref b36, .ref b37, .ref b38, .ref b39, .ref b40, .ref b41, .ref b42, .int b43, .ref b44, .ref b45, .int b46, .ref b47, .ref b48, .ref b49, .ref b50, .ref b51, .int b52, .ref b53, .ref b54, .ref b55])), (b3, .inl (G.2 0, 503, .inl b56)), (b4, .inl (G.2 0, 1006, .inl b57)), (b5, .inl (G.2 4, 2, .inl b58))] H := hP
    have hD := z_tie hP hD rfl
    try simp only [Int32.toInt_toInt64, ll_0] at hq_2
    have hv_7 : zI b1 (-2147483648) (-1) := by have _a := hq_2; have _b := (zI_all b1); have _c := zcl_0; simp only [Int32.toInt_toInt64] at *; exact ⟨by omega, by omega⟩
    refine W.widen (k := 0) (n := 0) (Nat.le_of_ble_eq_true rfl) (Nat.le_of_ble_eq_true rfl) ?_
    refine lv_if_eq (tgt := 24) hx hb d_Model_again_12 (by decide) (fun _ => ?_) (fun hc => absurd hc (by decide +kernel))
    refine lv_iconst (v := 0) hx hb d_Model_again_24 (by decide) ?_
    exact z_zret hx hb hr hlocks rfl hP hD hS (Nat.le_of_ble_eq_true rfl) (Nat.le_of_ble_eq_true rfl) d_Model_again_25 ⟨0, b7, b56, rfl, rfl, (zI.wk (l' := 0) (h' := 1) zc_0 (by decide)), hb7, hb56, (by have _l0 := li_0; have _l1 := li_1; intro h9; omega), (by have _l0 := li_0; have _l1 := li_1; intro h9; omega)⟩
  · have hP : va_P G.1 classes [(b0, .inr (12, [.int 0, .ref b3, .ref b4, .ref b5, .ref b6, .int b7, .ref b8, .int b9, .int b10, .int b11, .int b12, .ref b13, .ref b14, .ref b15, .int b16, .ref b17, .ref b18, .ref b19, .ref b20, .ref b21, .ref b22, .ref b23, .ref b24, .ref b25, .ref b26, .ref b27, .ref b28, .int b29, .ref b30, .ref b31, .int b32, .int b33, .int b34, .int b35, .ref b36, .ref b37, .ref b38, .ref b39, .ref b40, .ref b41, .ref b42, .int b43, .ref b44, .ref b45, .int b46, .ref b47, .ref b48, .ref b49, .ref b50, .ref b51, .int b52, .ref b53, .ref b54, .ref b55])), (b3, .inl (G.2 0, 503, .inl b56)), (b4, .inl (G.2 0, 1006, .inl b57)), (b5, .inl (G.2 4, 2, .inl b58))] H := hP
    have hD := z_tie hP hD rfl
    try simp only [Int32.toInt_toInt64, ll_0] at hq_3
    have hv_8 : zI b1 0 2147483647 := by have _a := hq_3; have _b := (zI_all b1); have _c := zcl_0; simp only [Int32.toInt_toInt64] at *; exact ⟨by omega, by omega⟩
    try simp only [Int32.toInt_toInt64, ll_1] at hq_4
    have hv_9 : zI b1 2 2147483647 := by have _a := hq_4; have _b := hv_8; have _c := zcl_1; simp only [Int32.toInt_toInt64] at *; exact ⟨by omega, by omega⟩
    refine W.widen (k := 0) (n := 0) (Nat.le_of_ble_eq_true rfl) (Nat.le_of_ble_eq_true rfl) ?_
    refine lv_if_eq (tgt := 24) hx hb d_Model_again_12 (by decide) (fun _ => ?_) (fun hc => absurd hc (by decide +kernel))
    refine lv_iconst (v := 0) hx hb d_Model_again_24 (by decide) ?_
    exact z_zret hx hb hr hlocks rfl hP hD hS (Nat.le_of_ble_eq_true rfl) (Nat.le_of_ble_eq_true rfl) d_Model_again_25 ⟨0, b7, b56, rfl, rfl, (zI.wk (l' := 0) (h' := 1) zc_0 (by decide)), hb7, hb56, (by have _l0 := li_0; have _l1 := li_1; intro h9; omega), (by have _l0 := li_0; have _l1 := li_1; intro h9; omega)⟩
  · have hP : va_P G.1 classes [(b0, .inr (12, [.int 0, .ref b3, .ref b4, .ref b5, .ref b6, .int b7, .ref b8, .int b9, .int b10, .int b11, .int b12, .ref b13, .ref b14, .ref b15, .int b16, .ref b17, .ref b18, .ref b19, .ref b20, .ref b21, .ref b22, .ref b23, .ref b24, .ref b25, .ref b26, .ref b27, .ref b28, .int b29, .ref b30, .ref b31, .int b32, .int b33, .int b34, .int b35, .ref b36, .ref b37, .ref b38, .ref b39, .ref b40, .ref b41, .ref b42, .int b43, .ref b44, .ref b45, .int b46, .ref b47, .ref b48, .ref b49, .ref b50, .ref b51, .int b52, .ref b53, .ref b54, .ref b55])), (b3, .inl (G.2 0, 503, .inl b56)), (b4, .inl (G.2 0, 1006, .inl b57)), (b5, .inl (G.2 4, 2, .inl b58))] H := hP
    have hD := z_tie hP hD rfl
    try simp only [Int32.toInt_toInt64, ll_0] at hq_5
    have hv_10 : zI b1 0 2147483647 := by have _a := hq_5; have _b := (zI_all b1); have _c := zcl_0; simp only [Int32.toInt_toInt64] at *; exact ⟨by omega, by omega⟩
    try simp only [Int32.toInt_toInt64, ll_1] at hq_6
    have hv_11 : zI b1 0 1 := by have _a := hq_6; have _b := hv_10; have _c := zcl_1; simp only [Int32.toInt_toInt64] at *; exact ⟨by omega, by omega⟩
    refine W.widen (k := 0) (n := 0) (Nat.le_of_ble_eq_true rfl) (Nat.le_of_ble_eq_true rfl) ?_
    refine lv_if_eq (tgt := 24) hx hb d_Model_again_12 (by decide) (fun hc => absurd hc (by decide +kernel)) (fun _ => ?_)
    refine lv_aload_n hx hb d_Model_again_15 rfl (lv_at hl 0 rfl) ?_
    refine va_get (D := G.1) (ci := 12) (v := .ref b5) (C := R_Model) (T := F_Model) (N := 54) hx hb hts i_Model hown hK hP 0 rfl rfl 3 (by decide) (hts _ q1112) (fun _ h9 => h9) rfl d_Model_again_16 ?_
    refine lv_iload_n hx hb d_Model_again_19 rfl (lv_at hl 1 rfl) ?_
    refine va_zald hx hb hK hP 3 4 rfl rfl (zI.inn hv_11 (by decide)) d_Model_again_20 ?_
    refine lv_topi (fun v_12 ev_12 => ?_)
    refine lv_if_ne (tgt := 26) hx hb d_Model_again_21 (by decide) (fun hc_13 => ?_) (fun hc_13 => ?_)
    · have _nhc_13 := hc_13
      have ni_14 : ¬ (v_12 : Int32).toInt = (0 : Int32).toInt := fun z => hc_13 ((fa_eq _ _).mpr z)
      simp only [li_0] at ni_14
      refine lv_iconst (v := 0) hx hb d_Model_again_26 (by decide) ?_
      refine lv_istore_n (lv' := [(2, .int 0), (0, .ref b0), (1, .int b1)]) hx hb d_Model_again_27 rfl hl (by decide) rfl (fun ls hl => ?_)
      suffices key : ∀ (k_27 : Nat) (y_28 : Int32) (y_29 : Nat → Int32) (H : Heap) (locs : List Loc) (ls : Array Slot), (zI y_28 0 503) → (zW5 y_29) → (503 : Int) - y_28.toInt < (k_27 : Int) → va_P G.1 classes [(b0, .inr (12, [.int 0, .ref b3, .ref b4, .ref b5, .ref b6, .int b7, .ref b8, .int b9, .int b10, .int b11, .int b12, .ref b13, .ref b14, .ref b15, .int b16, .ref b17, .ref b18, .ref b19, .ref b20, .ref b21, .ref b22, .ref b23, .ref b24, .ref b25, .ref b26, .ref b27, .ref b28, .int b29, .ref b30, .ref b31, .int b32, .int b33, .int b34, .int b35, .ref b36, .ref b37, .ref b38, .ref b39, .ref b40, .ref b41, .ref b42, .int b43, .ref b44, .ref b45, .int b46, .ref b47, .ref b48, .ref b49, .ref b50, .ref b51, .int b52, .ref b53, .ref b54, .ref b55])), (b3, .inl (G.2 0, 503, .inl y_29)), (b4, .inl (G.2 0, 1006, .inl b57)), (b5, .inl (G.2 4, 2, .inl b58))] H → va_D A [(b0, .inr (12, [.int 0, .ref b3, .ref b4, .ref b5, .ref b6, .int b7, .ref b8, .int b9, .int b10, .int b11, .int b12, .ref b13, .ref b14, .ref b15, .int b16, .ref b17, .ref b18, .ref b19, .ref b20, .ref b21, .ref b22, .ref b23, .ref b24, .ref b25, .ref b26, .ref b27, .ref b28, .int b29, .ref b30, .ref b31, .int b32, .int b33, .int b34, .int b35, .ref b36, .ref b37, .ref b38, .ref b39, .ref b40, .ref b41, .ref b42, .int b43, .ref b44, .ref b45, .int b46, .ref b47, .ref b48, .ref b49, .ref b50, .ref b51, .int b52, .ref b53, .ref b54, .ref b55])), (b3, .inl (G.2 0, 503, .inl y_29)), (b4, .inl (G.2 0, 1006, .inl b57)), (b5, .inl (G.2 4, 2, .inl b58))] → va_S A s.heap H locs → lv_has ls 3 [(2, .int y_28), (0, .ref b0), (1, .int b1)] → W p l e m_s1_Model_again s m ([.ref b0, .int b1] : List Value).toArray below meth c H locs 0 0 (MQ below (zQ G (fun v w => ∃ (e0 : Int32), ∃ (e1 : Int32), ∃ (e2 : Nat → Int32), v = some (.int e0) ∧ w = [(b0, .inr (12, [.int 0, .ref b3, .ref b4, .ref b5, .ref b6, .int e1, .ref b8, .int b9, .int b10, .int b11, .int b12, .ref b13, .ref b14, .ref b15, .int b16, .ref b17, .ref b18, .ref b19, .ref b20, .ref b21, .ref b22, .ref b23, .ref b24, .ref b25, .ref b26, .ref b27, .ref b28, .int b29, .ref b30, .ref b31, .int b32, .int b33, .int b34, .int b35, .ref b36, .ref b37, .ref b38, .ref b39, .ref b40, .ref b41, .ref b42, .int b43, .ref b44, .ref b45, .int b46, .ref b47, .ref b48, .ref b49, .ref b50, .ref b51, .int b52, .ref b53, .ref b54, .ref b55])), (b3, .inl (G.2 0, 503, .inl e2)), (b4, .inl (G.2 0, 1006, .inl b57)), (b5, .inl (G.2 4, 2, .inl b58))] ∧ (zI e0 0 1) ∧ (zI e1 0 8) ∧ (zW5 e2) ∧ ((0 ≤ (b1 : Int32).toInt ∧ (b1 : Int32).toInt ≤ 1) ∧ (b58 (b1 : Int32).toNatClampNeg).toInt ≠ 0 → (e0 : Int32).toInt = 1) ∧ (¬ ((0 ≤ (b1 : Int32).toInt ∧ (b1 : Int32).toInt ≤ 1) ∧ (b58 (b1 : Int32).toNatClampNeg).toInt ≠ 0) → (e0 : Int32).toInt = 0)) A) ([.ref b0, .int b1] : List Value).toArray s m_s1_Model_again.cells m_s1_Model_again.slots A) (F0 m 28 ls []) by
        exact key 504 (0) (b56) _ _ _ (zI.wk (l' := 0) (h' := 503) zc_0 (by decide)) hb56 (zm_upi (zI.wk (l' := 0) (h' := 503) zc_0 (by decide)) (by decide)) hP hD hS (lv_sub hl [0, 1, 2] rfl)
      intro k_27
      induction k_27 with
      | zero =>
        intro y_28 y_29 H locs ls hy_28 hy_29 hmk_27 hP hD hS hl
        exact (zm_up0 hy_28 hmk_27).elim
      | succ k_27 ihk_27 =>
        intro y_28 y_29 H locs ls hy_28 hy_29 hmk_27 hP hD hS hl
        refine lv_iload_n hx hb d_Model_again_28 rfl (lv_at hl 0 rfl) ?_
        refine lv_sipush (v := 503) hx hb d_Model_again_29 (by decide) ?_
        refine lv_icmp_ge (tgt := 59) hx hb d_Model_again_32 (by decide) (fun hc_30 => ?_) (fun hc_30 => ?_)
        · have _nhc_30 := hc_30
          have ni_31 := (fa_le _ _).mp hc_30
          rw [li_503] at ni_31
          have hv_32 : zI y_28 503 503 := zI.le_r zc_503 hy_28 hc_30 (by decide)
          refine lv_aload_n hx hb d_Model_again_59 rfl (lv_at hl 1 rfl) ?_
          refine lv_iconst (v := 0) hx hb d_Model_again_60 (by decide) ?_
          refine va_put (D := G.1) (ci := 12) (v := .int 0) (ty := .int) (C := R_Model) (T := F_Model) (N := 54) hx hb hts i_Model t_Model t_Model_ok n_Model hown hK hP hD hS 0 rfl rfl 5 (by decide) (hts _ q1114) (fun _ h9 => h9) rfl (by decide +kernel) rfl rfl (Nat.le_of_ble_eq_true rfl) d_Model_again_61 (fun H locs hP hD hS => ?_)
          have hP : va_P G.1 classes [(b0, .inr (12, [.int 0, .ref b3, .ref b4, .ref b5, .ref b6, .int 0, .ref b8, .int b9, .int b10, .int b11, .int b12, .ref b13, .ref b14, .ref b15, .int b16, .ref b17, .ref b18, .ref b19, .ref b20, .ref b21, .ref b22, .ref b23, .ref b24, .ref b25, .ref b26, .ref b27, .ref b28, .int b29, .ref b30, .ref b31, .int b32, .int b33, .int b34, .int b35, .ref b36, .ref b37, .ref b38, .ref b39, .ref b40, .ref b41, .ref b42, .int b43, .ref b44, .ref b45, .int b46, .ref b47, .ref b48, .ref b49, .ref b50, .ref b51, .int b52, .ref b53, .ref b54, .ref b55])), (b3, .inl (G.2 0, 503, .inl y_29)), (b4, .inl (G.2 0, 1006, .inl b57)), (b5, .inl (G.2 4, 2, .inl b58))] H := hP
          have hD := z_tie hP hD rfl
          refine lv_iconst (v := 1) hx hb d_Model_again_64 (by decide) ?_
          exact z_zret hx hb hr hlocks rfl hP hD hS (Nat.le_of_ble_eq_true rfl) (Nat.le_of_ble_eq_true rfl) d_Model_again_65 ⟨1, 0, y_29, rfl, rfl, (zI.wk (l' := 0) (h' := 1) zc_1 (by decide)), (zI.wk (l' := 0) (h' := 8) zc_0 (by decide)), hy_29, (by have _l0 := li_0; have _l1 := li_1; have h8 : v_12.toInt = (b58 (b1 : Int32).toNatClampNeg).toInt := (by rw [ev_12]); intro h9; omega), (by have _l0 := li_0; have _l1 := li_1; have h8 : v_12.toInt = (b58 (b1 : Int32).toNatClampNeg).toInt := (by rw [ev_12]); intro h9; omega)⟩
        · have _nhc_30 := hc_30
          have ni_33 := (fa_lt _ _).mp (zi_nle hc_30)
          rw [li_503] at ni_33
          have hv_34 : zI y_28 0 502 := zI.lt_l hy_28 zc_503 (zi_nle hc_30) (by decide)
          refine lv_aload_n hx hb d_Model_again_35 rfl (lv_at hl 1 rfl) ?_
          refine va_get (D := G.1) (ci := 12) (v := .ref b3) (C := R_Model) (T := F_Model) (N := 54) hx hb hts i_Model hown hK hP 0 rfl rfl 1 (by decide) (hts _ q1110) (fun _ h9 => h9) rfl d_Model_again_36 ?_
          refine lv_iload_n hx hb d_Model_again_39 rfl (lv_at hl 0 rfl) ?_
          refine lv_aload_n hx hb d_Model_again_40 rfl (lv_at hl 1 rfl) ?_
          refine va_get (D := G.1) (ci := 12) (v := .ref b4) (C := R_Model) (T := F_Model) (N := 54) hx hb hts i_Model hown hK hP 0 rfl rfl 2 (by decide) (hts _ q1111) (fun _ h9 => h9) rfl d_Model_again_41 ?_
          refine lv_sipush (v := 503) hx hb d_Model_again_44 (by decide) ?_
          refine lv_iload_n hx hb d_Model_again_47 rfl (lv_at hl 2 rfl) ?_
          refine lv_imul hx hb d_Model_again_48 ?_
          refine lv_topi (fun v_35 ev_35 => ?_)
          obtain ⟨qv_35, hv_35⟩ := zI_mul (l := 0) (h := 503) zc_503 hv_11 ev_35 (by decide)
          rw [li_503] at qv_35
          refine lv_iload_n hx hb d_Model_again_49 rfl (lv_at hl 0 rfl) ?_
          refine lv_iadd hx hb d_Model_again_50 ?_
          refine lv_topi (fun v_36 ev_36 => ?_)
          obtain ⟨qv_36, hv_36⟩ := zI_add (l := 0) (h := 1005) hv_35 hv_34 ev_36 (by decide)
          refine va_iald hx hb hK hP 2 0 rfl rfl (zI.inn hv_36 (by decide)) d_Model_again_51 ?_
          refine lv_topi (fun v_37 ev_37 => ?_)
          refine va_iast hx hb hK hP hD hS 1 0 rfl rfl (zI.inn hv_34 (by decide)) d_Model_again_52 (fun H locs hP hD hS => ?_)
          obtain ⟨f_38, hf_38, gf_38, uf_38, hP, hD⟩ := z_newfw 1 hP hD rfl hy_29 (zRk_s hb57 ev_37 hv_36 hv_34 (by decide) (by omega))
          have hP : va_P G.1 classes [(b0, .inr (12, [.int 0, .ref b3, .ref b4, .ref b5, .ref b6, .int b7, .ref b8, .int b9, .int b10, .int b11, .int b12, .ref b13, .ref b14, .ref b15, .int b16, .ref b17, .ref b18, .ref b19, .ref b20, .ref b21, .ref b22, .ref b23, .ref b24, .ref b25, .ref b26, .ref b27, .ref b28, .int b29, .ref b30, .ref b31, .int b32, .int b33, .int b34, .int b35, .ref b36, .ref b37, .ref b38, .ref b39, .ref b40, .ref b41, .ref b42, .int b43, .ref b44, .ref b45, .int b46, .ref b47, .ref b48, .ref b49, .ref b50, .ref b51, .int b52, .ref b53, .ref b54, .ref b55])), (b3, .inl (G.2 0, 503, .inl f_38)), (b4, .inl (G.2 0, 1006, .inl b57)), (b5, .inl (G.2 4, 2, .inl b58))] H := hP
          have hD := z_tie hP hD rfl
          obtain ⟨v_39, ev_39⟩ : ∃ z : Int32, z = y_28 + 1 := ⟨_, rfl⟩
          obtain ⟨qv_39, hv_39⟩ := zI_add (l := 1) (h := 503) hv_34 zc_1 ev_39 (by decide)
          rw [li_1] at qv_39
          refine lv_iinc (v := v_39) (lv' := [(2, .int v_39), (0, .ref b0), (1, .int b1)]) hx hb d_Model_again_53 hl (k := 0) rfl (by rw [ev_39]; rfl) (by decide) rfl (fun ls hl => ?_)
          refine lv_goto (tgt := 28) hx hb d_Model_again_56 (by decide) ?_
          exact ihk_27 (v_39) (f_38) _ _ _ (zI.wk (l' := 0) (h' := 503) hv_39 (by decide)) hf_38 (zm_up qv_39 hmk_27 (by decide)) hP hD hS (lv_sub hl [0, 1, 2] rfl)
    · have _nhc_13 := hc_13
      have ni_40 := (fa_eq _ _).mp hc_13
      rw [li_0] at ni_40
      have hv_41 : zI v_12 0 0 := zI.eq_l (zI_all v_12) zc_0 hc_13
      refine lv_iconst (v := 0) hx hb d_Model_again_24 (by decide) ?_
      exact z_zret hx hb hr hlocks rfl hP hD hS (Nat.le_of_ble_eq_true rfl) (Nat.le_of_ble_eq_true rfl) d_Model_again_25 ⟨0, b7, b56, rfl, rfl, (zI.wk (l' := 0) (h' := 1) zc_0 (by decide)), hb7, hb56, (by have _l0 := li_0; have _l1 := li_1; have h8 : v_12.toInt = (b58 (b1 : Int32).toNatClampNeg).toInt := (by rw [ev_12]); intro h9; omega), (by have _l0 := li_0; have _l1 := li_1; have h8 : v_12.toInt = (b58 (b1 : Int32).toNatClampNeg).toInt := (by rw [ev_12]); intro h9; omega)⟩
theorem d_Model_rule_0 : decode prog_14_method_80_code 0 = .ok (.aload_n 0, 1) := by decide +kernel
theorem d_Model_rule_1 : decode prog_14_method_80_code 1 = .ok (.iconst 0, 1) := by decide +kernel
theorem d_Model_rule_2 : decode prog_14_method_80_code 2 = .ok (.putfield 1, 3) := by decide +kernel
theorem d_Model_rule_5 : decode prog_14_method_80_code 5 = .ok (.iload_n 1, 1) := by decide +kernel
theorem d_Model_rule_6 : decode prog_14_method_80_code 6 = .ok (.i2l, 1) := by decide +kernel
theorem d_Model_rule_7 : decode prog_14_method_80_code 7 = .ok (.lconst 0, 1) := by decide +kernel
theorem d_Model_rule_8 : decode prog_14_method_80_code 8 = .ok (.ldc2_w 263, 3) := by decide +kernel
theorem d_Model_rule_11 : decode prog_14_method_80_code 11 = .ok (.invokestatic 138, 3) := by decide +kernel
theorem d_Model_rule_14 : decode prog_14_method_80_code 14 = .ok (.ifCond .eq 33, 3) := by decide +kernel
theorem d_Model_rule_17 : decode prog_14_method_80_code 17 = .ok (.iload_n 2, 1) := by decide +kernel
theorem d_Model_rule_18 : decode prog_14_method_80_code 18 = .ok (.invokestatic 391, 3) := by decide +kernel
theorem d_Model_rule_21 : decode prog_14_method_80_code 21 = .ok (.ifCond .eq 26, 3) := by decide +kernel
theorem d_Model_rule_24 : decode prog_14_method_80_code 24 = .ok (.iload_n 3, 1) := by decide +kernel
theorem d_Model_rule_25 : decode prog_14_method_80_code 25 = .ok (.invokestatic 391, 3) := by decide +kernel
theorem d_Model_rule_28 : decode prog_14_method_80_code 28 = .ok (.ifCond .eq 19, 3) := by decide +kernel
theorem d_Model_rule_31 : decode prog_14_method_80_code 31 = .ok (.iload_n 2, 1) := by decide +kernel
theorem d_Model_rule_32 : decode prog_14_method_80_code 32 = .ok (.iload_n 3, 1) := by decide +kernel
theorem d_Model_rule_33 : decode prog_14_method_80_code 33 = .ok (.if_icmp .eq 14, 3) := by decide +kernel
theorem d_Model_rule_36 : decode prog_14_method_80_code 36 = .ok (.iload 4, 2) := by decide +kernel
theorem d_Model_rule_38 : decode prog_14_method_80_code 38 = .ok (.i2l, 1) := by decide +kernel
theorem d_Model_rule_39 : decode prog_14_method_80_code 39 = .ok (.lconst 0, 1) := by decide +kernel
theorem d_Model_rule_40 : decode prog_14_method_80_code 40 = .ok (.lconst 1, 1) := by decide +kernel
theorem d_Model_rule_41 : decode prog_14_method_80_code 41 = .ok (.invokestatic 138, 3) := by decide +kernel
theorem d_Model_rule_44 : decode prog_14_method_80_code 44 = .ok (.ifCond .ne 5, 3) := by decide +kernel
theorem d_Model_rule_47 : decode prog_14_method_80_code 47 = .ok (.iconst (-1), 1) := by decide +kernel
theorem d_Model_rule_48 : decode prog_14_method_80_code 48 = .ok (.ireturn, 1) := by decide +kernel
theorem d_Model_rule_49 : decode prog_14_method_80_code 49 = .ok (.aload_n 0, 1) := by decide +kernel
theorem d_Model_rule_50 : decode prog_14_method_80_code 50 = .ok (.iload_n 1, 1) := by decide +kernel
theorem d_Model_rule_51 : decode prog_14_method_80_code 51 = .ok (.iload_n 2, 1) := by decide +kernel
theorem d_Model_rule_52 : decode prog_14_method_80_code 52 = .ok (.iload_n 3, 1) := by decide +kernel
theorem d_Model_rule_53 : decode prog_14_method_80_code 53 = .ok (.iload 4, 2) := by decide +kernel
theorem d_Model_rule_55 : decode prog_14_method_80_code 55 = .ok (.iconst 1, 1) := by decide +kernel
theorem d_Model_rule_56 : decode prog_14_method_80_code 56 = .ok (.if_icmp .ne 7, 3) := by decide +kernel
theorem d_Model_rule_59 : decode prog_14_method_80_code 59 = .ok (.iconst 1, 1) := by decide +kernel
theorem d_Model_rule_60 : decode prog_14_method_80_code 60 = .ok (.goto 4, 3) := by decide +kernel
theorem d_Model_rule_63 : decode prog_14_method_80_code 63 = .ok (.iconst 0, 1) := by decide +kernel
theorem d_Model_rule_64 : decode prog_14_method_80_code 64 = .ok (.invokevirtual 394, 3) := by decide +kernel
theorem d_Model_isLetter_0 : decode prog_14_method_79_code 0 = .ok (.iload_n 0, 1) := by decide +kernel
theorem d_Model_isLetter_1 : decode prog_14_method_79_code 1 = .ok (.i2l, 1) := by decide +kernel
theorem d_Model_isLetter_2 : decode prog_14_method_79_code 2 = .ok (.lconst 0, 1) := by decide +kernel
theorem d_Model_isLetter_3 : decode prog_14_method_79_code 3 = .ok (.ldc2_w 389, 3) := by decide +kernel
theorem d_Model_isLetter_6 : decode prog_14_method_79_code 6 = .ok (.invokestatic 138, 3) := by decide +kernel
theorem d_Model_isLetter_9 : decode prog_14_method_79_code 9 = .ok (.ireturn, 1) := by decide +kernel
theorem ll_5 : (5 : Int64).toInt = 5 := by decide +kernel
theorem zcl_5 : zJ 5 5 5 := ⟨by decide +kernel, by decide +kernel⟩
theorem ll_9 : (9 : Int64).toInt = 9 := by decide +kernel
theorem zcl_9 : zJ 9 9 9 := ⟨by decide +kernel, by decide +kernel⟩
abbrev m_s2_Model_isLetter : Room := { frames := 1, cells := 0, slots := 0, locals := 25 }
set_option maxHeartbeats 4000000 in
set_option maxRecDepth 100000 in
theorem s2_Model_isLetter (l : Launch) (G : zG) (b0 : Int32)  : zM l G y_Model_isLetter prog_14_method_79_code 1 (Option.some Jvm.ClassFile.FieldType.boolean) m_s2_Model_isLetter [.int b0] [] (fun v w => ∃ (e0 : Int32), v = some (.int e0) ∧ w = [] ∧ (zI e0 0 1)) := by
  refine z_start (by decide +kernel) (Nat.le_of_ble_eq_true rfl) ?_
  intro p e s m below meth c A Z hr hnm hA hP hD hS ls hl
  have Z : zC p s m _ meth c prog_14_method_79_code 1 "TraceMachinesModel" G := Z
  obtain ⟨hx, hb, hml, hown, hts, hK, hN, hlocks⟩ := id Z
  have hl : lv_has ls 1 [(0, .int b0)] := hl
  refine lv_iload_n hx hb d_Model_isLetter_0 rfl (lv_at hl 0 rfl) ?_
  refine lv_i2l (v := b0.toInt64) hx hb d_Model_isLetter_1 rfl ?_
  refine lv_lconst (v := 0) hx hb d_Model_isLetter_2 (by decide) ?_
  refine lv_ldc2 hx hb hown (hts _ q1552) d_Model_isLetter_3 ?_
  refine z_callS (index := 138) (As := [.long b0.toInt64, .long 0, .long 9]) (rest := []) (wr := []) Z (s2_Model_in l G (b0.toInt64) (0) (9)) hl.1 q1281 q1282 q14 q1283 ⟨by decide, by decide, by show _ = some 3; decide +kernel⟩ ⟨Nat.le_of_ble_eq_true rfl, Nat.le_of_ble_eq_true rfl⟩ ⟨Nat.le_of_ble_eq_true rfl, Nat.le_of_ble_eq_true rfl⟩ rfl (Nat.le_of_ble_eq_true rfl) d_Model_isLetter_6 hP hD hS hA [] [] rfl rfl rfl rfl (by decide) (fun v w1 H locs hw_1 hP hD hS => ?_)
  rcases hw_1 with ⟨rfl, rfl, hq_2⟩ | ⟨rfl, rfl, hq_3, hq_4⟩ | ⟨rfl, rfl, hq_5, hq_6⟩
  · have hP : va_P G.1 classes [] H := hP
    have hD := z_tie hP hD rfl
    try simp only [Int32.toInt_toInt64, ll_0] at hq_2
    have hv_7 : zI b0 (-2147483648) (-1) := by have _a := hq_2; have _b := (zI_all b0); have _c := zcl_0; simp only [Int32.toInt_toInt64] at *; exact ⟨by omega, by omega⟩
    refine W.widen (k := 0) (n := 0) (Nat.le_of_ble_eq_true rfl) (Nat.le_of_ble_eq_true rfl) ?_
    exact z_zret hx hb hr hlocks rfl hP hD hS (Nat.le_of_ble_eq_true rfl) (Nat.le_of_ble_eq_true rfl) d_Model_isLetter_9 ⟨0, rfl, rfl, (zI.wk (l' := 0) (h' := 1) zc_0 (by decide))⟩
  · have hP : va_P G.1 classes [] H := hP
    have hD := z_tie hP hD rfl
    try simp only [Int32.toInt_toInt64, ll_0] at hq_3
    have hv_8 : zI b0 0 2147483647 := by have _a := hq_3; have _b := (zI_all b0); have _c := zcl_0; simp only [Int32.toInt_toInt64] at *; exact ⟨by omega, by omega⟩
    try simp only [Int32.toInt_toInt64, ll_9] at hq_4
    have hv_9 : zI b0 10 2147483647 := by have _a := hq_4; have _b := hv_8; have _c := zcl_9; simp only [Int32.toInt_toInt64] at *; exact ⟨by omega, by omega⟩
    refine W.widen (k := 0) (n := 0) (Nat.le_of_ble_eq_true rfl) (Nat.le_of_ble_eq_true rfl) ?_
    exact z_zret hx hb hr hlocks rfl hP hD hS (Nat.le_of_ble_eq_true rfl) (Nat.le_of_ble_eq_true rfl) d_Model_isLetter_9 ⟨0, rfl, rfl, (zI.wk (l' := 0) (h' := 1) zc_0 (by decide))⟩
  · have hP : va_P G.1 classes [] H := hP
    have hD := z_tie hP hD rfl
    try simp only [Int32.toInt_toInt64, ll_0] at hq_5
    have hv_10 : zI b0 0 2147483647 := by have _a := hq_5; have _b := (zI_all b0); have _c := zcl_0; simp only [Int32.toInt_toInt64] at *; exact ⟨by omega, by omega⟩
    try simp only [Int32.toInt_toInt64, ll_9] at hq_6
    have hv_11 : zI b0 0 9 := by have _a := hq_6; have _b := hv_10; have _c := zcl_9; simp only [Int32.toInt_toInt64] at *; exact ⟨by omega, by omega⟩
    refine W.widen (k := 0) (n := 0) (Nat.le_of_ble_eq_true rfl) (Nat.le_of_ble_eq_true rfl) ?_
    exact z_zret hx hb hr hlocks rfl hP hD hS (Nat.le_of_ble_eq_true rfl) (Nat.le_of_ble_eq_true rfl) d_Model_isLetter_9 ⟨1, rfl, rfl, (zI.wk (l' := 0) (h' := 1) zc_1 (by decide))⟩
theorem d_Model_rule_67 : decode prog_14_method_80_code 67 = .ok (.ireturn, 1) := by decide +kernel
abbrev m_s1_Model_rule : Room := { frames := 4, cells := 0, slots := 0, locals := 99 }
set_option maxHeartbeats 4000000 in
set_option maxRecDepth 100000 in
theorem s1_Model_rule (l : Launch) (G : zG) (b0 : Nat) (b1 : Int32) (b2 : Int32) (b3 : Int32) (b4 : Int32) (b5 : Int32) (b6 : Nat) (b7 : Nat) (b8 : Nat) (b9 : Nat) (b10 : Int32) (b11 : Nat) (b12 : Int32) (b13 : Int32) (b14 : Int32) (b15 : Int32) (b16 : Nat) (b17 : Nat) (b18 : Nat) (b19 : Int32) (b20 : Nat) (b21 : Nat) (b22 : Nat) (b23 : Nat) (b24 : Nat) (b25 : Nat) (b26 : Nat) (b27 : Nat) (b28 : Nat) (b29 : Nat) (b30 : Nat) (b31 : Nat) (b32 : Int32) (b33 : Nat) (b34 : Nat) (b35 : Int32) (b36 : Int32) (b37 : Int32) (b38 : Int32) (b39 : Nat) (b40 : Nat) (b41 : Nat) (b42 : Nat) (b43 : Nat) (b44 : Nat) (b45 : Nat) (b46 : Int32) (b47 : Nat) (b48 : Nat) (b49 : Int32) (b50 : Nat) (b51 : Nat) (b52 : Nat) (b53 : Nat) (b54 : Nat) (b55 : Int32) (b56 : Nat) (b57 : Nat) (b58 : Nat) (b59 : Nat → Int32) (hb10 : zI b10 0 8) (hb12 : zI b12 0 240) (hb13 : zI b13 0 240) (hb15 : zI b15 0 1) (hb19 : zI b19 0 12) (hb32 : zI b32 0 1) (hb35 : zI b35 0 1) (hb46 : zI b46 0 1000) (hb49 : zI b49 0 1000) (hb55 : zI b55 0 400) (hb59 : zW5 b59) : zM l G y_Model_rule prog_14_method_80_code 5 (Option.some Jvm.ClassFile.FieldType.int) m_s1_Model_rule [.ref b0, .int b1, .int b2, .int b3, .int b4] [(b0, .inr (12, [.int b5, .ref b6, .ref b7, .ref b8, .ref b9, .int b10, .ref b11, .int b12, .int b13, .int b14, .int b15, .ref b16, .ref b17, .ref b18, .int b19, .ref b20, .ref b21, .ref b22, .ref b23, .ref b24, .ref b25, .ref b26, .ref b27, .ref b28, .ref b29, .ref b30, .ref b31, .int b32, .ref b33, .ref b34, .int b35, .int b36, .int b37, .int b38, .ref b39, .ref b40, .ref b41, .ref b42, .ref b43, .ref b44, .ref b45, .int b46, .ref b47, .ref b48, .int b49, .ref b50, .ref b51, .ref b52, .ref b53, .ref b54, .int b55, .ref b56, .ref b57, .ref b58])), (b6, .inl (G.2 0, 503, .inl b59))] (fun v w => ∃ (e0 : Int32), v = some (.int e0) ∧ w = [(b0, .inr (12, [.int 0, .ref b6, .ref b7, .ref b8, .ref b9, .int b10, .ref b11, .int b12, .int b13, .int b14, .int b15, .ref b16, .ref b17, .ref b18, .int b19, .ref b20, .ref b21, .ref b22, .ref b23, .ref b24, .ref b25, .ref b26, .ref b27, .ref b28, .ref b29, .ref b30, .ref b31, .int b32, .ref b33, .ref b34, .int b35, .int b36, .int b37, .int b38, .ref b39, .ref b40, .ref b41, .ref b42, .ref b43, .ref b44, .ref b45, .int b46, .ref b47, .ref b48, .int b49, .ref b50, .ref b51, .ref b52, .ref b53, .ref b54, .int b55, .ref b56, .ref b57, .ref b58])), (b6, .inl (G.2 0, 503, .inl b59))]) := by
  refine z_start (by decide +kernel) (Nat.le_of_ble_eq_true rfl) ?_
  intro p e s m below meth c A Z hr hnm hA hP hD hS ls hl
  have Z : zC p s m _ meth c prog_14_method_80_code 5 "TraceMachinesModel" G := Z
  obtain ⟨hx, hb, hml, hown, hts, hK, hN, hlocks⟩ := id Z
  have hl : lv_has ls 5 [(0, .ref b0), (1, .int b1), (2, .int b2), (3, .int b3), (4, .int b4)] := hl
  refine lv_aload_n hx hb d_Model_rule_0 rfl (lv_at hl 0 rfl) ?_
  refine lv_iconst (v := 0) hx hb d_Model_rule_1 (by decide) ?_
  refine va_put (D := G.1) (ci := 12) (v := .int 0) (ty := .int) (C := R_Model) (T := F_Model) (N := 54) hx hb hts i_Model t_Model t_Model_ok n_Model hown hK hP hD hS 0 rfl rfl 0 (by decide) (hts _ q1109) (fun _ h9 => h9) rfl (by decide +kernel) rfl rfl (Nat.le_of_ble_eq_true rfl) d_Model_rule_2 (fun H locs hP hD hS => ?_)
  have hP : va_P G.1 classes [(b0, .inr (12, [.int 0, .ref b6, .ref b7, .ref b8, .ref b9, .int b10, .ref b11, .int b12, .int b13, .int b14, .int b15, .ref b16, .ref b17, .ref b18, .int b19, .ref b20, .ref b21, .ref b22, .ref b23, .ref b24, .ref b25, .ref b26, .ref b27, .ref b28, .ref b29, .ref b30, .ref b31, .int b32, .ref b33, .ref b34, .int b35, .int b36, .int b37, .int b38, .ref b39, .ref b40, .ref b41, .ref b42, .ref b43, .ref b44, .ref b45, .int b46, .ref b47, .ref b48, .int b49, .ref b50, .ref b51, .ref b52, .ref b53, .ref b54, .int b55, .ref b56, .ref b57, .ref b58])), (b6, .inl (G.2 0, 503, .inl b59))] H := hP
  have hD := z_tie hP hD rfl
  refine lv_iload_n hx hb d_Model_rule_5 rfl (lv_at hl 1 rfl) ?_
  refine lv_i2l (v := b1.toInt64) hx hb d_Model_rule_6 rfl ?_
  refine lv_lconst (v := 0) hx hb d_Model_rule_7 (by decide) ?_
  refine lv_ldc2 hx hb hown (hts _ q1432) d_Model_rule_8 ?_
  refine z_callS (index := 138) (As := [.long b1.toInt64, .long 0, .long 5]) (rest := []) (wr := [(b0, .inr (12, [.int 0, .ref b6, .ref b7, .ref b8, .ref b9, .int b10, .ref b11, .int b12, .int b13, .int b14, .int b15, .ref b16, .ref b17, .ref b18, .int b19, .ref b20, .ref b21, .ref b22, .ref b23, .ref b24, .ref b25, .ref b26, .ref b27, .ref b28, .ref b29, .ref b30, .ref b31, .int b32, .ref b33, .ref b34, .int b35, .int b36, .int b37, .int b38, .ref b39, .ref b40, .ref b41, .ref b42, .ref b43, .ref b44, .ref b45, .int b46, .ref b47, .ref b48, .int b49, .ref b50, .ref b51, .ref b52, .ref b53, .ref b54, .int b55, .ref b56, .ref b57, .ref b58])), (b6, .inl (G.2 0, 503, .inl b59))]) Z (s2_Model_in l G (b1.toInt64) (0) (5)) hl.1 q1281 q1282 q14 q1283 ⟨by decide, by decide, by show _ = some 3; decide +kernel⟩ ⟨Nat.le_of_ble_eq_true rfl, Nat.le_of_ble_eq_true rfl⟩ ⟨Nat.le_of_ble_eq_true rfl, Nat.le_of_ble_eq_true rfl⟩ rfl (Nat.le_of_ble_eq_true rfl) d_Model_rule_11 hP hD hS hA [] [0, 1] rfl rfl rfl rfl (by decide) (fun v w1 H locs hw_1 hP hD hS => ?_)
  rcases hw_1 with ⟨rfl, rfl, hq_2⟩ | ⟨rfl, rfl, hq_3, hq_4⟩ | ⟨rfl, rfl, hq_5, hq_6⟩
  · have hP : va_P G.1 classes [(b0, .inr (12, [.int 0, .ref b6, .ref b7, .ref b8, .ref b9, .int b10, .ref b11, .int b12, .int b13, .int b14, .int b15, .ref b16, .ref b17, .ref b18, .int b19, .ref b20, .ref b21, .ref b22, .ref b23, .ref b24, .ref b25, .ref b26, .ref b27, .ref b28, .ref b29, .ref b30, .ref b31, .int b32, .ref b33, .ref b34, .int b35, .int b36, .int b37, .int b38, .ref b39, .ref b40, .ref b41, .ref b42, .ref b43, .ref b44, .ref b45, .int b46, .ref b47, .ref b48, .int b49, .ref b50, .ref b51, .ref b52, .ref b53, .ref b54, .int b55, .ref b56, .ref b57, .ref b58])), (b6, .inl (G.2 0, 503, .inl b59))] H := hP
    have hD := z_tie hP hD rfl
    try simp only [Int32.toInt_toInt64, ll_0] at hq_2
    have hv_7 : zI b1 (-2147483648) (-1) := by have _a := hq_2; have _b := (zI_all b1); have _c := zcl_0; simp only [Int32.toInt_toInt64] at *; exact ⟨by omega, by omega⟩
    refine W.widen (k := 0) (n := 0) (Nat.le_of_ble_eq_true rfl) (Nat.le_of_ble_eq_true rfl) ?_
    refine lv_if_eq (tgt := 47) hx hb d_Model_rule_14 (by decide) (fun _ => ?_) (fun hc => absurd hc (by decide +kernel))
    refine lv_iconst (v := (-1)) hx hb d_Model_rule_47 (by decide) ?_
    exact z_iret hx hb hr hlocks hP hD hS (Nat.le_of_ble_eq_true rfl) (Nat.le_of_ble_eq_true rfl) d_Model_rule_48 ⟨(-1), rfl, rfl⟩
  · have hP : va_P G.1 classes [(b0, .inr (12, [.int 0, .ref b6, .ref b7, .ref b8, .ref b9, .int b10, .ref b11, .int b12, .int b13, .int b14, .int b15, .ref b16, .ref b17, .ref b18, .int b19, .ref b20, .ref b21, .ref b22, .ref b23, .ref b24, .ref b25, .ref b26, .ref b27, .ref b28, .ref b29, .ref b30, .ref b31, .int b32, .ref b33, .ref b34, .int b35, .int b36, .int b37, .int b38, .ref b39, .ref b40, .ref b41, .ref b42, .ref b43, .ref b44, .ref b45, .int b46, .ref b47, .ref b48, .int b49, .ref b50, .ref b51, .ref b52, .ref b53, .ref b54, .int b55, .ref b56, .ref b57, .ref b58])), (b6, .inl (G.2 0, 503, .inl b59))] H := hP
    have hD := z_tie hP hD rfl
    try simp only [Int32.toInt_toInt64, ll_0] at hq_3
    have hv_8 : zI b1 0 2147483647 := by have _a := hq_3; have _b := (zI_all b1); have _c := zcl_0; simp only [Int32.toInt_toInt64] at *; exact ⟨by omega, by omega⟩
    try simp only [Int32.toInt_toInt64, ll_5] at hq_4
    have hv_9 : zI b1 6 2147483647 := by have _a := hq_4; have _b := hv_8; have _c := zcl_5; simp only [Int32.toInt_toInt64] at *; exact ⟨by omega, by omega⟩
    refine W.widen (k := 0) (n := 0) (Nat.le_of_ble_eq_true rfl) (Nat.le_of_ble_eq_true rfl) ?_
    refine lv_if_eq (tgt := 47) hx hb d_Model_rule_14 (by decide) (fun _ => ?_) (fun hc => absurd hc (by decide +kernel))
    refine lv_iconst (v := (-1)) hx hb d_Model_rule_47 (by decide) ?_
    exact z_iret hx hb hr hlocks hP hD hS (Nat.le_of_ble_eq_true rfl) (Nat.le_of_ble_eq_true rfl) d_Model_rule_48 ⟨(-1), rfl, rfl⟩
  · have hP : va_P G.1 classes [(b0, .inr (12, [.int 0, .ref b6, .ref b7, .ref b8, .ref b9, .int b10, .ref b11, .int b12, .int b13, .int b14, .int b15, .ref b16, .ref b17, .ref b18, .int b19, .ref b20, .ref b21, .ref b22, .ref b23, .ref b24, .ref b25, .ref b26, .ref b27, .ref b28, .ref b29, .ref b30, .ref b31, .int b32, .ref b33, .ref b34, .int b35, .int b36, .int b37, .int b38, .ref b39, .ref b40, .ref b41, .ref b42, .ref b43, .ref b44, .ref b45, .int b46, .ref b47, .ref b48, .int b49, .ref b50, .ref b51, .ref b52, .ref b53, .ref b54, .int b55, .ref b56, .ref b57, .ref b58])), (b6, .inl (G.2 0, 503, .inl b59))] H := hP
    have hD := z_tie hP hD rfl
    try simp only [Int32.toInt_toInt64, ll_0] at hq_5
    have hv_10 : zI b1 0 2147483647 := by have _a := hq_5; have _b := (zI_all b1); have _c := zcl_0; simp only [Int32.toInt_toInt64] at *; exact ⟨by omega, by omega⟩
    try simp only [Int32.toInt_toInt64, ll_5] at hq_6
    have hv_11 : zI b1 0 5 := by have _a := hq_6; have _b := hv_10; have _c := zcl_5; simp only [Int32.toInt_toInt64] at *; exact ⟨by omega, by omega⟩
    refine W.widen (k := 0) (n := 0) (Nat.le_of_ble_eq_true rfl) (Nat.le_of_ble_eq_true rfl) ?_
    refine lv_if_eq (tgt := 47) hx hb d_Model_rule_14 (by decide) (fun hc => absurd hc (by decide +kernel)) (fun _ => ?_)
    refine lv_iload_n hx hb d_Model_rule_17 rfl (lv_at hl 2 rfl) ?_
    refine z_callS (index := 391) (As := [.int b2]) (rest := []) (wr := [(b0, .inr (12, [.int 0, .ref b6, .ref b7, .ref b8, .ref b9, .int b10, .ref b11, .int b12, .int b13, .int b14, .int b15, .ref b16, .ref b17, .ref b18, .int b19, .ref b20, .ref b21, .ref b22, .ref b23, .ref b24, .ref b25, .ref b26, .ref b27, .ref b28, .ref b29, .ref b30, .ref b31, .int b32, .ref b33, .ref b34, .int b35, .int b36, .int b37, .int b38, .ref b39, .ref b40, .ref b41, .ref b42, .ref b43, .ref b44, .ref b45, .int b46, .ref b47, .ref b48, .int b49, .ref b50, .ref b51, .ref b52, .ref b53, .ref b54, .int b55, .ref b56, .ref b57, .ref b58])), (b6, .inl (G.2 0, 503, .inl b59))]) Z (s2_Model_isLetter l G (b2)) hl.1 q1549 q1550 q14 q1551 ⟨by decide, by decide, by show _ = some 1; decide +kernel⟩ ⟨Nat.le_of_ble_eq_true rfl, Nat.le_of_ble_eq_true rfl⟩ ⟨Nat.le_of_ble_eq_true rfl, Nat.le_of_ble_eq_true rfl⟩ rfl (Nat.le_of_ble_eq_true rfl) d_Model_rule_18 hP hD hS hA [] [0, 1] rfl rfl rfl rfl (by decide) (fun v w1 H locs hw_12 hP hD hS => ?_)
    obtain ⟨x_13, rfl, rfl, hx_13⟩ := hw_12
    have hP : va_P G.1 classes [(b0, .inr (12, [.int 0, .ref b6, .ref b7, .ref b8, .ref b9, .int b10, .ref b11, .int b12, .int b13, .int b14, .int b15, .ref b16, .ref b17, .ref b18, .int b19, .ref b20, .ref b21, .ref b22, .ref b23, .ref b24, .ref b25, .ref b26, .ref b27, .ref b28, .ref b29, .ref b30, .ref b31, .int b32, .ref b33, .ref b34, .int b35, .int b36, .int b37, .int b38, .ref b39, .ref b40, .ref b41, .ref b42, .ref b43, .ref b44, .ref b45, .int b46, .ref b47, .ref b48, .int b49, .ref b50, .ref b51, .ref b52, .ref b53, .ref b54, .int b55, .ref b56, .ref b57, .ref b58])), (b6, .inl (G.2 0, 503, .inl b59))] H := hP
    have hD := z_tie hP hD rfl
    refine W.widen (k := 0) (n := 0) (Nat.le_of_ble_eq_true rfl) (Nat.le_of_ble_eq_true rfl) ?_
    refine lv_if_eq (tgt := 47) hx hb d_Model_rule_21 (by decide) (fun hc_14 => ?_) (fun hc_14 => ?_)
    · have _nhc_14 := hc_14
      have ni_15 := (fa_eq _ _).mp hc_14
      rw [li_0] at ni_15
      have hv_16 : zI x_13 0 0 := zI.eq_l hx_13 zc_0 hc_14
      refine lv_iconst (v := (-1)) hx hb d_Model_rule_47 (by decide) ?_
      exact z_iret hx hb hr hlocks hP hD hS (Nat.le_of_ble_eq_true rfl) (Nat.le_of_ble_eq_true rfl) d_Model_rule_48 ⟨(-1), rfl, rfl⟩
    · have _nhc_14 := hc_14
      have ni_17 : ¬ (x_13 : Int32).toInt = (0 : Int32).toInt := fun z => hc_14 ((fa_eq _ _).mpr z)
      simp only [li_0] at ni_17
      have hv_18 : zI x_13 1 1 := zI.ne_lo hx_13 zc_0 hc_14 (by decide)
      refine lv_iload_n hx hb d_Model_rule_24 rfl (lv_at hl 3 rfl) ?_
      refine z_callS (index := 391) (As := [.int b3]) (rest := []) (wr := [(b0, .inr (12, [.int 0, .ref b6, .ref b7, .ref b8, .ref b9, .int b10, .ref b11, .int b12, .int b13, .int b14, .int b15, .ref b16, .ref b17, .ref b18, .int b19, .ref b20, .ref b21, .ref b22, .ref b23, .ref b24, .ref b25, .ref b26, .ref b27, .ref b28, .ref b29, .ref b30, .ref b31, .int b32, .ref b33, .ref b34, .int b35, .int b36, .int b37, .int b38, .ref b39, .ref b40, .ref b41, .ref b42, .ref b43, .ref b44, .ref b45, .int b46, .ref b47, .ref b48, .int b49, .ref b50, .ref b51, .ref b52, .ref b53, .ref b54, .int b55, .ref b56, .ref b57, .ref b58])), (b6, .inl (G.2 0, 503, .inl b59))]) Z (s2_Model_isLetter l G (b3)) hl.1 q1549 q1550 q14 q1551 ⟨by decide, by decide, by show _ = some 1; decide +kernel⟩ ⟨Nat.le_of_ble_eq_true rfl, Nat.le_of_ble_eq_true rfl⟩ ⟨Nat.le_of_ble_eq_true rfl, Nat.le_of_ble_eq_true rfl⟩ rfl (Nat.le_of_ble_eq_true rfl) d_Model_rule_25 hP hD hS hA [] [0, 1] rfl rfl rfl rfl (by decide) (fun v w1 H locs hw_19 hP hD hS => ?_)
      obtain ⟨x_20, rfl, rfl, hx_20⟩ := hw_19
      have hP : va_P G.1 classes [(b0, .inr (12, [.int 0, .ref b6, .ref b7, .ref b8, .ref b9, .int b10, .ref b11, .int b12, .int b13, .int b14, .int b15, .ref b16, .ref b17, .ref b18, .int b19, .ref b20, .ref b21, .ref b22, .ref b23, .ref b24, .ref b25, .ref b26, .ref b27, .ref b28, .ref b29, .ref b30, .ref b31, .int b32, .ref b33, .ref b34, .int b35, .int b36, .int b37, .int b38, .ref b39, .ref b40, .ref b41, .ref b42, .ref b43, .ref b44, .ref b45, .int b46, .ref b47, .ref b48, .int b49, .ref b50, .ref b51, .ref b52, .ref b53, .ref b54, .int b55, .ref b56, .ref b57, .ref b58])), (b6, .inl (G.2 0, 503, .inl b59))] H := hP
      have hD := z_tie hP hD rfl
      refine W.widen (k := 0) (n := 0) (Nat.le_of_ble_eq_true rfl) (Nat.le_of_ble_eq_true rfl) ?_
      refine lv_if_eq (tgt := 47) hx hb d_Model_rule_28 (by decide) (fun hc_21 => ?_) (fun hc_21 => ?_)
      · have _nhc_21 := hc_21
        have ni_22 := (fa_eq _ _).mp hc_21
        rw [li_0] at ni_22
        have hv_23 : zI x_20 0 0 := zI.eq_l hx_20 zc_0 hc_21
        refine lv_iconst (v := (-1)) hx hb d_Model_rule_47 (by decide) ?_
        exact z_iret hx hb hr hlocks hP hD hS (Nat.le_of_ble_eq_true rfl) (Nat.le_of_ble_eq_true rfl) d_Model_rule_48 ⟨(-1), rfl, rfl⟩
      · have _nhc_21 := hc_21
        have ni_24 : ¬ (x_20 : Int32).toInt = (0 : Int32).toInt := fun z => hc_21 ((fa_eq _ _).mpr z)
        simp only [li_0] at ni_24
        have hv_25 : zI x_20 1 1 := zI.ne_lo hx_20 zc_0 hc_21 (by decide)
        refine lv_iload_n hx hb d_Model_rule_31 rfl (lv_at hl 2 rfl) ?_
        refine lv_iload_n hx hb d_Model_rule_32 rfl (lv_at hl 3 rfl) ?_
        refine lv_icmp_eq (tgt := 47) hx hb d_Model_rule_33 (by decide) (fun hc_26 => ?_) (fun hc_26 => ?_)
        · have _nhc_26 := hc_26
          have ni_27 := (fa_eq _ _).mp hc_26
          refine lv_iconst (v := (-1)) hx hb d_Model_rule_47 (by decide) ?_
          exact z_iret hx hb hr hlocks hP hD hS (Nat.le_of_ble_eq_true rfl) (Nat.le_of_ble_eq_true rfl) d_Model_rule_48 ⟨(-1), rfl, rfl⟩
        · have _nhc_26 := hc_26
          have ni_28 : ¬ (b2 : Int32).toInt = (b3 : Int32).toInt := fun z => hc_26 ((fa_eq _ _).mpr z)
          refine lv_iload hx hb d_Model_rule_36 (lv_at hl 4 rfl) ?_
          refine lv_i2l (v := b4.toInt64) hx hb d_Model_rule_38 rfl ?_
          refine lv_lconst (v := 0) hx hb d_Model_rule_39 (by decide) ?_
          refine lv_lconst (v := 1) hx hb d_Model_rule_40 (by decide) ?_
          refine z_callS (index := 138) (As := [.long b4.toInt64, .long 0, .long 1]) (rest := []) (wr := [(b0, .inr (12, [.int 0, .ref b6, .ref b7, .ref b8, .ref b9, .int b10, .ref b11, .int b12, .int b13, .int b14, .int b15, .ref b16, .ref b17, .ref b18, .int b19, .ref b20, .ref b21, .ref b22, .ref b23, .ref b24, .ref b25, .ref b26, .ref b27, .ref b28, .ref b29, .ref b30, .ref b31, .int b32, .ref b33, .ref b34, .int b35, .int b36, .int b37, .int b38, .ref b39, .ref b40, .ref b41, .ref b42, .ref b43, .ref b44, .ref b45, .int b46, .ref b47, .ref b48, .int b49, .ref b50, .ref b51, .ref b52, .ref b53, .ref b54, .int b55, .ref b56, .ref b57, .ref b58])), (b6, .inl (G.2 0, 503, .inl b59))]) Z (s2_Model_in l G (b4.toInt64) (0) (1)) hl.1 q1281 q1282 q14 q1283 ⟨by decide, by decide, by show _ = some 3; decide +kernel⟩ ⟨Nat.le_of_ble_eq_true rfl, Nat.le_of_ble_eq_true rfl⟩ ⟨Nat.le_of_ble_eq_true rfl, Nat.le_of_ble_eq_true rfl⟩ rfl (Nat.le_of_ble_eq_true rfl) d_Model_rule_41 hP hD hS hA [] [0, 1] rfl rfl rfl rfl (by decide) (fun v w1 H locs hw_29 hP hD hS => ?_)
          rcases hw_29 with ⟨rfl, rfl, hq_30⟩ | ⟨rfl, rfl, hq_31, hq_32⟩ | ⟨rfl, rfl, hq_33, hq_34⟩
          · have hP : va_P G.1 classes [(b0, .inr (12, [.int 0, .ref b6, .ref b7, .ref b8, .ref b9, .int b10, .ref b11, .int b12, .int b13, .int b14, .int b15, .ref b16, .ref b17, .ref b18, .int b19, .ref b20, .ref b21, .ref b22, .ref b23, .ref b24, .ref b25, .ref b26, .ref b27, .ref b28, .ref b29, .ref b30, .ref b31, .int b32, .ref b33, .ref b34, .int b35, .int b36, .int b37, .int b38, .ref b39, .ref b40, .ref b41, .ref b42, .ref b43, .ref b44, .ref b45, .int b46, .ref b47, .ref b48, .int b49, .ref b50, .ref b51, .ref b52, .ref b53, .ref b54, .int b55, .ref b56, .ref b57, .ref b58])), (b6, .inl (G.2 0, 503, .inl b59))] H := hP
            have hD := z_tie hP hD rfl
            try simp only [Int32.toInt_toInt64, ll_0] at hq_30
            have hv_35 : zI b4 (-2147483648) (-1) := by have _a := hq_30; have _b := (zI_all b4); have _c := zcl_0; simp only [Int32.toInt_toInt64] at *; exact ⟨by omega, by omega⟩
            refine W.widen (k := 0) (n := 0) (Nat.le_of_ble_eq_true rfl) (Nat.le_of_ble_eq_true rfl) ?_
            refine lv_if_ne (tgt := 49) hx hb d_Model_rule_44 (by decide) (fun hc => absurd hc (by decide +kernel)) (fun _ => ?_)
            refine lv_iconst (v := (-1)) hx hb d_Model_rule_47 (by decide) ?_
            exact z_iret hx hb hr hlocks hP hD hS (Nat.le_of_ble_eq_true rfl) (Nat.le_of_ble_eq_true rfl) d_Model_rule_48 ⟨(-1), rfl, rfl⟩
          · have hP : va_P G.1 classes [(b0, .inr (12, [.int 0, .ref b6, .ref b7, .ref b8, .ref b9, .int b10, .ref b11, .int b12, .int b13, .int b14, .int b15, .ref b16, .ref b17, .ref b18, .int b19, .ref b20, .ref b21, .ref b22, .ref b23, .ref b24, .ref b25, .ref b26, .ref b27, .ref b28, .ref b29, .ref b30, .ref b31, .int b32, .ref b33, .ref b34, .int b35, .int b36, .int b37, .int b38, .ref b39, .ref b40, .ref b41, .ref b42, .ref b43, .ref b44, .ref b45, .int b46, .ref b47, .ref b48, .int b49, .ref b50, .ref b51, .ref b52, .ref b53, .ref b54, .int b55, .ref b56, .ref b57, .ref b58])), (b6, .inl (G.2 0, 503, .inl b59))] H := hP
            have hD := z_tie hP hD rfl
            try simp only [Int32.toInt_toInt64, ll_0] at hq_31
            have hv_36 : zI b4 0 2147483647 := by have _a := hq_31; have _b := (zI_all b4); have _c := zcl_0; simp only [Int32.toInt_toInt64] at *; exact ⟨by omega, by omega⟩
            try simp only [Int32.toInt_toInt64, ll_1] at hq_32
            have hv_37 : zI b4 2 2147483647 := by have _a := hq_32; have _b := hv_36; have _c := zcl_1; simp only [Int32.toInt_toInt64] at *; exact ⟨by omega, by omega⟩
            refine W.widen (k := 0) (n := 0) (Nat.le_of_ble_eq_true rfl) (Nat.le_of_ble_eq_true rfl) ?_
            refine lv_if_ne (tgt := 49) hx hb d_Model_rule_44 (by decide) (fun hc => absurd hc (by decide +kernel)) (fun _ => ?_)
            refine lv_iconst (v := (-1)) hx hb d_Model_rule_47 (by decide) ?_
            exact z_iret hx hb hr hlocks hP hD hS (Nat.le_of_ble_eq_true rfl) (Nat.le_of_ble_eq_true rfl) d_Model_rule_48 ⟨(-1), rfl, rfl⟩
          · have hP : va_P G.1 classes [(b0, .inr (12, [.int 0, .ref b6, .ref b7, .ref b8, .ref b9, .int b10, .ref b11, .int b12, .int b13, .int b14, .int b15, .ref b16, .ref b17, .ref b18, .int b19, .ref b20, .ref b21, .ref b22, .ref b23, .ref b24, .ref b25, .ref b26, .ref b27, .ref b28, .ref b29, .ref b30, .ref b31, .int b32, .ref b33, .ref b34, .int b35, .int b36, .int b37, .int b38, .ref b39, .ref b40, .ref b41, .ref b42, .ref b43, .ref b44, .ref b45, .int b46, .ref b47, .ref b48, .int b49, .ref b50, .ref b51, .ref b52, .ref b53, .ref b54, .int b55, .ref b56, .ref b57, .ref b58])), (b6, .inl (G.2 0, 503, .inl b59))] H := hP
            have hD := z_tie hP hD rfl
            try simp only [Int32.toInt_toInt64, ll_0] at hq_33
            have hv_38 : zI b4 0 2147483647 := by have _a := hq_33; have _b := (zI_all b4); have _c := zcl_0; simp only [Int32.toInt_toInt64] at *; exact ⟨by omega, by omega⟩
            try simp only [Int32.toInt_toInt64, ll_1] at hq_34
            have hv_39 : zI b4 0 1 := by have _a := hq_34; have _b := hv_38; have _c := zcl_1; simp only [Int32.toInt_toInt64] at *; exact ⟨by omega, by omega⟩
            refine W.widen (k := 0) (n := 0) (Nat.le_of_ble_eq_true rfl) (Nat.le_of_ble_eq_true rfl) ?_
            refine lv_if_ne (tgt := 49) hx hb d_Model_rule_44 (by decide) (fun _ => ?_) (fun hc => absurd hc (by decide +kernel))
            refine lv_aload_n hx hb d_Model_rule_49 rfl (lv_at hl 0 rfl) ?_
            refine lv_iload_n hx hb d_Model_rule_50 rfl (lv_at hl 1 rfl) ?_
            refine lv_iload_n hx hb d_Model_rule_51 rfl (lv_at hl 2 rfl) ?_
            refine lv_iload_n hx hb d_Model_rule_52 rfl (lv_at hl 3 rfl) ?_
            refine lv_iload hx hb d_Model_rule_53 (lv_at hl 4 rfl) ?_
            refine lv_iconst (v := 1) hx hb d_Model_rule_55 (by decide) ?_
            refine lv_icmp_ne (tgt := 63) hx hb d_Model_rule_56 (by decide) (fun hc_40 => ?_) (fun hc_40 => ?_)
            · have _nhc_40 := hc_40
              have ni_41 : ¬ (b4 : Int32).toInt = (1 : Int32).toInt := fun z => hc_40 ((fa_eq _ _).mpr z)
              simp only [li_1] at ni_41
              have hv_42 : zI b4 0 0 := zI.ne_hi hv_39 zc_1 hc_40 (by decide)
              refine lv_iconst (v := 0) hx hb d_Model_rule_63 (by decide) ?_
              refine z_callV (index := 394) (As := [.int b1, .int b2, .int b3, .int 0]) (rest := []) (wr := []) Z (s1_Model_asked l G (b0) (b1) (b2) (b3) (0) (0) (b6) (b7) (b8) (b9) (b10) (b11) (b12) (b13) (b14) (b15) (b16) (b17) (b18) (b19) (b20) (b21) (b22) (b23) (b24) (b25) (b26) (b27) (b28) (b29) (b30) (b31) (b32) (b33) (b34) (b35) (b36) (b37) (b38) (b39) (b40) (b41) (b42) (b43) (b44) (b45) (b46) (b47) (b48) (b49) (b50) (b51) (b52) (b53) (b54) (b55) (b56) (b57) (b58) (b59) hb10 hb12 hb13 hb15 hb19 hb32 hb35 hb46 hb49 hb55 hb59) hl.1 q1553 q1555 qs87 q14 q1556 ⟨by decide, by decide, by show _ = some 4; decide +kernel⟩ ⟨Nat.le_of_ble_eq_true rfl, Nat.le_of_ble_eq_true rfl⟩ ⟨Nat.le_of_ble_eq_true rfl, Nat.le_of_ble_eq_true rfl⟩ rfl (Nat.le_of_ble_eq_true rfl) d_Model_rule_64 hP hD hS hA 0 12 rfl rfl rfl [0, 1] [] rfl rfl rfl rfl (by decide) (fun v w1 H locs hw_43 hP hD hS => ?_)
              obtain ⟨x_44, rfl, rfl⟩ := hw_43
              have hP : va_P G.1 classes [(b0, .inr (12, [.int 0, .ref b6, .ref b7, .ref b8, .ref b9, .int b10, .ref b11, .int b12, .int b13, .int b14, .int b15, .ref b16, .ref b17, .ref b18, .int b19, .ref b20, .ref b21, .ref b22, .ref b23, .ref b24, .ref b25, .ref b26, .ref b27, .ref b28, .ref b29, .ref b30, .ref b31, .int b32, .ref b33, .ref b34, .int b35, .int b36, .int b37, .int b38, .ref b39, .ref b40, .ref b41, .ref b42, .ref b43, .ref b44, .ref b45, .int b46, .ref b47, .ref b48, .int b49, .ref b50, .ref b51, .ref b52, .ref b53, .ref b54, .int b55, .ref b56, .ref b57, .ref b58])), (b6, .inl (G.2 0, 503, .inl b59))] H := hP
              have hD := z_tie hP hD rfl
              refine W.widen (k := 0) (n := 0) (Nat.le_of_ble_eq_true rfl) (Nat.le_of_ble_eq_true rfl) ?_
              exact z_iret hx hb hr hlocks hP hD hS (Nat.le_of_ble_eq_true rfl) (Nat.le_of_ble_eq_true rfl) d_Model_rule_67 ⟨x_44, rfl, rfl⟩
            · have _nhc_40 := hc_40
              have ni_45 := (fa_eq _ _).mp hc_40
              rw [li_1] at ni_45
              have hv_46 : zI b4 1 1 := zI.eq_l hv_39 zc_1 hc_40
              refine lv_iconst (v := 1) hx hb d_Model_rule_59 (by decide) ?_
              refine lv_goto (tgt := 64) hx hb d_Model_rule_60 (by decide) ?_
              refine z_callV (index := 394) (As := [.int b1, .int b2, .int b3, .int 1]) (rest := []) (wr := []) Z (s1_Model_asked l G (b0) (b1) (b2) (b3) (1) (0) (b6) (b7) (b8) (b9) (b10) (b11) (b12) (b13) (b14) (b15) (b16) (b17) (b18) (b19) (b20) (b21) (b22) (b23) (b24) (b25) (b26) (b27) (b28) (b29) (b30) (b31) (b32) (b33) (b34) (b35) (b36) (b37) (b38) (b39) (b40) (b41) (b42) (b43) (b44) (b45) (b46) (b47) (b48) (b49) (b50) (b51) (b52) (b53) (b54) (b55) (b56) (b57) (b58) (b59) hb10 hb12 hb13 hb15 hb19 hb32 hb35 hb46 hb49 hb55 hb59) hl.1 q1553 q1555 qs87 q14 q1556 ⟨by decide, by decide, by show _ = some 4; decide +kernel⟩ ⟨Nat.le_of_ble_eq_true rfl, Nat.le_of_ble_eq_true rfl⟩ ⟨Nat.le_of_ble_eq_true rfl, Nat.le_of_ble_eq_true rfl⟩ rfl (Nat.le_of_ble_eq_true rfl) d_Model_rule_64 hP hD hS hA 0 12 rfl rfl rfl [0, 1] [] rfl rfl rfl rfl (by decide) (fun v w1 H locs hw_47 hP hD hS => ?_)
              obtain ⟨x_48, rfl, rfl⟩ := hw_47
              have hP : va_P G.1 classes [(b0, .inr (12, [.int 0, .ref b6, .ref b7, .ref b8, .ref b9, .int b10, .ref b11, .int b12, .int b13, .int b14, .int b15, .ref b16, .ref b17, .ref b18, .int b19, .ref b20, .ref b21, .ref b22, .ref b23, .ref b24, .ref b25, .ref b26, .ref b27, .ref b28, .ref b29, .ref b30, .ref b31, .int b32, .ref b33, .ref b34, .int b35, .int b36, .int b37, .int b38, .ref b39, .ref b40, .ref b41, .ref b42, .ref b43, .ref b44, .ref b45, .int b46, .ref b47, .ref b48, .int b49, .ref b50, .ref b51, .ref b52, .ref b53, .ref b54, .int b55, .ref b56, .ref b57, .ref b58])), (b6, .inl (G.2 0, 503, .inl b59))] H := hP
              have hD := z_tie hP hD rfl
              refine W.widen (k := 0) (n := 0) (Nat.le_of_ble_eq_true rfl) (Nat.le_of_ble_eq_true rfl) ?_
              exact z_iret hx hb hr hlocks hP hD hS (Nat.le_of_ble_eq_true rfl) (Nat.le_of_ble_eq_true rfl) d_Model_rule_67 ⟨x_48, rfl, rfl⟩
theorem d_Model_rules_0 : decode prog_14_method_81_code 0 = .ok (.aload_n 0, 1) := by decide +kernel
theorem d_Model_rules_1 : decode prog_14_method_81_code 1 = .ok (.iconst 0, 1) := by decide +kernel
theorem d_Model_rules_2 : decode prog_14_method_81_code 2 = .ok (.putfield 1, 3) := by decide +kernel
theorem d_Model_rules_5 : decode prog_14_method_81_code 5 = .ok (.iload_n 1, 1) := by decide +kernel
theorem d_Model_rules_6 : decode prog_14_method_81_code 6 = .ok (.i2l, 1) := by decide +kernel
theorem d_Model_rules_7 : decode prog_14_method_81_code 7 = .ok (.lconst 0, 1) := by decide +kernel
theorem d_Model_rules_8 : decode prog_14_method_81_code 8 = .ok (.ldc2_w 263, 3) := by decide +kernel
theorem d_Model_rules_11 : decode prog_14_method_81_code 11 = .ok (.invokestatic 138, 3) := by decide +kernel
theorem d_Model_rules_14 : decode prog_14_method_81_code 14 = .ok (.ifCond .eq 20, 3) := by decide +kernel
theorem d_Model_rules_17 : decode prog_14_method_81_code 17 = .ok (.iload_n 2, 1) := by decide +kernel
theorem d_Model_rules_18 : decode prog_14_method_81_code 18 = .ok (.i2l, 1) := by decide +kernel
theorem d_Model_rules_19 : decode prog_14_method_81_code 19 = .ok (.lconst 1, 1) := by decide +kernel
theorem d_Model_rules_20 : decode prog_14_method_81_code 20 = .ok (.ldc2_w 398, 3) := by decide +kernel
theorem d_Model_rules_23 : decode prog_14_method_81_code 23 = .ok (.invokestatic 138, 3) := by decide +kernel
theorem d_Model_rules_26 : decode prog_14_method_81_code 26 = .ok (.ifCond .eq 8, 3) := by decide +kernel
theorem d_Model_rules_29 : decode prog_14_method_81_code 29 = .ok (.iload_n 3, 1) := by decide +kernel
theorem d_Model_rules_30 : decode prog_14_method_81_code 30 = .ok (.iconst (-1), 1) := by decide +kernel
theorem d_Model_rules_31 : decode prog_14_method_81_code 31 = .ok (.if_icmp .ge 5, 3) := by decide +kernel
theorem d_Model_rules_34 : decode prog_14_method_81_code 34 = .ok (.iconst (-1), 1) := by decide +kernel
theorem d_Model_rules_35 : decode prog_14_method_81_code 35 = .ok (.ireturn, 1) := by decide +kernel
theorem d_Model_rules_36 : decode prog_14_method_81_code 36 = .ok (.iconst 0, 1) := by decide +kernel
theorem d_Model_rules_37 : decode prog_14_method_81_code 37 = .ok (.istore 4, 2) := by decide +kernel
theorem d_Model_rules_39 : decode prog_14_method_81_code 39 = .ok (.iconst 0, 1) := by decide +kernel
theorem d_Model_rules_40 : decode prog_14_method_81_code 40 = .ok (.istore 5, 2) := by decide +kernel
theorem d_Model_rules_42 : decode prog_14_method_81_code 42 = .ok (.iload 5, 2) := by decide +kernel
theorem d_Model_rules_44 : decode prog_14_method_81_code 44 = .ok (.bipush 100, 2) := by decide +kernel
theorem d_Model_rules_46 : decode prog_14_method_81_code 46 = .ok (.if_icmp .ge 79, 3) := by decide +kernel
theorem d_Model_rules_49 : decode prog_14_method_81_code 49 = .ok (.iload 5, 2) := by decide +kernel
theorem d_Model_rules_51 : decode prog_14_method_81_code 51 = .ok (.bipush 10, 2) := by decide +kernel
theorem d_Model_rules_53 : decode prog_14_method_81_code 53 = .ok (.idiv, 1) := by decide +kernel
theorem d_Model_rules_54 : decode prog_14_method_81_code 54 = .ok (.istore 6, 2) := by decide +kernel
theorem d_Model_rules_56 : decode prog_14_method_81_code 56 = .ok (.iload 5, 2) := by decide +kernel
theorem d_Model_rules_58 : decode prog_14_method_81_code 58 = .ok (.bipush 10, 2) := by decide +kernel
theorem d_Model_rules_60 : decode prog_14_method_81_code 60 = .ok (.irem, 1) := by decide +kernel
theorem d_Model_rules_61 : decode prog_14_method_81_code 61 = .ok (.istore 7, 2) := by decide +kernel
theorem d_Model_rules_63 : decode prog_14_method_81_code 63 = .ok (.iload 6, 2) := by decide +kernel
theorem d_Model_rules_65 : decode prog_14_method_81_code 65 = .ok (.iload 7, 2) := by decide +kernel
theorem d_Model_rules_67 : decode prog_14_method_81_code 67 = .ok (.if_icmp .ne 7, 3) := by decide +kernel
theorem d_Model_rules_70 : decode prog_14_method_81_code 70 = .ok (.iconst 0, 1) := by decide +kernel
theorem d_Model_rules_71 : decode prog_14_method_81_code 71 = .ok (.goto 13, 3) := by decide +kernel
theorem d_Model_rules_74 : decode prog_14_method_81_code 74 = .ok (.aload_n 0, 1) := by decide +kernel
theorem d_Model_rules_75 : decode prog_14_method_81_code 75 = .ok (.iload_n 1, 1) := by decide +kernel
theorem d_Model_rules_76 : decode prog_14_method_81_code 76 = .ok (.iload 6, 2) := by decide +kernel
theorem d_Model_rules_78 : decode prog_14_method_81_code 78 = .ok (.iload 7, 2) := by decide +kernel
theorem d_Model_rules_80 : decode prog_14_method_81_code 80 = .ok (.iconst 0, 1) := by decide +kernel
theorem d_Model_rules_81 : decode prog_14_method_81_code 81 = .ok (.invokevirtual 394, 3) := by decide +kernel
theorem d_Model_rules_84 : decode prog_14_method_81_code 84 = .ok (.istore 8, 2) := by decide +kernel
theorem d_Model_rules_86 : decode prog_14_method_81_code 86 = .ok (.iload 8, 2) := by decide +kernel
theorem d_Model_rules_88 : decode prog_14_method_81_code 88 = .ok (.iload_n 2, 1) := by decide +kernel
theorem d_Model_rules_89 : decode prog_14_method_81_code 89 = .ok (.if_icmp .lt 30, 3) := by decide +kernel
theorem d_Model_rules_92 : decode prog_14_method_81_code 92 = .ok (.iload 8, 2) := by decide +kernel
theorem d_Model_rules_94 : decode prog_14_method_81_code 94 = .ok (.aload_n 0, 1) := by decide +kernel
theorem d_Model_rules_95 : decode prog_14_method_81_code 95 = .ok (.iload_n 1, 1) := by decide +kernel
theorem d_Model_rules_96 : decode prog_14_method_81_code 96 = .ok (.iload 6, 2) := by decide +kernel
theorem d_Model_rules_98 : decode prog_14_method_81_code 98 = .ok (.iload 7, 2) := by decide +kernel
theorem d_Model_rules_100 : decode prog_14_method_81_code 100 = .ok (.iconst 1, 1) := by decide +kernel
theorem d_Model_rules_101 : decode prog_14_method_81_code 101 = .ok (.invokevirtual 394, 3) := by decide +kernel
theorem d_Model_rules_104 : decode prog_14_method_81_code 104 = .ok (.if_icmp .ne 15, 3) := by decide +kernel
theorem d_Model_rules_107 : decode prog_14_method_81_code 107 = .ok (.iload 4, 2) := by decide +kernel
theorem d_Model_rules_109 : decode prog_14_method_81_code 109 = .ok (.iload_n 3, 1) := by decide +kernel
theorem d_Model_rules_110 : decode prog_14_method_81_code 110 = .ok (.if_icmp .ne 6, 3) := by decide +kernel
theorem d_Model_rules_113 : decode prog_14_method_81_code 113 = .ok (.iload 5, 2) := by decide +kernel
theorem d_Model_rules_115 : decode prog_14_method_81_code 115 = .ok (.ireturn, 1) := by decide +kernel
theorem d_Model_rules_116 : decode prog_14_method_81_code 116 = .ok (.iinc 4 1, 3) := by decide +kernel
theorem d_Model_rules_119 : decode prog_14_method_81_code 119 = .ok (.iinc 5 1, 3) := by decide +kernel
theorem d_Model_rules_122 : decode prog_14_method_81_code 122 = .ok (.goto (-80), 3) := by decide +kernel
theorem d_Model_rules_125 : decode prog_14_method_81_code 125 = .ok (.iload_n 3, 1) := by decide +kernel
theorem d_Model_rules_126 : decode prog_14_method_81_code 126 = .ok (.iconst (-1), 1) := by decide +kernel
theorem d_Model_rules_127 : decode prog_14_method_81_code 127 = .ok (.if_icmp .ne 8, 3) := by decide +kernel
theorem d_Model_rules_130 : decode prog_14_method_81_code 130 = .ok (.iload 4, 2) := by decide +kernel
theorem d_Model_rules_132 : decode prog_14_method_81_code 132 = .ok (.goto 4, 3) := by decide +kernel
theorem d_Model_rules_135 : decode prog_14_method_81_code 135 = .ok (.iconst (-1), 1) := by decide +kernel
theorem d_Model_rules_136 : decode prog_14_method_81_code 136 = .ok (.ireturn, 1) := by decide +kernel
abbrev m_s1_Model_rules : Room := { frames := 4, cells := 0, slots := 0, locals := 99 }
set_option maxHeartbeats 4000000 in
set_option maxRecDepth 100000 in
theorem s1_Model_rules (l : Launch) (G : zG) (b0 : Nat) (b1 : Int32) (b2 : Int32) (b3 : Int32) (b4 : Int32) (b5 : Nat) (b6 : Nat) (b7 : Nat) (b8 : Nat) (b9 : Int32) (b10 : Nat) (b11 : Int32) (b12 : Int32) (b13 : Int32) (b14 : Int32) (b15 : Nat) (b16 : Nat) (b17 : Nat) (b18 : Int32) (b19 : Nat) (b20 : Nat) (b21 : Nat) (b22 : Nat) (b23 : Nat) (b24 : Nat) (b25 : Nat) (b26 : Nat) (b27 : Nat) (b28 : Nat) (b29 : Nat) (b30 : Nat) (b31 : Int32) (b32 : Nat) (b33 : Nat) (b34 : Int32) (b35 : Int32) (b36 : Int32) (b37 : Int32) (b38 : Nat) (b39 : Nat) (b40 : Nat) (b41 : Nat) (b42 : Nat) (b43 : Nat) (b44 : Nat) (b45 : Int32) (b46 : Nat) (b47 : Nat) (b48 : Int32) (b49 : Nat) (b50 : Nat) (b51 : Nat) (b52 : Nat) (b53 : Nat) (b54 : Int32) (b55 : Nat) (b56 : Nat) (b57 : Nat) (b58 : Nat → Int32) (hb9 : zI b9 0 8) (hb11 : zI b11 0 240) (hb12 : zI b12 0 240) (hb14 : zI b14 0 1) (hb18 : zI b18 0 12) (hb31 : zI b31 0 1) (hb34 : zI b34 0 1) (hb45 : zI b45 0 1000) (hb48 : zI b48 0 1000) (hb54 : zI b54 0 400) (hb58 : zW5 b58) : zM l G y_Model_rules prog_14_method_81_code 9 (Option.some Jvm.ClassFile.FieldType.int) m_s1_Model_rules [.ref b0, .int b1, .int b2, .int b3] [(b0, .inr (12, [.int b4, .ref b5, .ref b6, .ref b7, .ref b8, .int b9, .ref b10, .int b11, .int b12, .int b13, .int b14, .ref b15, .ref b16, .ref b17, .int b18, .ref b19, .ref b20, .ref b21, .ref b22, .ref b23, .ref b24, .ref b25, .ref b26, .ref b27, .ref b28, .ref b29, .ref b30, .int b31, .ref b32, .ref b33, .int b34, .int b35, .int b36, .int b37, .ref b38, .ref b39, .ref b40, .ref b41, .ref b42, .ref b43, .ref b44, .int b45, .ref b46, .ref b47, .int b48, .ref b49, .ref b50, .ref b51, .ref b52, .ref b53, .int b54, .ref b55, .ref b56, .ref b57])), (b5, .inl (G.2 0, 503, .inl b58))] (fun v w => ∃ (e0 : Int32), v = some (.int e0) ∧ w = [(b0, .inr (12, [.int 0, .ref b5, .ref b6, .ref b7, .ref b8, .int b9, .ref b10, .int b11, .int b12, .int b13, .int b14, .ref b15, .ref b16, .ref b17, .int b18, .ref b19, .ref b20, .ref b21, .ref b22, .ref b23, .ref b24, .ref b25, .ref b26, .ref b27, .ref b28, .ref b29, .ref b30, .int b31, .ref b32, .ref b33, .int b34, .int b35, .int b36, .int b37, .ref b38, .ref b39, .ref b40, .ref b41, .ref b42, .ref b43, .ref b44, .int b45, .ref b46, .ref b47, .int b48, .ref b49, .ref b50, .ref b51, .ref b52, .ref b53, .int b54, .ref b55, .ref b56, .ref b57])), (b5, .inl (G.2 0, 503, .inl b58))]) := by
  refine z_start (by decide +kernel) (Nat.le_of_ble_eq_true rfl) ?_
  intro p e s m below meth c A Z hr hnm hA hP hD hS ls hl
  have Z : zC p s m _ meth c prog_14_method_81_code 9 "TraceMachinesModel" G := Z
  obtain ⟨hx, hb, hml, hown, hts, hK, hN, hlocks⟩ := id Z
  have hl : lv_has ls 9 [(0, .ref b0), (1, .int b1), (2, .int b2), (3, .int b3)] := hl
  refine lv_aload_n hx hb d_Model_rules_0 rfl (lv_at hl 0 rfl) ?_
  refine lv_iconst (v := 0) hx hb d_Model_rules_1 (by decide) ?_
  refine va_put (D := G.1) (ci := 12) (v := .int 0) (ty := .int) (C := R_Model) (T := F_Model) (N := 54) hx hb hts i_Model t_Model t_Model_ok n_Model hown hK hP hD hS 0 rfl rfl 0 (by decide) (hts _ q1109) (fun _ h9 => h9) rfl (by decide +kernel) rfl rfl (Nat.le_of_ble_eq_true rfl) d_Model_rules_2 (fun H locs hP hD hS => ?_)
  have hP : va_P G.1 classes [(b0, .inr (12, [.int 0, .ref b5, .ref b6, .ref b7, .ref b8, .int b9, .ref b10, .int b11, .int b12, .int b13, .int b14, .ref b15, .ref b16, .ref b17, .int b18, .ref b19, .ref b20, .ref b21, .ref b22, .ref b23, .ref b24, .ref b25, .ref b26, .ref b27, .ref b28, .ref b29, .ref b30, .int b31, .ref b32, .ref b33, .int b34, .int b35, .int b36, .int b37, .ref b38, .ref b39, .ref b40, .ref b41, .ref b42, .ref b43, .ref b44, .int b45, .ref b46, .ref b47, .int b48, .ref b49, .ref b50, .ref b51, .ref b52, .ref b53, .int b54, .ref b55, .ref b56, .ref b57])), (b5, .inl (G.2 0, 503, .inl b58))] H := hP
  have hD := z_tie hP hD rfl
  refine lv_iload_n hx hb d_Model_rules_5 rfl (lv_at hl 1 rfl) ?_
  refine lv_i2l (v := b1.toInt64) hx hb d_Model_rules_6 rfl ?_
  refine lv_lconst (v := 0) hx hb d_Model_rules_7 (by decide) ?_
  refine lv_ldc2 hx hb hown (hts _ q1432) d_Model_rules_8 ?_
  refine z_callS (index := 138) (As := [.long b1.toInt64, .long 0, .long 5]) (rest := []) (wr := [(b0, .inr (12, [.int 0, .ref b5, .ref b6, .ref b7, .ref b8, .int b9, .ref b10, .int b11, .int b12, .int b13, .int b14, .ref b15, .ref b16, .ref b17, .int b18, .ref b19, .ref b20, .ref b21, .ref b22, .ref b23, .ref b24, .ref b25, .ref b26, .ref b27, .ref b28, .ref b29, .ref b30, .int b31, .ref b32, .ref b33, .int b34, .int b35, .int b36, .int b37, .ref b38, .ref b39, .ref b40, .ref b41, .ref b42, .ref b43, .ref b44, .int b45, .ref b46, .ref b47, .int b48, .ref b49, .ref b50, .ref b51, .ref b52, .ref b53, .int b54, .ref b55, .ref b56, .ref b57])), (b5, .inl (G.2 0, 503, .inl b58))]) Z (s2_Model_in l G (b1.toInt64) (0) (5)) hl.1 q1281 q1282 q14 q1283 ⟨by decide, by decide, by show _ = some 3; decide +kernel⟩ ⟨Nat.le_of_ble_eq_true rfl, Nat.le_of_ble_eq_true rfl⟩ ⟨Nat.le_of_ble_eq_true rfl, Nat.le_of_ble_eq_true rfl⟩ rfl (Nat.le_of_ble_eq_true rfl) d_Model_rules_11 hP hD hS hA [] [0, 1] rfl rfl rfl rfl (by decide) (fun v w1 H locs hw_1 hP hD hS => ?_)
  rcases hw_1 with ⟨rfl, rfl, hq_2⟩ | ⟨rfl, rfl, hq_3, hq_4⟩ | ⟨rfl, rfl, hq_5, hq_6⟩
  · have hP : va_P G.1 classes [(b0, .inr (12, [.int 0, .ref b5, .ref b6, .ref b7, .ref b8, .int b9, .ref b10, .int b11, .int b12, .int b13, .int b14, .ref b15, .ref b16, .ref b17, .int b18, .ref b19, .ref b20, .ref b21, .ref b22, .ref b23, .ref b24, .ref b25, .ref b26, .ref b27, .ref b28, .ref b29, .ref b30, .int b31, .ref b32, .ref b33, .int b34, .int b35, .int b36, .int b37, .ref b38, .ref b39, .ref b40, .ref b41, .ref b42, .ref b43, .ref b44, .int b45, .ref b46, .ref b47, .int b48, .ref b49, .ref b50, .ref b51, .ref b52, .ref b53, .int b54, .ref b55, .ref b56, .ref b57])), (b5, .inl (G.2 0, 503, .inl b58))] H := hP
    have hD := z_tie hP hD rfl
    try simp only [Int32.toInt_toInt64, ll_0] at hq_2
    have hv_7 : zI b1 (-2147483648) (-1) := by have _a := hq_2; have _b := (zI_all b1); have _c := zcl_0; simp only [Int32.toInt_toInt64] at *; exact ⟨by omega, by omega⟩
    refine W.widen (k := 0) (n := 0) (Nat.le_of_ble_eq_true rfl) (Nat.le_of_ble_eq_true rfl) ?_
    refine lv_if_eq (tgt := 34) hx hb d_Model_rules_14 (by decide) (fun _ => ?_) (fun hc => absurd hc (by decide +kernel))
    refine lv_iconst (v := (-1)) hx hb d_Model_rules_34 (by decide) ?_
    exact z_iret hx hb hr hlocks hP hD hS (Nat.le_of_ble_eq_true rfl) (Nat.le_of_ble_eq_true rfl) d_Model_rules_35 ⟨(-1), rfl, rfl⟩
  · have hP : va_P G.1 classes [(b0, .inr (12, [.int 0, .ref b5, .ref b6, .ref b7, .ref b8, .int b9, .ref b10, .int b11, .int b12, .int b13, .int b14, .ref b15, .ref b16, .ref b17, .int b18, .ref b19, .ref b20, .ref b21, .ref b22, .ref b23, .ref b24, .ref b25, .ref b26, .ref b27, .ref b28, .ref b29, .ref b30, .int b31, .ref b32, .ref b33, .int b34, .int b35, .int b36, .int b37, .ref b38, .ref b39, .ref b40, .ref b41, .ref b42, .ref b43, .ref b44, .int b45, .ref b46, .ref b47, .int b48, .ref b49, .ref b50, .ref b51, .ref b52, .ref b53, .int b54, .ref b55, .ref b56, .ref b57])), (b5, .inl (G.2 0, 503, .inl b58))] H := hP
    have hD := z_tie hP hD rfl
    try simp only [Int32.toInt_toInt64, ll_0] at hq_3
    have hv_8 : zI b1 0 2147483647 := by have _a := hq_3; have _b := (zI_all b1); have _c := zcl_0; simp only [Int32.toInt_toInt64] at *; exact ⟨by omega, by omega⟩
    try simp only [Int32.toInt_toInt64, ll_5] at hq_4
    have hv_9 : zI b1 6 2147483647 := by have _a := hq_4; have _b := hv_8; have _c := zcl_5; simp only [Int32.toInt_toInt64] at *; exact ⟨by omega, by omega⟩
    refine W.widen (k := 0) (n := 0) (Nat.le_of_ble_eq_true rfl) (Nat.le_of_ble_eq_true rfl) ?_
    refine lv_if_eq (tgt := 34) hx hb d_Model_rules_14 (by decide) (fun _ => ?_) (fun hc => absurd hc (by decide +kernel))
    refine lv_iconst (v := (-1)) hx hb d_Model_rules_34 (by decide) ?_
    exact z_iret hx hb hr hlocks hP hD hS (Nat.le_of_ble_eq_true rfl) (Nat.le_of_ble_eq_true rfl) d_Model_rules_35 ⟨(-1), rfl, rfl⟩
  · have hP : va_P G.1 classes [(b0, .inr (12, [.int 0, .ref b5, .ref b6, .ref b7, .ref b8, .int b9, .ref b10, .int b11, .int b12, .int b13, .int b14, .ref b15, .ref b16, .ref b17, .int b18, .ref b19, .ref b20, .ref b21, .ref b22, .ref b23, .ref b24, .ref b25, .ref b26, .ref b27, .ref b28, .ref b29, .ref b30, .int b31, .ref b32, .ref b33, .int b34, .int b35, .int b36, .int b37, .ref b38, .ref b39, .ref b40, .ref b41, .ref b42, .ref b43, .ref b44, .int b45, .ref b46, .ref b47, .int b48, .ref b49, .ref b50, .ref b51, .ref b52, .ref b53, .int b54, .ref b55, .ref b56, .ref b57])), (b5, .inl (G.2 0, 503, .inl b58))] H := hP
    have hD := z_tie hP hD rfl
    try simp only [Int32.toInt_toInt64, ll_0] at hq_5
    have hv_10 : zI b1 0 2147483647 := by have _a := hq_5; have _b := (zI_all b1); have _c := zcl_0; simp only [Int32.toInt_toInt64] at *; exact ⟨by omega, by omega⟩
    try simp only [Int32.toInt_toInt64, ll_5] at hq_6
    have hv_11 : zI b1 0 5 := by have _a := hq_6; have _b := hv_10; have _c := zcl_5; simp only [Int32.toInt_toInt64] at *; exact ⟨by omega, by omega⟩
    refine W.widen (k := 0) (n := 0) (Nat.le_of_ble_eq_true rfl) (Nat.le_of_ble_eq_true rfl) ?_
    refine lv_if_eq (tgt := 34) hx hb d_Model_rules_14 (by decide) (fun hc => absurd hc (by decide +kernel)) (fun _ => ?_)
    refine lv_iload_n hx hb d_Model_rules_17 rfl (lv_at hl 2 rfl) ?_
    refine lv_i2l (v := b2.toInt64) hx hb d_Model_rules_18 rfl ?_
    refine lv_lconst (v := 1) hx hb d_Model_rules_19 (by decide) ?_
    refine lv_ldc2 hx hb hown (hts _ q1593) d_Model_rules_20 ?_
    refine z_callS (index := 138) (As := [.long b2.toInt64, .long 1, .long 20]) (rest := []) (wr := [(b0, .inr (12, [.int 0, .ref b5, .ref b6, .ref b7, .ref b8, .int b9, .ref b10, .int b11, .int b12, .int b13, .int b14, .ref b15, .ref b16, .ref b17, .int b18, .ref b19, .ref b20, .ref b21, .ref b22, .ref b23, .ref b24, .ref b25, .ref b26, .ref b27, .ref b28, .ref b29, .ref b30, .int b31, .ref b32, .ref b33, .int b34, .int b35, .int b36, .int b37, .ref b38, .ref b39, .ref b40, .ref b41, .ref b42, .ref b43, .ref b44, .int b45, .ref b46, .ref b47, .int b48, .ref b49, .ref b50, .ref b51, .ref b52, .ref b53, .int b54, .ref b55, .ref b56, .ref b57])), (b5, .inl (G.2 0, 503, .inl b58))]) Z (s2_Model_in l G (b2.toInt64) (1) (20)) hl.1 q1281 q1282 q14 q1283 ⟨by decide, by decide, by show _ = some 3; decide +kernel⟩ ⟨Nat.le_of_ble_eq_true rfl, Nat.le_of_ble_eq_true rfl⟩ ⟨Nat.le_of_ble_eq_true rfl, Nat.le_of_ble_eq_true rfl⟩ rfl (Nat.le_of_ble_eq_true rfl) d_Model_rules_23 hP hD hS hA [] [0, 1] rfl rfl rfl rfl (by decide) (fun v w1 H locs hw_12 hP hD hS => ?_)
    rcases hw_12 with ⟨rfl, rfl, hq_13⟩ | ⟨rfl, rfl, hq_14, hq_15⟩ | ⟨rfl, rfl, hq_16, hq_17⟩
    · have hP : va_P G.1 classes [(b0, .inr (12, [.int 0, .ref b5, .ref b6, .ref b7, .ref b8, .int b9, .ref b10, .int b11, .int b12, .int b13, .int b14, .ref b15, .ref b16, .ref b17, .int b18, .ref b19, .ref b20, .ref b21, .ref b22, .ref b23, .ref b24, .ref b25, .ref b26, .ref b27, .ref b28, .ref b29, .ref b30, .int b31, .ref b32, .ref b33, .int b34, .int b35, .int b36, .int b37, .ref b38, .ref b39, .ref b40, .ref b41, .ref b42, .ref b43, .ref b44, .int b45, .ref b46, .ref b47, .int b48, .ref b49, .ref b50, .ref b51, .ref b52, .ref b53, .int b54, .ref b55, .ref b56, .ref b57])), (b5, .inl (G.2 0, 503, .inl b58))] H := hP
      have hD := z_tie hP hD rfl
      try simp only [Int32.toInt_toInt64, ll_1] at hq_13
      have hv_18 : zI b2 (-2147483648) 0 := by have _a := hq_13; have _b := (zI_all b2); have _c := zcl_1; simp only [Int32.toInt_toInt64] at *; exact ⟨by omega, by omega⟩
      refine W.widen (k := 0) (n := 0) (Nat.le_of_ble_eq_true rfl) (Nat.le_of_ble_eq_true rfl) ?_
      refine lv_if_eq (tgt := 34) hx hb d_Model_rules_26 (by decide) (fun _ => ?_) (fun hc => absurd hc (by decide +kernel))
      refine lv_iconst (v := (-1)) hx hb d_Model_rules_34 (by decide) ?_
      exact z_iret hx hb hr hlocks hP hD hS (Nat.le_of_ble_eq_true rfl) (Nat.le_of_ble_eq_true rfl) d_Model_rules_35 ⟨(-1), rfl, rfl⟩
    · have hP : va_P G.1 classes [(b0, .inr (12, [.int 0, .ref b5, .ref b6, .ref b7, .ref b8, .int b9, .ref b10, .int b11, .int b12, .int b13, .int b14, .ref b15, .ref b16, .ref b17, .int b18, .ref b19, .ref b20, .ref b21, .ref b22, .ref b23, .ref b24, .ref b25, .ref b26, .ref b27, .ref b28, .ref b29, .ref b30, .int b31, .ref b32, .ref b33, .int b34, .int b35, .int b36, .int b37, .ref b38, .ref b39, .ref b40, .ref b41, .ref b42, .ref b43, .ref b44, .int b45, .ref b46, .ref b47, .int b48, .ref b49, .ref b50, .ref b51, .ref b52, .ref b53, .int b54, .ref b55, .ref b56, .ref b57])), (b5, .inl (G.2 0, 503, .inl b58))] H := hP
      have hD := z_tie hP hD rfl
      try simp only [Int32.toInt_toInt64, ll_1] at hq_14
      have hv_19 : zI b2 1 2147483647 := by have _a := hq_14; have _b := (zI_all b2); have _c := zcl_1; simp only [Int32.toInt_toInt64] at *; exact ⟨by omega, by omega⟩
      try simp only [Int32.toInt_toInt64, ll_20] at hq_15
      have hv_20 : zI b2 21 2147483647 := by have _a := hq_15; have _b := hv_19; have _c := zcl_20; simp only [Int32.toInt_toInt64] at *; exact ⟨by omega, by omega⟩
      refine W.widen (k := 0) (n := 0) (Nat.le_of_ble_eq_true rfl) (Nat.le_of_ble_eq_true rfl) ?_
      refine lv_if_eq (tgt := 34) hx hb d_Model_rules_26 (by decide) (fun _ => ?_) (fun hc => absurd hc (by decide +kernel))
      refine lv_iconst (v := (-1)) hx hb d_Model_rules_34 (by decide) ?_
      exact z_iret hx hb hr hlocks hP hD hS (Nat.le_of_ble_eq_true rfl) (Nat.le_of_ble_eq_true rfl) d_Model_rules_35 ⟨(-1), rfl, rfl⟩
    · have hP : va_P G.1 classes [(b0, .inr (12, [.int 0, .ref b5, .ref b6, .ref b7, .ref b8, .int b9, .ref b10, .int b11, .int b12, .int b13, .int b14, .ref b15, .ref b16, .ref b17, .int b18, .ref b19, .ref b20, .ref b21, .ref b22, .ref b23, .ref b24, .ref b25, .ref b26, .ref b27, .ref b28, .ref b29, .ref b30, .int b31, .ref b32, .ref b33, .int b34, .int b35, .int b36, .int b37, .ref b38, .ref b39, .ref b40, .ref b41, .ref b42, .ref b43, .ref b44, .int b45, .ref b46, .ref b47, .int b48, .ref b49, .ref b50, .ref b51, .ref b52, .ref b53, .int b54, .ref b55, .ref b56, .ref b57])), (b5, .inl (G.2 0, 503, .inl b58))] H := hP
      have hD := z_tie hP hD rfl
      try simp only [Int32.toInt_toInt64, ll_1] at hq_16
      have hv_21 : zI b2 1 2147483647 := by have _a := hq_16; have _b := (zI_all b2); have _c := zcl_1; simp only [Int32.toInt_toInt64] at *; exact ⟨by omega, by omega⟩
      try simp only [Int32.toInt_toInt64, ll_20] at hq_17
      have hv_22 : zI b2 1 20 := by have _a := hq_17; have _b := hv_21; have _c := zcl_20; simp only [Int32.toInt_toInt64] at *; exact ⟨by omega, by omega⟩
      refine W.widen (k := 0) (n := 0) (Nat.le_of_ble_eq_true rfl) (Nat.le_of_ble_eq_true rfl) ?_
      refine lv_if_eq (tgt := 34) hx hb d_Model_rules_26 (by decide) (fun hc => absurd hc (by decide +kernel)) (fun _ => ?_)
      refine lv_iload_n hx hb d_Model_rules_29 rfl (lv_at hl 3 rfl) ?_
      refine lv_iconst (v := (-1)) hx hb d_Model_rules_30 (by decide) ?_
      refine lv_icmp_ge (tgt := 36) hx hb d_Model_rules_31 (by decide) (fun hc_23 => ?_) (fun hc_23 => ?_)
      · have _nhc_23 := hc_23
        have ni_24 := (fa_le _ _).mp hc_23
        rw [li_m1] at ni_24
        have hv_25 : zI b3 (-1) 2147483647 := zI.le_r zc_m1 (zI_all b3) hc_23 (by decide)
        refine lv_iconst (v := 0) hx hb d_Model_rules_36 (by decide) ?_
        refine lv_istore (lv' := [(4, .int 0), (0, .ref b0), (1, .int b1), (2, .int b2), (3, .int b3)]) hx hb d_Model_rules_37 hl (by decide) rfl (fun ls hl => ?_)
        refine lv_iconst (v := 0) hx hb d_Model_rules_39 (by decide) ?_
        refine lv_istore (lv' := [(5, .int 0), (4, .int 0), (0, .ref b0), (1, .int b1), (2, .int b2), (3, .int b3)]) hx hb d_Model_rules_40 hl (by decide) rfl (fun ls hl => ?_)
        suffices key : ∀ (k_65 : Nat) (y_66 : Int32) (y_67 : Int32) (H : Heap) (locs : List Loc) (ls : Array Slot), (zI y_66 0 100) → (100 : Int) - y_66.toInt < (k_65 : Int) → va_P G.1 classes [(b0, .inr (12, [.int 0, .ref b5, .ref b6, .ref b7, .ref b8, .int b9, .ref b10, .int b11, .int b12, .int b13, .int b14, .ref b15, .ref b16, .ref b17, .int b18, .ref b19, .ref b20, .ref b21, .ref b22, .ref b23, .ref b24, .ref b25, .ref b26, .ref b27, .ref b28, .ref b29, .ref b30, .int b31, .ref b32, .ref b33, .int b34, .int b35, .int b36, .int b37, .ref b38, .ref b39, .ref b40, .ref b41, .ref b42, .ref b43, .ref b44, .int b45, .ref b46, .ref b47, .int b48, .ref b49, .ref b50, .ref b51, .ref b52, .ref b53, .int b54, .ref b55, .ref b56, .ref b57])), (b5, .inl (G.2 0, 503, .inl b58))] H → va_D A [(b0, .inr (12, [.int 0, .ref b5, .ref b6, .ref b7, .ref b8, .int b9, .ref b10, .int b11, .int b12, .int b13, .int b14, .ref b15, .ref b16, .ref b17, .int b18, .ref b19, .ref b20, .ref b21, .ref b22, .ref b23, .ref b24, .ref b25, .ref b26, .ref b27, .ref b28, .ref b29, .ref b30, .int b31, .ref b32, .ref b33, .int b34, .int b35, .int b36, .int b37, .ref b38, .ref b39, .ref b40, .ref b41, .ref b42, .ref b43, .ref b44, .int b45, .ref b46, .ref b47, .int b48, .ref b49, .ref b50, .ref b51, .ref b52, .ref b53, .int b54, .ref b55, .ref b56, .ref b57])), (b5, .inl (G.2 0, 503, .inl b58))] → va_S A s.heap H locs → lv_has ls 9 [(5, .int y_66), (4, .int y_67), (0, .ref b0), (1, .int b1), (2, .int b2), (3, .int b3)] → W p l e m_s1_Model_rules s m ([.ref b0, .int b1, .int b2, .int b3] : List Value).toArray below meth c H locs 0 0 (MQ below (zQ G (fun v w => ∃ (e0 : Int32), v = some (.int e0) ∧ w = [(b0, .inr (12, [.int 0, .ref b5, .ref b6, .ref b7, .ref b8, .int b9, .ref b10, .int b11, .int b12, .int b13, .int b14, .ref b15, .ref b16, .ref b17, .int b18, .ref b19, .ref b20, .ref b21, .ref b22, .ref b23, .ref b24, .ref b25, .ref b26, .ref b27, .ref b28, .ref b29, .ref b30, .int b31, .ref b32, .ref b33, .int b34, .int b35, .int b36, .int b37, .ref b38, .ref b39, .ref b40, .ref b41, .ref b42, .ref b43, .ref b44, .int b45, .ref b46, .ref b47, .int b48, .ref b49, .ref b50, .ref b51, .ref b52, .ref b53, .int b54, .ref b55, .ref b56, .ref b57])), (b5, .inl (G.2 0, 503, .inl b58))]) A) ([.ref b0, .int b1, .int b2, .int b3] : List Value).toArray s m_s1_Model_rules.cells m_s1_Model_rules.slots A) (F0 m 42 ls []) by
          exact key 101 (0) (0) _ _ _ (zI.wk (l' := 0) (h' := 100) zc_0 (by decide)) (zm_upi (zI.wk (l' := 0) (h' := 100) zc_0 (by decide)) (by decide)) hP hD hS (lv_sub hl [0, 1, 2, 3, 4, 5] rfl)
        intro k_65
        induction k_65 with
        | zero =>
          intro y_66 y_67 H locs ls hy_66 hmk_65 hP hD hS hl
          exact (zm_up0 hy_66 hmk_65).elim
        | succ k_65 ihk_65 =>
          intro y_66 y_67 H locs ls hy_66 hmk_65 hP hD hS hl
          refine lv_iload hx hb d_Model_rules_42 (lv_at hl 0 rfl) ?_
          refine lv_bipush (v := 100) hx hb d_Model_rules_44 (by decide) ?_
          refine lv_icmp_ge (tgt := 125) hx hb d_Model_rules_46 (by decide) (fun hc_68 => ?_) (fun hc_68 => ?_)
          · have _nhc_68 := hc_68
            have ni_69 := (fa_le _ _).mp hc_68
            rw [li_100] at ni_69
            have hv_70 : zI y_66 100 100 := zI.le_r zc_100 hy_66 hc_68 (by decide)
            refine lv_iload_n hx hb d_Model_rules_125 rfl (lv_at hl 5 rfl) ?_
            refine lv_iconst (v := (-1)) hx hb d_Model_rules_126 (by decide) ?_
            refine lv_icmp_ne (tgt := 135) hx hb d_Model_rules_127 (by decide) (fun hc_71 => ?_) (fun hc_71 => ?_)
            · have _nhc_71 := hc_71
              have ni_72 : ¬ (b3 : Int32).toInt = ((-1) : Int32).toInt := fun z => hc_71 ((fa_eq _ _).mpr z)
              simp only [li_m1] at ni_72
              have hv_73 : zI b3 0 2147483647 := zI.ne_lo hv_25 zc_m1 hc_71 (by decide)
              refine lv_iconst (v := (-1)) hx hb d_Model_rules_135 (by decide) ?_
              exact z_iret hx hb hr hlocks hP hD hS (Nat.le_of_ble_eq_true rfl) (Nat.le_of_ble_eq_true rfl) d_Model_rules_136 ⟨(-1), rfl, rfl⟩
            · have _nhc_71 := hc_71
              have ni_74 := (fa_eq _ _).mp hc_71
              rw [li_m1] at ni_74
              have hv_75 : zI b3 (-1) (-1) := zI.eq_l hv_25 zc_m1 hc_71
              refine lv_iload hx hb d_Model_rules_130 (lv_at hl 1 rfl) ?_
              refine lv_goto (tgt := 136) hx hb d_Model_rules_132 (by decide) ?_
              exact z_iret hx hb hr hlocks hP hD hS (Nat.le_of_ble_eq_true rfl) (Nat.le_of_ble_eq_true rfl) d_Model_rules_136 ⟨y_67, rfl, rfl⟩
          · have _nhc_68 := hc_68
            have ni_76 := (fa_lt _ _).mp (zi_nle hc_68)
            rw [li_100] at ni_76
            have hv_77 : zI y_66 0 99 := zI.lt_l hy_66 zc_100 (zi_nle hc_68) (by decide)
            refine lv_iload hx hb d_Model_rules_49 (lv_at hl 0 rfl) ?_
            refine lv_bipush (v := 10) hx hb d_Model_rules_51 (by decide) ?_
            refine lv_idiv hx hb d_Model_rules_53 (by decide +kernel) ?_
            refine lv_topi (fun v_78 ev_78 => ?_)
            obtain ⟨qv_78, hv_78⟩ := zI_div (l := 0) (h := 9) (d := 10) hv_77 rfl ev_78 (by decide)
            refine lv_istore (lv' := [(6, .int v_78), (5, .int y_66), (4, .int y_67), (0, .ref b0), (1, .int b1), (2, .int b2), (3, .int b3)]) hx hb d_Model_rules_54 hl (by decide) rfl (fun ls hl => ?_)
            refine lv_iload hx hb d_Model_rules_56 (lv_at hl 1 rfl) ?_
            refine lv_bipush (v := 10) hx hb d_Model_rules_58 (by decide) ?_
            refine lv_irem hx hb d_Model_rules_60 (by decide +kernel) ?_
            refine lv_topi (fun v_79 ev_79 => ?_)
            obtain ⟨qv_79, hv_79⟩ := zI_rem (h := 9) (d := 10) hv_77 rfl ev_79 (by decide)
            refine lv_istore (lv' := [(7, .int v_79), (6, .int v_78), (5, .int y_66), (4, .int y_67), (0, .ref b0), (1, .int b1), (2, .int b2), (3, .int b3)]) hx hb d_Model_rules_61 hl (by decide) rfl (fun ls hl => ?_)
            refine lv_iload hx hb d_Model_rules_63 (lv_at hl 1 rfl) ?_
            refine lv_iload hx hb d_Model_rules_65 (lv_at hl 0 rfl) ?_
            refine lv_icmp_ne (tgt := 74) hx hb d_Model_rules_67 (by decide) (fun hc_80 => ?_) (fun hc_80 => ?_)
            · have _nhc_80 := hc_80
              have ni_81 : ¬ (v_78 : Int32).toInt = (v_79 : Int32).toInt := fun z => hc_80 ((fa_eq _ _).mpr z)
              refine lv_aload_n hx hb d_Model_rules_74 rfl (lv_at hl 4 rfl) ?_
              refine lv_iload_n hx hb d_Model_rules_75 rfl (lv_at hl 5 rfl) ?_
              refine lv_iload hx hb d_Model_rules_76 (lv_at hl 1 rfl) ?_
              refine lv_iload hx hb d_Model_rules_78 (lv_at hl 0 rfl) ?_
              refine lv_iconst (v := 0) hx hb d_Model_rules_80 (by decide) ?_
              refine z_callV (index := 394) (As := [.int b1, .int v_78, .int v_79, .int 0]) (rest := []) (wr := []) Z (s1_Model_asked l G (b0) (b1) (v_78) (v_79) (0) (0) (b5) (b6) (b7) (b8) (b9) (b10) (b11) (b12) (b13) (b14) (b15) (b16) (b17) (b18) (b19) (b20) (b21) (b22) (b23) (b24) (b25) (b26) (b27) (b28) (b29) (b30) (b31) (b32) (b33) (b34) (b35) (b36) (b37) (b38) (b39) (b40) (b41) (b42) (b43) (b44) (b45) (b46) (b47) (b48) (b49) (b50) (b51) (b52) (b53) (b54) (b55) (b56) (b57) (b58) hb9 hb11 hb12 hb14 hb18 hb31 hb34 hb45 hb48 hb54 hb58) hl.1 q1553 q1555 qs87 q14 q1556 ⟨by decide, by decide, by show _ = some 4; decide +kernel⟩ ⟨Nat.le_of_ble_eq_true rfl, Nat.le_of_ble_eq_true rfl⟩ ⟨Nat.le_of_ble_eq_true rfl, Nat.le_of_ble_eq_true rfl⟩ rfl (Nat.le_of_ble_eq_true rfl) d_Model_rules_81 hP hD hS hA 0 12 rfl rfl rfl [0, 1] [] rfl rfl rfl rfl (by decide) (fun v w1 H locs hw_82 hP hD hS => ?_)
              obtain ⟨x_83, rfl, rfl⟩ := hw_82
              have hP : va_P G.1 classes [(b0, .inr (12, [.int 0, .ref b5, .ref b6, .ref b7, .ref b8, .int b9, .ref b10, .int b11, .int b12, .int b13, .int b14, .ref b15, .ref b16, .ref b17, .int b18, .ref b19, .ref b20, .ref b21, .ref b22, .ref b23, .ref b24, .ref b25, .ref b26, .ref b27, .ref b28, .ref b29, .ref b30, .int b31, .ref b32, .ref b33, .int b34, .int b35, .int b36, .int b37, .ref b38, .ref b39, .ref b40, .ref b41, .ref b42, .ref b43, .ref b44, .int b45, .ref b46, .ref b47, .int b48, .ref b49, .ref b50, .ref b51, .ref b52, .ref b53, .int b54, .ref b55, .ref b56, .ref b57])), (b5, .inl (G.2 0, 503, .inl b58))] H := hP
              have hD := z_tie hP hD rfl
              refine W.widen (k := 0) (n := 0) (Nat.le_of_ble_eq_true rfl) (Nat.le_of_ble_eq_true rfl) ?_
              refine lv_istore (lv' := [(8, .int x_83), (7, .int v_79), (6, .int v_78), (5, .int y_66), (4, .int y_67), (0, .ref b0), (1, .int b1), (2, .int b2), (3, .int b3)]) hx hb d_Model_rules_84 hl (by decide) rfl (fun ls hl => ?_)
              refine lv_iload hx hb d_Model_rules_86 (lv_at hl 0 rfl) ?_
              refine lv_iload_n hx hb d_Model_rules_88 rfl (lv_at hl 7 rfl) ?_
              refine lv_icmp_lt (tgt := 119) hx hb d_Model_rules_89 (by decide) (fun hc_84 => ?_) (fun hc_84 => ?_)
              · have _nhc_84 := hc_84
                have ni_85 := (fa_lt _ _).mp hc_84
                have hv_86 : zI x_83 (-2147483648) 19 := zI.lt_l (zI_all x_83) hv_22 hc_84 (by decide)
                obtain ⟨v_87, ev_87⟩ : ∃ z : Int32, z = y_66 + 1 := ⟨_, rfl⟩
                obtain ⟨qv_87, hv_87⟩ := zI_add (l := 1) (h := 100) hv_77 zc_1 ev_87 (by decide)
                rw [li_1] at qv_87
                refine lv_iinc (v := v_87) (lv' := [(5, .int v_87), (8, .int x_83), (7, .int v_79), (6, .int v_78), (4, .int y_67), (0, .ref b0), (1, .int b1), (2, .int b2), (3, .int b3)]) hx hb d_Model_rules_119 hl (k := 3) rfl (by rw [ev_87]; rfl) (by decide) rfl (fun ls hl => ?_)
                refine lv_goto (tgt := 42) hx hb d_Model_rules_122 (by decide) ?_
                exact ihk_65 (v_87) (y_67) _ _ _ (zI.wk (l' := 0) (h' := 100) hv_87 (by decide)) (zm_up qv_87 hmk_65 (by decide)) hP hD hS (lv_sub hl [0, 4, 5, 6, 7, 8] rfl)
              · have _nhc_84 := hc_84
                have ni_88 := (fa_le _ _).mp (zi_nlt hc_84)
                have hv_89 : zI x_83 1 2147483647 := zI.le_r hv_22 (zI_all x_83) (zi_nlt hc_84) (by decide)
                refine lv_iload hx hb d_Model_rules_92 (lv_at hl 0 rfl) ?_
                refine lv_aload_n hx hb d_Model_rules_94 rfl (lv_at hl 5 rfl) ?_
                refine lv_iload_n hx hb d_Model_rules_95 rfl (lv_at hl 6 rfl) ?_
                refine lv_iload hx hb d_Model_rules_96 (lv_at hl 2 rfl) ?_
                refine lv_iload hx hb d_Model_rules_98 (lv_at hl 1 rfl) ?_
                refine lv_iconst (v := 1) hx hb d_Model_rules_100 (by decide) ?_
                refine z_callV (index := 394) (As := [.int b1, .int v_78, .int v_79, .int 1]) (rest := [.int x_83]) (wr := []) Z (s1_Model_asked l G (b0) (b1) (v_78) (v_79) (1) (0) (b5) (b6) (b7) (b8) (b9) (b10) (b11) (b12) (b13) (b14) (b15) (b16) (b17) (b18) (b19) (b20) (b21) (b22) (b23) (b24) (b25) (b26) (b27) (b28) (b29) (b30) (b31) (b32) (b33) (b34) (b35) (b36) (b37) (b38) (b39) (b40) (b41) (b42) (b43) (b44) (b45) (b46) (b47) (b48) (b49) (b50) (b51) (b52) (b53) (b54) (b55) (b56) (b57) (b58) hb9 hb11 hb12 hb14 hb18 hb31 hb34 hb45 hb48 hb54 hb58) hl.1 q1553 q1555 qs87 q14 q1556 ⟨by decide, by decide, by show _ = some 4; decide +kernel⟩ ⟨Nat.le_of_ble_eq_true rfl, Nat.le_of_ble_eq_true rfl⟩ ⟨Nat.le_of_ble_eq_true rfl, Nat.le_of_ble_eq_true rfl⟩ rfl (Nat.le_of_ble_eq_true rfl) d_Model_rules_101 hP hD hS hA 0 12 rfl rfl rfl [0, 1] [] rfl rfl rfl rfl (by decide) (fun v w1 H locs hw_90 hP hD hS => ?_)
                obtain ⟨x_91, rfl, rfl⟩ := hw_90
                have hP : va_P G.1 classes [(b0, .inr (12, [.int 0, .ref b5, .ref b6, .ref b7, .ref b8, .int b9, .ref b10, .int b11, .int b12, .int b13, .int b14, .ref b15, .ref b16, .ref b17, .int b18, .ref b19, .ref b20, .ref b21, .ref b22, .ref b23, .ref b24, .ref b25, .ref b26, .ref b27, .ref b28, .ref b29, .ref b30, .int b31, .ref b32, .ref b33, .int b34, .int b35, .int b36, .int b37, .ref b38, .ref b39, .ref b40, .ref b41, .ref b42, .ref b43, .ref b44, .int b45, .ref b46, .ref b47, .int b48, .ref b49, .ref b50, .ref b51, .ref b52, .ref b53, .int b54, .ref b55, .ref b56, .ref b57])), (b5, .inl (G.2 0, 503, .inl b58))] H := hP
                have hD := z_tie hP hD rfl
                refine W.widen (k := 0) (n := 0) (Nat.le_of_ble_eq_true rfl) (Nat.le_of_ble_eq_true rfl) ?_
                refine lv_icmp_ne (tgt := 119) hx hb d_Model_rules_104 (by decide) (fun hc_92 => ?_) (fun hc_92 => ?_)
                · have _nhc_92 := hc_92
                  have ni_93 : ¬ (x_83 : Int32).toInt = (x_91 : Int32).toInt := fun z => hc_92 ((fa_eq _ _).mpr z)
                  obtain ⟨v_94, ev_94⟩ : ∃ z : Int32, z = y_66 + 1 := ⟨_, rfl⟩
                  obtain ⟨qv_94, hv_94⟩ := zI_add (l := 1) (h := 100) hv_77 zc_1 ev_94 (by decide)
                  rw [li_1] at qv_94
                  refine lv_iinc (v := v_94) (lv' := [(5, .int v_94), (8, .int x_83), (7, .int v_79), (6, .int v_78), (4, .int y_67), (0, .ref b0), (1, .int b1), (2, .int b2), (3, .int b3)]) hx hb d_Model_rules_119 hl (k := 3) rfl (by rw [ev_94]; rfl) (by decide) rfl (fun ls hl => ?_)
                  refine lv_goto (tgt := 42) hx hb d_Model_rules_122 (by decide) ?_
                  exact ihk_65 (v_94) (y_67) _ _ _ (zI.wk (l' := 0) (h' := 100) hv_94 (by decide)) (zm_up qv_94 hmk_65 (by decide)) hP hD hS (lv_sub hl [0, 4, 5, 6, 7, 8] rfl)
                · have _nhc_92 := hc_92
                  have ni_95 := (fa_eq _ _).mp hc_92
                  have hv_96 : zI x_91 1 2147483647 := zI.eq_l (zI_all x_91) hv_89 hc_92.symm
                  refine lv_iload hx hb d_Model_rules_107 (lv_at hl 4 rfl) ?_
                  refine lv_iload_n hx hb d_Model_rules_109 rfl (lv_at hl 8 rfl) ?_
                  refine lv_icmp_ne (tgt := 116) hx hb d_Model_rules_110 (by decide) (fun hc_97 => ?_) (fun hc_97 => ?_)
                  · have _nhc_97 := hc_97
                    have ni_98 : ¬ (y_67 : Int32).toInt = (b3 : Int32).toInt := fun z => hc_97 ((fa_eq _ _).mpr z)
                    obtain ⟨v_99, ev_99⟩ : ∃ z : Int32, z = y_67 + 1 := ⟨_, rfl⟩
                    refine lv_iinc (v := v_99) (lv' := [(4, .int v_99), (8, .int x_83), (7, .int v_79), (6, .int v_78), (5, .int y_66), (0, .ref b0), (1, .int b1), (2, .int b2), (3, .int b3)]) hx hb d_Model_rules_116 hl (k := 4) rfl (by rw [ev_99]; rfl) (by decide) rfl (fun ls hl => ?_)
                    obtain ⟨v_100, ev_100⟩ : ∃ z : Int32, z = y_66 + 1 := ⟨_, rfl⟩
                    obtain ⟨qv_100, hv_100⟩ := zI_add (l := 1) (h := 100) hv_77 zc_1 ev_100 (by decide)
                    rw [li_1] at qv_100
                    refine lv_iinc (v := v_100) (lv' := [(5, .int v_100), (4, .int v_99), (8, .int x_83), (7, .int v_79), (6, .int v_78), (0, .ref b0), (1, .int b1), (2, .int b2), (3, .int b3)]) hx hb d_Model_rules_119 hl (k := 4) rfl (by rw [ev_100]; rfl) (by decide) rfl (fun ls hl => ?_)
                    refine lv_goto (tgt := 42) hx hb d_Model_rules_122 (by decide) ?_
                    exact ihk_65 (v_100) (v_99) _ _ _ (zI.wk (l' := 0) (h' := 100) hv_100 (by decide)) (zm_up qv_100 hmk_65 (by decide)) hP hD hS (lv_sub hl [0, 1, 5, 6, 7, 8] rfl)
                  · have _nhc_97 := hc_97
                    have ni_101 := (fa_eq _ _).mp hc_97
                    have hv_102 : zI y_67 (-1) 2147483647 := zI.eq_l (zI_all y_67) hv_25 hc_97
                    refine lv_iload hx hb d_Model_rules_113 (lv_at hl 3 rfl) ?_
                    exact z_iret hx hb hr hlocks hP hD hS (Nat.le_of_ble_eq_true rfl) (Nat.le_of_ble_eq_true rfl) d_Model_rules_115 ⟨y_66, rfl, rfl⟩
            · have _nhc_80 := hc_80
              have ni_103 := (fa_eq _ _).mp hc_80
              refine lv_iconst (v := 0) hx hb d_Model_rules_70 (by decide) ?_
              refine lv_goto (tgt := 84) hx hb d_Model_rules_71 (by decide) ?_
              refine lv_istore (lv' := [(8, .int 0), (7, .int v_79), (6, .int v_78), (5, .int y_66), (4, .int y_67), (0, .ref b0), (1, .int b1), (2, .int b2), (3, .int b3)]) hx hb d_Model_rules_84 hl (by decide) rfl (fun ls hl => ?_)
              refine lv_iload hx hb d_Model_rules_86 (lv_at hl 0 rfl) ?_
              refine lv_iload_n hx hb d_Model_rules_88 rfl (lv_at hl 7 rfl) ?_
              refine lv_icmp_lt (tgt := 119) hx hb d_Model_rules_89 (by decide) (fun _ => ?_) (fun hc => zI.no_le hv_22 zc_0 (zi_nlt hc) (by decide))
              obtain ⟨v_104, ev_104⟩ : ∃ z : Int32, z = y_66 + 1 := ⟨_, rfl⟩
              obtain ⟨qv_104, hv_104⟩ := zI_add (l := 1) (h := 100) hv_77 zc_1 ev_104 (by decide)
              rw [li_1] at qv_104
              refine lv_iinc (v := v_104) (lv' := [(5, .int v_104), (8, .int 0), (7, .int v_79), (6, .int v_78), (4, .int y_67), (0, .ref b0), (1, .int b1), (2, .int b2), (3, .int b3)]) hx hb d_Model_rules_119 hl (k := 3) rfl (by rw [ev_104]; rfl) (by decide) rfl (fun ls hl => ?_)
              refine lv_goto (tgt := 42) hx hb d_Model_rules_122 (by decide) ?_
              exact ihk_65 (v_104) (y_67) _ _ _ (zI.wk (l' := 0) (h' := 100) hv_104 (by decide)) (zm_up qv_104 hmk_65 (by decide)) hP hD hS (lv_sub hl [0, 4, 5, 6, 7, 8] rfl)
      · have _nhc_23 := hc_23
        have ni_105 := (fa_lt _ _).mp (zi_nle hc_23)
        rw [li_m1] at ni_105
        have hv_106 : zI b3 (-2147483648) (-2) := zI.lt_l (zI_all b3) zc_m1 (zi_nle hc_23) (by decide)
        refine lv_iconst (v := (-1)) hx hb d_Model_rules_34 (by decide) ?_
        exact z_iret hx hb hr hlocks hP hD hS (Nat.le_of_ble_eq_true rfl) (Nat.le_of_ble_eq_true rfl) d_Model_rules_35 ⟨(-1), rfl, rfl⟩
