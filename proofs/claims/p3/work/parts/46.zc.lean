abbrev m_s2_Model_valueAt : Room := { frames := 0, cells := 0, slots := 0, locals := 0 }
set_option maxHeartbeats 4000000 in
set_option maxRecDepth 100000 in
theorem s2_Model_valueAt (l : Launch) (G : zG) (b0 : Nat) (b1 : Int32) (b2 : Int32) (b3 : Int32) (b4 : Nat) (b5 : Nat) (b6 : Nat) (b7 : Nat) (b8 : Int32) (b9 : Nat) (b10 : Int32) (b11 : Int32) (b12 : Int32) (b13 : Int32) (b14 : Nat) (b15 : Nat) (b16 : Nat) (b17 : Int32) (b18 : Nat) (b19 : Nat) (b20 : Nat) (b21 : Nat) (b22 : Nat) (b23 : Nat) (b24 : Nat) (b25 : Nat) (b26 : Nat) (b27 : Nat) (b28 : Nat) (b29 : Nat) (b30 : Int32) (b31 : Nat) (b32 : Nat) (b33 : Int32) (b34 : Int32) (b35 : Int32) (b36 : Int32) (b37 : Nat) (b38 : Nat) (b39 : Nat) (b40 : Nat) (b41 : Nat) (b42 : Nat) (b43 : Nat) (b44 : Int32) (b45 : Nat) (b46 : Nat) (b47 : Int32) (b48 : Nat) (b49 : Nat) (b50 : Nat) (b51 : Nat) (b52 : Nat) (b53 : Int32) (b54 : Nat) (b55 : Nat) (b56 : Nat) (b57 : Nat → Int32) (hb1 : zI b1 0 19) (hb2 : zI b2 0 11) (hb8 : zI b8 0 8) (hb10 : zI b10 0 240) (hb11 : zI b11 0 240) (hb13 : zI b13 0 1) (hb17 : zI b17 0 12) (hb30 : zI b30 0 1) (hb33 : zI b33 0 1) (hb44 : zI b44 0 1000) (hb47 : zI b47 0 1000) (hb53 : zI b53 0 400) (hb57 : zW5 b57) : zM l G y_Model_valueAt prog_14_method_8_code 3 (Option.some Jvm.ClassFile.FieldType.int) m_s2_Model_valueAt [.ref b0, .int b1, .int b2] [(b0, .inr (12, [.int b3, .ref b4, .ref b5, .ref b6, .ref b7, .int b8, .ref b9, .int b10, .int b11, .int b12, .int b13, .ref b14, .ref b15, .ref b16, .int b17, .ref b18, .ref b19, .ref b20, .ref b21, .ref b22, .ref b23, .ref b24, .ref b25, .ref b26, .ref b27, .ref b28, .ref b29, .int b30, .ref b31, .ref b32, .int b33, .int b34, .int b35, .int b36, .ref b37, .ref b38, .ref b39, .ref b40, .ref b41, .ref b42, .ref b43, .int b44, .ref b45, .ref b46, .int b47, .ref b48, .ref b49, .ref b50, .ref b51, .ref b52, .int b53, .ref b54, .ref b55, .ref b56])), (b4, .inl (G.2 0, 503, .inl b57))] (fun v w => ∃ (e0 : Int32), v = some (.int e0) ∧ w = [(b0, .inr (12, [.int b3, .ref b4, .ref b5, .ref b6, .ref b7, .int b8, .ref b9, .int b10, .int b11, .int b12, .int b13, .ref b14, .ref b15, .ref b16, .int b17, .ref b18, .ref b19, .ref b20, .ref b21, .ref b22, .ref b23, .ref b24, .ref b25, .ref b26, .ref b27, .ref b28, .ref b29, .int b30, .ref b31, .ref b32, .int b33, .int b34, .int b35, .int b36, .ref b37, .ref b38, .ref b39, .ref b40, .ref b41, .ref b42, .ref b43, .int b44, .ref b45, .ref b46, .int b47, .ref b48, .ref b49, .ref b50, .ref b51, .ref b52, .int b53, .ref b54, .ref b55, .ref b56])), (b4, .inl (G.2 0, 503, .inl b57))] ∧ (e0 = b57 (261 + (12 * b1.toInt.toNat + b2.toInt.toNat)))) := by
  refine z_start (by decide +kernel) (Nat.le_of_ble_eq_true rfl) ?_
  intro p e s m below meth c A Z hr hnm hA hP hD hS ls hl
  have Z : zC p s m _ meth c prog_14_method_8_code 3 "TraceMachinesModel" G := Z
  obtain ⟨hx, hb, hml, hown, hts, hK, hN, hlocks⟩ := id Z
  have hl : lv_has ls 3 [(0, .ref b0), (1, .int b1), (2, .int b2)] := hl
  refine lv_aload_n hx hb d_Model_valueAt_0 rfl (lv_at hl 0 rfl) ?_
  refine va_get (D := G.1) (ci := 12) (v := .ref b4) (C := R_Model) (T := F_Model) (N := 54) hx hb hts i_Model hown hK hP 0 rfl rfl 1 (by decide) (hts _ q1110) (fun _ h9 => h9) rfl d_Model_valueAt_1 ?_
  refine lv_sipush (v := 261) hx hb d_Model_valueAt_4 (by decide) ?_
  refine lv_bipush (v := 12) hx hb d_Model_valueAt_7 (by decide) ?_
  refine lv_iload_n hx hb d_Model_valueAt_9 rfl (lv_at hl 1 rfl) ?_
  refine lv_imul hx hb d_Model_valueAt_10 ?_
  refine lv_topi (fun v_1 ev_1 => ?_)
  obtain ⟨qv_1, hv_1⟩ := zI_mul (l := 0) (h := 228) zc_12 hb1 ev_1 (by decide)
  rw [li_12] at qv_1
  refine lv_iadd hx hb d_Model_valueAt_11 ?_
  refine lv_topi (fun v_2 ev_2 => ?_)
  obtain ⟨qv_2, hv_2⟩ := zI_add (l := 261) (h := 489) zc_261 hv_1 ev_2 (by decide)
  rw [li_261] at qv_2
  refine lv_iload_n hx hb d_Model_valueAt_12 rfl (lv_at hl 2 rfl) ?_
  refine lv_iadd hx hb d_Model_valueAt_13 ?_
  refine lv_topi (fun v_3 ev_3 => ?_)
  obtain ⟨qv_3, hv_3⟩ := zI_add (l := 261) (h := 500) hv_2 hb2 ev_3 (by decide)
  refine va_iald hx hb hK hP 1 0 rfl rfl (zI.inn hv_3 (by decide)) d_Model_valueAt_14 ?_
  refine lv_topi (fun v_4 ev_4 => ?_)
  exact z_iret hx hb hr hlocks hP hD hS (Nat.le_of_ble_eq_true rfl) (Nat.le_of_ble_eq_true rfl) d_Model_valueAt_15 ⟨v_4, rfl, rfl, (by rw [ev_4, z_plf hv_3 (by decide)]; congr 1; omega)⟩
abbrev m_s21_Model_edgeAt : Room := { frames := 0, cells := 0, slots := 0, locals := 0 }
set_option maxHeartbeats 4000000 in
set_option maxRecDepth 100000 in
theorem s21_Model_edgeAt (l : Launch) (G : zG) (b0 : Nat) (b1 : Int32) (b2 : Int32) (b3 : Nat) (b4 : Nat) (b5 : Nat) (b6 : Nat) (b7 : Int32) (b8 : Nat) (b9 : Int32) (b10 : Int32) (b11 : Int32) (b12 : Int32) (b13 : Nat) (b14 : Nat) (b15 : Nat) (b16 : Int32) (b17 : Nat) (b18 : Nat) (b19 : Nat) (b20 : Nat) (b21 : Nat) (b22 : Nat) (b23 : Nat) (b24 : Nat) (b25 : Nat) (b26 : Nat) (b27 : Nat) (b28 : Nat) (b29 : Int32) (b30 : Nat) (b31 : Nat) (b32 : Int32) (b33 : Int32) (b34 : Int32) (b35 : Int32) (b36 : Nat) (b37 : Nat) (b38 : Nat) (b39 : Nat) (b40 : Nat) (b41 : Nat) (b42 : Nat) (b43 : Int32) (b44 : Nat) (b45 : Nat) (b46 : Int32) (b47 : Nat) (b48 : Nat) (b49 : Nat) (b50 : Nat) (b51 : Nat) (b52 : Int32) (b53 : Nat) (b54 : Nat) (b55 : Nat) (b56 : Nat → Int32) (hb1 : zI b1 0 240) (hb7 : zI b7 0 8) (hb9 : zI b9 0 240) (hb10 : zI b10 0 240) (hb12 : zI b12 0 1) (hb16 : zI b16 0 12) (hb29 : zI b29 0 1) (hb32 : zI b32 0 1) (hb43 : zI b43 0 1000) (hb46 : zI b46 0 1000) (hb52 : zI b52 0 400) (hb56 : zqa qE b56) : zM l G y_Model_edgeAt prog_14_method_25_code 4 (Option.some Jvm.ClassFile.FieldType.int) m_s21_Model_edgeAt [.ref b0, .int 0, .int b1, .int 0] [(b0, .inr (12, [.int b2, .ref b3, .ref b4, .ref b5, .ref b6, .int b7, .ref b8, .int b9, .int b10, .int b11, .int b12, .ref b13, .ref b14, .ref b15, .int b16, .ref b17, .ref b18, .ref b19, .ref b20, .ref b21, .ref b22, .ref b23, .ref b24, .ref b25, .ref b26, .ref b27, .ref b28, .int b29, .ref b30, .ref b31, .int b32, .int b33, .int b34, .int b35, .ref b36, .ref b37, .ref b38, .ref b39, .ref b40, .ref b41, .ref b42, .int b43, .ref b44, .ref b45, .int b46, .ref b47, .ref b48, .ref b49, .ref b50, .ref b51, .int b52, .ref b53, .ref b54, .ref b55])), (b28, .inl (G.2 0, 2880, .inl b56))] (fun v w => ∃ (e0 : Int32), v = some (.int e0) ∧ w = [(b0, .inr (12, [.int b2, .ref b3, .ref b4, .ref b5, .ref b6, .int b7, .ref b8, .int b9, .int b10, .int b11, .int b12, .ref b13, .ref b14, .ref b15, .int b16, .ref b17, .ref b18, .ref b19, .ref b20, .ref b21, .ref b22, .ref b23, .ref b24, .ref b25, .ref b26, .ref b27, .ref b28, .int b29, .ref b30, .ref b31, .int b32, .int b33, .int b34, .int b35, .ref b36, .ref b37, .ref b38, .ref b39, .ref b40, .ref b41, .ref b42, .int b43, .ref b44, .ref b45, .int b46, .ref b47, .ref b48, .ref b49, .ref b50, .ref b51, .int b52, .ref b53, .ref b54, .ref b55])), (b28, .inl (G.2 0, 2880, .inl b56))] ∧ (zI e0 0 240) ∧ (e0 = b56 (6 * b1.toInt.toNat + 0)) ∧ (e0 = b56 (0 + 6 * b1.toInt.toNat))) := by
  refine z_start (by decide +kernel) (Nat.le_of_ble_eq_true rfl) ?_
  intro p e s m below meth c A Z hr hnm hA hP hD hS ls hl
  have Z : zC p s m _ meth c prog_14_method_25_code 4 "TraceMachinesModel" G := Z
  obtain ⟨hx, hb, hml, hown, hts, hK, hN, hlocks⟩ := id Z
  have hl : lv_has ls 4 [(0, .ref b0), (1, .int 0), (2, .int b1), (3, .int 0)] := hl
  refine lv_aload_n hx hb d_Model_edgeAt_0 rfl (lv_at hl 0 rfl) ?_
  refine va_get (D := G.1) (ci := 12) (v := .ref b28) (C := R_Model) (T := F_Model) (N := 54) hx hb hts i_Model hown hK hP 0 rfl rfl 26 (by decide) (hts _ q1135) (fun _ h9 => h9) rfl d_Model_edgeAt_1 ?_
  refine lv_bipush (v := 6) hx hb d_Model_edgeAt_4 (by decide) ?_
  refine lv_sipush (v := 240) hx hb d_Model_edgeAt_6 (by decide) ?_
  refine lv_iload_n hx hb d_Model_edgeAt_9 rfl (lv_at hl 1 rfl) ?_
  refine lv_imul hx hb d_Model_edgeAt_10 ?_
  refine z_topi (y := 0) (by decide +kernel) ?_
  refine lv_iload_n hx hb d_Model_edgeAt_11 rfl (lv_at hl 2 rfl) ?_
  refine lv_iadd hx hb d_Model_edgeAt_12 ?_
  refine lv_topi (fun v_1 ev_1 => ?_)
  obtain ⟨qv_1, hv_1⟩ := zI_add (l := 0) (h := 240) zc_0 hb1 ev_1 (by decide)
  rw [li_0] at qv_1
  refine lv_imul hx hb d_Model_edgeAt_13 ?_
  refine lv_topi (fun v_2 ev_2 => ?_)
  obtain ⟨qv_2, hv_2⟩ := zI_mul (l := 0) (h := 1440) zc_6 hv_1 ev_2 (by decide)
  rw [li_6] at qv_2
  refine lv_iload_n hx hb d_Model_edgeAt_14 rfl (lv_at hl 3 rfl) ?_
  refine lv_iadd hx hb d_Model_edgeAt_15 ?_
  refine lv_topi (fun v_3 ev_3 => ?_)
  obtain ⟨qv_3, hv_3⟩ := zI_add (l := 0) (h := 1440) hv_2 zc_0 ev_3 (by decide)
  rw [li_0] at qv_3
  refine va_iald hx hb hK hP 1 0 rfl rfl (zI.inn hv_3 (by decide)) d_Model_edgeAt_16 ?_
  refine lv_topi (fun v_4 ev_4 => ?_)
  have kv_4 := zQE.ld hb56 hv_3 ev_4 (by decide)
  have hv_4 : zI v_4 0 240 := kv_4.1 (by omega)
  exact z_iret hx hb hr hlocks hP hD hS (Nat.le_of_ble_eq_true rfl) (Nat.le_of_ble_eq_true rfl) d_Model_edgeAt_17 ⟨v_4, rfl, rfl, hv_4, (by rw [ev_4, z_plf hv_3 (by decide)]; congr 1; omega), (by rw [ev_4, z_plf hv_3 (by decide)]; congr 1; omega)⟩
abbrev m_s22_Model_edgeAt : Room := { frames := 0, cells := 0, slots := 0, locals := 0 }
set_option maxHeartbeats 4000000 in
set_option maxRecDepth 100000 in
theorem s22_Model_edgeAt (l : Launch) (G : zG) (b0 : Nat) (b1 : Int32) (b2 : Int32) (b3 : Nat) (b4 : Nat) (b5 : Nat) (b6 : Nat) (b7 : Int32) (b8 : Nat) (b9 : Int32) (b10 : Int32) (b11 : Int32) (b12 : Int32) (b13 : Nat) (b14 : Nat) (b15 : Nat) (b16 : Int32) (b17 : Nat) (b18 : Nat) (b19 : Nat) (b20 : Nat) (b21 : Nat) (b22 : Nat) (b23 : Nat) (b24 : Nat) (b25 : Nat) (b26 : Nat) (b27 : Nat) (b28 : Nat) (b29 : Int32) (b30 : Nat) (b31 : Nat) (b32 : Int32) (b33 : Int32) (b34 : Int32) (b35 : Int32) (b36 : Nat) (b37 : Nat) (b38 : Nat) (b39 : Nat) (b40 : Nat) (b41 : Nat) (b42 : Nat) (b43 : Int32) (b44 : Nat) (b45 : Nat) (b46 : Int32) (b47 : Nat) (b48 : Nat) (b49 : Nat) (b50 : Nat) (b51 : Nat) (b52 : Int32) (b53 : Nat) (b54 : Nat) (b55 : Nat) (b56 : Nat → Int32) (hb1 : zI b1 0 240) (hb7 : zI b7 0 8) (hb9 : zI b9 0 240) (hb10 : zI b10 0 240) (hb12 : zI b12 0 1) (hb16 : zI b16 0 12) (hb29 : zI b29 0 1) (hb32 : zI b32 0 1) (hb43 : zI b43 0 1000) (hb46 : zI b46 0 1000) (hb52 : zI b52 0 400) (hb56 : zqa qE b56) : zM l G y_Model_edgeAt prog_14_method_25_code 4 (Option.some Jvm.ClassFile.FieldType.int) m_s22_Model_edgeAt [.ref b0, .int 0, .int b1, .int 1] [(b0, .inr (12, [.int b2, .ref b3, .ref b4, .ref b5, .ref b6, .int b7, .ref b8, .int b9, .int b10, .int b11, .int b12, .ref b13, .ref b14, .ref b15, .int b16, .ref b17, .ref b18, .ref b19, .ref b20, .ref b21, .ref b22, .ref b23, .ref b24, .ref b25, .ref b26, .ref b27, .ref b28, .int b29, .ref b30, .ref b31, .int b32, .int b33, .int b34, .int b35, .ref b36, .ref b37, .ref b38, .ref b39, .ref b40, .ref b41, .ref b42, .int b43, .ref b44, .ref b45, .int b46, .ref b47, .ref b48, .ref b49, .ref b50, .ref b51, .int b52, .ref b53, .ref b54, .ref b55])), (b28, .inl (G.2 0, 2880, .inl b56))] (fun v w => ∃ (e0 : Int32), v = some (.int e0) ∧ w = [(b0, .inr (12, [.int b2, .ref b3, .ref b4, .ref b5, .ref b6, .int b7, .ref b8, .int b9, .int b10, .int b11, .int b12, .ref b13, .ref b14, .ref b15, .int b16, .ref b17, .ref b18, .ref b19, .ref b20, .ref b21, .ref b22, .ref b23, .ref b24, .ref b25, .ref b26, .ref b27, .ref b28, .int b29, .ref b30, .ref b31, .int b32, .int b33, .int b34, .int b35, .ref b36, .ref b37, .ref b38, .ref b39, .ref b40, .ref b41, .ref b42, .int b43, .ref b44, .ref b45, .int b46, .ref b47, .ref b48, .ref b49, .ref b50, .ref b51, .int b52, .ref b53, .ref b54, .ref b55])), (b28, .inl (G.2 0, 2880, .inl b56))] ∧ (zI e0 0 9) ∧ (e0 = b56 (6 * b1.toInt.toNat + 1)) ∧ (e0 = b56 (0 + 6 * b1.toInt.toNat + 1))) := by
  refine z_start (by decide +kernel) (Nat.le_of_ble_eq_true rfl) ?_
  intro p e s m below meth c A Z hr hnm hA hP hD hS ls hl
  have Z : zC p s m _ meth c prog_14_method_25_code 4 "TraceMachinesModel" G := Z
  obtain ⟨hx, hb, hml, hown, hts, hK, hN, hlocks⟩ := id Z
  have hl : lv_has ls 4 [(0, .ref b0), (1, .int 0), (2, .int b1), (3, .int 1)] := hl
  refine lv_aload_n hx hb d_Model_edgeAt_0 rfl (lv_at hl 0 rfl) ?_
  refine va_get (D := G.1) (ci := 12) (v := .ref b28) (C := R_Model) (T := F_Model) (N := 54) hx hb hts i_Model hown hK hP 0 rfl rfl 26 (by decide) (hts _ q1135) (fun _ h9 => h9) rfl d_Model_edgeAt_1 ?_
  refine lv_bipush (v := 6) hx hb d_Model_edgeAt_4 (by decide) ?_
  refine lv_sipush (v := 240) hx hb d_Model_edgeAt_6 (by decide) ?_
  refine lv_iload_n hx hb d_Model_edgeAt_9 rfl (lv_at hl 1 rfl) ?_
  refine lv_imul hx hb d_Model_edgeAt_10 ?_
  refine z_topi (y := 0) (by decide +kernel) ?_
  refine lv_iload_n hx hb d_Model_edgeAt_11 rfl (lv_at hl 2 rfl) ?_
  refine lv_iadd hx hb d_Model_edgeAt_12 ?_
  refine lv_topi (fun v_1 ev_1 => ?_)
  obtain ⟨qv_1, hv_1⟩ := zI_add (l := 0) (h := 240) zc_0 hb1 ev_1 (by decide)
  rw [li_0] at qv_1
  refine lv_imul hx hb d_Model_edgeAt_13 ?_
  refine lv_topi (fun v_2 ev_2 => ?_)
  obtain ⟨qv_2, hv_2⟩ := zI_mul (l := 0) (h := 1440) zc_6 hv_1 ev_2 (by decide)
  rw [li_6] at qv_2
  refine lv_iload_n hx hb d_Model_edgeAt_14 rfl (lv_at hl 3 rfl) ?_
  refine lv_iadd hx hb d_Model_edgeAt_15 ?_
  refine lv_topi (fun v_3 ev_3 => ?_)
  obtain ⟨qv_3, hv_3⟩ := zI_add (l := 1) (h := 1441) hv_2 zc_1 ev_3 (by decide)
  rw [li_1] at qv_3
  refine va_iald hx hb hK hP 1 0 rfl rfl (zI.inn hv_3 (by decide)) d_Model_edgeAt_16 ?_
  refine lv_topi (fun v_4 ev_4 => ?_)
  have kv_4 := zQE.ld hb56 hv_3 ev_4 (by decide)
  have hv_4 : zI v_4 0 9 := kv_4.2.1 (by omega)
  exact z_iret hx hb hr hlocks hP hD hS (Nat.le_of_ble_eq_true rfl) (Nat.le_of_ble_eq_true rfl) d_Model_edgeAt_17 ⟨v_4, rfl, rfl, hv_4, (by rw [ev_4, z_plf hv_3 (by decide)]; congr 1; omega), (by rw [ev_4, z_plf hv_3 (by decide)]; congr 1; omega)⟩
abbrev m_s23_Model_edgeAt : Room := { frames := 0, cells := 0, slots := 0, locals := 0 }
set_option maxHeartbeats 4000000 in
set_option maxRecDepth 100000 in
theorem s23_Model_edgeAt (l : Launch) (G : zG) (b0 : Nat) (b1 : Int32) (b2 : Int32) (b3 : Nat) (b4 : Nat) (b5 : Nat) (b6 : Nat) (b7 : Int32) (b8 : Nat) (b9 : Int32) (b10 : Int32) (b11 : Int32) (b12 : Int32) (b13 : Nat) (b14 : Nat) (b15 : Nat) (b16 : Int32) (b17 : Nat) (b18 : Nat) (b19 : Nat) (b20 : Nat) (b21 : Nat) (b22 : Nat) (b23 : Nat) (b24 : Nat) (b25 : Nat) (b26 : Nat) (b27 : Nat) (b28 : Nat) (b29 : Int32) (b30 : Nat) (b31 : Nat) (b32 : Int32) (b33 : Int32) (b34 : Int32) (b35 : Int32) (b36 : Nat) (b37 : Nat) (b38 : Nat) (b39 : Nat) (b40 : Nat) (b41 : Nat) (b42 : Nat) (b43 : Int32) (b44 : Nat) (b45 : Nat) (b46 : Int32) (b47 : Nat) (b48 : Nat) (b49 : Nat) (b50 : Nat) (b51 : Nat) (b52 : Int32) (b53 : Nat) (b54 : Nat) (b55 : Nat) (b56 : Nat → Int32) (hb1 : zI b1 0 240) (hb7 : zI b7 0 8) (hb9 : zI b9 0 240) (hb10 : zI b10 0 240) (hb12 : zI b12 0 1) (hb16 : zI b16 0 12) (hb29 : zI b29 0 1) (hb32 : zI b32 0 1) (hb43 : zI b43 0 1000) (hb46 : zI b46 0 1000) (hb52 : zI b52 0 400) (hb56 : zqa qE b56) : zM l G y_Model_edgeAt prog_14_method_25_code 4 (Option.some Jvm.ClassFile.FieldType.int) m_s23_Model_edgeAt [.ref b0, .int 0, .int b1, .int 2] [(b0, .inr (12, [.int b2, .ref b3, .ref b4, .ref b5, .ref b6, .int b7, .ref b8, .int b9, .int b10, .int b11, .int b12, .ref b13, .ref b14, .ref b15, .int b16, .ref b17, .ref b18, .ref b19, .ref b20, .ref b21, .ref b22, .ref b23, .ref b24, .ref b25, .ref b26, .ref b27, .ref b28, .int b29, .ref b30, .ref b31, .int b32, .int b33, .int b34, .int b35, .ref b36, .ref b37, .ref b38, .ref b39, .ref b40, .ref b41, .ref b42, .int b43, .ref b44, .ref b45, .int b46, .ref b47, .ref b48, .ref b49, .ref b50, .ref b51, .int b52, .ref b53, .ref b54, .ref b55])), (b28, .inl (G.2 0, 2880, .inl b56))] (fun v w => ∃ (e0 : Int32), v = some (.int e0) ∧ w = [(b0, .inr (12, [.int b2, .ref b3, .ref b4, .ref b5, .ref b6, .int b7, .ref b8, .int b9, .int b10, .int b11, .int b12, .ref b13, .ref b14, .ref b15, .int b16, .ref b17, .ref b18, .ref b19, .ref b20, .ref b21, .ref b22, .ref b23, .ref b24, .ref b25, .ref b26, .ref b27, .ref b28, .int b29, .ref b30, .ref b31, .int b32, .int b33, .int b34, .int b35, .ref b36, .ref b37, .ref b38, .ref b39, .ref b40, .ref b41, .ref b42, .int b43, .ref b44, .ref b45, .int b46, .ref b47, .ref b48, .ref b49, .ref b50, .ref b51, .int b52, .ref b53, .ref b54, .ref b55])), (b28, .inl (G.2 0, 2880, .inl b56))] ∧ (zI e0 0 240) ∧ (e0 = b56 (6 * b1.toInt.toNat + 2)) ∧ (e0 = b56 (0 + 6 * b1.toInt.toNat + 2))) := by
  refine z_start (by decide +kernel) (Nat.le_of_ble_eq_true rfl) ?_
  intro p e s m below meth c A Z hr hnm hA hP hD hS ls hl
  have Z : zC p s m _ meth c prog_14_method_25_code 4 "TraceMachinesModel" G := Z
  obtain ⟨hx, hb, hml, hown, hts, hK, hN, hlocks⟩ := id Z
  have hl : lv_has ls 4 [(0, .ref b0), (1, .int 0), (2, .int b1), (3, .int 2)] := hl
  refine lv_aload_n hx hb d_Model_edgeAt_0 rfl (lv_at hl 0 rfl) ?_
  refine va_get (D := G.1) (ci := 12) (v := .ref b28) (C := R_Model) (T := F_Model) (N := 54) hx hb hts i_Model hown hK hP 0 rfl rfl 26 (by decide) (hts _ q1135) (fun _ h9 => h9) rfl d_Model_edgeAt_1 ?_
  refine lv_bipush (v := 6) hx hb d_Model_edgeAt_4 (by decide) ?_
  refine lv_sipush (v := 240) hx hb d_Model_edgeAt_6 (by decide) ?_
  refine lv_iload_n hx hb d_Model_edgeAt_9 rfl (lv_at hl 1 rfl) ?_
  refine lv_imul hx hb d_Model_edgeAt_10 ?_
  refine z_topi (y := 0) (by decide +kernel) ?_
  refine lv_iload_n hx hb d_Model_edgeAt_11 rfl (lv_at hl 2 rfl) ?_
  refine lv_iadd hx hb d_Model_edgeAt_12 ?_
  refine lv_topi (fun v_1 ev_1 => ?_)
  obtain ⟨qv_1, hv_1⟩ := zI_add (l := 0) (h := 240) zc_0 hb1 ev_1 (by decide)
  rw [li_0] at qv_1
  refine lv_imul hx hb d_Model_edgeAt_13 ?_
  refine lv_topi (fun v_2 ev_2 => ?_)
  obtain ⟨qv_2, hv_2⟩ := zI_mul (l := 0) (h := 1440) zc_6 hv_1 ev_2 (by decide)
  rw [li_6] at qv_2
  refine lv_iload_n hx hb d_Model_edgeAt_14 rfl (lv_at hl 3 rfl) ?_
  refine lv_iadd hx hb d_Model_edgeAt_15 ?_
  refine lv_topi (fun v_3 ev_3 => ?_)
  obtain ⟨qv_3, hv_3⟩ := zI_add (l := 2) (h := 1442) hv_2 zc_2 ev_3 (by decide)
  rw [li_2] at qv_3
  refine va_iald hx hb hK hP 1 0 rfl rfl (zI.inn hv_3 (by decide)) d_Model_edgeAt_16 ?_
  refine lv_topi (fun v_4 ev_4 => ?_)
  have kv_4 := zQE.ld hb56 hv_3 ev_4 (by decide)
  have hv_4 : zI v_4 0 240 := kv_4.2.2 (by omega)
  exact z_iret hx hb hr hlocks hP hD hS (Nat.le_of_ble_eq_true rfl) (Nat.le_of_ble_eq_true rfl) d_Model_edgeAt_17 ⟨v_4, rfl, rfl, hv_4, (by rw [ev_4, z_plf hv_3 (by decide)]; congr 1; omega), (by rw [ev_4, z_plf hv_3 (by decide)]; congr 1; omega)⟩
abbrev m_s24_Model_edgeAt : Room := { frames := 0, cells := 0, slots := 0, locals := 0 }
set_option maxHeartbeats 4000000 in
set_option maxRecDepth 100000 in
theorem s24_Model_edgeAt (l : Launch) (G : zG) (b0 : Nat) (b1 : Int32) (b2 : Int32) (b3 : Nat) (b4 : Nat) (b5 : Nat) (b6 : Nat) (b7 : Int32) (b8 : Nat) (b9 : Int32) (b10 : Int32) (b11 : Int32) (b12 : Int32) (b13 : Nat) (b14 : Nat) (b15 : Nat) (b16 : Int32) (b17 : Nat) (b18 : Nat) (b19 : Nat) (b20 : Nat) (b21 : Nat) (b22 : Nat) (b23 : Nat) (b24 : Nat) (b25 : Nat) (b26 : Nat) (b27 : Nat) (b28 : Nat) (b29 : Int32) (b30 : Nat) (b31 : Nat) (b32 : Int32) (b33 : Int32) (b34 : Int32) (b35 : Int32) (b36 : Nat) (b37 : Nat) (b38 : Nat) (b39 : Nat) (b40 : Nat) (b41 : Nat) (b42 : Nat) (b43 : Int32) (b44 : Nat) (b45 : Nat) (b46 : Int32) (b47 : Nat) (b48 : Nat) (b49 : Nat) (b50 : Nat) (b51 : Nat) (b52 : Int32) (b53 : Nat) (b54 : Nat) (b55 : Nat) (b56 : Nat → Int32) (hb1 : zI b1 0 240) (hb7 : zI b7 0 8) (hb9 : zI b9 0 240) (hb10 : zI b10 0 240) (hb12 : zI b12 0 1) (hb16 : zI b16 0 12) (hb29 : zI b29 0 1) (hb32 : zI b32 0 1) (hb43 : zI b43 0 1000) (hb46 : zI b46 0 1000) (hb52 : zI b52 0 400) (hb56 : zqa qE b56) : zM l G y_Model_edgeAt prog_14_method_25_code 4 (Option.some Jvm.ClassFile.FieldType.int) m_s24_Model_edgeAt [.ref b0, .int 0, .int b1, .int 3] [(b0, .inr (12, [.int b2, .ref b3, .ref b4, .ref b5, .ref b6, .int b7, .ref b8, .int b9, .int b10, .int b11, .int b12, .ref b13, .ref b14, .ref b15, .int b16, .ref b17, .ref b18, .ref b19, .ref b20, .ref b21, .ref b22, .ref b23, .ref b24, .ref b25, .ref b26, .ref b27, .ref b28, .int b29, .ref b30, .ref b31, .int b32, .int b33, .int b34, .int b35, .ref b36, .ref b37, .ref b38, .ref b39, .ref b40, .ref b41, .ref b42, .int b43, .ref b44, .ref b45, .int b46, .ref b47, .ref b48, .ref b49, .ref b50, .ref b51, .int b52, .ref b53, .ref b54, .ref b55])), (b28, .inl (G.2 0, 2880, .inl b56))] (fun v w => ∃ (e0 : Int32), v = some (.int e0) ∧ w = [(b0, .inr (12, [.int b2, .ref b3, .ref b4, .ref b5, .ref b6, .int b7, .ref b8, .int b9, .int b10, .int b11, .int b12, .ref b13, .ref b14, .ref b15, .int b16, .ref b17, .ref b18, .ref b19, .ref b20, .ref b21, .ref b22, .ref b23, .ref b24, .ref b25, .ref b26, .ref b27, .ref b28, .int b29, .ref b30, .ref b31, .int b32, .int b33, .int b34, .int b35, .ref b36, .ref b37, .ref b38, .ref b39, .ref b40, .ref b41, .ref b42, .int b43, .ref b44, .ref b45, .int b46, .ref b47, .ref b48, .ref b49, .ref b50, .ref b51, .int b52, .ref b53, .ref b54, .ref b55])), (b28, .inl (G.2 0, 2880, .inl b56))] ∧ (e0 = b56 (6 * b1.toInt.toNat + 3)) ∧ (e0 = b56 (0 + 6 * b1.toInt.toNat + 3))) := by
  refine z_start (by decide +kernel) (Nat.le_of_ble_eq_true rfl) ?_
  intro p e s m below meth c A Z hr hnm hA hP hD hS ls hl
  have Z : zC p s m _ meth c prog_14_method_25_code 4 "TraceMachinesModel" G := Z
  obtain ⟨hx, hb, hml, hown, hts, hK, hN, hlocks⟩ := id Z
  have hl : lv_has ls 4 [(0, .ref b0), (1, .int 0), (2, .int b1), (3, .int 3)] := hl
  refine lv_aload_n hx hb d_Model_edgeAt_0 rfl (lv_at hl 0 rfl) ?_
  refine va_get (D := G.1) (ci := 12) (v := .ref b28) (C := R_Model) (T := F_Model) (N := 54) hx hb hts i_Model hown hK hP 0 rfl rfl 26 (by decide) (hts _ q1135) (fun _ h9 => h9) rfl d_Model_edgeAt_1 ?_
  refine lv_bipush (v := 6) hx hb d_Model_edgeAt_4 (by decide) ?_
  refine lv_sipush (v := 240) hx hb d_Model_edgeAt_6 (by decide) ?_
  refine lv_iload_n hx hb d_Model_edgeAt_9 rfl (lv_at hl 1 rfl) ?_
  refine lv_imul hx hb d_Model_edgeAt_10 ?_
  refine z_topi (y := 0) (by decide +kernel) ?_
  refine lv_iload_n hx hb d_Model_edgeAt_11 rfl (lv_at hl 2 rfl) ?_
  refine lv_iadd hx hb d_Model_edgeAt_12 ?_
  refine lv_topi (fun v_1 ev_1 => ?_)
  obtain ⟨qv_1, hv_1⟩ := zI_add (l := 0) (h := 240) zc_0 hb1 ev_1 (by decide)
  rw [li_0] at qv_1
  refine lv_imul hx hb d_Model_edgeAt_13 ?_
  refine lv_topi (fun v_2 ev_2 => ?_)
  obtain ⟨qv_2, hv_2⟩ := zI_mul (l := 0) (h := 1440) zc_6 hv_1 ev_2 (by decide)
  rw [li_6] at qv_2
  refine lv_iload_n hx hb d_Model_edgeAt_14 rfl (lv_at hl 3 rfl) ?_
  refine lv_iadd hx hb d_Model_edgeAt_15 ?_
  refine lv_topi (fun v_3 ev_3 => ?_)
  obtain ⟨qv_3, hv_3⟩ := zI_add (l := 3) (h := 1443) hv_2 zc_3 ev_3 (by decide)
  rw [li_3] at qv_3
  refine va_iald hx hb hK hP 1 0 rfl rfl (zI.inn hv_3 (by decide)) d_Model_edgeAt_16 ?_
  refine lv_topi (fun v_4 ev_4 => ?_)
  have kv_4 := zQE.ld hb56 hv_3 ev_4 (by decide)
  exact z_iret hx hb hr hlocks hP hD hS (Nat.le_of_ble_eq_true rfl) (Nat.le_of_ble_eq_true rfl) d_Model_edgeAt_17 ⟨v_4, rfl, rfl, (by rw [ev_4, z_plf hv_3 (by decide)]; congr 1; omega), (by rw [ev_4, z_plf hv_3 (by decide)]; congr 1; omega)⟩
abbrev m_s25_Model_edgeAt : Room := { frames := 0, cells := 0, slots := 0, locals := 0 }
set_option maxHeartbeats 4000000 in
set_option maxRecDepth 100000 in
theorem s25_Model_edgeAt (l : Launch) (G : zG) (b0 : Nat) (b1 : Int32) (b2 : Int32) (b3 : Nat) (b4 : Nat) (b5 : Nat) (b6 : Nat) (b7 : Int32) (b8 : Nat) (b9 : Int32) (b10 : Int32) (b11 : Int32) (b12 : Int32) (b13 : Nat) (b14 : Nat) (b15 : Nat) (b16 : Int32) (b17 : Nat) (b18 : Nat) (b19 : Nat) (b20 : Nat) (b21 : Nat) (b22 : Nat) (b23 : Nat) (b24 : Nat) (b25 : Nat) (b26 : Nat) (b27 : Nat) (b28 : Nat) (b29 : Int32) (b30 : Nat) (b31 : Nat) (b32 : Int32) (b33 : Int32) (b34 : Int32) (b35 : Int32) (b36 : Nat) (b37 : Nat) (b38 : Nat) (b39 : Nat) (b40 : Nat) (b41 : Nat) (b42 : Nat) (b43 : Int32) (b44 : Nat) (b45 : Nat) (b46 : Int32) (b47 : Nat) (b48 : Nat) (b49 : Nat) (b50 : Nat) (b51 : Nat) (b52 : Int32) (b53 : Nat) (b54 : Nat) (b55 : Nat) (b56 : Nat → Int32) (hb1 : zI b1 0 240) (hb7 : zI b7 0 8) (hb9 : zI b9 0 240) (hb10 : zI b10 0 240) (hb12 : zI b12 0 1) (hb16 : zI b16 0 12) (hb29 : zI b29 0 1) (hb32 : zI b32 0 1) (hb43 : zI b43 0 1000) (hb46 : zI b46 0 1000) (hb52 : zI b52 0 400) (hb56 : zqa qE b56) : zM l G y_Model_edgeAt prog_14_method_25_code 4 (Option.some Jvm.ClassFile.FieldType.int) m_s25_Model_edgeAt [.ref b0, .int 0, .int b1, .int 4] [(b0, .inr (12, [.int b2, .ref b3, .ref b4, .ref b5, .ref b6, .int b7, .ref b8, .int b9, .int b10, .int b11, .int b12, .ref b13, .ref b14, .ref b15, .int b16, .ref b17, .ref b18, .ref b19, .ref b20, .ref b21, .ref b22, .ref b23, .ref b24, .ref b25, .ref b26, .ref b27, .ref b28, .int b29, .ref b30, .ref b31, .int b32, .int b33, .int b34, .int b35, .ref b36, .ref b37, .ref b38, .ref b39, .ref b40, .ref b41, .ref b42, .int b43, .ref b44, .ref b45, .int b46, .ref b47, .ref b48, .ref b49, .ref b50, .ref b51, .int b52, .ref b53, .ref b54, .ref b55])), (b28, .inl (G.2 0, 2880, .inl b56))] (fun v w => ∃ (e0 : Int32), v = some (.int e0) ∧ w = [(b0, .inr (12, [.int b2, .ref b3, .ref b4, .ref b5, .ref b6, .int b7, .ref b8, .int b9, .int b10, .int b11, .int b12, .ref b13, .ref b14, .ref b15, .int b16, .ref b17, .ref b18, .ref b19, .ref b20, .ref b21, .ref b22, .ref b23, .ref b24, .ref b25, .ref b26, .ref b27, .ref b28, .int b29, .ref b30, .ref b31, .int b32, .int b33, .int b34, .int b35, .ref b36, .ref b37, .ref b38, .ref b39, .ref b40, .ref b41, .ref b42, .int b43, .ref b44, .ref b45, .int b46, .ref b47, .ref b48, .ref b49, .ref b50, .ref b51, .int b52, .ref b53, .ref b54, .ref b55])), (b28, .inl (G.2 0, 2880, .inl b56))] ∧ (e0 = b56 (6 * b1.toInt.toNat + 4)) ∧ (e0 = b56 (0 + 6 * b1.toInt.toNat + 4))) := by
  refine z_start (by decide +kernel) (Nat.le_of_ble_eq_true rfl) ?_
  intro p e s m below meth c A Z hr hnm hA hP hD hS ls hl
  have Z : zC p s m _ meth c prog_14_method_25_code 4 "TraceMachinesModel" G := Z
  obtain ⟨hx, hb, hml, hown, hts, hK, hN, hlocks⟩ := id Z
  have hl : lv_has ls 4 [(0, .ref b0), (1, .int 0), (2, .int b1), (3, .int 4)] := hl
  refine lv_aload_n hx hb d_Model_edgeAt_0 rfl (lv_at hl 0 rfl) ?_
  refine va_get (D := G.1) (ci := 12) (v := .ref b28) (C := R_Model) (T := F_Model) (N := 54) hx hb hts i_Model hown hK hP 0 rfl rfl 26 (by decide) (hts _ q1135) (fun _ h9 => h9) rfl d_Model_edgeAt_1 ?_
  refine lv_bipush (v := 6) hx hb d_Model_edgeAt_4 (by decide) ?_
  refine lv_sipush (v := 240) hx hb d_Model_edgeAt_6 (by decide) ?_
  refine lv_iload_n hx hb d_Model_edgeAt_9 rfl (lv_at hl 1 rfl) ?_
  refine lv_imul hx hb d_Model_edgeAt_10 ?_
  refine z_topi (y := 0) (by decide +kernel) ?_
  refine lv_iload_n hx hb d_Model_edgeAt_11 rfl (lv_at hl 2 rfl) ?_
  refine lv_iadd hx hb d_Model_edgeAt_12 ?_
  refine lv_topi (fun v_1 ev_1 => ?_)
  obtain ⟨qv_1, hv_1⟩ := zI_add (l := 0) (h := 240) zc_0 hb1 ev_1 (by decide)
  rw [li_0] at qv_1
  refine lv_imul hx hb d_Model_edgeAt_13 ?_
  refine lv_topi (fun v_2 ev_2 => ?_)
  obtain ⟨qv_2, hv_2⟩ := zI_mul (l := 0) (h := 1440) zc_6 hv_1 ev_2 (by decide)
  rw [li_6] at qv_2
  refine lv_iload_n hx hb d_Model_edgeAt_14 rfl (lv_at hl 3 rfl) ?_
  refine lv_iadd hx hb d_Model_edgeAt_15 ?_
  refine lv_topi (fun v_3 ev_3 => ?_)
  obtain ⟨qv_3, hv_3⟩ := zI_add (l := 4) (h := 1444) hv_2 zc_4 ev_3 (by decide)
  rw [li_4] at qv_3
  refine va_iald hx hb hK hP 1 0 rfl rfl (zI.inn hv_3 (by decide)) d_Model_edgeAt_16 ?_
  refine lv_topi (fun v_4 ev_4 => ?_)
  have kv_4 := zQE.ld hb56 hv_3 ev_4 (by decide)
  exact z_iret hx hb hr hlocks hP hD hS (Nat.le_of_ble_eq_true rfl) (Nat.le_of_ble_eq_true rfl) d_Model_edgeAt_17 ⟨v_4, rfl, rfl, (by rw [ev_4, z_plf hv_3 (by decide)]; congr 1; omega), (by rw [ev_4, z_plf hv_3 (by decide)]; congr 1; omega)⟩
abbrev m_s26_Model_edgeAt : Room := { frames := 0, cells := 0, slots := 0, locals := 0 }
set_option maxHeartbeats 4000000 in
set_option maxRecDepth 100000 in
theorem s26_Model_edgeAt (l : Launch) (G : zG) (b0 : Nat) (b1 : Int32) (b2 : Int32) (b3 : Nat) (b4 : Nat) (b5 : Nat) (b6 : Nat) (b7 : Int32) (b8 : Nat) (b9 : Int32) (b10 : Int32) (b11 : Int32) (b12 : Int32) (b13 : Nat) (b14 : Nat) (b15 : Nat) (b16 : Int32) (b17 : Nat) (b18 : Nat) (b19 : Nat) (b20 : Nat) (b21 : Nat) (b22 : Nat) (b23 : Nat) (b24 : Nat) (b25 : Nat) (b26 : Nat) (b27 : Nat) (b28 : Nat) (b29 : Int32) (b30 : Nat) (b31 : Nat) (b32 : Int32) (b33 : Int32) (b34 : Int32) (b35 : Int32) (b36 : Nat) (b37 : Nat) (b38 : Nat) (b39 : Nat) (b40 : Nat) (b41 : Nat) (b42 : Nat) (b43 : Int32) (b44 : Nat) (b45 : Nat) (b46 : Int32) (b47 : Nat) (b48 : Nat) (b49 : Nat) (b50 : Nat) (b51 : Nat) (b52 : Int32) (b53 : Nat) (b54 : Nat) (b55 : Nat) (b56 : Nat → Int32) (hb1 : zI b1 0 240) (hb7 : zI b7 0 8) (hb9 : zI b9 0 240) (hb10 : zI b10 0 240) (hb12 : zI b12 0 1) (hb16 : zI b16 0 12) (hb29 : zI b29 0 1) (hb32 : zI b32 0 1) (hb43 : zI b43 0 1000) (hb46 : zI b46 0 1000) (hb52 : zI b52 0 400) (hb56 : zqa qE b56) : zM l G y_Model_edgeAt prog_14_method_25_code 4 (Option.some Jvm.ClassFile.FieldType.int) m_s26_Model_edgeAt [.ref b0, .int 0, .int b1, .int 5] [(b0, .inr (12, [.int b2, .ref b3, .ref b4, .ref b5, .ref b6, .int b7, .ref b8, .int b9, .int b10, .int b11, .int b12, .ref b13, .ref b14, .ref b15, .int b16, .ref b17, .ref b18, .ref b19, .ref b20, .ref b21, .ref b22, .ref b23, .ref b24, .ref b25, .ref b26, .ref b27, .ref b28, .int b29, .ref b30, .ref b31, .int b32, .int b33, .int b34, .int b35, .ref b36, .ref b37, .ref b38, .ref b39, .ref b40, .ref b41, .ref b42, .int b43, .ref b44, .ref b45, .int b46, .ref b47, .ref b48, .ref b49, .ref b50, .ref b51, .int b52, .ref b53, .ref b54, .ref b55])), (b28, .inl (G.2 0, 2880, .inl b56))] (fun v w => ∃ (e0 : Int32), v = some (.int e0) ∧ w = [(b0, .inr (12, [.int b2, .ref b3, .ref b4, .ref b5, .ref b6, .int b7, .ref b8, .int b9, .int b10, .int b11, .int b12, .ref b13, .ref b14, .ref b15, .int b16, .ref b17, .ref b18, .ref b19, .ref b20, .ref b21, .ref b22, .ref b23, .ref b24, .ref b25, .ref b26, .ref b27, .ref b28, .int b29, .ref b30, .ref b31, .int b32, .int b33, .int b34, .int b35, .ref b36, .ref b37, .ref b38, .ref b39, .ref b40, .ref b41, .ref b42, .int b43, .ref b44, .ref b45, .int b46, .ref b47, .ref b48, .ref b49, .ref b50, .ref b51, .int b52, .ref b53, .ref b54, .ref b55])), (b28, .inl (G.2 0, 2880, .inl b56))] ∧ (e0 = b56 (6 * b1.toInt.toNat + 5)) ∧ (e0 = b56 (0 + 6 * b1.toInt.toNat + 5))) := by
  refine z_start (by decide +kernel) (Nat.le_of_ble_eq_true rfl) ?_
  intro p e s m below meth c A Z hr hnm hA hP hD hS ls hl
  have Z : zC p s m _ meth c prog_14_method_25_code 4 "TraceMachinesModel" G := Z
  obtain ⟨hx, hb, hml, hown, hts, hK, hN, hlocks⟩ := id Z
  have hl : lv_has ls 4 [(0, .ref b0), (1, .int 0), (2, .int b1), (3, .int 5)] := hl
  refine lv_aload_n hx hb d_Model_edgeAt_0 rfl (lv_at hl 0 rfl) ?_
  refine va_get (D := G.1) (ci := 12) (v := .ref b28) (C := R_Model) (T := F_Model) (N := 54) hx hb hts i_Model hown hK hP 0 rfl rfl 26 (by decide) (hts _ q1135) (fun _ h9 => h9) rfl d_Model_edgeAt_1 ?_
  refine lv_bipush (v := 6) hx hb d_Model_edgeAt_4 (by decide) ?_
  refine lv_sipush (v := 240) hx hb d_Model_edgeAt_6 (by decide) ?_
  refine lv_iload_n hx hb d_Model_edgeAt_9 rfl (lv_at hl 1 rfl) ?_
  refine lv_imul hx hb d_Model_edgeAt_10 ?_
  refine z_topi (y := 0) (by decide +kernel) ?_
  refine lv_iload_n hx hb d_Model_edgeAt_11 rfl (lv_at hl 2 rfl) ?_
  refine lv_iadd hx hb d_Model_edgeAt_12 ?_
  refine lv_topi (fun v_1 ev_1 => ?_)
  obtain ⟨qv_1, hv_1⟩ := zI_add (l := 0) (h := 240) zc_0 hb1 ev_1 (by decide)
  rw [li_0] at qv_1
  refine lv_imul hx hb d_Model_edgeAt_13 ?_
  refine lv_topi (fun v_2 ev_2 => ?_)
  obtain ⟨qv_2, hv_2⟩ := zI_mul (l := 0) (h := 1440) zc_6 hv_1 ev_2 (by decide)
  rw [li_6] at qv_2
  refine lv_iload_n hx hb d_Model_edgeAt_14 rfl (lv_at hl 3 rfl) ?_
  refine lv_iadd hx hb d_Model_edgeAt_15 ?_
  refine lv_topi (fun v_3 ev_3 => ?_)
  obtain ⟨qv_3, hv_3⟩ := zI_add (l := 5) (h := 1445) hv_2 zc_5 ev_3 (by decide)
  rw [li_5] at qv_3
  refine va_iald hx hb hK hP 1 0 rfl rfl (zI.inn hv_3 (by decide)) d_Model_edgeAt_16 ?_
  refine lv_topi (fun v_4 ev_4 => ?_)
  have kv_4 := zQE.ld hb56 hv_3 ev_4 (by decide)
  exact z_iret hx hb hr hlocks hP hD hS (Nat.le_of_ble_eq_true rfl) (Nat.le_of_ble_eq_true rfl) d_Model_edgeAt_17 ⟨v_4, rfl, rfl, (by rw [ev_4, z_plf hv_3 (by decide)]; congr 1; omega), (by rw [ev_4, z_plf hv_3 (by decide)]; congr 1; omega)⟩
abbrev m_s3_Model_stateAt : Room := { frames := 1, cells := 0, slots := 0, locals := 23 }
set_option maxHeartbeats 4000000 in
set_option maxRecDepth 100000 in
theorem s3_Model_stateAt (l : Launch) (G : zG) (b0 : Nat) (b1 : Int32) (b2 : Int32) (b3 : Int32) (b4 : Nat) (b5 : Nat) (b6 : Nat) (b7 : Nat) (b8 : Int32) (b9 : Nat) (b10 : Int32) (b11 : Int32) (b12 : Int32) (b13 : Int32) (b14 : Nat) (b15 : Nat) (b16 : Nat) (b17 : Int32) (b18 : Nat) (b19 : Nat) (b20 : Nat) (b21 : Nat) (b22 : Nat) (b23 : Nat) (b24 : Nat) (b25 : Nat) (b26 : Nat) (b27 : Nat) (b28 : Nat) (b29 : Nat) (b30 : Int32) (b31 : Nat) (b32 : Nat) (b33 : Int32) (b34 : Int32) (b35 : Int32) (b36 : Int32) (b37 : Nat) (b38 : Nat) (b39 : Nat) (b40 : Nat) (b41 : Nat) (b42 : Nat) (b43 : Nat) (b44 : Int32) (b45 : Nat) (b46 : Nat) (b47 : Int32) (b48 : Nat) (b49 : Nat) (b50 : Nat) (b51 : Nat) (b52 : Nat) (b53 : Int32) (b54 : Nat) (b55 : Nat) (b56 : Nat) (b57 : Nat → Int32) (b58 : Nat → Int32) (hb1 : zI b1 0 19) (hb2 : zI b2 0 12) (hb8 : zI b8 0 8) (hb10 : zI b10 0 240) (hb11 : zI b11 0 240) (hb13 : zI b13 0 1) (hb17 : zI b17 0 12) (hb30 : zI b30 0 1) (hb33 : zI b33 0 1) (hb44 : zI b44 0 1000) (hb47 : zI b47 0 1000) (hb53 : zI b53 0 400) (hb57 : zqa qP b57) (hb58 : zR b58 0 240) : zM l G y_Model_stateAt prog_14_method_32_code 4 (Option.some Jvm.ClassFile.FieldType.int) m_s3_Model_stateAt [.ref b0, .int 0, .int b1, .int b2] [(b0, .inr (12, [.int b3, .ref b4, .ref b5, .ref b6, .ref b7, .int b8, .ref b9, .int b10, .int b11, .int b12, .int b13, .ref b14, .ref b15, .ref b16, .int b17, .ref b18, .ref b19, .ref b20, .ref b21, .ref b22, .ref b23, .ref b24, .ref b25, .ref b26, .ref b27, .ref b28, .ref b29, .int b30, .ref b31, .ref b32, .int b33, .int b34, .int b35, .int b36, .ref b37, .ref b38, .ref b39, .ref b40, .ref b41, .ref b42, .ref b43, .int b44, .ref b45, .ref b46, .int b47, .ref b48, .ref b49, .ref b50, .ref b51, .ref b52, .int b53, .ref b54, .ref b55, .ref b56])), (b20, .inl (G.2 0, 520, .inl b57)), (b23, .inl (G.2 0, 482, .inl b58))] (fun v w => ∃ (e0 : Int32), v = some (.int e0) ∧ w = [(b0, .inr (12, [.int b3, .ref b4, .ref b5, .ref b6, .ref b7, .int b8, .ref b9, .int b10, .int b11, .int b12, .int b13, .ref b14, .ref b15, .ref b16, .int b17, .ref b18, .ref b19, .ref b20, .ref b21, .ref b22, .ref b23, .ref b24, .ref b25, .ref b26, .ref b27, .ref b28, .ref b29, .int b30, .ref b31, .ref b32, .int b33, .int b34, .int b35, .int b36, .ref b37, .ref b38, .ref b39, .ref b40, .ref b41, .ref b42, .ref b43, .int b44, .ref b45, .ref b46, .int b47, .ref b48, .ref b49, .ref b50, .ref b51, .ref b52, .int b53, .ref b54, .ref b55, .ref b56])), (b20, .inl (G.2 0, 520, .inl b57)), (b23, .inl (G.2 0, 482, .inl b58))] ∧ (zI e0 0 240) ∧ (e0 = b58 (b57 (13 * b1.toInt.toNat + b2.toInt.toNat)).toNatClampNeg) ∧ (e0 = b58 (0 + (b57 (0 + 13 * b1.toInt.toNat + b2.toInt.toNat)).toInt.toNat))) := by
  refine z_start (by decide +kernel) (Nat.le_of_ble_eq_true rfl) ?_
  intro p e s m below meth c A Z hr hnm hA hP hD hS ls hl
  have Z : zC p s m _ meth c prog_14_method_32_code 4 "TraceMachinesModel" G := Z
  obtain ⟨hx, hb, hml, hown, hts, hK, hN, hlocks⟩ := id Z
  have hl : lv_has ls 4 [(0, .ref b0), (1, .int 0), (2, .int b1), (3, .int b2)] := hl
  refine lv_aload_n hx hb d_Model_stateAt_0 rfl (lv_at hl 0 rfl) ?_
  refine va_get (D := G.1) (ci := 12) (v := .ref b23) (C := R_Model) (T := F_Model) (N := 54) hx hb hts i_Model hown hK hP 0 rfl rfl 20 (by decide) (hts _ q1129) (fun _ h9 => h9) rfl d_Model_stateAt_1 ?_
  refine lv_sipush (v := 241) hx hb d_Model_stateAt_4 (by decide) ?_
  refine lv_iload_n hx hb d_Model_stateAt_7 rfl (lv_at hl 1 rfl) ?_
  refine lv_imul hx hb d_Model_stateAt_8 ?_
  refine z_topi (y := 0) (by decide +kernel) ?_
  refine lv_aload_n hx hb d_Model_stateAt_9 rfl (lv_at hl 0 rfl) ?_
  refine lv_iload_n hx hb d_Model_stateAt_10 rfl (lv_at hl 1 rfl) ?_
  refine lv_iload_n hx hb d_Model_stateAt_11 rfl (lv_at hl 2 rfl) ?_
  refine lv_iload_n hx hb d_Model_stateAt_12 rfl (lv_at hl 3 rfl) ?_
  refine z_callV (index := 211) (As := [.int 0, .int b1, .int b2]) (rest := [.int 0, .ref b23]) (wr := [(b23, .inl (G.2 0, 482, .inl b58))]) Z (s1_Model_pathOf l G (b0) (b1) (b2) (b3) (b4) (b5) (b6) (b7) (b8) (b9) (b10) (b11) (b12) (b13) (b14) (b15) (b16) (b17) (b18) (b19) (b20) (b21) (b22) (b23) (b24) (b25) (b26) (b27) (b28) (b29) (b30) (b31) (b32) (b33) (b34) (b35) (b36) (b37) (b38) (b39) (b40) (b41) (b42) (b43) (b44) (b45) (b46) (b47) (b48) (b49) (b50) (b51) (b52) (b53) (b54) (b55) (b56) (b57) hb1 hb2 hb8 hb10 hb11 hb13 hb17 hb30 hb33 hb44 hb47 hb53 hb57) hl.1 q1380 q1382 qs61 q14 q1383 ⟨by decide, by decide, by show _ = some 3; decide +kernel⟩ ⟨Nat.le_of_ble_eq_true rfl, Nat.le_of_ble_eq_true rfl⟩ ⟨Nat.le_of_ble_eq_true rfl, Nat.le_of_ble_eq_true rfl⟩ rfl (Nat.le_of_ble_eq_true rfl) d_Model_stateAt_13 hP hD hS hA 0 12 rfl rfl rfl [0, 1] [2] rfl rfl rfl rfl (by decide) (fun v w1 H locs hw_1 hP hD hS => ?_)
  obtain ⟨x_2, rfl, rfl, hx_2, hfx_3, hfx_4⟩ := hw_1
  have hP : va_P G.1 classes [(b23, .inl (G.2 0, 482, .inl b58)), (b0, .inr (12, [.int b3, .ref b4, .ref b5, .ref b6, .ref b7, .int b8, .ref b9, .int b10, .int b11, .int b12, .int b13, .ref b14, .ref b15, .ref b16, .int b17, .ref b18, .ref b19, .ref b20, .ref b21, .ref b22, .ref b23, .ref b24, .ref b25, .ref b26, .ref b27, .ref b28, .ref b29, .int b30, .ref b31, .ref b32, .int b33, .int b34, .int b35, .int b36, .ref b37, .ref b38, .ref b39, .ref b40, .ref b41, .ref b42, .ref b43, .int b44, .ref b45, .ref b46, .int b47, .ref b48, .ref b49, .ref b50, .ref b51, .ref b52, .int b53, .ref b54, .ref b55, .ref b56])), (b20, .inl (G.2 0, 520, .inl b57))] H := hP
  have hD := z_tie hP hD rfl
  refine W.widen (k := 0) (n := 0) (Nat.le_of_ble_eq_true rfl) (Nat.le_of_ble_eq_true rfl) ?_
  refine lv_iadd hx hb d_Model_stateAt_16 ?_
  refine lv_topi (fun v_5 ev_5 => ?_)
  obtain ⟨qv_5, hv_5⟩ := zI_add (l := 0) (h := 240) zc_0 hx_2 ev_5 (by decide)
  rw [li_0] at qv_5
  refine va_iald hx hb hK hP 0 0 rfl rfl (zI.inn hv_5 (by decide)) d_Model_stateAt_17 ?_
  refine lv_topi (fun v_6 ev_6 => ?_)
  have hv_6 : zI v_6 0 240 := (hb58 _).eq ev_6
  exact z_iret hx hb hr hlocks (hP.sub [1, 2, 0] rfl) (hD.sub [1, 2, 0] (by decide) rfl) hS (Nat.le_of_ble_eq_true rfl) (Nat.le_of_ble_eq_true rfl) d_Model_stateAt_18 ⟨v_6, rfl, rfl, hv_6, (by have h9 := hfx_3; have h8 : v_5.toNatClampNeg = x_2.toNatClampNeg := (by have p9 := z_pl hv_5 (by decide); have p8 := z_pl hx_2 (by decide); omega); rw [ev_6, h8, h9]; congr 3; omega), (by have h9 := hfx_3; have h8 : v_5.toNatClampNeg = 0 + x_2.toInt.toNat := (by have p9 := z_pl hv_5 (by decide); have p8 := z_pl hx_2 (by decide); omega); rw [ev_6, h8, h9]; congr 4; omega)⟩
abbrev m_s3_Model_placeOf : Room := { frames := 1, cells := 0, slots := 0, locals := 23 }
set_option maxHeartbeats 4000000 in
set_option maxRecDepth 100000 in
theorem s3_Model_placeOf (l : Launch) (G : zG) (b0 : Nat) (b1 : Int32) (b2 : Int32) (b3 : Int32) (b4 : Int32) (b5 : Nat) (b6 : Nat) (b7 : Nat) (b8 : Nat) (b9 : Int32) (b10 : Nat) (b11 : Int32) (b12 : Int32) (b13 : Int32) (b14 : Int32) (b15 : Nat) (b16 : Nat) (b17 : Nat) (b18 : Int32) (b19 : Nat) (b20 : Nat) (b21 : Nat) (b22 : Nat) (b23 : Nat) (b24 : Nat) (b25 : Nat) (b26 : Nat) (b27 : Nat) (b28 : Nat) (b29 : Nat) (b30 : Nat) (b31 : Int32) (b32 : Nat) (b33 : Nat) (b34 : Int32) (b35 : Int32) (b36 : Int32) (b37 : Int32) (b38 : Nat) (b39 : Nat) (b40 : Nat) (b41 : Nat) (b42 : Nat) (b43 : Nat) (b44 : Nat) (b45 : Int32) (b46 : Nat) (b47 : Nat) (b48 : Int32) (b49 : Nat) (b50 : Nat) (b51 : Nat) (b52 : Nat) (b53 : Nat) (b54 : Int32) (b55 : Nat) (b56 : Nat) (b57 : Nat) (b58 : Nat → Int32) (b59 : Nat → Int32) (hb1 : zI b1 0 240) (hb2 : zI b2 0 9) (hb3 : zI b3 0 240) (hb9 : zI b9 0 8) (hb11 : zI b11 0 240) (hb12 : zI b12 0 240) (hb14 : zI b14 0 1) (hb18 : zI b18 0 12) (hb31 : zI b31 0 1) (hb34 : zI b34 0 1) (hb45 : zI b45 0 1000) (hb48 : zI b48 0 1000) (hb54 : zI b54 0 400) (hb58 : zR b58 0 240) (hb59 : zqa qE b59) : zM l G y_Model_placeOf prog_14_method_33_code 8 (Option.some Jvm.ClassFile.FieldType.int) m_s3_Model_placeOf [.ref b0, .int 0, .int b1, .int b2, .int b3] [(b0, .inr (12, [.int b4, .ref b5, .ref b6, .ref b7, .ref b8, .int b9, .ref b10, .int b11, .int b12, .int b13, .int b14, .ref b15, .ref b16, .ref b17, .int b18, .ref b19, .ref b20, .ref b21, .ref b22, .ref b23, .ref b24, .ref b25, .ref b26, .ref b27, .ref b28, .ref b29, .ref b30, .int b31, .ref b32, .ref b33, .int b34, .int b35, .int b36, .int b37, .ref b38, .ref b39, .ref b40, .ref b41, .ref b42, .ref b43, .ref b44, .int b45, .ref b46, .ref b47, .int b48, .ref b49, .ref b50, .ref b51, .ref b52, .ref b53, .int b54, .ref b55, .ref b56, .ref b57])), (b29, .inl (G.2 0, 2, .inl b58)), (b30, .inl (G.2 0, 2880, .inl b59))] (fun v w => ∃ (e0 : Int32), ∃ (e1 : Int32), v = some (.int e0) ∧ w = [(b0, .inr (12, [.int b4, .ref b5, .ref b6, .ref b7, .ref b8, .int b9, .ref b10, .int b11, .int b12, .int b13, .int b14, .ref b15, .ref b16, .ref b17, .int b18, .ref b19, .ref b20, .ref b21, .ref b22, .ref b23, .ref b24, .ref b25, .ref b26, .ref b27, .ref b28, .ref b29, .ref b30, .int e1, .ref b32, .ref b33, .int b34, .int b35, .int b36, .int b37, .ref b38, .ref b39, .ref b40, .ref b41, .ref b42, .ref b43, .ref b44, .int b45, .ref b46, .ref b47, .int b48, .ref b49, .ref b50, .ref b51, .ref b52, .ref b53, .int b54, .ref b55, .ref b56, .ref b57])), (b29, .inl (G.2 0, 2, .inl b58)), (b30, .inl (G.2 0, 2880, .inl b59))] ∧ (zI e0 0 240) ∧ (zI e1 0 1) ∧ ((e0 : Int32).toInt ≤ (b58 (0 : Int32).toNatClampNeg).toInt) ∧ ((e1 : Int32).toInt = 0 ∨ (e0 : Int32).toInt < (b58 (0 : Int32).toNatClampNeg).toInt ∧ (b59 (6 * (e0 : Int32).toInt.toNat)).toInt = b1.toInt ∧ (b59 (6 * (e0 : Int32).toInt.toNat + 2)).toInt = b3.toInt) ∧ ((∀ j : Nat, (j : Int) < (e0 : Int32).toInt → ((yRc b59 0 j : Nat) : Int) < 2410 * (b1 : Int32).toInt + 241 * (b2 : Int32).toInt + (b3 : Int32).toInt) ∧ ((e1 : Int32).toInt = 1 ∧ (e0 : Int32).toInt < (b58 (0 : Int32).toNatClampNeg).toInt ∧ ((yRc b59 0 (e0 : Int32).toInt.toNat : Nat) : Int) = 2410 * (b1 : Int32).toInt + 241 * (b2 : Int32).toInt + (b3 : Int32).toInt ∨ (e1 : Int32).toInt = 0 ∧ ((e0 : Int32).toInt = (b58 (0 : Int32).toNatClampNeg).toInt ∨ 2410 * (b1 : Int32).toInt + 241 * (b2 : Int32).toInt + (b3 : Int32).toInt < ((yRc b59 0 (e0 : Int32).toInt.toNat : Nat) : Int))))) := by
  refine z_start (by decide +kernel) (Nat.le_of_ble_eq_true rfl) ?_
  intro p e s m below meth c A Z hr hnm hA hP hD hS ls hl
  have Z : zC p s m _ meth c prog_14_method_33_code 8 "TraceMachinesModel" G := Z
  obtain ⟨hx, hb, hml, hown, hts, hK, hN, hlocks⟩ := id Z
  have hl : lv_has ls 8 [(0, .ref b0), (1, .int 0), (2, .int b1), (3, .int b2), (4, .int b3)] := hl
  refine lv_sipush (v := 2410) hx hb d_Model_placeOf_0 (by decide) ?_
  refine lv_iload_n hx hb d_Model_placeOf_3 rfl (lv_at hl 2 rfl) ?_
  refine lv_imul hx hb d_Model_placeOf_4 ?_
  refine lv_topi (fun v_1 ev_1 => ?_)
  obtain ⟨qv_1, hv_1⟩ := zI_mul (l := 0) (h := 578400) zc_2410 hb1 ev_1 (by decide)
  rw [li_2410] at qv_1
  refine lv_sipush (v := 241) hx hb d_Model_placeOf_5 (by decide) ?_
  refine lv_iload_n hx hb d_Model_placeOf_8 rfl (lv_at hl 3 rfl) ?_
  refine lv_imul hx hb d_Model_placeOf_9 ?_
  refine lv_topi (fun v_2 ev_2 => ?_)
  obtain ⟨qv_2, hv_2⟩ := zI_mul (l := 0) (h := 2169) zc_241 hb2 ev_2 (by decide)
  rw [li_241] at qv_2
  refine lv_iadd hx hb d_Model_placeOf_10 ?_
  refine lv_topi (fun v_3 ev_3 => ?_)
  obtain ⟨qv_3, hv_3⟩ := zI_add (l := 0) (h := 580569) hv_1 hv_2 ev_3 (by decide)
  refine lv_iload hx hb d_Model_placeOf_11 (lv_at hl 4 rfl) ?_
  refine lv_iadd hx hb d_Model_placeOf_13 ?_
  refine lv_topi (fun v_4 ev_4 => ?_)
  obtain ⟨qv_4, hv_4⟩ := zI_add (l := 0) (h := 580809) hv_3 hb3 ev_4 (by decide)
  refine lv_istore (lv' := [(5, .int v_4), (0, .ref b0), (1, .int 0), (2, .int b1), (3, .int b2), (4, .int b3)]) hx hb d_Model_placeOf_14 hl (by decide) rfl (fun ls hl => ?_)
  refine lv_iconst (v := 0) hx hb d_Model_placeOf_16 (by decide) ?_
  refine lv_istore (lv' := [(6, .int 0), (5, .int v_4), (0, .ref b0), (1, .int 0), (2, .int b1), (3, .int b2), (4, .int b3)]) hx hb d_Model_placeOf_17 hl (by decide) rfl (fun ls hl => ?_)
  refine lv_iconst (v := (-1)) hx hb d_Model_placeOf_19 (by decide) ?_
  refine lv_istore (lv' := [(7, .int (-1)), (6, .int 0), (5, .int v_4), (0, .ref b0), (1, .int 0), (2, .int b1), (3, .int b2), (4, .int b3)]) hx hb d_Model_placeOf_20 hl (by decide) rfl (fun ls hl => ?_)
  suffices key : ∀ (k_60 : Nat) (y_61 : Int32) (y_62 : Int32) (H : Heap) (locs : List Loc) (ls : Array Slot), (zI y_61 (-1) 580809) → (zI y_62 0 240) → ((y_62 : Int32).toInt ≤ (b58 (0 : Int32).toNatClampNeg).toInt) → ((y_61 : Int32).toInt < (v_4 : Int32).toInt) → (∀ j : Nat, (j : Int) < (y_62 : Int32).toInt → ((yRc b59 0 j : Nat) : Int) < 2410 * (b1 : Int32).toInt + 241 * (b2 : Int32).toInt + (b3 : Int32).toInt) → (240 : Int) - y_62.toInt < (k_60 : Int) → va_P G.1 classes [(b0, .inr (12, [.int b4, .ref b5, .ref b6, .ref b7, .ref b8, .int b9, .ref b10, .int b11, .int b12, .int b13, .int b14, .ref b15, .ref b16, .ref b17, .int b18, .ref b19, .ref b20, .ref b21, .ref b22, .ref b23, .ref b24, .ref b25, .ref b26, .ref b27, .ref b28, .ref b29, .ref b30, .int b31, .ref b32, .ref b33, .int b34, .int b35, .int b36, .int b37, .ref b38, .ref b39, .ref b40, .ref b41, .ref b42, .ref b43, .ref b44, .int b45, .ref b46, .ref b47, .int b48, .ref b49, .ref b50, .ref b51, .ref b52, .ref b53, .int b54, .ref b55, .ref b56, .ref b57])), (b29, .inl (G.2 0, 2, .inl b58)), (b30, .inl (G.2 0, 2880, .inl b59))] H → va_D A [(b0, .inr (12, [.int b4, .ref b5, .ref b6, .ref b7, .ref b8, .int b9, .ref b10, .int b11, .int b12, .int b13, .int b14, .ref b15, .ref b16, .ref b17, .int b18, .ref b19, .ref b20, .ref b21, .ref b22, .ref b23, .ref b24, .ref b25, .ref b26, .ref b27, .ref b28, .ref b29, .ref b30, .int b31, .ref b32, .ref b33, .int b34, .int b35, .int b36, .int b37, .ref b38, .ref b39, .ref b40, .ref b41, .ref b42, .ref b43, .ref b44, .int b45, .ref b46, .ref b47, .int b48, .ref b49, .ref b50, .ref b51, .ref b52, .ref b53, .int b54, .ref b55, .ref b56, .ref b57])), (b29, .inl (G.2 0, 2, .inl b58)), (b30, .inl (G.2 0, 2880, .inl b59))] → va_S A s.heap H locs → lv_has ls 8 [(7, .int y_61), (6, .int y_62), (5, .int v_4), (0, .ref b0), (1, .int 0), (2, .int b1), (3, .int b2), (4, .int b3)] → W p l e m_s3_Model_placeOf s m ([.ref b0, .int 0, .int b1, .int b2, .int b3] : List Value).toArray below meth c H locs 0 0 (MQ below (zQ G (fun v w => ∃ (e0 : Int32), ∃ (e1 : Int32), v = some (.int e0) ∧ w = [(b0, .inr (12, [.int b4, .ref b5, .ref b6, .ref b7, .ref b8, .int b9, .ref b10, .int b11, .int b12, .int b13, .int b14, .ref b15, .ref b16, .ref b17, .int b18, .ref b19, .ref b20, .ref b21, .ref b22, .ref b23, .ref b24, .ref b25, .ref b26, .ref b27, .ref b28, .ref b29, .ref b30, .int e1, .ref b32, .ref b33, .int b34, .int b35, .int b36, .int b37, .ref b38, .ref b39, .ref b40, .ref b41, .ref b42, .ref b43, .ref b44, .int b45, .ref b46, .ref b47, .int b48, .ref b49, .ref b50, .ref b51, .ref b52, .ref b53, .int b54, .ref b55, .ref b56, .ref b57])), (b29, .inl (G.2 0, 2, .inl b58)), (b30, .inl (G.2 0, 2880, .inl b59))] ∧ (zI e0 0 240) ∧ (zI e1 0 1) ∧ ((e0 : Int32).toInt ≤ (b58 (0 : Int32).toNatClampNeg).toInt) ∧ ((e1 : Int32).toInt = 0 ∨ (e0 : Int32).toInt < (b58 (0 : Int32).toNatClampNeg).toInt ∧ (b59 (6 * (e0 : Int32).toInt.toNat)).toInt = b1.toInt ∧ (b59 (6 * (e0 : Int32).toInt.toNat + 2)).toInt = b3.toInt) ∧ ((∀ j : Nat, (j : Int) < (e0 : Int32).toInt → ((yRc b59 0 j : Nat) : Int) < 2410 * (b1 : Int32).toInt + 241 * (b2 : Int32).toInt + (b3 : Int32).toInt) ∧ ((e1 : Int32).toInt = 1 ∧ (e0 : Int32).toInt < (b58 (0 : Int32).toNatClampNeg).toInt ∧ ((yRc b59 0 (e0 : Int32).toInt.toNat : Nat) : Int) = 2410 * (b1 : Int32).toInt + 241 * (b2 : Int32).toInt + (b3 : Int32).toInt ∨ (e1 : Int32).toInt = 0 ∧ ((e0 : Int32).toInt = (b58 (0 : Int32).toNatClampNeg).toInt ∨ 2410 * (b1 : Int32).toInt + 241 * (b2 : Int32).toInt + (b3 : Int32).toInt < ((yRc b59 0 (e0 : Int32).toInt.toNat : Nat) : Int))))) A) ([.ref b0, .int 0, .int b1, .int b2, .int b3] : List Value).toArray s m_s3_Model_placeOf.cells m_s3_Model_placeOf.slots A) (F0 m 22 ls []) by
    exact key 242 ((-1)) (0) _ _ _ (zI.wk (l' := (-1)) (h' := 580809) zc_m1 (by decide)) (zI.wk (l' := 0) (h' := 240) zc_0 (by decide)) (by have _l0 := li_0; have h9 := hb58 (0 : Int32).toNatClampNeg; omega) (by have _l0 := li_m1; omega) (by have _l0 := li_0; intro j hj; exfalso; omega) (by have _l0 := li_0; omega) hP hD hS (lv_sub hl [0, 1, 2, 3, 4, 5, 6, 7] rfl)
  intro k_60
  induction k_60 with
  | zero =>
    intro y_61 y_62 H locs ls hy_61 hy_62 hli_63 hli_64 hli_65 hmk_60 hP hD hS hl
    exfalso; omega
  | succ k_60 ihk_60 =>
    intro y_61 y_62 H locs ls hy_61 hy_62 hli_63 hli_64 hli_65 hmk_60 hP hD hS hl
    refine lv_iload hx hb d_Model_placeOf_22 (lv_at hl 1 rfl) ?_
    refine lv_aload_n hx hb d_Model_placeOf_24 rfl (lv_at hl 3 rfl) ?_
    refine va_get (D := G.1) (ci := 12) (v := .ref b29) (C := R_Model) (T := F_Model) (N := 54) hx hb hts i_Model hown hK hP 0 rfl rfl 25 (by decide) (hts _ q1134) (fun _ h9 => h9) rfl d_Model_placeOf_25 ?_
    refine lv_iload_n hx hb d_Model_placeOf_28 rfl (lv_at hl 4 rfl) ?_
    refine va_iald hx hb hK hP 1 0 rfl rfl (i := 0) (z_in rfl) d_Model_placeOf_29 ?_
    refine lv_topi (fun v_66 ev_66 => ?_)
    have hv_66 : zI v_66 0 240 := (hb58 _).eq ev_66
    have hemv_66 : v_66.toInt ≤ 240 ∧ v_66.toInt = (b58 (0 : Int32).toNatClampNeg).toInt := ⟨hv_66.2, by rw [ev_66]⟩
    refine lv_icmp_ge (tgt := 96) hx hb d_Model_placeOf_30 (by decide) (fun hc_67 => ?_) (fun hc_67 => ?_)
    · have _nhc_67 := hc_67
      have ni_68 := (fa_le _ _).mp hc_67
      refine lv_aload_n hx hb d_Model_placeOf_96 rfl (lv_at hl 3 rfl) ?_
      refine lv_iload hx hb d_Model_placeOf_97 (lv_at hl 1 rfl) ?_
      refine lv_aload_n hx hb d_Model_placeOf_99 rfl (lv_at hl 3 rfl) ?_
      refine va_get (D := G.1) (ci := 12) (v := .ref b29) (C := R_Model) (T := F_Model) (N := 54) hx hb hts i_Model hown hK hP 0 rfl rfl 25 (by decide) (hts _ q1134) (fun _ h9 => h9) rfl d_Model_placeOf_100 ?_
      refine lv_iload_n hx hb d_Model_placeOf_103 rfl (lv_at hl 4 rfl) ?_
      refine va_iald hx hb hK hP 1 0 rfl rfl (i := 0) (z_in rfl) d_Model_placeOf_104 ?_
      refine lv_topi (fun v_69 ev_69 => ?_)
      obtain rfl : v_66 = v_69 := ev_66.trans ev_69.symm
      refine lv_icmp_ge (tgt := 119) hx hb d_Model_placeOf_105 (by decide) (fun _ => ?_) (fun hc => (by exfalso; exact hc ((fa_le _ _).mpr (by omega))))
      refine lv_iconst (v := 0) hx hb d_Model_placeOf_119 (by decide) ?_
      refine va_put (D := G.1) (ci := 12) (v := .int 0) (ty := .boolean) (C := R_Model) (T := F_Model) (N := 54) hx hb hts i_Model t_Model t_Model_ok n_Model hown hK hP hD hS 0 rfl rfl 27 (by decide) (hts _ q1136) (fun _ h9 => h9) rfl (by decide +kernel) rfl rfl (Nat.le_of_ble_eq_true rfl) d_Model_placeOf_120 (fun H locs hP hD hS => ?_)
      have hP : va_P G.1 classes [(b0, .inr (12, [.int b4, .ref b5, .ref b6, .ref b7, .ref b8, .int b9, .ref b10, .int b11, .int b12, .int b13, .int b14, .ref b15, .ref b16, .ref b17, .int b18, .ref b19, .ref b20, .ref b21, .ref b22, .ref b23, .ref b24, .ref b25, .ref b26, .ref b27, .ref b28, .ref b29, .ref b30, .int 0, .ref b32, .ref b33, .int b34, .int b35, .int b36, .int b37, .ref b38, .ref b39, .ref b40, .ref b41, .ref b42, .ref b43, .ref b44, .int b45, .ref b46, .ref b47, .int b48, .ref b49, .ref b50, .ref b51, .ref b52, .ref b53, .int b54, .ref b55, .ref b56, .ref b57])), (b29, .inl (G.2 0, 2, .inl b58)), (b30, .inl (G.2 0, 2880, .inl b59))] H := hP
      have hD := z_tie hP hD rfl
      refine lv_iload hx hb d_Model_placeOf_123 (lv_at hl 1 rfl) ?_
      exact z_iret hx hb hr hlocks hP hD hS (Nat.le_of_ble_eq_true rfl) (Nat.le_of_ble_eq_true rfl) d_Model_placeOf_125 ⟨y_62, 0, rfl, rfl, hy_62, (zI.wk (l' := 0) (h' := 1) zc_0 (by decide)), (by omega), (Or.inl li_0), (by have em9 := hemv_66.2; exact ⟨fun j hj => hli_65 j (by omega), Or.inr ⟨li_0, Or.inl (by omega)⟩⟩)⟩
    · have _nhc_67 := hc_67
      have ni_70 := (fa_lt _ _).mp (zi_nle hc_67)
      have hv_71 : zI y_62 0 239 := zI.lt_l hy_62 hv_66 (zi_nle hc_67) (by decide)
      have hv_72 : zI v_66 1 240 := zI.lt_r hy_62 hv_66 (zi_nle hc_67) (by decide)
      refine lv_iload hx hb d_Model_placeOf_33 (lv_at hl 0 rfl) ?_
      refine lv_iload hx hb d_Model_placeOf_35 (lv_at hl 2 rfl) ?_
      refine lv_icmp_ge (tgt := 96) hx hb d_Model_placeOf_37 (by decide) (fun hc => (by exfalso; have h9 := (fa_le _ _).mp hc; omega)) (fun _ => ?_)
      refine lv_sipush (v := 2410) hx hb d_Model_placeOf_40 (by decide) ?_
      refine lv_aload_n hx hb d_Model_placeOf_43 rfl (lv_at hl 3 rfl) ?_
      refine lv_iload_n hx hb d_Model_placeOf_44 rfl (lv_at hl 4 rfl) ?_
      refine lv_iload hx hb d_Model_placeOf_45 (lv_at hl 1 rfl) ?_
      refine lv_iconst (v := 0) hx hb d_Model_placeOf_47 (by decide) ?_
      refine z_callV (index := 225) (As := [.int 0, .int y_62, .int 0]) (rest := [.int 2410]) (wr := [(b29, .inl (G.2 0, 2, .inl b58))]) Z (s21_Model_edgeAt l G (b0) (y_62) (b4) (b5) (b6) (b7) (b8) (b9) (b10) (b11) (b12) (b13) (b14) (b15) (b16) (b17) (b18) (b19) (b20) (b21) (b22) (b23) (b24) (b25) (b26) (b27) (b28) (b29) (b30) (b31) (b32) (b33) (b34) (b35) (b36) (b37) (b38) (b39) (b40) (b41) (b42) (b43) (b44) (b45) (b46) (b47) (b48) (b49) (b50) (b51) (b52) (b53) (b54) (b55) (b56) (b57) (b59) (zI.wk (l' := 0) (h' := 240) hv_71 (by decide)) hb9 hb11 hb12 hb14 hb18 hb31 hb34 hb45 hb48 hb54 hb59) hl.1 q1408 q1410 qs68 q14 q1411 ⟨by decide, by decide, by show _ = some 3; decide +kernel⟩ ⟨Nat.le_of_ble_eq_true rfl, Nat.le_of_ble_eq_true rfl⟩ ⟨Nat.le_of_ble_eq_true rfl, Nat.le_of_ble_eq_true rfl⟩ rfl (Nat.le_of_ble_eq_true rfl) d_Model_placeOf_48 hP hD hS hA 0 12 rfl rfl rfl [0, 2] [1] rfl rfl rfl rfl (by decide) (fun v w1 H locs hw_73 hP hD hS => ?_)
      obtain ⟨x_74, rfl, rfl, hx_74, hfx_75, hfx_76⟩ := hw_73
      have hP : va_P G.1 classes [(b29, .inl (G.2 0, 2, .inl b58)), (b0, .inr (12, [.int b4, .ref b5, .ref b6, .ref b7, .ref b8, .int b9, .ref b10, .int b11, .int b12, .int b13, .int b14, .ref b15, .ref b16, .ref b17, .int b18, .ref b19, .ref b20, .ref b21, .ref b22, .ref b23, .ref b24, .ref b25, .ref b26, .ref b27, .ref b28, .ref b29, .ref b30, .int b31, .ref b32, .ref b33, .int b34, .int b35, .int b36, .int b37, .ref b38, .ref b39, .ref b40, .ref b41, .ref b42, .ref b43, .ref b44, .int b45, .ref b46, .ref b47, .int b48, .ref b49, .ref b50, .ref b51, .ref b52, .ref b53, .int b54, .ref b55, .ref b56, .ref b57])), (b30, .inl (G.2 0, 2880, .inl b59))] H := hP
      have hD := z_tie hP hD rfl
      refine W.widen (k := 0) (n := 0) (Nat.le_of_ble_eq_true rfl) (Nat.le_of_ble_eq_true rfl) ?_
      refine lv_imul hx hb d_Model_placeOf_51 ?_
      refine lv_topi (fun v_77 ev_77 => ?_)
      obtain ⟨qv_77, hv_77⟩ := zI_mul (l := 0) (h := 578400) zc_2410 hx_74 ev_77 (by decide)
      rw [li_2410] at qv_77
      refine lv_sipush (v := 241) hx hb d_Model_placeOf_52 (by decide) ?_
      refine lv_aload_n hx hb d_Model_placeOf_55 rfl (lv_at hl 3 rfl) ?_
      refine lv_iload_n hx hb d_Model_placeOf_56 rfl (lv_at hl 4 rfl) ?_
      refine lv_iload hx hb d_Model_placeOf_57 (lv_at hl 1 rfl) ?_
      refine lv_iconst (v := 1) hx hb d_Model_placeOf_59 (by decide) ?_
      refine z_callV (index := 225) (As := [.int 0, .int y_62, .int 1]) (rest := [.int 241, .int v_77]) (wr := [(b29, .inl (G.2 0, 2, .inl b58))]) Z (s22_Model_edgeAt l G (b0) (y_62) (b4) (b5) (b6) (b7) (b8) (b9) (b10) (b11) (b12) (b13) (b14) (b15) (b16) (b17) (b18) (b19) (b20) (b21) (b22) (b23) (b24) (b25) (b26) (b27) (b28) (b29) (b30) (b31) (b32) (b33) (b34) (b35) (b36) (b37) (b38) (b39) (b40) (b41) (b42) (b43) (b44) (b45) (b46) (b47) (b48) (b49) (b50) (b51) (b52) (b53) (b54) (b55) (b56) (b57) (b59) (zI.wk (l' := 0) (h' := 240) hv_71 (by decide)) hb9 hb11 hb12 hb14 hb18 hb31 hb34 hb45 hb48 hb54 hb59) hl.1 q1408 q1410 qs68 q14 q1411 ⟨by decide, by decide, by show _ = some 3; decide +kernel⟩ ⟨Nat.le_of_ble_eq_true rfl, Nat.le_of_ble_eq_true rfl⟩ ⟨Nat.le_of_ble_eq_true rfl, Nat.le_of_ble_eq_true rfl⟩ rfl (Nat.le_of_ble_eq_true rfl) d_Model_placeOf_60 hP hD hS hA 1 12 rfl rfl rfl [1, 2] [0] rfl rfl rfl rfl (by decide) (fun v w1 H locs hw_78 hP hD hS => ?_)
      obtain ⟨x_79, rfl, rfl, hx_79, hfx_80, hfx_81⟩ := hw_78
      have hP : va_P G.1 classes [(b29, .inl (G.2 0, 2, .inl b58)), (b0, .inr (12, [.int b4, .ref b5, .ref b6, .ref b7, .ref b8, .int b9, .ref b10, .int b11, .int b12, .int b13, .int b14, .ref b15, .ref b16, .ref b17, .int b18, .ref b19, .ref b20, .ref b21, .ref b22, .ref b23, .ref b24, .ref b25, .ref b26, .ref b27, .ref b28, .ref b29, .ref b30, .int b31, .ref b32, .ref b33, .int b34, .int b35, .int b36, .int b37, .ref b38, .ref b39, .ref b40, .ref b41, .ref b42, .ref b43, .ref b44, .int b45, .ref b46, .ref b47, .int b48, .ref b49, .ref b50, .ref b51, .ref b52, .ref b53, .int b54, .ref b55, .ref b56, .ref b57])), (b30, .inl (G.2 0, 2880, .inl b59))] H := hP
      have hD := z_tie hP hD rfl
      refine W.widen (k := 0) (n := 0) (Nat.le_of_ble_eq_true rfl) (Nat.le_of_ble_eq_true rfl) ?_
      refine lv_imul hx hb d_Model_placeOf_63 ?_
      refine lv_topi (fun v_82 ev_82 => ?_)
      obtain ⟨qv_82, hv_82⟩ := zI_mul (l := 0) (h := 2169) zc_241 hx_79 ev_82 (by decide)
      rw [li_241] at qv_82
      refine lv_iadd hx hb d_Model_placeOf_64 ?_
      refine lv_topi (fun v_83 ev_83 => ?_)
      obtain ⟨qv_83, hv_83⟩ := zI_add (l := 0) (h := 580569) hv_77 hv_82 ev_83 (by decide)
      refine lv_aload_n hx hb d_Model_placeOf_65 rfl (lv_at hl 3 rfl) ?_
      refine lv_iload_n hx hb d_Model_placeOf_66 rfl (lv_at hl 4 rfl) ?_
      refine lv_iload hx hb d_Model_placeOf_67 (lv_at hl 1 rfl) ?_
      refine lv_iconst (v := 2) hx hb d_Model_placeOf_69 (by decide) ?_
      refine z_callV (index := 225) (As := [.int 0, .int y_62, .int 2]) (rest := [.int v_83]) (wr := [(b29, .inl (G.2 0, 2, .inl b58))]) Z (s23_Model_edgeAt l G (b0) (y_62) (b4) (b5) (b6) (b7) (b8) (b9) (b10) (b11) (b12) (b13) (b14) (b15) (b16) (b17) (b18) (b19) (b20) (b21) (b22) (b23) (b24) (b25) (b26) (b27) (b28) (b29) (b30) (b31) (b32) (b33) (b34) (b35) (b36) (b37) (b38) (b39) (b40) (b41) (b42) (b43) (b44) (b45) (b46) (b47) (b48) (b49) (b50) (b51) (b52) (b53) (b54) (b55) (b56) (b57) (b59) (zI.wk (l' := 0) (h' := 240) hv_71 (by decide)) hb9 hb11 hb12 hb14 hb18 hb31 hb34 hb45 hb48 hb54 hb59) hl.1 q1408 q1410 qs68 q14 q1411 ⟨by decide, by decide, by show _ = some 3; decide +kernel⟩ ⟨Nat.le_of_ble_eq_true rfl, Nat.le_of_ble_eq_true rfl⟩ ⟨Nat.le_of_ble_eq_true rfl, Nat.le_of_ble_eq_true rfl⟩ rfl (Nat.le_of_ble_eq_true rfl) d_Model_placeOf_70 hP hD hS hA 1 12 rfl rfl rfl [1, 2] [0] rfl rfl rfl rfl (by decide) (fun v w1 H locs hw_84 hP hD hS => ?_)
      obtain ⟨x_85, rfl, rfl, hx_85, hfx_86, hfx_87⟩ := hw_84
      have hP : va_P G.1 classes [(b29, .inl (G.2 0, 2, .inl b58)), (b0, .inr (12, [.int b4, .ref b5, .ref b6, .ref b7, .ref b8, .int b9, .ref b10, .int b11, .int b12, .int b13, .int b14, .ref b15, .ref b16, .ref b17, .int b18, .ref b19, .ref b20, .ref b21, .ref b22, .ref b23, .ref b24, .ref b25, .ref b26, .ref b27, .ref b28, .ref b29, .ref b30, .int b31, .ref b32, .ref b33, .int b34, .int b35, .int b36, .int b37, .ref b38, .ref b39, .ref b40, .ref b41, .ref b42, .ref b43, .ref b44, .int b45, .ref b46, .ref b47, .int b48, .ref b49, .ref b50, .ref b51, .ref b52, .ref b53, .int b54, .ref b55, .ref b56, .ref b57])), (b30, .inl (G.2 0, 2880, .inl b59))] H := hP
      have hD := z_tie hP hD rfl
      refine W.widen (k := 0) (n := 0) (Nat.le_of_ble_eq_true rfl) (Nat.le_of_ble_eq_true rfl) ?_
      refine lv_iadd hx hb d_Model_placeOf_73 ?_
      refine lv_topi (fun v_88 ev_88 => ?_)
      obtain ⟨qv_88, hv_88⟩ := zI_add (l := 0) (h := 580809) hv_83 hx_85 ev_88 (by decide)
      refine lv_istore (lv' := [(7, .int v_88), (6, .int y_62), (5, .int v_4), (0, .ref b0), (1, .int 0), (2, .int b1), (3, .int b2), (4, .int b3)]) hx hb d_Model_placeOf_74 hl (by decide) rfl (fun ls hl => ?_)
      refine lv_iload hx hb d_Model_placeOf_76 (lv_at hl 1 rfl) ?_
      refine lv_iload hx hb d_Model_placeOf_78 (lv_at hl 0 rfl) ?_
      refine lv_iload hx hb d_Model_placeOf_80 (lv_at hl 2 rfl) ?_
      refine lv_icmp_ge (tgt := 89) hx hb d_Model_placeOf_82 (by decide) (fun hc_89 => ?_) (fun hc_89 => ?_)
      · have _nhc_89 := hc_89
        have ni_90 := (fa_le _ _).mp hc_89
        refine lv_iconst (v := 0) hx hb d_Model_placeOf_89 (by decide) ?_
        refine lv_iadd hx hb d_Model_placeOf_90 ?_
        refine lv_topi (fun v_91 ev_91 => ?_)
        obtain ⟨qv_91, hv_91⟩ := zI_add (l := 0) (h := 239) hv_71 zc_0 ev_91 (by decide)
        rw [li_0] at qv_91
        refine lv_istore (lv' := [(6, .int v_91), (7, .int v_88), (5, .int v_4), (0, .ref b0), (1, .int 0), (2, .int b1), (3, .int b2), (4, .int b3)]) hx hb d_Model_placeOf_91 hl (by decide) rfl (fun ls hl => ?_)
        refine lv_goto (tgt := 22) hx hb d_Model_placeOf_93 (by decide) ?_
        refine lv_iload hx hb d_Model_placeOf_22 (lv_at hl 0 rfl) ?_
        refine lv_aload_n hx hb d_Model_placeOf_24 rfl (lv_at hl 3 rfl) ?_
        refine va_get (D := G.1) (ci := 12) (v := .ref b29) (C := R_Model) (T := F_Model) (N := 54) hx hb hts i_Model hown hK hP 1 rfl rfl 25 (by decide) (hts _ q1134) (fun _ h9 => h9) rfl d_Model_placeOf_25 ?_
        refine lv_iload_n hx hb d_Model_placeOf_28 rfl (lv_at hl 4 rfl) ?_
        refine va_iald hx hb hK hP 0 0 rfl rfl (i := 0) (z_in rfl) d_Model_placeOf_29 ?_
        refine lv_topi (fun v_92 ev_92 => ?_)
        obtain rfl : v_66 = v_92 := ev_66.trans ev_92.symm
        refine lv_icmp_ge (tgt := 96) hx hb d_Model_placeOf_30 (by decide) (fun hc_93 => ?_) (fun hc_93 => ?_)
        · have _nhc_93 := hc_93
          have ni_94 := (fa_le _ _).mp hc_93
          have hv_95 : zI v_66 1 239 := zI.le_l hv_72 hv_91 hc_93 (by decide)
          have hv_96 : zI v_91 1 239 := zI.le_r hv_72 hv_91 hc_93 (by decide)
          have hv_97 : zI y_62 1 239 := by have _a := hv_96; have _b := qv_91; have _c := zc_0; have _d := hv_71; exact ⟨by omega, by omega⟩
          refine lv_aload_n hx hb d_Model_placeOf_96 rfl (lv_at hl 3 rfl) ?_
          refine lv_iload hx hb d_Model_placeOf_97 (lv_at hl 0 rfl) ?_
          refine lv_aload_n hx hb d_Model_placeOf_99 rfl (lv_at hl 3 rfl) ?_
          refine va_get (D := G.1) (ci := 12) (v := .ref b29) (C := R_Model) (T := F_Model) (N := 54) hx hb hts i_Model hown hK hP 1 rfl rfl 25 (by decide) (hts _ q1134) (fun _ h9 => h9) rfl d_Model_placeOf_100 ?_
          refine lv_iload_n hx hb d_Model_placeOf_103 rfl (lv_at hl 4 rfl) ?_
          refine va_iald hx hb hK hP 0 0 rfl rfl (i := 0) (z_in rfl) d_Model_placeOf_104 ?_
          refine lv_topi (fun v_98 ev_98 => ?_)
          obtain rfl : v_66 = v_98 := ev_66.trans ev_98.symm
          refine lv_icmp_ge (tgt := 119) hx hb d_Model_placeOf_105 (by decide) (fun hc => (by exfalso; have h9 := (fa_le _ _).mp hc; omega)) (fun _ => ?_)
          refine lv_iload hx hb d_Model_placeOf_108 (lv_at hl 1 rfl) ?_
          refine lv_iload hx hb d_Model_placeOf_110 (lv_at hl 2 rfl) ?_
          refine lv_icmp_ne (tgt := 119) hx hb d_Model_placeOf_112 (by decide) (fun hc_99 => ?_) (fun hc_99 => ?_)
          · have _nhc_99 := hc_99
            have ni_100 : ¬ (v_88 : Int32).toInt = (v_4 : Int32).toInt := fun z => hc_99 ((fa_eq _ _).mpr z)
            refine lv_iconst (v := 0) hx hb d_Model_placeOf_119 (by decide) ?_
            refine va_put (D := G.1) (ci := 12) (v := .int 0) (ty := .boolean) (C := R_Model) (T := F_Model) (N := 54) hx hb hts i_Model t_Model t_Model_ok n_Model hown hK hP hD hS 1 rfl rfl 27 (by decide) (hts _ q1136) (fun _ h9 => h9) rfl (by decide +kernel) rfl rfl (Nat.le_of_ble_eq_true rfl) d_Model_placeOf_120 (fun H locs hP hD hS => ?_)
            have hP : va_P G.1 classes [(b29, .inl (G.2 0, 2, .inl b58)), (b0, .inr (12, [.int b4, .ref b5, .ref b6, .ref b7, .ref b8, .int b9, .ref b10, .int b11, .int b12, .int b13, .int b14, .ref b15, .ref b16, .ref b17, .int b18, .ref b19, .ref b20, .ref b21, .ref b22, .ref b23, .ref b24, .ref b25, .ref b26, .ref b27, .ref b28, .ref b29, .ref b30, .int 0, .ref b32, .ref b33, .int b34, .int b35, .int b36, .int b37, .ref b38, .ref b39, .ref b40, .ref b41, .ref b42, .ref b43, .ref b44, .int b45, .ref b46, .ref b47, .int b48, .ref b49, .ref b50, .ref b51, .ref b52, .ref b53, .int b54, .ref b55, .ref b56, .ref b57])), (b30, .inl (G.2 0, 2880, .inl b59))] H := hP
            have hD := z_tie hP hD rfl
            refine lv_iload hx hb d_Model_placeOf_123 (lv_at hl 0 rfl) ?_
            exact z_iret hx hb hr hlocks (hP.sub [1, 0, 2] rfl) (hD.sub [1, 0, 2] (by decide) rfl) hS (Nat.le_of_ble_eq_true rfl) (Nat.le_of_ble_eq_true rfl) d_Model_placeOf_125 ⟨v_91, 0, rfl, rfl, (zI.wk (l' := 0) (h' := 240) hv_96 (by decide)), (zI.wk (l' := 0) (h' := 1) zc_0 (by decide)), (by omega), (Or.inl li_0), (by have em9 := hemv_66.2; have g0 := congrArg Int32.toInt hfx_76; have g1 := congrArg Int32.toInt hfx_81; have g2 := congrArg Int32.toInt hfx_87; have r9 : ((yRc b59 0 y_62.toInt.toNat : Nat) : Int) = v_88.toInt := (by show ((2410 * (b59 (0 + 6 * y_62.toInt.toNat)).toInt.toNat + 241 * (b59 (0 + 6 * y_62.toInt.toNat + 1)).toInt.toNat + (b59 (0 + 6 * y_62.toInt.toNat + 2)).toInt.toNat : Nat) : Int) = _; omega); exact ⟨fun j hj => hli_65 j (by omega), Or.inr ⟨li_0, by by_cases c9 : v_91.toInt = (b58 (0 : Int32).toNatClampNeg).toInt; exact Or.inl c9; exact Or.inr (by rw [show v_91.toInt.toNat = y_62.toInt.toNat by omega]; omega)⟩⟩)⟩
          · have _nhc_99 := hc_99
            have ni_101 := (fa_eq _ _).mp hc_99
            refine lv_iconst (v := 1) hx hb d_Model_placeOf_115 (by decide) ?_
            refine lv_goto (tgt := 120) hx hb d_Model_placeOf_116 (by decide) ?_
            refine va_put (D := G.1) (ci := 12) (v := .int 1) (ty := .boolean) (C := R_Model) (T := F_Model) (N := 54) hx hb hts i_Model t_Model t_Model_ok n_Model hown hK hP hD hS 1 rfl rfl 27 (by decide) (hts _ q1136) (fun _ h9 => h9) rfl (by decide +kernel) rfl rfl (Nat.le_of_ble_eq_true rfl) d_Model_placeOf_120 (fun H locs hP hD hS => ?_)
            have hP : va_P G.1 classes [(b29, .inl (G.2 0, 2, .inl b58)), (b0, .inr (12, [.int b4, .ref b5, .ref b6, .ref b7, .ref b8, .int b9, .ref b10, .int b11, .int b12, .int b13, .int b14, .ref b15, .ref b16, .ref b17, .int b18, .ref b19, .ref b20, .ref b21, .ref b22, .ref b23, .ref b24, .ref b25, .ref b26, .ref b27, .ref b28, .ref b29, .ref b30, .int 1, .ref b32, .ref b33, .int b34, .int b35, .int b36, .int b37, .ref b38, .ref b39, .ref b40, .ref b41, .ref b42, .ref b43, .ref b44, .int b45, .ref b46, .ref b47, .int b48, .ref b49, .ref b50, .ref b51, .ref b52, .ref b53, .int b54, .ref b55, .ref b56, .ref b57])), (b30, .inl (G.2 0, 2880, .inl b59))] H := hP
            have hD := z_tie hP hD rfl
            refine lv_iload hx hb d_Model_placeOf_123 (lv_at hl 0 rfl) ?_
            exact z_iret hx hb hr hlocks (hP.sub [1, 0, 2] rfl) (hD.sub [1, 0, 2] (by decide) rfl) hS (Nat.le_of_ble_eq_true rfl) (Nat.le_of_ble_eq_true rfl) d_Model_placeOf_125 ⟨v_91, 1, rfl, rfl, (zI.wk (l' := 0) (h' := 240) hv_96 (by decide)), (zI.wk (l' := 0) (h' := 1) zc_1 (by decide)), (by omega), (Or.inr (by have h8 : v_91.toInt.toNat = y_62.toInt.toNat := (by omega); have h6 := congrArg Int32.toInt hfx_75; have h5 := congrArg Int32.toInt hfx_86; rw [h8]; exact ⟨by omega, h6.symm.trans (by omega), h5.symm.trans (by omega)⟩)), (by have em9 := hemv_66.2; have g0 := congrArg Int32.toInt hfx_76; have g1 := congrArg Int32.toInt hfx_81; have g2 := congrArg Int32.toInt hfx_87; have r9 : ((yRc b59 0 y_62.toInt.toNat : Nat) : Int) = v_88.toInt := (by show ((2410 * (b59 (0 + 6 * y_62.toInt.toNat)).toInt.toNat + 241 * (b59 (0 + 6 * y_62.toInt.toNat + 1)).toInt.toNat + (b59 (0 + 6 * y_62.toInt.toNat + 2)).toInt.toNat : Nat) : Int) = _; omega); exact ⟨fun j hj => hli_65 j (by omega), Or.inl ⟨li_1, by omega, by rw [show v_91.toInt.toNat = y_62.toInt.toNat by omega]; omega⟩⟩)⟩
        · have _nhc_93 := hc_93
          have ni_102 := (fa_lt _ _).mp (zi_nle hc_93)
          refine lv_iload hx hb d_Model_placeOf_33 (lv_at hl 1 rfl) ?_
          refine lv_iload hx hb d_Model_placeOf_35 (lv_at hl 2 rfl) ?_
          refine lv_icmp_ge (tgt := 96) hx hb d_Model_placeOf_37 (by decide) (fun _ => ?_) (fun hc => (by exfalso; exact hc ((fa_le _ _).mpr (by omega))))
          refine lv_aload_n hx hb d_Model_placeOf_96 rfl (lv_at hl 3 rfl) ?_
          refine lv_iload hx hb d_Model_placeOf_97 (lv_at hl 0 rfl) ?_
          refine lv_aload_n hx hb d_Model_placeOf_99 rfl (lv_at hl 3 rfl) ?_
          refine va_get (D := G.1) (ci := 12) (v := .ref b29) (C := R_Model) (T := F_Model) (N := 54) hx hb hts i_Model hown hK hP 1 rfl rfl 25 (by decide) (hts _ q1134) (fun _ h9 => h9) rfl d_Model_placeOf_100 ?_
          refine lv_iload_n hx hb d_Model_placeOf_103 rfl (lv_at hl 4 rfl) ?_
          refine va_iald hx hb hK hP 0 0 rfl rfl (i := 0) (z_in rfl) d_Model_placeOf_104 ?_
          refine lv_topi (fun v_103 ev_103 => ?_)
          obtain rfl : v_66 = v_103 := ev_66.trans ev_103.symm
          refine lv_icmp_ge (tgt := 119) hx hb d_Model_placeOf_105 (by decide) (fun hc => (by exfalso; have h9 := (fa_le _ _).mp hc; omega)) (fun _ => ?_)
          refine lv_iload hx hb d_Model_placeOf_108 (lv_at hl 1 rfl) ?_
          refine lv_iload hx hb d_Model_placeOf_110 (lv_at hl 2 rfl) ?_
          refine lv_icmp_ne (tgt := 119) hx hb d_Model_placeOf_112 (by decide) (fun hc_104 => ?_) (fun hc_104 => ?_)
          · have _nhc_104 := hc_104
            have ni_105 : ¬ (v_88 : Int32).toInt = (v_4 : Int32).toInt := fun z => hc_104 ((fa_eq _ _).mpr z)
            refine lv_iconst (v := 0) hx hb d_Model_placeOf_119 (by decide) ?_
            refine va_put (D := G.1) (ci := 12) (v := .int 0) (ty := .boolean) (C := R_Model) (T := F_Model) (N := 54) hx hb hts i_Model t_Model t_Model_ok n_Model hown hK hP hD hS 1 rfl rfl 27 (by decide) (hts _ q1136) (fun _ h9 => h9) rfl (by decide +kernel) rfl rfl (Nat.le_of_ble_eq_true rfl) d_Model_placeOf_120 (fun H locs hP hD hS => ?_)
            have hP : va_P G.1 classes [(b29, .inl (G.2 0, 2, .inl b58)), (b0, .inr (12, [.int b4, .ref b5, .ref b6, .ref b7, .ref b8, .int b9, .ref b10, .int b11, .int b12, .int b13, .int b14, .ref b15, .ref b16, .ref b17, .int b18, .ref b19, .ref b20, .ref b21, .ref b22, .ref b23, .ref b24, .ref b25, .ref b26, .ref b27, .ref b28, .ref b29, .ref b30, .int 0, .ref b32, .ref b33, .int b34, .int b35, .int b36, .int b37, .ref b38, .ref b39, .ref b40, .ref b41, .ref b42, .ref b43, .ref b44, .int b45, .ref b46, .ref b47, .int b48, .ref b49, .ref b50, .ref b51, .ref b52, .ref b53, .int b54, .ref b55, .ref b56, .ref b57])), (b30, .inl (G.2 0, 2880, .inl b59))] H := hP
            have hD := z_tie hP hD rfl
            refine lv_iload hx hb d_Model_placeOf_123 (lv_at hl 0 rfl) ?_
            exact z_iret hx hb hr hlocks (hP.sub [1, 0, 2] rfl) (hD.sub [1, 0, 2] (by decide) rfl) hS (Nat.le_of_ble_eq_true rfl) (Nat.le_of_ble_eq_true rfl) d_Model_placeOf_125 ⟨v_91, 0, rfl, rfl, (zI.wk (l' := 0) (h' := 240) hv_91 (by decide)), (zI.wk (l' := 0) (h' := 1) zc_0 (by decide)), (by omega), (Or.inl li_0), (by have em9 := hemv_66.2; have g0 := congrArg Int32.toInt hfx_76; have g1 := congrArg Int32.toInt hfx_81; have g2 := congrArg Int32.toInt hfx_87; have r9 : ((yRc b59 0 y_62.toInt.toNat : Nat) : Int) = v_88.toInt := (by show ((2410 * (b59 (0 + 6 * y_62.toInt.toNat)).toInt.toNat + 241 * (b59 (0 + 6 * y_62.toInt.toNat + 1)).toInt.toNat + (b59 (0 + 6 * y_62.toInt.toNat + 2)).toInt.toNat : Nat) : Int) = _; omega); exact ⟨fun j hj => hli_65 j (by omega), Or.inr ⟨li_0, by by_cases c9 : v_91.toInt = (b58 (0 : Int32).toNatClampNeg).toInt; exact Or.inl c9; exact Or.inr (by rw [show v_91.toInt.toNat = y_62.toInt.toNat by omega]; omega)⟩⟩)⟩
          · have _nhc_104 := hc_104
            have ni_106 := (fa_eq _ _).mp hc_104
            refine lv_iconst (v := 1) hx hb d_Model_placeOf_115 (by decide) ?_
            refine lv_goto (tgt := 120) hx hb d_Model_placeOf_116 (by decide) ?_
            refine va_put (D := G.1) (ci := 12) (v := .int 1) (ty := .boolean) (C := R_Model) (T := F_Model) (N := 54) hx hb hts i_Model t_Model t_Model_ok n_Model hown hK hP hD hS 1 rfl rfl 27 (by decide) (hts _ q1136) (fun _ h9 => h9) rfl (by decide +kernel) rfl rfl (Nat.le_of_ble_eq_true rfl) d_Model_placeOf_120 (fun H locs hP hD hS => ?_)
            have hP : va_P G.1 classes [(b29, .inl (G.2 0, 2, .inl b58)), (b0, .inr (12, [.int b4, .ref b5, .ref b6, .ref b7, .ref b8, .int b9, .ref b10, .int b11, .int b12, .int b13, .int b14, .ref b15, .ref b16, .ref b17, .int b18, .ref b19, .ref b20, .ref b21, .ref b22, .ref b23, .ref b24, .ref b25, .ref b26, .ref b27, .ref b28, .ref b29, .ref b30, .int 1, .ref b32, .ref b33, .int b34, .int b35, .int b36, .int b37, .ref b38, .ref b39, .ref b40, .ref b41, .ref b42, .ref b43, .ref b44, .int b45, .ref b46, .ref b47, .int b48, .ref b49, .ref b50, .ref b51, .ref b52, .ref b53, .int b54, .ref b55, .ref b56, .ref b57])), (b30, .inl (G.2 0, 2880, .inl b59))] H := hP
            have hD := z_tie hP hD rfl
            refine lv_iload hx hb d_Model_placeOf_123 (lv_at hl 0 rfl) ?_
            exact z_iret hx hb hr hlocks (hP.sub [1, 0, 2] rfl) (hD.sub [1, 0, 2] (by decide) rfl) hS (Nat.le_of_ble_eq_true rfl) (Nat.le_of_ble_eq_true rfl) d_Model_placeOf_125 ⟨v_91, 1, rfl, rfl, (zI.wk (l' := 0) (h' := 240) hv_91 (by decide)), (zI.wk (l' := 0) (h' := 1) zc_1 (by decide)), (by omega), (Or.inr (by have h8 : v_91.toInt.toNat = y_62.toInt.toNat := (by omega); have h6 := congrArg Int32.toInt hfx_75; have h5 := congrArg Int32.toInt hfx_86; rw [h8]; exact ⟨by omega, h6.symm.trans (by omega), h5.symm.trans (by omega)⟩)), (by have em9 := hemv_66.2; have g0 := congrArg Int32.toInt hfx_76; have g1 := congrArg Int32.toInt hfx_81; have g2 := congrArg Int32.toInt hfx_87; have r9 : ((yRc b59 0 y_62.toInt.toNat : Nat) : Int) = v_88.toInt := (by show ((2410 * (b59 (0 + 6 * y_62.toInt.toNat)).toInt.toNat + 241 * (b59 (0 + 6 * y_62.toInt.toNat + 1)).toInt.toNat + (b59 (0 + 6 * y_62.toInt.toNat + 2)).toInt.toNat : Nat) : Int) = _; omega); exact ⟨fun j hj => hli_65 j (by omega), Or.inl ⟨li_1, by omega, by rw [show v_91.toInt.toNat = y_62.toInt.toNat by omega]; omega⟩⟩)⟩
      · have _nhc_89 := hc_89
        have ni_107 := (fa_lt _ _).mp (zi_nle hc_89)
        have hv_108 : zI v_88 0 580808 := zI.lt_l hv_88 hv_4 (zi_nle hc_89) (by decide)
        have hv_109 : zI v_4 1 580809 := zI.lt_r hv_88 hv_4 (zi_nle hc_89) (by decide)
        refine lv_iconst (v := 1) hx hb d_Model_placeOf_85 (by decide) ?_
        refine lv_goto (tgt := 90) hx hb d_Model_placeOf_86 (by decide) ?_
        refine lv_iadd hx hb d_Model_placeOf_90 ?_
        refine lv_topi (fun v_110 ev_110 => ?_)
        obtain ⟨qv_110, hv_110⟩ := zI_add (l := 1) (h := 240) hv_71 zc_1 ev_110 (by decide)
        rw [li_1] at qv_110
        refine lv_istore (lv' := [(6, .int v_110), (7, .int v_88), (5, .int v_4), (0, .ref b0), (1, .int 0), (2, .int b1), (3, .int b2), (4, .int b3)]) hx hb d_Model_placeOf_91 hl (by decide) rfl (fun ls hl => ?_)
        refine lv_goto (tgt := 22) hx hb d_Model_placeOf_93 (by decide) ?_
        exact ihk_60 (v_88) (v_110) _ _ _ (zI.wk (l' := (-1)) (h' := 580809) hv_108 (by decide)) (zI.wk (l' := 0) (h' := 240) hv_110 (by decide)) (by omega) (by omega) (by have g0 := congrArg Int32.toInt hfx_76; have g1 := congrArg Int32.toInt hfx_81; have g2 := congrArg Int32.toInt hfx_87; have r9 : ((yRc b59 0 y_62.toInt.toNat : Nat) : Int) = v_88.toInt := (by show ((2410 * (b59 (0 + 6 * y_62.toInt.toNat)).toInt.toNat + 241 * (b59 (0 + 6 * y_62.toInt.toNat + 1)).toInt.toNat + (b59 (0 + 6 * y_62.toInt.toNat + 2)).toInt.toNat : Nat) : Int) = _; omega); intro j hj; by_cases c9 : (j : Int) < y_62.toInt; exact hli_65 j c9; rw [show j = y_62.toInt.toNat by omega, r9]; omega) (by omega) (hP.sub [1, 0, 2] rfl) (hD.sub [1, 0, 2] (by decide) rfl) hS (lv_sub hl [1, 0, 2, 3, 4, 5, 6, 7] rfl)
abbrev m_s3_Model_addEdge : Room := { frames := 2, cells := 0, slots := 0, locals := 50 }
set_option maxHeartbeats 4000000 in
set_option maxRecDepth 100000 in
theorem s3_Model_addEdge (l : Launch) (G : zG) (b0 : Nat) (b1 : Int32) (b2 : Int32) (b3 : Int32) (b4 : Nat) (b5 : Nat) (b6 : Nat) (b7 : Nat) (b8 : Int32) (b9 : Nat) (b10 : Int32) (b11 : Int32) (b12 : Int32) (b13 : Int32) (b14 : Nat) (b15 : Nat) (b16 : Nat) (b17 : Int32) (b18 : Nat) (b19 : Nat) (b20 : Nat) (b21 : Nat) (b22 : Nat) (b23 : Nat) (b24 : Nat) (b25 : Nat) (b26 : Nat) (b27 : Nat) (b28 : Nat) (b29 : Nat) (b30 : Int32) (b31 : Nat) (b32 : Nat) (b33 : Int32) (b34 : Int32) (b35 : Int32) (b36 : Int32) (b37 : Nat) (b38 : Nat) (b39 : Nat) (b40 : Nat) (b41 : Nat) (b42 : Nat) (b43 : Nat) (b44 : Int32) (b45 : Nat) (b46 : Nat) (b47 : Int32) (b48 : Nat) (b49 : Nat) (b50 : Nat) (b51 : Nat) (b52 : Nat) (b53 : Int32) (b54 : Nat) (b55 : Nat) (b56 : Nat) (b57 : Nat → Int32) (b58 : Nat → Int32) (b59 : Nat → Int32) (b60 : Nat → Int32) (b61 : Nat → Int32) (hb1 : zI b1 0 19) (hb2 : zI b2 0 11) (hb8 : zI b8 0 8) (hb10 : zI b10 0 240) (hb11 : zI b11 0 240) (hb13 : zI b13 0 1) (hb17 : zI b17 0 12) (hb30 : zI b30 0 1) (hb33 : zI b33 0 1) (hb44 : zI b44 0 1000) (hb47 : zI b47 0 1000) (hb53 : zI b53 0 400) (hb57 : zW5 b57) (hb58 : zqa qP b58) (hb59 : zR b59 0 240) (hb60 : zR b60 0 240) (hb61 : zqa qE b61) (hem : (b60 (0 : Int32).toNatClampNeg).toInt ≤ 239) : zM l G y_Model_addEdge prog_14_method_34_code 10 (Option.none : Option Jvm.ClassFile.FieldType) m_s3_Model_addEdge [.ref b0, .int 0, .int b1, .int b2] [(b0, .inr (12, [.int b3, .ref b4, .ref b5, .ref b6, .ref b7, .int b8, .ref b9, .int b10, .int b11, .int b12, .int b13, .ref b14, .ref b15, .ref b16, .int b17, .ref b18, .ref b19, .ref b20, .ref b21, .ref b22, .ref b23, .ref b24, .ref b25, .ref b26, .ref b27, .ref b28, .ref b29, .int b30, .ref b31, .ref b32, .int b33, .int b34, .int b35, .int b36, .ref b37, .ref b38, .ref b39, .ref b40, .ref b41, .ref b42, .ref b43, .int b44, .ref b45, .ref b46, .int b47, .ref b48, .ref b49, .ref b50, .ref b51, .ref b52, .int b53, .ref b54, .ref b55, .ref b56])), (b4, .inl (G.2 0, 503, .inl b57)), (b20, .inl (G.2 0, 520, .inl b58)), (b23, .inl (G.2 0, 482, .inl b59)), (b28, .inl (G.2 0, 2, .inl b60)), (b29, .inl (G.2 0, 2880, .inl b61))] (fun v w => ∃ (e0 : Int32), ∃ (e1 : Nat → Int32), ∃ (e2 : Nat → Int32), v = none ∧ w = [(b0, .inr (12, [.int b3, .ref b4, .ref b5, .ref b6, .ref b7, .int b8, .ref b9, .int b10, .int b11, .int b12, .int b13, .ref b14, .ref b15, .ref b16, .int b17, .ref b18, .ref b19, .ref b20, .ref b21, .ref b22, .ref b23, .ref b24, .ref b25, .ref b26, .ref b27, .ref b28, .ref b29, .int e0, .ref b31, .ref b32, .int b33, .int b34, .int b35, .int b36, .ref b37, .ref b38, .ref b39, .ref b40, .ref b41, .ref b42, .ref b43, .int b44, .ref b45, .ref b46, .int b47, .ref b48, .ref b49, .ref b50, .ref b51, .ref b52, .int b53, .ref b54, .ref b55, .ref b56])), (b4, .inl (G.2 0, 503, .inl b57)), (b20, .inl (G.2 0, 520, .inl b58)), (b23, .inl (G.2 0, 482, .inl b59)), (b28, .inl (G.2 0, 2, .inl e1)), (b29, .inl (G.2 0, 2880, .inl e2))] ∧ (zI e0 0 1) ∧ (zR e1 0 240) ∧ (zqa qE e2) ∧ ((e1 (0 : Int32).toNatClampNeg).toInt ≤ (b60 (0 : Int32).toNatClampNeg).toInt + 1) ∧ ((∀ j : Nat, j < ((b60 (0 : Int32).toNatClampNeg).toInt).toNat → 0 ≤ zeU b61 j ∧ zeU b61 j ≤ 1000) → zAdd b61 ((b60 (0 : Int32).toNatClampNeg).toInt).toNat e2 ((e1 (0 : Int32).toNatClampNeg).toInt).toNat (zst b59 b58 b1.toInt.toNat b2.toInt.toNat) (zst b59 b58 b1.toInt.toNat (b2.toInt + 1).toNat)) ∧ (∃ fr by_ to va : Int32, (fr = b59 (0 + (b58 (0 + 13 * b1.toInt.toNat + b2.toInt.toNat)).toInt.toNat) ∧ by_ = b57 (21 + (12 * b1.toInt.toNat + b2.toInt.toNat)) ∧ to = b59 (0 + (b58 (0 + 13 * b1.toInt.toNat + (b2.toInt.toNat + 1))).toInt.toNat) ∧ va = b57 (261 + (12 * b1.toInt.toNat + b2.toInt.toNat))) ∧ yAE 0 ((b60 (0 : Int32).toNatClampNeg).toInt).toNat b61 e2 ((e1 (0 : Int32).toNatClampNeg).toInt) fr by_ to va)) := by
  refine z_start (by decide +kernel) (Nat.le_of_ble_eq_true rfl) ?_
  intro p e s m below meth c A Z hr hnm hA hP hD hS ls hl
  have Z : zC p s m _ meth c prog_14_method_34_code 10 "TraceMachinesModel" G := Z
  obtain ⟨hx, hb, hml, hown, hts, hK, hN, hlocks⟩ := id Z
  have hl : lv_has ls 10 [(0, .ref b0), (1, .int 0), (2, .int b1), (3, .int b2)] := hl
  refine lv_aload_n hx hb d_Model_addEdge_0 rfl (lv_at hl 0 rfl) ?_
  refine lv_iload_n hx hb d_Model_addEdge_1 rfl (lv_at hl 1 rfl) ?_
  refine lv_iload_n hx hb d_Model_addEdge_2 rfl (lv_at hl 2 rfl) ?_
  refine lv_iload_n hx hb d_Model_addEdge_3 rfl (lv_at hl 3 rfl) ?_
  refine z_callV (index := 231) (As := [.int 0, .int b1, .int b2]) (rest := []) (wr := [(b4, .inl (G.2 0, 503, .inl b57)), (b28, .inl (G.2 0, 2, .inl b60)), (b29, .inl (G.2 0, 2880, .inl b61))]) Z (s3_Model_stateAt l G (b0) (b1) (b2) (b3) (b4) (b5) (b6) (b7) (b8) (b9) (b10) (b11) (b12) (b13) (b14) (b15) (b16) (b17) (b18) (b19) (b20) (b21) (b22) (b23) (b24) (b25) (b26) (b27) (b28) (b29) (b30) (b31) (b32) (b33) (b34) (b35) (b36) (b37) (b38) (b39) (b40) (b41) (b42) (b43) (b44) (b45) (b46) (b47) (b48) (b49) (b50) (b51) (b52) (b53) (b54) (b55) (b56) (b58) (b59) hb1 (zI.wk (l' := 0) (h' := 12) hb2 (by decide)) hb8 hb10 hb11 hb13 hb17 hb30 hb33 hb44 hb47 hb53 hb58 hb59) hl.1 q1400 q1402 qs66 q14 q1403 ⟨by decide, by decide, by show _ = some 3; decide +kernel⟩ ⟨Nat.le_of_ble_eq_true rfl, Nat.le_of_ble_eq_true rfl⟩ ⟨Nat.le_of_ble_eq_true rfl, Nat.le_of_ble_eq_true rfl⟩ rfl (Nat.le_of_ble_eq_true rfl) d_Model_addEdge_4 hP hD hS hA 0 12 rfl rfl rfl [0, 2, 3] [1, 4, 5] rfl rfl rfl rfl (by decide) (fun v w1 H locs hw_1 hP hD hS => ?_)
  obtain ⟨x_2, rfl, rfl, hx_2, hfx_3, hfx_4⟩ := hw_1
  have hP : va_P G.1 classes [(b4, .inl (G.2 0, 503, .inl b57)), (b28, .inl (G.2 0, 2, .inl b60)), (b29, .inl (G.2 0, 2880, .inl b61)), (b0, .inr (12, [.int b3, .ref b4, .ref b5, .ref b6, .ref b7, .int b8, .ref b9, .int b10, .int b11, .int b12, .int b13, .ref b14, .ref b15, .ref b16, .int b17, .ref b18, .ref b19, .ref b20, .ref b21, .ref b22, .ref b23, .ref b24, .ref b25, .ref b26, .ref b27, .ref b28, .ref b29, .int b30, .ref b31, .ref b32, .int b33, .int b34, .int b35, .int b36, .ref b37, .ref b38, .ref b39, .ref b40, .ref b41, .ref b42, .ref b43, .int b44, .ref b45, .ref b46, .int b47, .ref b48, .ref b49, .ref b50, .ref b51, .ref b52, .int b53, .ref b54, .ref b55, .ref b56])), (b20, .inl (G.2 0, 520, .inl b58)), (b23, .inl (G.2 0, 482, .inl b59))] H := hP
  have hD := z_tie hP hD rfl
  refine W.widen (k := 0) (n := 0) (Nat.le_of_ble_eq_true rfl) (Nat.le_of_ble_eq_true rfl) ?_
  refine lv_istore (lv' := [(4, .int x_2), (0, .ref b0), (1, .int 0), (2, .int b1), (3, .int b2)]) hx hb d_Model_addEdge_7 hl (by decide) rfl (fun ls hl => ?_)
  refine lv_aload_n hx hb d_Model_addEdge_9 rfl (lv_at hl 1 rfl) ?_
  refine lv_iload_n hx hb d_Model_addEdge_10 rfl (lv_at hl 2 rfl) ?_
  refine lv_iload_n hx hb d_Model_addEdge_11 rfl (lv_at hl 3 rfl) ?_
  refine lv_iload_n hx hb d_Model_addEdge_12 rfl (lv_at hl 4 rfl) ?_
  refine lv_iconst (v := 1) hx hb d_Model_addEdge_13 (by decide) ?_
  refine lv_iadd hx hb d_Model_addEdge_14 ?_
  refine lv_topi (fun v_5 ev_5 => ?_)
  obtain ⟨qv_5, hv_5⟩ := zI_add (l := 1) (h := 12) hb2 zc_1 ev_5 (by decide)
  rw [li_1] at qv_5
  refine z_callV (index := 231) (As := [.int 0, .int b1, .int v_5]) (rest := []) (wr := [(b4, .inl (G.2 0, 503, .inl b57)), (b28, .inl (G.2 0, 2, .inl b60)), (b29, .inl (G.2 0, 2880, .inl b61))]) Z (s3_Model_stateAt l G (b0) (b1) (v_5) (b3) (b4) (b5) (b6) (b7) (b8) (b9) (b10) (b11) (b12) (b13) (b14) (b15) (b16) (b17) (b18) (b19) (b20) (b21) (b22) (b23) (b24) (b25) (b26) (b27) (b28) (b29) (b30) (b31) (b32) (b33) (b34) (b35) (b36) (b37) (b38) (b39) (b40) (b41) (b42) (b43) (b44) (b45) (b46) (b47) (b48) (b49) (b50) (b51) (b52) (b53) (b54) (b55) (b56) (b58) (b59) hb1 (zI.wk (l' := 0) (h' := 12) hv_5 (by decide)) hb8 hb10 hb11 hb13 hb17 hb30 hb33 hb44 hb47 hb53 hb58 hb59) hl.1 q1400 q1402 qs66 q14 q1403 ⟨by decide, by decide, by show _ = some 3; decide +kernel⟩ ⟨Nat.le_of_ble_eq_true rfl, Nat.le_of_ble_eq_true rfl⟩ ⟨Nat.le_of_ble_eq_true rfl, Nat.le_of_ble_eq_true rfl⟩ rfl (Nat.le_of_ble_eq_true rfl) d_Model_addEdge_15 hP hD hS hA 3 12 rfl rfl rfl [3, 4, 5] [0, 1, 2] rfl rfl rfl rfl (by decide) (fun v w1 H locs hw_6 hP hD hS => ?_)
  obtain ⟨x_7, rfl, rfl, hx_7, hfx_8, hfx_9⟩ := hw_6
  have hP : va_P G.1 classes [(b4, .inl (G.2 0, 503, .inl b57)), (b28, .inl (G.2 0, 2, .inl b60)), (b29, .inl (G.2 0, 2880, .inl b61)), (b0, .inr (12, [.int b3, .ref b4, .ref b5, .ref b6, .ref b7, .int b8, .ref b9, .int b10, .int b11, .int b12, .int b13, .ref b14, .ref b15, .ref b16, .int b17, .ref b18, .ref b19, .ref b20, .ref b21, .ref b22, .ref b23, .ref b24, .ref b25, .ref b26, .ref b27, .ref b28, .ref b29, .int b30, .ref b31, .ref b32, .int b33, .int b34, .int b35, .int b36, .ref b37, .ref b38, .ref b39, .ref b40, .ref b41, .ref b42, .ref b43, .int b44, .ref b45, .ref b46, .int b47, .ref b48, .ref b49, .ref b50, .ref b51, .ref b52, .int b53, .ref b54, .ref b55, .ref b56])), (b20, .inl (G.2 0, 520, .inl b58)), (b23, .inl (G.2 0, 482, .inl b59))] H := hP
  have hD := z_tie hP hD rfl
  refine W.widen (k := 0) (n := 0) (Nat.le_of_ble_eq_true rfl) (Nat.le_of_ble_eq_true rfl) ?_
  refine lv_istore (lv' := [(5, .int x_7), (4, .int x_2), (0, .ref b0), (1, .int 0), (2, .int b1), (3, .int b2)]) hx hb d_Model_addEdge_18 hl (by decide) rfl (fun ls hl => ?_)
  refine lv_aload_n hx hb d_Model_addEdge_20 rfl (lv_at hl 2 rfl) ?_
  refine lv_iload_n hx hb d_Model_addEdge_21 rfl (lv_at hl 3 rfl) ?_
  refine lv_iload hx hb d_Model_addEdge_22 (lv_at hl 1 rfl) ?_
  refine lv_aload_n hx hb d_Model_addEdge_24 rfl (lv_at hl 2 rfl) ?_
  refine lv_iload_n hx hb d_Model_addEdge_25 rfl (lv_at hl 4 rfl) ?_
  refine lv_iload_n hx hb d_Model_addEdge_26 rfl (lv_at hl 5 rfl) ?_
  refine z_callV (index := 207) (As := [.int b1, .int b2]) (rest := [.int x_2, .int 0, .ref b0]) (wr := [(b28, .inl (G.2 0, 2, .inl b60)), (b29, .inl (G.2 0, 2880, .inl b61)), (b20, .inl (G.2 0, 520, .inl b58)), (b23, .inl (G.2 0, 482, .inl b59))]) Z (s2_Model_letterAt l G (b0) (b1) (b2) (b3) (b4) (b5) (b6) (b7) (b8) (b9) (b10) (b11) (b12) (b13) (b14) (b15) (b16) (b17) (b18) (b19) (b20) (b21) (b22) (b23) (b24) (b25) (b26) (b27) (b28) (b29) (b30) (b31) (b32) (b33) (b34) (b35) (b36) (b37) (b38) (b39) (b40) (b41) (b42) (b43) (b44) (b45) (b46) (b47) (b48) (b49) (b50) (b51) (b52) (b53) (b54) (b55) (b56) (b57) hb1 hb2 hb8 hb10 hb11 hb13 hb17 hb30 hb33 hb44 hb47 hb53 hb57) hl.1 q1372 q1374 qs59 q14 q1375 ⟨by decide, by decide, by show _ = some 2; decide +kernel⟩ ⟨Nat.le_of_ble_eq_true rfl, Nat.le_of_ble_eq_true rfl⟩ ⟨Nat.le_of_ble_eq_true rfl, Nat.le_of_ble_eq_true rfl⟩ rfl (Nat.le_of_ble_eq_true rfl) d_Model_addEdge_27 hP hD hS hA 3 12 rfl rfl rfl [3, 0] [1, 2, 4, 5] rfl rfl rfl rfl (by decide) (fun v w1 H locs hw_10 hP hD hS => ?_)
  obtain ⟨x_11, rfl, rfl, hx_11, hfx_12⟩ := hw_10
  have hP : va_P G.1 classes [(b28, .inl (G.2 0, 2, .inl b60)), (b29, .inl (G.2 0, 2880, .inl b61)), (b20, .inl (G.2 0, 520, .inl b58)), (b23, .inl (G.2 0, 482, .inl b59)), (b0, .inr (12, [.int b3, .ref b4, .ref b5, .ref b6, .ref b7, .int b8, .ref b9, .int b10, .int b11, .int b12, .int b13, .ref b14, .ref b15, .ref b16, .int b17, .ref b18, .ref b19, .ref b20, .ref b21, .ref b22, .ref b23, .ref b24, .ref b25, .ref b26, .ref b27, .ref b28, .ref b29, .int b30, .ref b31, .ref b32, .int b33, .int b34, .int b35, .int b36, .ref b37, .ref b38, .ref b39, .ref b40, .ref b41, .ref b42, .ref b43, .int b44, .ref b45, .ref b46, .int b47, .ref b48, .ref b49, .ref b50, .ref b51, .ref b52, .int b53, .ref b54, .ref b55, .ref b56])), (b4, .inl (G.2 0, 503, .inl b57))] H := hP
  have hD := z_tie hP hD rfl
  refine W.widen (k := 0) (n := 0) (Nat.le_of_ble_eq_true rfl) (Nat.le_of_ble_eq_true rfl) ?_
  refine lv_iload hx hb d_Model_addEdge_30 (lv_at hl 0 rfl) ?_
  refine z_callV (index := 234) (As := [.int 0, .int x_2, .int x_11, .int x_7]) (rest := []) (wr := [(b20, .inl (G.2 0, 520, .inl b58)), (b23, .inl (G.2 0, 482, .inl b59)), (b4, .inl (G.2 0, 503, .inl b57))]) Z (s3_Model_placeOf l G (b0) (x_2) (x_11) (x_7) (b3) (b4) (b5) (b6) (b7) (b8) (b9) (b10) (b11) (b12) (b13) (b14) (b15) (b16) (b17) (b18) (b19) (b20) (b21) (b22) (b23) (b24) (b25) (b26) (b27) (b28) (b29) (b30) (b31) (b32) (b33) (b34) (b35) (b36) (b37) (b38) (b39) (b40) (b41) (b42) (b43) (b44) (b45) (b46) (b47) (b48) (b49) (b50) (b51) (b52) (b53) (b54) (b55) (b56) (b60) (b61) hx_2 hx_11 hx_7 hb8 hb10 hb11 hb13 hb17 hb30 hb33 hb44 hb47 hb53 hb60 hb61) hl.1 q1404 q1406 qs67 q14 q1407 ⟨by decide, by decide, by show _ = some 4; decide +kernel⟩ ⟨Nat.le_of_ble_eq_true rfl, Nat.le_of_ble_eq_true rfl⟩ ⟨Nat.le_of_ble_eq_true rfl, Nat.le_of_ble_eq_true rfl⟩ rfl (Nat.le_of_ble_eq_true rfl) d_Model_addEdge_32 hP hD hS hA 4 12 rfl rfl rfl [4, 0, 1] [2, 3, 5] rfl rfl rfl rfl (by decide) (fun v w1 H locs hw_13 hP hD hS => ?_)
  obtain ⟨x_14, x_15, rfl, rfl, hx_14, hx_15, hfx_16, hfx_17, hfx_18⟩ := hw_13
  have hP : va_P G.1 classes [(b20, .inl (G.2 0, 520, .inl b58)), (b23, .inl (G.2 0, 482, .inl b59)), (b4, .inl (G.2 0, 503, .inl b57)), (b0, .inr (12, [.int b3, .ref b4, .ref b5, .ref b6, .ref b7, .int b8, .ref b9, .int b10, .int b11, .int b12, .int b13, .ref b14, .ref b15, .ref b16, .int b17, .ref b18, .ref b19, .ref b20, .ref b21, .ref b22, .ref b23, .ref b24, .ref b25, .ref b26, .ref b27, .ref b28, .ref b29, .int x_15, .ref b31, .ref b32, .int b33, .int b34, .int b35, .int b36, .ref b37, .ref b38, .ref b39, .ref b40, .ref b41, .ref b42, .ref b43, .int b44, .ref b45, .ref b46, .int b47, .ref b48, .ref b49, .ref b50, .ref b51, .ref b52, .int b53, .ref b54, .ref b55, .ref b56])), (b28, .inl (G.2 0, 2, .inl b60)), (b29, .inl (G.2 0, 2880, .inl b61))] H := hP
  have hD := z_tie hP hD rfl
  refine W.widen (k := 0) (n := 0) (Nat.le_of_ble_eq_true rfl) (Nat.le_of_ble_eq_true rfl) ?_
  have hv_19 : zI x_14 0 239 := ⟨(hx_14).1, by have := hfx_16; omega⟩
  refine lv_istore (lv' := [(6, .int x_14), (5, .int x_7), (4, .int x_2), (0, .ref b0), (1, .int 0), (2, .int b1), (3, .int b2)]) hx hb d_Model_addEdge_35 hl (by decide) rfl (fun ls hl => ?_)
  refine lv_aload_n hx hb d_Model_addEdge_37 rfl (lv_at hl 3 rfl) ?_
  refine lv_iload_n hx hb d_Model_addEdge_38 rfl (lv_at hl 5 rfl) ?_
  refine lv_iload_n hx hb d_Model_addEdge_39 rfl (lv_at hl 6 rfl) ?_
  refine z_callV (index := 238) (As := [.int b1, .int b2]) (rest := []) (wr := [(b20, .inl (G.2 0, 520, .inl b58)), (b23, .inl (G.2 0, 482, .inl b59)), (b28, .inl (G.2 0, 2, .inl b60)), (b29, .inl (G.2 0, 2880, .inl b61))]) Z (s2_Model_valueAt l G (b0) (b1) (b2) (b3) (b4) (b5) (b6) (b7) (b8) (b9) (b10) (b11) (b12) (b13) (b14) (b15) (b16) (b17) (b18) (b19) (b20) (b21) (b22) (b23) (b24) (b25) (b26) (b27) (b28) (b29) (x_15) (b31) (b32) (b33) (b34) (b35) (b36) (b37) (b38) (b39) (b40) (b41) (b42) (b43) (b44) (b45) (b46) (b47) (b48) (b49) (b50) (b51) (b52) (b53) (b54) (b55) (b56) (b57) hb1 hb2 hb8 hb10 hb11 hb13 hb17 hx_15 hb33 hb44 hb47 hb53 hb57) hl.1 q1412 q1414 qs69 q14 q1415 ⟨by decide, by decide, by show _ = some 2; decide +kernel⟩ ⟨Nat.le_of_ble_eq_true rfl, Nat.le_of_ble_eq_true rfl⟩ ⟨Nat.le_of_ble_eq_true rfl, Nat.le_of_ble_eq_true rfl⟩ rfl (Nat.le_of_ble_eq_true rfl) d_Model_addEdge_40 hP hD hS hA 3 12 rfl rfl rfl [3, 2] [0, 1, 4, 5] rfl rfl rfl rfl (by decide) (fun v w1 H locs hw_20 hP hD hS => ?_)
  obtain ⟨x_21, rfl, rfl, hfx_22⟩ := hw_20
  have hP : va_P G.1 classes [(b20, .inl (G.2 0, 520, .inl b58)), (b23, .inl (G.2 0, 482, .inl b59)), (b28, .inl (G.2 0, 2, .inl b60)), (b29, .inl (G.2 0, 2880, .inl b61)), (b0, .inr (12, [.int b3, .ref b4, .ref b5, .ref b6, .ref b7, .int b8, .ref b9, .int b10, .int b11, .int b12, .int b13, .ref b14, .ref b15, .ref b16, .int b17, .ref b18, .ref b19, .ref b20, .ref b21, .ref b22, .ref b23, .ref b24, .ref b25, .ref b26, .ref b27, .ref b28, .ref b29, .int x_15, .ref b31, .ref b32, .int b33, .int b34, .int b35, .int b36, .ref b37, .ref b38, .ref b39, .ref b40, .ref b41, .ref b42, .ref b43, .int b44, .ref b45, .ref b46, .int b47, .ref b48, .ref b49, .ref b50, .ref b51, .ref b52, .int b53, .ref b54, .ref b55, .ref b56])), (b4, .inl (G.2 0, 503, .inl b57))] H := hP
  have hD := z_tie hP hD rfl
  refine W.widen (k := 0) (n := 0) (Nat.le_of_ble_eq_true rfl) (Nat.le_of_ble_eq_true rfl) ?_
  refine lv_istore (lv' := [(7, .int x_21), (6, .int x_14), (5, .int x_7), (4, .int x_2), (0, .ref b0), (1, .int 0), (2, .int b1), (3, .int b2)]) hx hb d_Model_addEdge_43 hl (by decide) rfl (fun ls hl => ?_)
  refine lv_bipush (v := 6) hx hb d_Model_addEdge_45 (by decide) ?_
  refine lv_sipush (v := 240) hx hb d_Model_addEdge_47 (by decide) ?_
  refine lv_iload_n hx hb d_Model_addEdge_50 rfl (lv_at hl 5 rfl) ?_
  refine lv_imul hx hb d_Model_addEdge_51 ?_
  refine z_topi (y := 0) (by decide +kernel) ?_
  refine lv_iload hx hb d_Model_addEdge_52 (lv_at hl 1 rfl) ?_
  refine lv_iadd hx hb d_Model_addEdge_54 ?_
  refine lv_topi (fun v_23 ev_23 => ?_)
  obtain ⟨qv_23, hv_23⟩ := zI_add (l := 0) (h := 239) zc_0 hv_19 ev_23 (by decide)
  rw [li_0] at qv_23
  refine lv_imul hx hb d_Model_addEdge_55 ?_
  refine lv_topi (fun v_24 ev_24 => ?_)
  obtain ⟨qv_24, hv_24⟩ := zI_mul (l := 0) (h := 1434) zc_6 hv_23 ev_24 (by decide)
  rw [li_6] at qv_24
  refine lv_istore (lv' := [(8, .int v_24), (7, .int x_21), (6, .int x_14), (5, .int x_7), (4, .int x_2), (0, .ref b0), (1, .int 0), (2, .int b1), (3, .int b2)]) hx hb d_Model_addEdge_56 hl (by decide) rfl (fun ls hl => ?_)
  refine lv_aload_n hx hb d_Model_addEdge_58 rfl (lv_at hl 5 rfl) ?_
  refine va_get (D := G.1) (ci := 12) (v := .int x_15) (C := R_Model) (T := F_Model) (N := 54) hx hb hts i_Model hown hK hP 4 rfl rfl 27 (by decide) (hts _ q1136) (fun _ h9 => h9) rfl d_Model_addEdge_59 ?_
  refine lv_if_ne (tgt := 191) hx hb d_Model_addEdge_62 (by decide) (fun hc_25 => ?_) (fun hc_25 => ?_)
  · have _nhc_25 := hc_25
    have ni_26 : ¬ (x_15 : Int32).toInt = (0 : Int32).toInt := fun z => hc_25 ((fa_eq _ _).mpr z)
    simp only [li_0] at ni_26
    have hv_27 : zI x_15 1 1 := zI.ne_lo hx_15 zc_0 hc_25 (by decide)
    refine lv_aload_n hx hb d_Model_addEdge_191 rfl (lv_at hl 5 rfl) ?_
    refine va_get (D := G.1) (ci := 12) (v := .ref b29) (C := R_Model) (T := F_Model) (N := 54) hx hb hts i_Model hown hK hP 4 rfl rfl 26 (by decide) (hts _ q1135) (fun _ h9 => h9) rfl d_Model_addEdge_192 ?_
    refine lv_iload hx hb d_Model_addEdge_195 (lv_at hl 0 rfl) ?_
    refine lv_iconst (v := 3) hx hb d_Model_addEdge_197 (by decide) ?_
    refine lv_iadd hx hb d_Model_addEdge_198 ?_
    refine lv_topi (fun v_28 ev_28 => ?_)
    obtain ⟨qv_28, hv_28⟩ := zI_add (l := 3) (h := 1437) hv_24 zc_3 ev_28 (by decide)
    rw [li_3] at qv_28
    refine lv_dup2_11 hx hb d_Model_addEdge_199 rfl rfl ?_
    refine va_iald hx hb hK hP 3 0 rfl rfl (zI.inn hv_28 (by decide)) d_Model_addEdge_200 ?_
    refine lv_topi (fun v_29 ev_29 => ?_)
    have kv_29 := zQE.ld hb61 hv_28 ev_29 (by decide)
    refine lv_iconst (v := 1) hx hb d_Model_addEdge_201 (by decide) ?_
    refine lv_iadd hx hb d_Model_addEdge_202 ?_
    refine lv_topi (fun v_30 ev_30 => ?_)
    refine va_iast hx hb hK hP hD hS 3 0 rfl rfl (zI.inn hv_28 (by decide)) d_Model_addEdge_203 (fun H locs hP hD hS => ?_)
    obtain ⟨f_31, hf_31, gf_31, uf_31, hP, hD⟩ := z_newq_ (Q := qE) 3 hP hD rfl hb61 (qE_v hv_28 (by decide) ⟨fun _ => ⟨by have _w := (zI_all v_30); omega, by have _w := (zI_all v_30); omega⟩, fun _ => ⟨by have _w := (zI_all v_30); omega, by have _w := (zI_all v_30); omega⟩, fun _ => ⟨by have _w := (zI_all v_30); omega, by have _w := (zI_all v_30); omega⟩⟩)
    have hP : va_P G.1 classes [(b20, .inl (G.2 0, 520, .inl b58)), (b23, .inl (G.2 0, 482, .inl b59)), (b28, .inl (G.2 0, 2, .inl b60)), (b29, .inl (G.2 0, 2880, .inl f_31)), (b0, .inr (12, [.int b3, .ref b4, .ref b5, .ref b6, .ref b7, .int b8, .ref b9, .int b10, .int b11, .int b12, .int b13, .ref b14, .ref b15, .ref b16, .int b17, .ref b18, .ref b19, .ref b20, .ref b21, .ref b22, .ref b23, .ref b24, .ref b25, .ref b26, .ref b27, .ref b28, .ref b29, .int x_15, .ref b31, .ref b32, .int b33, .int b34, .int b35, .int b36, .ref b37, .ref b38, .ref b39, .ref b40, .ref b41, .ref b42, .ref b43, .int b44, .ref b45, .ref b46, .int b47, .ref b48, .ref b49, .ref b50, .ref b51, .ref b52, .int b53, .ref b54, .ref b55, .ref b56])), (b4, .inl (G.2 0, 503, .inl b57))] H := hP
    have hD := z_tie hP hD rfl
    refine lv_aload_n hx hb d_Model_addEdge_204 rfl (lv_at hl 5 rfl) ?_
    refine va_get (D := G.1) (ci := 12) (v := .ref b29) (C := R_Model) (T := F_Model) (N := 54) hx hb hts i_Model hown hK hP 4 rfl rfl 26 (by decide) (hts _ q1135) (fun _ h9 => h9) rfl d_Model_addEdge_205 ?_
    refine lv_iload hx hb d_Model_addEdge_208 (lv_at hl 0 rfl) ?_
    refine lv_iconst (v := 4) hx hb d_Model_addEdge_210 (by decide) ?_
    refine lv_iadd hx hb d_Model_addEdge_211 ?_
    refine lv_topi (fun v_32 ev_32 => ?_)
    obtain ⟨qv_32, hv_32⟩ := zI_add (l := 4) (h := 1438) hv_24 zc_4 ev_32 (by decide)
    rw [li_4] at qv_32
    refine lv_iload hx hb d_Model_addEdge_212 (lv_at hl 1 rfl) ?_
    refine lv_aload_n hx hb d_Model_addEdge_214 rfl (lv_at hl 5 rfl) ?_
    refine va_get (D := G.1) (ci := 12) (v := .ref b29) (C := R_Model) (T := F_Model) (N := 54) hx hb hts i_Model hown hK hP 4 rfl rfl 26 (by decide) (hts _ q1135) (fun _ h9 => h9) rfl d_Model_addEdge_215 ?_
    refine lv_iload hx hb d_Model_addEdge_218 (lv_at hl 0 rfl) ?_
    refine lv_iconst (v := 4) hx hb d_Model_addEdge_220 (by decide) ?_
    refine lv_iadd hx hb d_Model_addEdge_221 ?_
    refine lv_topi (fun v_33 ev_33 => ?_)
    obtain rfl : v_32 = v_33 := ev_32.trans ev_33.symm
    refine va_iald hx hb hK hP 3 0 rfl rfl (zI.inn hv_32 (by decide)) d_Model_addEdge_222 ?_
    refine lv_topi (fun v_34 ev_34 => ?_)
    have kv_34 := zQE.ld hf_31 hv_32 ev_34 (by decide)
    refine lv_icmp_ge (tgt := 231) hx hb d_Model_addEdge_223 (by decide) (fun hc_35 => ?_) (fun hc_35 => ?_)
    · have _nhc_35 := hc_35
      have ni_36 := (fa_le _ _).mp hc_35
      refine lv_aload_n hx hb d_Model_addEdge_231 rfl (lv_at hl 5 rfl) ?_
      refine va_get (D := G.1) (ci := 12) (v := .ref b29) (C := R_Model) (T := F_Model) (N := 54) hx hb hts i_Model hown hK hP 4 rfl rfl 26 (by decide) (hts _ q1135) (fun _ h9 => h9) rfl d_Model_addEdge_232 ?_
      refine lv_iload hx hb d_Model_addEdge_235 (lv_at hl 0 rfl) ?_
      refine lv_iconst (v := 4) hx hb d_Model_addEdge_237 (by decide) ?_
      refine lv_iadd hx hb d_Model_addEdge_238 ?_
      refine lv_topi (fun v_37 ev_37 => ?_)
      obtain rfl : v_32 = v_37 := ev_32.trans ev_37.symm
      refine va_iald hx hb hK hP 3 0 rfl rfl (zI.inn hv_32 (by decide)) d_Model_addEdge_239 ?_
      refine lv_topi (fun v_38 ev_38 => ?_)
      obtain rfl : v_34 = v_38 := ev_34.trans ev_38.symm
      refine va_iast hx hb hK hP hD hS 3 0 rfl rfl (zI.inn hv_32 (by decide)) d_Model_addEdge_240 (fun H locs hP hD hS => ?_)
      obtain ⟨f_39, hf_39, gf_39, uf_39, hP, hD⟩ := z_newq_ (Q := qE) 3 hP hD rfl hf_31 (qE_s kv_34 hv_32 hv_32 (by decide) (by omega))
      have hP : va_P G.1 classes [(b20, .inl (G.2 0, 520, .inl b58)), (b23, .inl (G.2 0, 482, .inl b59)), (b28, .inl (G.2 0, 2, .inl b60)), (b29, .inl (G.2 0, 2880, .inl f_39)), (b0, .inr (12, [.int b3, .ref b4, .ref b5, .ref b6, .ref b7, .int b8, .ref b9, .int b10, .int b11, .int b12, .int b13, .ref b14, .ref b15, .ref b16, .int b17, .ref b18, .ref b19, .ref b20, .ref b21, .ref b22, .ref b23, .ref b24, .ref b25, .ref b26, .ref b27, .ref b28, .ref b29, .int x_15, .ref b31, .ref b32, .int b33, .int b34, .int b35, .int b36, .ref b37, .ref b38, .ref b39, .ref b40, .ref b41, .ref b42, .ref b43, .int b44, .ref b45, .ref b46, .int b47, .ref b48, .ref b49, .ref b50, .ref b51, .ref b52, .int b53, .ref b54, .ref b55, .ref b56])), (b4, .inl (G.2 0, 503, .inl b57))] H := hP
      have hD := z_tie hP hD rfl
      refine lv_aload_n hx hb d_Model_addEdge_241 rfl (lv_at hl 5 rfl) ?_
      refine va_get (D := G.1) (ci := 12) (v := .ref b29) (C := R_Model) (T := F_Model) (N := 54) hx hb hts i_Model hown hK hP 4 rfl rfl 26 (by decide) (hts _ q1135) (fun _ h9 => h9) rfl d_Model_addEdge_242 ?_
      refine lv_iload hx hb d_Model_addEdge_245 (lv_at hl 0 rfl) ?_
      refine lv_iconst (v := 5) hx hb d_Model_addEdge_247 (by decide) ?_
      refine lv_iadd hx hb d_Model_addEdge_248 ?_
      refine lv_topi (fun v_40 ev_40 => ?_)
      obtain ⟨qv_40, hv_40⟩ := zI_add (l := 5) (h := 1439) hv_24 zc_5 ev_40 (by decide)
      rw [li_5] at qv_40
      refine lv_iload hx hb d_Model_addEdge_249 (lv_at hl 1 rfl) ?_
      refine lv_aload_n hx hb d_Model_addEdge_251 rfl (lv_at hl 5 rfl) ?_
      refine va_get (D := G.1) (ci := 12) (v := .ref b29) (C := R_Model) (T := F_Model) (N := 54) hx hb hts i_Model hown hK hP 4 rfl rfl 26 (by decide) (hts _ q1135) (fun _ h9 => h9) rfl d_Model_addEdge_252 ?_
      refine lv_iload hx hb d_Model_addEdge_255 (lv_at hl 0 rfl) ?_
      refine lv_iconst (v := 5) hx hb d_Model_addEdge_257 (by decide) ?_
      refine lv_iadd hx hb d_Model_addEdge_258 ?_
      refine lv_topi (fun v_41 ev_41 => ?_)
      obtain rfl : v_40 = v_41 := ev_40.trans ev_41.symm
      refine va_iald hx hb hK hP 3 0 rfl rfl (zI.inn hv_40 (by decide)) d_Model_addEdge_259 ?_
      refine lv_topi (fun v_42 ev_42 => ?_)
      have kv_42 := zQE.ld hf_39 hv_40 ev_42 (by decide)
      refine lv_icmp_le (tgt := 268) hx hb d_Model_addEdge_260 (by decide) (fun hc_43 => ?_) (fun hc_43 => ?_)
      · have _nhc_43 := hc_43
        have ni_44 := (fa_le _ _).mp hc_43
        refine lv_aload_n hx hb d_Model_addEdge_268 rfl (lv_at hl 5 rfl) ?_
        refine va_get (D := G.1) (ci := 12) (v := .ref b29) (C := R_Model) (T := F_Model) (N := 54) hx hb hts i_Model hown hK hP 4 rfl rfl 26 (by decide) (hts _ q1135) (fun _ h9 => h9) rfl d_Model_addEdge_269 ?_
        refine lv_iload hx hb d_Model_addEdge_272 (lv_at hl 0 rfl) ?_
        refine lv_iconst (v := 5) hx hb d_Model_addEdge_274 (by decide) ?_
        refine lv_iadd hx hb d_Model_addEdge_275 ?_
        refine lv_topi (fun v_45 ev_45 => ?_)
        obtain rfl : v_40 = v_45 := ev_40.trans ev_45.symm
        refine va_iald hx hb hK hP 3 0 rfl rfl (zI.inn hv_40 (by decide)) d_Model_addEdge_276 ?_
        refine lv_topi (fun v_46 ev_46 => ?_)
        obtain rfl : v_42 = v_46 := ev_42.trans ev_46.symm
        refine va_iast hx hb hK hP hD hS 3 0 rfl rfl (zI.inn hv_40 (by decide)) d_Model_addEdge_277 (fun H locs hP hD hS => ?_)
        obtain ⟨f_47, hf_47, gf_47, uf_47, hP, hD⟩ := z_newq_ (Q := qE) 3 hP hD rfl hf_39 (qE_s kv_42 hv_40 hv_40 (by decide) (by omega))
        have hP : va_P G.1 classes [(b20, .inl (G.2 0, 520, .inl b58)), (b23, .inl (G.2 0, 482, .inl b59)), (b28, .inl (G.2 0, 2, .inl b60)), (b29, .inl (G.2 0, 2880, .inl f_47)), (b0, .inr (12, [.int b3, .ref b4, .ref b5, .ref b6, .ref b7, .int b8, .ref b9, .int b10, .int b11, .int b12, .int b13, .ref b14, .ref b15, .ref b16, .int b17, .ref b18, .ref b19, .ref b20, .ref b21, .ref b22, .ref b23, .ref b24, .ref b25, .ref b26, .ref b27, .ref b28, .ref b29, .int x_15, .ref b31, .ref b32, .int b33, .int b34, .int b35, .int b36, .ref b37, .ref b38, .ref b39, .ref b40, .ref b41, .ref b42, .ref b43, .int b44, .ref b45, .ref b46, .int b47, .ref b48, .ref b49, .ref b50, .ref b51, .ref b52, .int b53, .ref b54, .ref b55, .ref b56])), (b4, .inl (G.2 0, 503, .inl b57))] H := hP
        have hD := z_tie hP hD rfl
        exact z_vret hx hb hr hlocks (hP.sub [4, 5, 0, 1, 2, 3] rfl) (hD.sub [4, 5, 0, 1, 2, 3] (by decide) rfl) hS (Nat.le_of_ble_eq_true rfl) (Nat.le_of_ble_eq_true rfl) d_Model_addEdge_278 ⟨x_15, b60, f_47, rfl, rfl, (zI.wk (l' := 0) (h' := 1) hv_27 (by decide)), hb60, hf_47, (by omega), (fun hub => by have hfr9 : zst b59 b58 b1.toInt.toNat b2.toInt.toNat = x_2.toInt := (by unfold zst; rw [← hfx_3]); have hto9 : zst b59 b58 b1.toInt.toNat (b2.toInt + 1).toNat = x_7.toInt := (by unfold zst; have h8 := hfx_8; rw [h8]; congr 4; omega); rw [hfr9, hto9]; rcases hfx_17 with h5 | ⟨h5, h6⟩; exfalso; omega; have hj : v_28.toNatClampNeg = 6 * x_14.toInt.toNat + 3 := (by have p9 := z_pl hv_28 (by decide); omega); have hb := hub x_14.toInt.toNat (by omega); have e9 : zeU b61 x_14.toInt.toNat = v_29.toInt := (by rw [ev_29, hj]); exact zadd_bump (e := x_14.toInt.toNat) (v := v_29) (by omega) (by rw [uf_47, uf_39, uf_31]) (by have p9 := z_pl hv_28 (by decide); omega) (by have p9 := z_pl hv_32 (by decide); omega) (by have p9 := z_pl hv_40 (by decide); omega) (by rw [ev_29, hj]) (by have h7 := z_addq ev_30 (by have _l := li_1; omega); rw [h7, li_1]) h6.1 h6.2), (by have b9 := congrArg Int32.toInt hfx_12; rcases (hfx_18).2 with ⟨_, h6, _⟩ | ⟨h6, _⟩; (exact ⟨x_2, x_11, x_7, x_21, ⟨hfx_4, hfx_12, (by have t9 := hfx_9; rw [t9]; congr 4; omega), hfx_22⟩, yAE_b (e := x_14.toInt.toNat) (u := v_29) (lw := v_34) (hw := v_42) (by omega) (fun j hj => (hfx_18).1 j (by omega)) (by rcases (hfx_18).2 with ⟨_, _, h8⟩ | ⟨h8, _⟩; exact h8; (exfalso; omega)) (by omega) (by rw [uf_47, uf_39, uf_31]) (by have p9 := z_pl hv_28 (by decide); omega) (by have p9 := z_pl hv_32 (by decide); omega) (by have p9 := z_pl hv_40 (by decide); omega) ev_29 ev_30 (by rw [← uf_31]; exact ev_34) (by first | exact Or.inl ⟨by omega, rfl⟩ | exact Or.inr ⟨by omega, rfl⟩) (by rw [← uf_31, ← uf_39]; exact ev_42) (by first | exact Or.inl ⟨by omega, rfl⟩ | exact Or.inr ⟨by omega, rfl⟩)⟩); (exfalso; omega))⟩
      · have _nhc_43 := hc_43
        have ni_48 := (fa_lt _ _).mp (zi_nle hc_43)
        have hv_49 : zI v_42 (-2147483648) 2147483646 := zI.lt_l (zI_all v_42) (zI_all x_21) (zi_nle hc_43) (by decide)
        have hv_50 : zI x_21 (-2147483647) 2147483647 := zI.lt_r (zI_all v_42) (zI_all x_21) (zi_nle hc_43) (by decide)
        refine lv_iload hx hb d_Model_addEdge_263 (lv_at hl 1 rfl) ?_
        refine lv_goto (tgt := 277) hx hb d_Model_addEdge_265 (by decide) ?_
        refine va_iast hx hb hK hP hD hS 3 0 rfl rfl (zI.inn hv_40 (by decide)) d_Model_addEdge_277 (fun H locs hP hD hS => ?_)
        obtain ⟨f_51, hf_51, gf_51, uf_51, hP, hD⟩ := z_newq_ (Q := qE) 3 hP hD rfl hf_39 (qE_v hv_40 (by decide) ⟨fun _ => ⟨by have _w := hv_50; omega, by have _w := hv_50; omega⟩, fun _ => ⟨by have _w := hv_50; omega, by have _w := hv_50; omega⟩, fun _ => ⟨by have _w := hv_50; omega, by have _w := hv_50; omega⟩⟩)
        have hP : va_P G.1 classes [(b20, .inl (G.2 0, 520, .inl b58)), (b23, .inl (G.2 0, 482, .inl b59)), (b28, .inl (G.2 0, 2, .inl b60)), (b29, .inl (G.2 0, 2880, .inl f_51)), (b0, .inr (12, [.int b3, .ref b4, .ref b5, .ref b6, .ref b7, .int b8, .ref b9, .int b10, .int b11, .int b12, .int b13, .ref b14, .ref b15, .ref b16, .int b17, .ref b18, .ref b19, .ref b20, .ref b21, .ref b22, .ref b23, .ref b24, .ref b25, .ref b26, .ref b27, .ref b28, .ref b29, .int x_15, .ref b31, .ref b32, .int b33, .int b34, .int b35, .int b36, .ref b37, .ref b38, .ref b39, .ref b40, .ref b41, .ref b42, .ref b43, .int b44, .ref b45, .ref b46, .int b47, .ref b48, .ref b49, .ref b50, .ref b51, .ref b52, .int b53, .ref b54, .ref b55, .ref b56])), (b4, .inl (G.2 0, 503, .inl b57))] H := hP
        have hD := z_tie hP hD rfl
        exact z_vret hx hb hr hlocks (hP.sub [4, 5, 0, 1, 2, 3] rfl) (hD.sub [4, 5, 0, 1, 2, 3] (by decide) rfl) hS (Nat.le_of_ble_eq_true rfl) (Nat.le_of_ble_eq_true rfl) d_Model_addEdge_278 ⟨x_15, b60, f_51, rfl, rfl, (zI.wk (l' := 0) (h' := 1) hv_27 (by decide)), hb60, hf_51, (by omega), (fun hub => by have hfr9 : zst b59 b58 b1.toInt.toNat b2.toInt.toNat = x_2.toInt := (by unfold zst; rw [← hfx_3]); have hto9 : zst b59 b58 b1.toInt.toNat (b2.toInt + 1).toNat = x_7.toInt := (by unfold zst; have h8 := hfx_8; rw [h8]; congr 4; omega); rw [hfr9, hto9]; rcases hfx_17 with h5 | ⟨h5, h6⟩; exfalso; omega; have hj : v_28.toNatClampNeg = 6 * x_14.toInt.toNat + 3 := (by have p9 := z_pl hv_28 (by decide); omega); have hb := hub x_14.toInt.toNat (by omega); have e9 : zeU b61 x_14.toInt.toNat = v_29.toInt := (by rw [ev_29, hj]); exact zadd_bump (e := x_14.toInt.toNat) (v := v_29) (by omega) (by rw [uf_51, uf_39, uf_31]) (by have p9 := z_pl hv_28 (by decide); omega) (by have p9 := z_pl hv_32 (by decide); omega) (by have p9 := z_pl hv_40 (by decide); omega) (by rw [ev_29, hj]) (by have h7 := z_addq ev_30 (by have _l := li_1; omega); rw [h7, li_1]) h6.1 h6.2), (by have b9 := congrArg Int32.toInt hfx_12; rcases (hfx_18).2 with ⟨_, h6, _⟩ | ⟨h6, _⟩; (exact ⟨x_2, x_11, x_7, x_21, ⟨hfx_4, hfx_12, (by have t9 := hfx_9; rw [t9]; congr 4; omega), hfx_22⟩, yAE_b (e := x_14.toInt.toNat) (u := v_29) (lw := v_34) (hw := v_42) (by omega) (fun j hj => (hfx_18).1 j (by omega)) (by rcases (hfx_18).2 with ⟨_, _, h8⟩ | ⟨h8, _⟩; exact h8; (exfalso; omega)) (by omega) (by rw [uf_51, uf_39, uf_31]) (by have p9 := z_pl hv_28 (by decide); omega) (by have p9 := z_pl hv_32 (by decide); omega) (by have p9 := z_pl hv_40 (by decide); omega) ev_29 ev_30 (by rw [← uf_31]; exact ev_34) (by first | exact Or.inl ⟨by omega, rfl⟩ | exact Or.inr ⟨by omega, rfl⟩) (by rw [← uf_31, ← uf_39]; exact ev_42) (by first | exact Or.inl ⟨by omega, rfl⟩ | exact Or.inr ⟨by omega, rfl⟩)⟩); (exfalso; omega))⟩
    · have _nhc_35 := hc_35
      have ni_52 := (fa_lt _ _).mp (zi_nle hc_35)
      have hv_53 : zI x_21 (-2147483648) 2147483646 := zI.lt_l (zI_all x_21) (zI_all v_34) (zi_nle hc_35) (by decide)
      have hv_54 : zI v_34 (-2147483647) 2147483647 := zI.lt_r (zI_all x_21) (zI_all v_34) (zi_nle hc_35) (by decide)
      refine lv_iload hx hb d_Model_addEdge_226 (lv_at hl 1 rfl) ?_
      refine lv_goto (tgt := 240) hx hb d_Model_addEdge_228 (by decide) ?_
      refine va_iast hx hb hK hP hD hS 3 0 rfl rfl (zI.inn hv_32 (by decide)) d_Model_addEdge_240 (fun H locs hP hD hS => ?_)
      obtain ⟨f_55, hf_55, gf_55, uf_55, hP, hD⟩ := z_newq_ (Q := qE) 3 hP hD rfl hf_31 (qE_v hv_32 (by decide) ⟨fun _ => ⟨by have _w := hv_53; omega, by have _w := hv_53; omega⟩, fun _ => ⟨by have _w := hv_53; omega, by have _w := hv_53; omega⟩, fun _ => ⟨by have _w := hv_53; omega, by have _w := hv_53; omega⟩⟩)
      have hP : va_P G.1 classes [(b20, .inl (G.2 0, 520, .inl b58)), (b23, .inl (G.2 0, 482, .inl b59)), (b28, .inl (G.2 0, 2, .inl b60)), (b29, .inl (G.2 0, 2880, .inl f_55)), (b0, .inr (12, [.int b3, .ref b4, .ref b5, .ref b6, .ref b7, .int b8, .ref b9, .int b10, .int b11, .int b12, .int b13, .ref b14, .ref b15, .ref b16, .int b17, .ref b18, .ref b19, .ref b20, .ref b21, .ref b22, .ref b23, .ref b24, .ref b25, .ref b26, .ref b27, .ref b28, .ref b29, .int x_15, .ref b31, .ref b32, .int b33, .int b34, .int b35, .int b36, .ref b37, .ref b38, .ref b39, .ref b40, .ref b41, .ref b42, .ref b43, .int b44, .ref b45, .ref b46, .int b47, .ref b48, .ref b49, .ref b50, .ref b51, .ref b52, .int b53, .ref b54, .ref b55, .ref b56])), (b4, .inl (G.2 0, 503, .inl b57))] H := hP
      have hD := z_tie hP hD rfl
      refine lv_aload_n hx hb d_Model_addEdge_241 rfl (lv_at hl 5 rfl) ?_
      refine va_get (D := G.1) (ci := 12) (v := .ref b29) (C := R_Model) (T := F_Model) (N := 54) hx hb hts i_Model hown hK hP 4 rfl rfl 26 (by decide) (hts _ q1135) (fun _ h9 => h9) rfl d_Model_addEdge_242 ?_
      refine lv_iload hx hb d_Model_addEdge_245 (lv_at hl 0 rfl) ?_
      refine lv_iconst (v := 5) hx hb d_Model_addEdge_247 (by decide) ?_
      refine lv_iadd hx hb d_Model_addEdge_248 ?_
      refine lv_topi (fun v_56 ev_56 => ?_)
      obtain ⟨qv_56, hv_56⟩ := zI_add (l := 5) (h := 1439) hv_24 zc_5 ev_56 (by decide)
      rw [li_5] at qv_56
      refine lv_iload hx hb d_Model_addEdge_249 (lv_at hl 1 rfl) ?_
      refine lv_aload_n hx hb d_Model_addEdge_251 rfl (lv_at hl 5 rfl) ?_
      refine va_get (D := G.1) (ci := 12) (v := .ref b29) (C := R_Model) (T := F_Model) (N := 54) hx hb hts i_Model hown hK hP 4 rfl rfl 26 (by decide) (hts _ q1135) (fun _ h9 => h9) rfl d_Model_addEdge_252 ?_
      refine lv_iload hx hb d_Model_addEdge_255 (lv_at hl 0 rfl) ?_
      refine lv_iconst (v := 5) hx hb d_Model_addEdge_257 (by decide) ?_
      refine lv_iadd hx hb d_Model_addEdge_258 ?_
      refine lv_topi (fun v_57 ev_57 => ?_)
      obtain rfl : v_56 = v_57 := ev_56.trans ev_57.symm
      refine va_iald hx hb hK hP 3 0 rfl rfl (zI.inn hv_56 (by decide)) d_Model_addEdge_259 ?_
      refine lv_topi (fun v_58 ev_58 => ?_)
      have kv_58 := zQE.ld hf_55 hv_56 ev_58 (by decide)
      refine lv_icmp_le (tgt := 268) hx hb d_Model_addEdge_260 (by decide) (fun hc_59 => ?_) (fun hc_59 => ?_)
      · have _nhc_59 := hc_59
        have ni_60 := (fa_le _ _).mp hc_59
        refine lv_aload_n hx hb d_Model_addEdge_268 rfl (lv_at hl 5 rfl) ?_
        refine va_get (D := G.1) (ci := 12) (v := .ref b29) (C := R_Model) (T := F_Model) (N := 54) hx hb hts i_Model hown hK hP 4 rfl rfl 26 (by decide) (hts _ q1135) (fun _ h9 => h9) rfl d_Model_addEdge_269 ?_
        refine lv_iload hx hb d_Model_addEdge_272 (lv_at hl 0 rfl) ?_
        refine lv_iconst (v := 5) hx hb d_Model_addEdge_274 (by decide) ?_
        refine lv_iadd hx hb d_Model_addEdge_275 ?_
        refine lv_topi (fun v_61 ev_61 => ?_)
        obtain rfl : v_56 = v_61 := ev_56.trans ev_61.symm
        refine va_iald hx hb hK hP 3 0 rfl rfl (zI.inn hv_56 (by decide)) d_Model_addEdge_276 ?_
        refine lv_topi (fun v_62 ev_62 => ?_)
        obtain rfl : v_58 = v_62 := ev_58.trans ev_62.symm
        refine va_iast hx hb hK hP hD hS 3 0 rfl rfl (zI.inn hv_56 (by decide)) d_Model_addEdge_277 (fun H locs hP hD hS => ?_)
        obtain ⟨f_63, hf_63, gf_63, uf_63, hP, hD⟩ := z_newq_ (Q := qE) 3 hP hD rfl hf_55 (qE_s kv_58 hv_56 hv_56 (by decide) (by omega))
        have hP : va_P G.1 classes [(b20, .inl (G.2 0, 520, .inl b58)), (b23, .inl (G.2 0, 482, .inl b59)), (b28, .inl (G.2 0, 2, .inl b60)), (b29, .inl (G.2 0, 2880, .inl f_63)), (b0, .inr (12, [.int b3, .ref b4, .ref b5, .ref b6, .ref b7, .int b8, .ref b9, .int b10, .int b11, .int b12, .int b13, .ref b14, .ref b15, .ref b16, .int b17, .ref b18, .ref b19, .ref b20, .ref b21, .ref b22, .ref b23, .ref b24, .ref b25, .ref b26, .ref b27, .ref b28, .ref b29, .int x_15, .ref b31, .ref b32, .int b33, .int b34, .int b35, .int b36, .ref b37, .ref b38, .ref b39, .ref b40, .ref b41, .ref b42, .ref b43, .int b44, .ref b45, .ref b46, .int b47, .ref b48, .ref b49, .ref b50, .ref b51, .ref b52, .int b53, .ref b54, .ref b55, .ref b56])), (b4, .inl (G.2 0, 503, .inl b57))] H := hP
        have hD := z_tie hP hD rfl
        exact z_vret hx hb hr hlocks (hP.sub [4, 5, 0, 1, 2, 3] rfl) (hD.sub [4, 5, 0, 1, 2, 3] (by decide) rfl) hS (Nat.le_of_ble_eq_true rfl) (Nat.le_of_ble_eq_true rfl) d_Model_addEdge_278 ⟨x_15, b60, f_63, rfl, rfl, (zI.wk (l' := 0) (h' := 1) hv_27 (by decide)), hb60, hf_63, (by omega), (fun hub => by have hfr9 : zst b59 b58 b1.toInt.toNat b2.toInt.toNat = x_2.toInt := (by unfold zst; rw [← hfx_3]); have hto9 : zst b59 b58 b1.toInt.toNat (b2.toInt + 1).toNat = x_7.toInt := (by unfold zst; have h8 := hfx_8; rw [h8]; congr 4; omega); rw [hfr9, hto9]; rcases hfx_17 with h5 | ⟨h5, h6⟩; exfalso; omega; have hj : v_28.toNatClampNeg = 6 * x_14.toInt.toNat + 3 := (by have p9 := z_pl hv_28 (by decide); omega); have hb := hub x_14.toInt.toNat (by omega); have e9 : zeU b61 x_14.toInt.toNat = v_29.toInt := (by rw [ev_29, hj]); exact zadd_bump (e := x_14.toInt.toNat) (v := v_29) (by omega) (by rw [uf_63, uf_55, uf_31]) (by have p9 := z_pl hv_28 (by decide); omega) (by have p9 := z_pl hv_32 (by decide); omega) (by have p9 := z_pl hv_56 (by decide); omega) (by rw [ev_29, hj]) (by have h7 := z_addq ev_30 (by have _l := li_1; omega); rw [h7, li_1]) h6.1 h6.2), (by have b9 := congrArg Int32.toInt hfx_12; rcases (hfx_18).2 with ⟨_, h6, _⟩ | ⟨h6, _⟩; (exact ⟨x_2, x_11, x_7, x_21, ⟨hfx_4, hfx_12, (by have t9 := hfx_9; rw [t9]; congr 4; omega), hfx_22⟩, yAE_b (e := x_14.toInt.toNat) (u := v_29) (lw := v_34) (hw := v_58) (by omega) (fun j hj => (hfx_18).1 j (by omega)) (by rcases (hfx_18).2 with ⟨_, _, h8⟩ | ⟨h8, _⟩; exact h8; (exfalso; omega)) (by omega) (by rw [uf_63, uf_55, uf_31]) (by have p9 := z_pl hv_28 (by decide); omega) (by have p9 := z_pl hv_32 (by decide); omega) (by have p9 := z_pl hv_56 (by decide); omega) ev_29 ev_30 (by rw [← uf_31]; exact ev_34) (by first | exact Or.inl ⟨by omega, rfl⟩ | exact Or.inr ⟨by omega, rfl⟩) (by rw [← uf_31, ← uf_55]; exact ev_58) (by first | exact Or.inl ⟨by omega, rfl⟩ | exact Or.inr ⟨by omega, rfl⟩)⟩); (exfalso; omega))⟩
      · have _nhc_59 := hc_59
        have ni_64 := (fa_lt _ _).mp (zi_nle hc_59)
        have hv_65 : zI v_58 (-2147483648) 2147483645 := zI.lt_l (zI_all v_58) hv_53 (zi_nle hc_59) (by decide)
        have hv_66 : zI x_21 (-2147483647) 2147483646 := zI.lt_r (zI_all v_58) hv_53 (zi_nle hc_59) (by decide)
        refine lv_iload hx hb d_Model_addEdge_263 (lv_at hl 1 rfl) ?_
        refine lv_goto (tgt := 277) hx hb d_Model_addEdge_265 (by decide) ?_
        refine va_iast hx hb hK hP hD hS 3 0 rfl rfl (zI.inn hv_56 (by decide)) d_Model_addEdge_277 (fun H locs hP hD hS => ?_)
        obtain ⟨f_67, hf_67, gf_67, uf_67, hP, hD⟩ := z_newq_ (Q := qE) 3 hP hD rfl hf_55 (qE_v hv_56 (by decide) ⟨fun _ => ⟨by have _w := hv_66; omega, by have _w := hv_66; omega⟩, fun _ => ⟨by have _w := hv_66; omega, by have _w := hv_66; omega⟩, fun _ => ⟨by have _w := hv_66; omega, by have _w := hv_66; omega⟩⟩)
        have hP : va_P G.1 classes [(b20, .inl (G.2 0, 520, .inl b58)), (b23, .inl (G.2 0, 482, .inl b59)), (b28, .inl (G.2 0, 2, .inl b60)), (b29, .inl (G.2 0, 2880, .inl f_67)), (b0, .inr (12, [.int b3, .ref b4, .ref b5, .ref b6, .ref b7, .int b8, .ref b9, .int b10, .int b11, .int b12, .int b13, .ref b14, .ref b15, .ref b16, .int b17, .ref b18, .ref b19, .ref b20, .ref b21, .ref b22, .ref b23, .ref b24, .ref b25, .ref b26, .ref b27, .ref b28, .ref b29, .int x_15, .ref b31, .ref b32, .int b33, .int b34, .int b35, .int b36, .ref b37, .ref b38, .ref b39, .ref b40, .ref b41, .ref b42, .ref b43, .int b44, .ref b45, .ref b46, .int b47, .ref b48, .ref b49, .ref b50, .ref b51, .ref b52, .int b53, .ref b54, .ref b55, .ref b56])), (b4, .inl (G.2 0, 503, .inl b57))] H := hP
        have hD := z_tie hP hD rfl
        exact z_vret hx hb hr hlocks (hP.sub [4, 5, 0, 1, 2, 3] rfl) (hD.sub [4, 5, 0, 1, 2, 3] (by decide) rfl) hS (Nat.le_of_ble_eq_true rfl) (Nat.le_of_ble_eq_true rfl) d_Model_addEdge_278 ⟨x_15, b60, f_67, rfl, rfl, (zI.wk (l' := 0) (h' := 1) hv_27 (by decide)), hb60, hf_67, (by omega), (fun hub => by have hfr9 : zst b59 b58 b1.toInt.toNat b2.toInt.toNat = x_2.toInt := (by unfold zst; rw [← hfx_3]); have hto9 : zst b59 b58 b1.toInt.toNat (b2.toInt + 1).toNat = x_7.toInt := (by unfold zst; have h8 := hfx_8; rw [h8]; congr 4; omega); rw [hfr9, hto9]; rcases hfx_17 with h5 | ⟨h5, h6⟩; exfalso; omega; have hj : v_28.toNatClampNeg = 6 * x_14.toInt.toNat + 3 := (by have p9 := z_pl hv_28 (by decide); omega); have hb := hub x_14.toInt.toNat (by omega); have e9 : zeU b61 x_14.toInt.toNat = v_29.toInt := (by rw [ev_29, hj]); exact zadd_bump (e := x_14.toInt.toNat) (v := v_29) (by omega) (by rw [uf_67, uf_55, uf_31]) (by have p9 := z_pl hv_28 (by decide); omega) (by have p9 := z_pl hv_32 (by decide); omega) (by have p9 := z_pl hv_56 (by decide); omega) (by rw [ev_29, hj]) (by have h7 := z_addq ev_30 (by have _l := li_1; omega); rw [h7, li_1]) h6.1 h6.2), (by have b9 := congrArg Int32.toInt hfx_12; rcases (hfx_18).2 with ⟨_, h6, _⟩ | ⟨h6, _⟩; (exact ⟨x_2, x_11, x_7, x_21, ⟨hfx_4, hfx_12, (by have t9 := hfx_9; rw [t9]; congr 4; omega), hfx_22⟩, yAE_b (e := x_14.toInt.toNat) (u := v_29) (lw := v_34) (hw := v_58) (by omega) (fun j hj => (hfx_18).1 j (by omega)) (by rcases (hfx_18).2 with ⟨_, _, h8⟩ | ⟨h8, _⟩; exact h8; (exfalso; omega)) (by omega) (by rw [uf_67, uf_55, uf_31]) (by have p9 := z_pl hv_28 (by decide); omega) (by have p9 := z_pl hv_32 (by decide); omega) (by have p9 := z_pl hv_56 (by decide); omega) ev_29 ev_30 (by rw [← uf_31]; exact ev_34) (by first | exact Or.inl ⟨by omega, rfl⟩ | exact Or.inr ⟨by omega, rfl⟩) (by rw [← uf_31, ← uf_55]; exact ev_58) (by first | exact Or.inl ⟨by omega, rfl⟩ | exact Or.inr ⟨by omega, rfl⟩)⟩); (exfalso; omega))⟩
  · have _nhc_25 := hc_25
    have ni_68 := (fa_eq _ _).mp hc_25
    rw [li_0] at ni_68
    have hv_69 : zI x_15 0 0 := zI.eq_l hx_15 zc_0 hc_25
    refine lv_bipush (v := 6) hx hb d_Model_addEdge_65 (by decide) ?_
    refine lv_sipush (v := 240) hx hb d_Model_addEdge_67 (by decide) ?_
    refine lv_iload_n hx hb d_Model_addEdge_70 rfl (lv_at hl 6 rfl) ?_
    refine lv_imul hx hb d_Model_addEdge_71 ?_
    refine z_topi (y := 0) (by decide +kernel) ?_
    refine lv_aload_n hx hb d_Model_addEdge_72 rfl (lv_at hl 5 rfl) ?_
    refine va_get (D := G.1) (ci := 12) (v := .ref b28) (C := R_Model) (T := F_Model) (N := 54) hx hb hts i_Model hown hK hP 4 rfl rfl 25 (by decide) (hts _ q1134) (fun _ h9 => h9) rfl d_Model_addEdge_73 ?_
    refine lv_iload_n hx hb d_Model_addEdge_76 rfl (lv_at hl 6 rfl) ?_
    refine va_iald hx hb hK hP 2 0 rfl rfl (i := 0) (z_in rfl) d_Model_addEdge_77 ?_
    refine lv_topi (fun v_70 ev_70 => ?_)
    have hv_70 : zI v_70 0 240 := (hb60 _).eq ev_70
    have hv_71 : zI v_70 0 239 := ⟨hv_70.1, by rw [ev_70]; exact hem⟩
    refine lv_iadd hx hb d_Model_addEdge_78 ?_
    refine lv_topi (fun v_72 ev_72 => ?_)
    obtain ⟨qv_72, hv_72⟩ := zI_add (l := 0) (h := 239) zc_0 hv_71 ev_72 (by decide)
    rw [li_0] at qv_72
    refine lv_imul hx hb d_Model_addEdge_79 ?_
    refine lv_topi (fun v_73 ev_73 => ?_)
    obtain ⟨qv_73, hv_73⟩ := zI_mul (l := 0) (h := 1434) zc_6 hv_72 ev_73 (by decide)
    rw [li_6] at qv_73
    refine lv_iconst (v := 1) hx hb d_Model_addEdge_80 (by decide) ?_
    refine lv_isub hx hb d_Model_addEdge_81 ?_
    refine lv_topi (fun v_74 ev_74 => ?_)
    obtain ⟨qv_74, hv_74⟩ := zI_sub (l := -1) (h := 1433) hv_73 zc_1 ev_74 (by decide)
    rw [li_1] at qv_74
    refine lv_istore (lv' := [(9, .int v_74), (8, .int v_24), (7, .int x_21), (6, .int x_14), (5, .int x_7), (4, .int x_2), (0, .ref b0), (1, .int 0), (2, .int b1), (3, .int b2)]) hx hb d_Model_addEdge_82 hl (by decide) rfl (fun ls hl => ?_)
    suffices key : ∀ (k_143 : Nat) (y_144 : Int32) (y_145 : Nat → Int32) (H : Heap) (locs : List Loc) (ls : Array Slot), (zI y_144 (-1) 1433) → (zqa qE y_145) → (∀ q : Nat, y_145 q = if (y_144 : Int32).toInt + 6 < (q : Int) ∧ (q : Int) < 6 * (b60 (0 : Int32).toNatClampNeg).toInt + 6 then b61 (q - 6) else b61 q) → ((v_24 : Int32).toInt - 1 ≤ (y_144 : Int32).toInt) → ((y_144 : Int32).toInt + 6 < 6 * (b60 (0 : Int32).toNatClampNeg).toInt + 6) → y_144.toInt - ((-1)) < (k_143 : Int) → va_P G.1 classes [(b20, .inl (G.2 0, 520, .inl b58)), (b23, .inl (G.2 0, 482, .inl b59)), (b28, .inl (G.2 0, 2, .inl b60)), (b29, .inl (G.2 0, 2880, .inl y_145)), (b0, .inr (12, [.int b3, .ref b4, .ref b5, .ref b6, .ref b7, .int b8, .ref b9, .int b10, .int b11, .int b12, .int b13, .ref b14, .ref b15, .ref b16, .int b17, .ref b18, .ref b19, .ref b20, .ref b21, .ref b22, .ref b23, .ref b24, .ref b25, .ref b26, .ref b27, .ref b28, .ref b29, .int x_15, .ref b31, .ref b32, .int b33, .int b34, .int b35, .int b36, .ref b37, .ref b38, .ref b39, .ref b40, .ref b41, .ref b42, .ref b43, .int b44, .ref b45, .ref b46, .int b47, .ref b48, .ref b49, .ref b50, .ref b51, .ref b52, .int b53, .ref b54, .ref b55, .ref b56])), (b4, .inl (G.2 0, 503, .inl b57))] H → va_D A [(b20, .inl (G.2 0, 520, .inl b58)), (b23, .inl (G.2 0, 482, .inl b59)), (b28, .inl (G.2 0, 2, .inl b60)), (b29, .inl (G.2 0, 2880, .inl y_145)), (b0, .inr (12, [.int b3, .ref b4, .ref b5, .ref b6, .ref b7, .int b8, .ref b9, .int b10, .int b11, .int b12, .int b13, .ref b14, .ref b15, .ref b16, .int b17, .ref b18, .ref b19, .ref b20, .ref b21, .ref b22, .ref b23, .ref b24, .ref b25, .ref b26, .ref b27, .ref b28, .ref b29, .int x_15, .ref b31, .ref b32, .int b33, .int b34, .int b35, .int b36, .ref b37, .ref b38, .ref b39, .ref b40, .ref b41, .ref b42, .ref b43, .int b44, .ref b45, .ref b46, .int b47, .ref b48, .ref b49, .ref b50, .ref b51, .ref b52, .int b53, .ref b54, .ref b55, .ref b56])), (b4, .inl (G.2 0, 503, .inl b57))] → va_S A s.heap H locs → lv_has ls 10 [(9, .int y_144), (8, .int v_24), (7, .int x_21), (6, .int x_14), (5, .int x_7), (4, .int x_2), (0, .ref b0), (1, .int 0), (2, .int b1), (3, .int b2)] → W p l e m_s3_Model_addEdge s m ([.ref b0, .int 0, .int b1, .int b2] : List Value).toArray below meth c H locs 0 0 (MQ below (zQ G (fun v w => ∃ (e0 : Int32), ∃ (e1 : Nat → Int32), ∃ (e2 : Nat → Int32), v = none ∧ w = [(b0, .inr (12, [.int b3, .ref b4, .ref b5, .ref b6, .ref b7, .int b8, .ref b9, .int b10, .int b11, .int b12, .int b13, .ref b14, .ref b15, .ref b16, .int b17, .ref b18, .ref b19, .ref b20, .ref b21, .ref b22, .ref b23, .ref b24, .ref b25, .ref b26, .ref b27, .ref b28, .ref b29, .int e0, .ref b31, .ref b32, .int b33, .int b34, .int b35, .int b36, .ref b37, .ref b38, .ref b39, .ref b40, .ref b41, .ref b42, .ref b43, .int b44, .ref b45, .ref b46, .int b47, .ref b48, .ref b49, .ref b50, .ref b51, .ref b52, .int b53, .ref b54, .ref b55, .ref b56])), (b4, .inl (G.2 0, 503, .inl b57)), (b20, .inl (G.2 0, 520, .inl b58)), (b23, .inl (G.2 0, 482, .inl b59)), (b28, .inl (G.2 0, 2, .inl e1)), (b29, .inl (G.2 0, 2880, .inl e2))] ∧ (zI e0 0 1) ∧ (zR e1 0 240) ∧ (zqa qE e2) ∧ ((e1 (0 : Int32).toNatClampNeg).toInt ≤ (b60 (0 : Int32).toNatClampNeg).toInt + 1) ∧ ((∀ j : Nat, j < ((b60 (0 : Int32).toNatClampNeg).toInt).toNat → 0 ≤ zeU b61 j ∧ zeU b61 j ≤ 1000) → zAdd b61 ((b60 (0 : Int32).toNatClampNeg).toInt).toNat e2 ((e1 (0 : Int32).toNatClampNeg).toInt).toNat (zst b59 b58 b1.toInt.toNat b2.toInt.toNat) (zst b59 b58 b1.toInt.toNat (b2.toInt + 1).toNat)) ∧ (∃ fr by_ to va : Int32, (fr = b59 (0 + (b58 (0 + 13 * b1.toInt.toNat + b2.toInt.toNat)).toInt.toNat) ∧ by_ = b57 (21 + (12 * b1.toInt.toNat + b2.toInt.toNat)) ∧ to = b59 (0 + (b58 (0 + 13 * b1.toInt.toNat + (b2.toInt.toNat + 1))).toInt.toNat) ∧ va = b57 (261 + (12 * b1.toInt.toNat + b2.toInt.toNat))) ∧ yAE 0 ((b60 (0 : Int32).toNatClampNeg).toInt).toNat b61 e2 ((e1 (0 : Int32).toNatClampNeg).toInt) fr by_ to va)) A) ([.ref b0, .int 0, .int b1, .int b2] : List Value).toArray s m_s3_Model_addEdge.cells m_s3_Model_addEdge.slots A) (F0 m 84 ls []) by
      exact key 1435 (v_74) (b61) _ _ _ hv_74 hb61 (by intro q; rw [if_neg (by have h9 := ev_70; have h8 : v_70.toInt = (b60 (0 : Int32).toNatClampNeg).toInt := (by rw [h9]); omega)]) (by have h9 := ev_70; have h8 : v_70.toInt = (b60 (0 : Int32).toNatClampNeg).toInt := (by rw [h9]); omega) (by have h9 := ev_70; have h8 : v_70.toInt = (b60 (0 : Int32).toNatClampNeg).toInt := (by rw [h9]); omega) (zm_dni hv_74 (by decide)) hP hD hS (lv_sub hl [0, 1, 2, 3, 4, 5, 6, 7, 8, 9] rfl)
    intro k_143
    induction k_143 with
    | zero =>
      intro y_144 y_145 H locs ls hy_144 hy_145 hli_146 hli_147 hli_148 hmk_143 hP hD hS hl
      exact (zm_dn0 hy_144 hmk_143).elim
    | succ k_143 ihk_143 =>
      intro y_144 y_145 H locs ls hy_144 hy_145 hli_146 hli_147 hli_148 hmk_143 hP hD hS hl
      refine lv_iload hx hb d_Model_addEdge_84 (lv_at hl 0 rfl) ?_
      refine lv_iload hx hb d_Model_addEdge_86 (lv_at hl 1 rfl) ?_
      refine lv_icmp_lt (tgt := 114) hx hb d_Model_addEdge_88 (by decide) (fun hc_149 => ?_) (fun hc_149 => ?_)
      · have _nhc_149 := hc_149
        have ni_150 := (fa_lt _ _).mp hc_149
        refine lv_aload_n hx hb d_Model_addEdge_114 rfl (lv_at hl 6 rfl) ?_
        refine va_get (D := G.1) (ci := 12) (v := .ref b28) (C := R_Model) (T := F_Model) (N := 54) hx hb hts i_Model hown hK hP 4 rfl rfl 25 (by decide) (hts _ q1134) (fun _ h9 => h9) rfl d_Model_addEdge_115 ?_
        refine lv_iload_n hx hb d_Model_addEdge_118 rfl (lv_at hl 7 rfl) ?_
        refine lv_dup2_11 hx hb d_Model_addEdge_119 rfl rfl ?_
        refine va_iald hx hb hK hP 2 0 rfl rfl (i := 0) (z_in rfl) d_Model_addEdge_120 ?_
        refine lv_topi (fun v_151 ev_151 => ?_)
        obtain rfl : v_70 = v_151 := ev_70.trans ev_151.symm
        refine lv_iconst (v := 1) hx hb d_Model_addEdge_121 (by decide) ?_
        refine lv_iadd hx hb d_Model_addEdge_122 ?_
        refine lv_topi (fun v_152 ev_152 => ?_)
        obtain ⟨qv_152, hv_152⟩ := zI_add (l := 1) (h := 240) hv_71 zc_1 ev_152 (by decide)
        rw [li_1] at qv_152
        refine va_iast hx hb hK hP hD hS 2 0 rfl rfl (i := 0) (z_in rfl) d_Model_addEdge_123 (fun H locs hP hD hS => ?_)
        obtain ⟨f_153, hf_153, gf_153, uf_153, hP, hD⟩ := z_newfu 2 hP hD rfl hb60 (zI.wk (l' := 0) (h' := 240) hv_152 (by decide))
        have hP : va_P G.1 classes [(b20, .inl (G.2 0, 520, .inl b58)), (b23, .inl (G.2 0, 482, .inl b59)), (b28, .inl (G.2 0, 2, .inl f_153)), (b29, .inl (G.2 0, 2880, .inl y_145)), (b0, .inr (12, [.int b3, .ref b4, .ref b5, .ref b6, .ref b7, .int b8, .ref b9, .int b10, .int b11, .int b12, .int b13, .ref b14, .ref b15, .ref b16, .int b17, .ref b18, .ref b19, .ref b20, .ref b21, .ref b22, .ref b23, .ref b24, .ref b25, .ref b26, .ref b27, .ref b28, .ref b29, .int x_15, .ref b31, .ref b32, .int b33, .int b34, .int b35, .int b36, .ref b37, .ref b38, .ref b39, .ref b40, .ref b41, .ref b42, .ref b43, .int b44, .ref b45, .ref b46, .int b47, .ref b48, .ref b49, .ref b50, .ref b51, .ref b52, .int b53, .ref b54, .ref b55, .ref b56])), (b4, .inl (G.2 0, 503, .inl b57))] H := hP
        have hD := z_tie hP hD rfl
        refine lv_aload_n hx hb d_Model_addEdge_124 rfl (lv_at hl 6 rfl) ?_
        refine va_get (D := G.1) (ci := 12) (v := .ref b29) (C := R_Model) (T := F_Model) (N := 54) hx hb hts i_Model hown hK hP 4 rfl rfl 26 (by decide) (hts _ q1135) (fun _ h9 => h9) rfl d_Model_addEdge_125 ?_
        refine lv_iload hx hb d_Model_addEdge_128 (lv_at hl 1 rfl) ?_
        refine lv_iload hx hb d_Model_addEdge_130 (lv_at hl 5 rfl) ?_
        refine va_iast hx hb hK hP hD hS 3 0 rfl rfl (zI.inn hv_24 (by decide)) d_Model_addEdge_132 (fun H locs hP hD hS => ?_)
        obtain ⟨f_154, hf_154, gf_154, uf_154, hP, hD⟩ := z_newq_ (Q := qE) 3 hP hD rfl hy_145 (qE_v hv_24 (by decide) ⟨fun _ => ⟨by have _w := hx_2; omega, by have _w := hx_2; omega⟩, fun _ => ⟨by have _w := hx_2; omega, by have _w := hx_2; omega⟩, fun _ => ⟨by have _w := hx_2; omega, by have _w := hx_2; omega⟩⟩)
        have hP : va_P G.1 classes [(b20, .inl (G.2 0, 520, .inl b58)), (b23, .inl (G.2 0, 482, .inl b59)), (b28, .inl (G.2 0, 2, .inl f_153)), (b29, .inl (G.2 0, 2880, .inl f_154)), (b0, .inr (12, [.int b3, .ref b4, .ref b5, .ref b6, .ref b7, .int b8, .ref b9, .int b10, .int b11, .int b12, .int b13, .ref b14, .ref b15, .ref b16, .int b17, .ref b18, .ref b19, .ref b20, .ref b21, .ref b22, .ref b23, .ref b24, .ref b25, .ref b26, .ref b27, .ref b28, .ref b29, .int x_15, .ref b31, .ref b32, .int b33, .int b34, .int b35, .int b36, .ref b37, .ref b38, .ref b39, .ref b40, .ref b41, .ref b42, .ref b43, .int b44, .ref b45, .ref b46, .int b47, .ref b48, .ref b49, .ref b50, .ref b51, .ref b52, .int b53, .ref b54, .ref b55, .ref b56])), (b4, .inl (G.2 0, 503, .inl b57))] H := hP
        have hD := z_tie hP hD rfl
        refine lv_aload_n hx hb d_Model_addEdge_133 rfl (lv_at hl 6 rfl) ?_
        refine va_get (D := G.1) (ci := 12) (v := .ref b29) (C := R_Model) (T := F_Model) (N := 54) hx hb hts i_Model hown hK hP 4 rfl rfl 26 (by decide) (hts _ q1135) (fun _ h9 => h9) rfl d_Model_addEdge_134 ?_
        refine lv_iload hx hb d_Model_addEdge_137 (lv_at hl 1 rfl) ?_
        refine lv_iconst (v := 1) hx hb d_Model_addEdge_139 (by decide) ?_
        refine lv_iadd hx hb d_Model_addEdge_140 ?_
        refine lv_topi (fun v_155 ev_155 => ?_)
        obtain ⟨qv_155, hv_155⟩ := zI_add (l := 1) (h := 1435) hv_24 zc_1 ev_155 (by decide)
        rw [li_1] at qv_155
        refine lv_aload_n hx hb d_Model_addEdge_141 rfl (lv_at hl 6 rfl) ?_
        refine lv_iload_n hx hb d_Model_addEdge_142 rfl (lv_at hl 8 rfl) ?_
        refine lv_iload_n hx hb d_Model_addEdge_143 rfl (lv_at hl 9 rfl) ?_
        refine z_callV (index := 207) (As := [.int b1, .int b2]) (rest := [.int v_155, .ref b29]) (wr := [(b20, .inl (G.2 0, 520, .inl b58)), (b23, .inl (G.2 0, 482, .inl b59)), (b28, .inl (G.2 0, 2, .inl f_153)), (b29, .inl (G.2 0, 2880, .inl f_154))]) Z (s2_Model_letterAt l G (b0) (b1) (b2) (b3) (b4) (b5) (b6) (b7) (b8) (b9) (b10) (b11) (b12) (b13) (b14) (b15) (b16) (b17) (b18) (b19) (b20) (b21) (b22) (b23) (b24) (b25) (b26) (b27) (b28) (b29) (x_15) (b31) (b32) (b33) (b34) (b35) (b36) (b37) (b38) (b39) (b40) (b41) (b42) (b43) (b44) (b45) (b46) (b47) (b48) (b49) (b50) (b51) (b52) (b53) (b54) (b55) (b56) (b57) hb1 hb2 hb8 hb10 hb11 hb13 hb17 (zI.wk (l' := 0) (h' := 1) hv_69 (by decide)) hb33 hb44 hb47 hb53 hb57) hl.1 q1372 q1374 qs59 q14 q1375 ⟨by decide, by decide, by show _ = some 2; decide +kernel⟩ ⟨Nat.le_of_ble_eq_true rfl, Nat.le_of_ble_eq_true rfl⟩ ⟨Nat.le_of_ble_eq_true rfl, Nat.le_of_ble_eq_true rfl⟩ rfl (Nat.le_of_ble_eq_true rfl) d_Model_addEdge_144 hP hD hS hA 4 12 rfl rfl rfl [4, 5] [0, 1, 2, 3] rfl rfl rfl rfl (by decide) (fun v w1 H locs hw_156 hP hD hS => ?_)
        obtain ⟨x_157, rfl, rfl, hx_157, hfx_158⟩ := hw_156
        have hP : va_P G.1 classes [(b20, .inl (G.2 0, 520, .inl b58)), (b23, .inl (G.2 0, 482, .inl b59)), (b28, .inl (G.2 0, 2, .inl f_153)), (b29, .inl (G.2 0, 2880, .inl f_154)), (b0, .inr (12, [.int b3, .ref b4, .ref b5, .ref b6, .ref b7, .int b8, .ref b9, .int b10, .int b11, .int b12, .int b13, .ref b14, .ref b15, .ref b16, .int b17, .ref b18, .ref b19, .ref b20, .ref b21, .ref b22, .ref b23, .ref b24, .ref b25, .ref b26, .ref b27, .ref b28, .ref b29, .int x_15, .ref b31, .ref b32, .int b33, .int b34, .int b35, .int b36, .ref b37, .ref b38, .ref b39, .ref b40, .ref b41, .ref b42, .ref b43, .int b44, .ref b45, .ref b46, .int b47, .ref b48, .ref b49, .ref b50, .ref b51, .ref b52, .int b53, .ref b54, .ref b55, .ref b56])), (b4, .inl (G.2 0, 503, .inl b57))] H := hP
        have hD := z_tie hP hD rfl
        refine W.widen (k := 0) (n := 0) (Nat.le_of_ble_eq_true rfl) (Nat.le_of_ble_eq_true rfl) ?_
        refine va_iast hx hb hK hP hD hS 3 0 rfl rfl (zI.inn hv_155 (by decide)) d_Model_addEdge_147 (fun H locs hP hD hS => ?_)
        obtain ⟨f_159, hf_159, gf_159, uf_159, hP, hD⟩ := z_newq_ (Q := qE) 3 hP hD rfl hf_154 (qE_v hv_155 (by decide) ⟨fun _ => ⟨by have _w := hx_157; omega, by have _w := hx_157; omega⟩, fun _ => ⟨by have _w := hx_157; omega, by have _w := hx_157; omega⟩, fun _ => ⟨by have _w := hx_157; omega, by have _w := hx_157; omega⟩⟩)
        have hP : va_P G.1 classes [(b20, .inl (G.2 0, 520, .inl b58)), (b23, .inl (G.2 0, 482, .inl b59)), (b28, .inl (G.2 0, 2, .inl f_153)), (b29, .inl (G.2 0, 2880, .inl f_159)), (b0, .inr (12, [.int b3, .ref b4, .ref b5, .ref b6, .ref b7, .int b8, .ref b9, .int b10, .int b11, .int b12, .int b13, .ref b14, .ref b15, .ref b16, .int b17, .ref b18, .ref b19, .ref b20, .ref b21, .ref b22, .ref b23, .ref b24, .ref b25, .ref b26, .ref b27, .ref b28, .ref b29, .int x_15, .ref b31, .ref b32, .int b33, .int b34, .int b35, .int b36, .ref b37, .ref b38, .ref b39, .ref b40, .ref b41, .ref b42, .ref b43, .int b44, .ref b45, .ref b46, .int b47, .ref b48, .ref b49, .ref b50, .ref b51, .ref b52, .int b53, .ref b54, .ref b55, .ref b56])), (b4, .inl (G.2 0, 503, .inl b57))] H := hP
        have hD := z_tie hP hD rfl
        refine lv_aload_n hx hb d_Model_addEdge_148 rfl (lv_at hl 6 rfl) ?_
        refine va_get (D := G.1) (ci := 12) (v := .ref b29) (C := R_Model) (T := F_Model) (N := 54) hx hb hts i_Model hown hK hP 4 rfl rfl 26 (by decide) (hts _ q1135) (fun _ h9 => h9) rfl d_Model_addEdge_149 ?_
        refine lv_iload hx hb d_Model_addEdge_152 (lv_at hl 1 rfl) ?_
        refine lv_iconst (v := 2) hx hb d_Model_addEdge_154 (by decide) ?_
        refine lv_iadd hx hb d_Model_addEdge_155 ?_
        refine lv_topi (fun v_160 ev_160 => ?_)
        obtain ⟨qv_160, hv_160⟩ := zI_add (l := 2) (h := 1436) hv_24 zc_2 ev_160 (by decide)
        rw [li_2] at qv_160
        refine lv_iload hx hb d_Model_addEdge_156 (lv_at hl 4 rfl) ?_
        refine va_iast hx hb hK hP hD hS 3 0 rfl rfl (zI.inn hv_160 (by decide)) d_Model_addEdge_158 (fun H locs hP hD hS => ?_)
        obtain ⟨f_161, hf_161, gf_161, uf_161, hP, hD⟩ := z_newq_ (Q := qE) 3 hP hD rfl hf_159 (qE_v hv_160 (by decide) ⟨fun _ => ⟨by have _w := hx_7; omega, by have _w := hx_7; omega⟩, fun _ => ⟨by have _w := hx_7; omega, by have _w := hx_7; omega⟩, fun _ => ⟨by have _w := hx_7; omega, by have _w := hx_7; omega⟩⟩)
        have hP : va_P G.1 classes [(b20, .inl (G.2 0, 520, .inl b58)), (b23, .inl (G.2 0, 482, .inl b59)), (b28, .inl (G.2 0, 2, .inl f_153)), (b29, .inl (G.2 0, 2880, .inl f_161)), (b0, .inr (12, [.int b3, .ref b4, .ref b5, .ref b6, .ref b7, .int b8, .ref b9, .int b10, .int b11, .int b12, .int b13, .ref b14, .ref b15, .ref b16, .int b17, .ref b18, .ref b19, .ref b20, .ref b21, .ref b22, .ref b23, .ref b24, .ref b25, .ref b26, .ref b27, .ref b28, .ref b29, .int x_15, .ref b31, .ref b32, .int b33, .int b34, .int b35, .int b36, .ref b37, .ref b38, .ref b39, .ref b40, .ref b41, .ref b42, .ref b43, .int b44, .ref b45, .ref b46, .int b47, .ref b48, .ref b49, .ref b50, .ref b51, .ref b52, .int b53, .ref b54, .ref b55, .ref b56])), (b4, .inl (G.2 0, 503, .inl b57))] H := hP
        have hD := z_tie hP hD rfl
        refine lv_aload_n hx hb d_Model_addEdge_159 rfl (lv_at hl 6 rfl) ?_
        refine va_get (D := G.1) (ci := 12) (v := .ref b29) (C := R_Model) (T := F_Model) (N := 54) hx hb hts i_Model hown hK hP 4 rfl rfl 26 (by decide) (hts _ q1135) (fun _ h9 => h9) rfl d_Model_addEdge_160 ?_
        refine lv_iload hx hb d_Model_addEdge_163 (lv_at hl 1 rfl) ?_
        refine lv_iconst (v := 3) hx hb d_Model_addEdge_165 (by decide) ?_
        refine lv_iadd hx hb d_Model_addEdge_166 ?_
        refine lv_topi (fun v_162 ev_162 => ?_)
        obtain ⟨qv_162, hv_162⟩ := zI_add (l := 3) (h := 1437) hv_24 zc_3 ev_162 (by decide)
        rw [li_3] at qv_162
        refine lv_iconst (v := 0) hx hb d_Model_addEdge_167 (by decide) ?_
        refine va_iast hx hb hK hP hD hS 3 0 rfl rfl (zI.inn hv_162 (by decide)) d_Model_addEdge_168 (fun H locs hP hD hS => ?_)
        obtain ⟨f_163, hf_163, gf_163, uf_163, hP, hD⟩ := z_newq_ (Q := qE) 3 hP hD rfl hf_161 (qE_v hv_162 (by decide) ⟨fun _ => ⟨by have _w := li_0; omega, by have _w := li_0; omega⟩, fun _ => ⟨by have _w := li_0; omega, by have _w := li_0; omega⟩, fun _ => ⟨by have _w := li_0; omega, by have _w := li_0; omega⟩⟩)
        have hP : va_P G.1 classes [(b20, .inl (G.2 0, 520, .inl b58)), (b23, .inl (G.2 0, 482, .inl b59)), (b28, .inl (G.2 0, 2, .inl f_153)), (b29, .inl (G.2 0, 2880, .inl f_163)), (b0, .inr (12, [.int b3, .ref b4, .ref b5, .ref b6, .ref b7, .int b8, .ref b9, .int b10, .int b11, .int b12, .int b13, .ref b14, .ref b15, .ref b16, .int b17, .ref b18, .ref b19, .ref b20, .ref b21, .ref b22, .ref b23, .ref b24, .ref b25, .ref b26, .ref b27, .ref b28, .ref b29, .int x_15, .ref b31, .ref b32, .int b33, .int b34, .int b35, .int b36, .ref b37, .ref b38, .ref b39, .ref b40, .ref b41, .ref b42, .ref b43, .int b44, .ref b45, .ref b46, .int b47, .ref b48, .ref b49, .ref b50, .ref b51, .ref b52, .int b53, .ref b54, .ref b55, .ref b56])), (b4, .inl (G.2 0, 503, .inl b57))] H := hP
        have hD := z_tie hP hD rfl
        refine lv_aload_n hx hb d_Model_addEdge_169 rfl (lv_at hl 6 rfl) ?_
        refine va_get (D := G.1) (ci := 12) (v := .ref b29) (C := R_Model) (T := F_Model) (N := 54) hx hb hts i_Model hown hK hP 4 rfl rfl 26 (by decide) (hts _ q1135) (fun _ h9 => h9) rfl d_Model_addEdge_170 ?_
        refine lv_iload hx hb d_Model_addEdge_173 (lv_at hl 1 rfl) ?_
        refine lv_iconst (v := 4) hx hb d_Model_addEdge_175 (by decide) ?_
        refine lv_iadd hx hb d_Model_addEdge_176 ?_
        refine lv_topi (fun v_164 ev_164 => ?_)
        obtain ⟨qv_164, hv_164⟩ := zI_add (l := 4) (h := 1438) hv_24 zc_4 ev_164 (by decide)
        rw [li_4] at qv_164
        refine lv_iload hx hb d_Model_addEdge_177 (lv_at hl 2 rfl) ?_
        refine va_iast hx hb hK hP hD hS 3 0 rfl rfl (zI.inn hv_164 (by decide)) d_Model_addEdge_179 (fun H locs hP hD hS => ?_)
        obtain ⟨f_165, hf_165, gf_165, uf_165, hP, hD⟩ := z_newq_ (Q := qE) 3 hP hD rfl hf_163 (qE_v hv_164 (by decide) ⟨fun _ => ⟨by have _w := (zI_all x_21); omega, by have _w := (zI_all x_21); omega⟩, fun _ => ⟨by have _w := (zI_all x_21); omega, by have _w := (zI_all x_21); omega⟩, fun _ => ⟨by have _w := (zI_all x_21); omega, by have _w := (zI_all x_21); omega⟩⟩)
        have hP : va_P G.1 classes [(b20, .inl (G.2 0, 520, .inl b58)), (b23, .inl (G.2 0, 482, .inl b59)), (b28, .inl (G.2 0, 2, .inl f_153)), (b29, .inl (G.2 0, 2880, .inl f_165)), (b0, .inr (12, [.int b3, .ref b4, .ref b5, .ref b6, .ref b7, .int b8, .ref b9, .int b10, .int b11, .int b12, .int b13, .ref b14, .ref b15, .ref b16, .int b17, .ref b18, .ref b19, .ref b20, .ref b21, .ref b22, .ref b23, .ref b24, .ref b25, .ref b26, .ref b27, .ref b28, .ref b29, .int x_15, .ref b31, .ref b32, .int b33, .int b34, .int b35, .int b36, .ref b37, .ref b38, .ref b39, .ref b40, .ref b41, .ref b42, .ref b43, .int b44, .ref b45, .ref b46, .int b47, .ref b48, .ref b49, .ref b50, .ref b51, .ref b52, .int b53, .ref b54, .ref b55, .ref b56])), (b4, .inl (G.2 0, 503, .inl b57))] H := hP
        have hD := z_tie hP hD rfl
        refine lv_aload_n hx hb d_Model_addEdge_180 rfl (lv_at hl 6 rfl) ?_
        refine va_get (D := G.1) (ci := 12) (v := .ref b29) (C := R_Model) (T := F_Model) (N := 54) hx hb hts i_Model hown hK hP 4 rfl rfl 26 (by decide) (hts _ q1135) (fun _ h9 => h9) rfl d_Model_addEdge_181 ?_
        refine lv_iload hx hb d_Model_addEdge_184 (lv_at hl 1 rfl) ?_
        refine lv_iconst (v := 5) hx hb d_Model_addEdge_186 (by decide) ?_
        refine lv_iadd hx hb d_Model_addEdge_187 ?_
        refine lv_topi (fun v_166 ev_166 => ?_)
        obtain ⟨qv_166, hv_166⟩ := zI_add (l := 5) (h := 1439) hv_24 zc_5 ev_166 (by decide)
        rw [li_5] at qv_166
        refine lv_iload hx hb d_Model_addEdge_188 (lv_at hl 2 rfl) ?_
        refine va_iast hx hb hK hP hD hS 3 0 rfl rfl (zI.inn hv_166 (by decide)) d_Model_addEdge_190 (fun H locs hP hD hS => ?_)
        obtain ⟨f_167, hf_167, gf_167, uf_167, hP, hD⟩ := z_newq_ (Q := qE) 3 hP hD rfl hf_165 (qE_v hv_166 (by decide) ⟨fun _ => ⟨by have _w := (zI_all x_21); omega, by have _w := (zI_all x_21); omega⟩, fun _ => ⟨by have _w := (zI_all x_21); omega, by have _w := (zI_all x_21); omega⟩, fun _ => ⟨by have _w := (zI_all x_21); omega, by have _w := (zI_all x_21); omega⟩⟩)
        have hP : va_P G.1 classes [(b20, .inl (G.2 0, 520, .inl b58)), (b23, .inl (G.2 0, 482, .inl b59)), (b28, .inl (G.2 0, 2, .inl f_153)), (b29, .inl (G.2 0, 2880, .inl f_167)), (b0, .inr (12, [.int b3, .ref b4, .ref b5, .ref b6, .ref b7, .int b8, .ref b9, .int b10, .int b11, .int b12, .int b13, .ref b14, .ref b15, .ref b16, .int b17, .ref b18, .ref b19, .ref b20, .ref b21, .ref b22, .ref b23, .ref b24, .ref b25, .ref b26, .ref b27, .ref b28, .ref b29, .int x_15, .ref b31, .ref b32, .int b33, .int b34, .int b35, .int b36, .ref b37, .ref b38, .ref b39, .ref b40, .ref b41, .ref b42, .ref b43, .int b44, .ref b45, .ref b46, .int b47, .ref b48, .ref b49, .ref b50, .ref b51, .ref b52, .int b53, .ref b54, .ref b55, .ref b56])), (b4, .inl (G.2 0, 503, .inl b57))] H := hP
        have hD := z_tie hP hD rfl
        refine lv_aload_n hx hb d_Model_addEdge_191 rfl (lv_at hl 6 rfl) ?_
        refine va_get (D := G.1) (ci := 12) (v := .ref b29) (C := R_Model) (T := F_Model) (N := 54) hx hb hts i_Model hown hK hP 4 rfl rfl 26 (by decide) (hts _ q1135) (fun _ h9 => h9) rfl d_Model_addEdge_192 ?_
        refine lv_iload hx hb d_Model_addEdge_195 (lv_at hl 1 rfl) ?_
        refine lv_iconst (v := 3) hx hb d_Model_addEdge_197 (by decide) ?_
        refine lv_iadd hx hb d_Model_addEdge_198 ?_
        refine lv_topi (fun v_168 ev_168 => ?_)
        obtain rfl : v_162 = v_168 := ev_162.trans ev_168.symm
        refine lv_dup2_11 hx hb d_Model_addEdge_199 rfl rfl ?_
        refine va_iald hx hb hK hP 3 0 rfl rfl (zI.inn hv_162 (by decide)) d_Model_addEdge_200 ?_
        refine lv_topi (fun v_169 ev_169 => ?_)
        have kv_169 := zQE.ld hf_167 hv_162 ev_169 (by decide)
        refine lv_iconst (v := 1) hx hb d_Model_addEdge_201 (by decide) ?_
        refine lv_iadd hx hb d_Model_addEdge_202 ?_
        refine lv_topi (fun v_170 ev_170 => ?_)
        refine va_iast hx hb hK hP hD hS 3 0 rfl rfl (zI.inn hv_162 (by decide)) d_Model_addEdge_203 (fun H locs hP hD hS => ?_)
        obtain ⟨f_171, hf_171, gf_171, uf_171, hP, hD⟩ := z_newq_ (Q := qE) 3 hP hD rfl hf_167 (qE_v hv_162 (by decide) ⟨fun _ => ⟨by have _w := (zI_all v_170); omega, by have _w := (zI_all v_170); omega⟩, fun _ => ⟨by have _w := (zI_all v_170); omega, by have _w := (zI_all v_170); omega⟩, fun _ => ⟨by have _w := (zI_all v_170); omega, by have _w := (zI_all v_170); omega⟩⟩)
        have hP : va_P G.1 classes [(b20, .inl (G.2 0, 520, .inl b58)), (b23, .inl (G.2 0, 482, .inl b59)), (b28, .inl (G.2 0, 2, .inl f_153)), (b29, .inl (G.2 0, 2880, .inl f_171)), (b0, .inr (12, [.int b3, .ref b4, .ref b5, .ref b6, .ref b7, .int b8, .ref b9, .int b10, .int b11, .int b12, .int b13, .ref b14, .ref b15, .ref b16, .int b17, .ref b18, .ref b19, .ref b20, .ref b21, .ref b22, .ref b23, .ref b24, .ref b25, .ref b26, .ref b27, .ref b28, .ref b29, .int x_15, .ref b31, .ref b32, .int b33, .int b34, .int b35, .int b36, .ref b37, .ref b38, .ref b39, .ref b40, .ref b41, .ref b42, .ref b43, .int b44, .ref b45, .ref b46, .int b47, .ref b48, .ref b49, .ref b50, .ref b51, .ref b52, .int b53, .ref b54, .ref b55, .ref b56])), (b4, .inl (G.2 0, 503, .inl b57))] H := hP
        have hD := z_tie hP hD rfl
        refine lv_aload_n hx hb d_Model_addEdge_204 rfl (lv_at hl 6 rfl) ?_
        refine va_get (D := G.1) (ci := 12) (v := .ref b29) (C := R_Model) (T := F_Model) (N := 54) hx hb hts i_Model hown hK hP 4 rfl rfl 26 (by decide) (hts _ q1135) (fun _ h9 => h9) rfl d_Model_addEdge_205 ?_
        refine lv_iload hx hb d_Model_addEdge_208 (lv_at hl 1 rfl) ?_
        refine lv_iconst (v := 4) hx hb d_Model_addEdge_210 (by decide) ?_
        refine lv_iadd hx hb d_Model_addEdge_211 ?_
        refine lv_topi (fun v_172 ev_172 => ?_)
        obtain rfl : v_164 = v_172 := ev_164.trans ev_172.symm
        refine lv_iload hx hb d_Model_addEdge_212 (lv_at hl 2 rfl) ?_
        refine lv_aload_n hx hb d_Model_addEdge_214 rfl (lv_at hl 6 rfl) ?_
        refine va_get (D := G.1) (ci := 12) (v := .ref b29) (C := R_Model) (T := F_Model) (N := 54) hx hb hts i_Model hown hK hP 4 rfl rfl 26 (by decide) (hts _ q1135) (fun _ h9 => h9) rfl d_Model_addEdge_215 ?_
        refine lv_iload hx hb d_Model_addEdge_218 (lv_at hl 1 rfl) ?_
        refine lv_iconst (v := 4) hx hb d_Model_addEdge_220 (by decide) ?_
        refine lv_iadd hx hb d_Model_addEdge_221 ?_
        refine lv_topi (fun v_173 ev_173 => ?_)
        obtain rfl : v_164 = v_173 := ev_164.trans ev_173.symm
        refine va_iald hx hb hK hP 3 0 rfl rfl (zI.inn hv_164 (by decide)) d_Model_addEdge_222 ?_
        refine lv_topi (fun v_174 ev_174 => ?_)
        have kv_174 := zQE.ld hf_171 hv_164 ev_174 (by decide)
        refine lv_icmp_ge (tgt := 231) hx hb d_Model_addEdge_223 (by decide) (fun hc_175 => ?_) (fun hc_175 => ?_)
        · have _nhc_175 := hc_175
          have ni_176 := (fa_le _ _).mp hc_175
          refine lv_aload_n hx hb d_Model_addEdge_231 rfl (lv_at hl 6 rfl) ?_
          refine va_get (D := G.1) (ci := 12) (v := .ref b29) (C := R_Model) (T := F_Model) (N := 54) hx hb hts i_Model hown hK hP 4 rfl rfl 26 (by decide) (hts _ q1135) (fun _ h9 => h9) rfl d_Model_addEdge_232 ?_
          refine lv_iload hx hb d_Model_addEdge_235 (lv_at hl 1 rfl) ?_
          refine lv_iconst (v := 4) hx hb d_Model_addEdge_237 (by decide) ?_
          refine lv_iadd hx hb d_Model_addEdge_238 ?_
          refine lv_topi (fun v_177 ev_177 => ?_)
          obtain rfl : v_164 = v_177 := ev_164.trans ev_177.symm
          refine va_iald hx hb hK hP 3 0 rfl rfl (zI.inn hv_164 (by decide)) d_Model_addEdge_239 ?_
          refine lv_topi (fun v_178 ev_178 => ?_)
          obtain rfl : v_174 = v_178 := ev_174.trans ev_178.symm
          refine va_iast hx hb hK hP hD hS 3 0 rfl rfl (zI.inn hv_164 (by decide)) d_Model_addEdge_240 (fun H locs hP hD hS => ?_)
          obtain ⟨f_179, hf_179, gf_179, uf_179, hP, hD⟩ := z_newq_ (Q := qE) 3 hP hD rfl hf_171 (qE_s kv_174 hv_164 hv_164 (by decide) (by omega))
          have hP : va_P G.1 classes [(b20, .inl (G.2 0, 520, .inl b58)), (b23, .inl (G.2 0, 482, .inl b59)), (b28, .inl (G.2 0, 2, .inl f_153)), (b29, .inl (G.2 0, 2880, .inl f_179)), (b0, .inr (12, [.int b3, .ref b4, .ref b5, .ref b6, .ref b7, .int b8, .ref b9, .int b10, .int b11, .int b12, .int b13, .ref b14, .ref b15, .ref b16, .int b17, .ref b18, .ref b19, .ref b20, .ref b21, .ref b22, .ref b23, .ref b24, .ref b25, .ref b26, .ref b27, .ref b28, .ref b29, .int x_15, .ref b31, .ref b32, .int b33, .int b34, .int b35, .int b36, .ref b37, .ref b38, .ref b39, .ref b40, .ref b41, .ref b42, .ref b43, .int b44, .ref b45, .ref b46, .int b47, .ref b48, .ref b49, .ref b50, .ref b51, .ref b52, .int b53, .ref b54, .ref b55, .ref b56])), (b4, .inl (G.2 0, 503, .inl b57))] H := hP
          have hD := z_tie hP hD rfl
          refine lv_aload_n hx hb d_Model_addEdge_241 rfl (lv_at hl 6 rfl) ?_
          refine va_get (D := G.1) (ci := 12) (v := .ref b29) (C := R_Model) (T := F_Model) (N := 54) hx hb hts i_Model hown hK hP 4 rfl rfl 26 (by decide) (hts _ q1135) (fun _ h9 => h9) rfl d_Model_addEdge_242 ?_
          refine lv_iload hx hb d_Model_addEdge_245 (lv_at hl 1 rfl) ?_
          refine lv_iconst (v := 5) hx hb d_Model_addEdge_247 (by decide) ?_
          refine lv_iadd hx hb d_Model_addEdge_248 ?_
          refine lv_topi (fun v_180 ev_180 => ?_)
          obtain rfl : v_166 = v_180 := ev_166.trans ev_180.symm
          refine lv_iload hx hb d_Model_addEdge_249 (lv_at hl 2 rfl) ?_
          refine lv_aload_n hx hb d_Model_addEdge_251 rfl (lv_at hl 6 rfl) ?_
          refine va_get (D := G.1) (ci := 12) (v := .ref b29) (C := R_Model) (T := F_Model) (N := 54) hx hb hts i_Model hown hK hP 4 rfl rfl 26 (by decide) (hts _ q1135) (fun _ h9 => h9) rfl d_Model_addEdge_252 ?_
          refine lv_iload hx hb d_Model_addEdge_255 (lv_at hl 1 rfl) ?_
          refine lv_iconst (v := 5) hx hb d_Model_addEdge_257 (by decide) ?_
          refine lv_iadd hx hb d_Model_addEdge_258 ?_
          refine lv_topi (fun v_181 ev_181 => ?_)
          obtain rfl : v_166 = v_181 := ev_166.trans ev_181.symm
          refine va_iald hx hb hK hP 3 0 rfl rfl (zI.inn hv_166 (by decide)) d_Model_addEdge_259 ?_
          refine lv_topi (fun v_182 ev_182 => ?_)
          have kv_182 := zQE.ld hf_179 hv_166 ev_182 (by decide)
          refine lv_icmp_le (tgt := 268) hx hb d_Model_addEdge_260 (by decide) (fun hc_183 => ?_) (fun hc_183 => ?_)
          · have _nhc_183 := hc_183
            have ni_184 := (fa_le _ _).mp hc_183
            refine lv_aload_n hx hb d_Model_addEdge_268 rfl (lv_at hl 6 rfl) ?_
            refine va_get (D := G.1) (ci := 12) (v := .ref b29) (C := R_Model) (T := F_Model) (N := 54) hx hb hts i_Model hown hK hP 4 rfl rfl 26 (by decide) (hts _ q1135) (fun _ h9 => h9) rfl d_Model_addEdge_269 ?_
            refine lv_iload hx hb d_Model_addEdge_272 (lv_at hl 1 rfl) ?_
            refine lv_iconst (v := 5) hx hb d_Model_addEdge_274 (by decide) ?_
            refine lv_iadd hx hb d_Model_addEdge_275 ?_
            refine lv_topi (fun v_185 ev_185 => ?_)
            obtain rfl : v_166 = v_185 := ev_166.trans ev_185.symm
            refine va_iald hx hb hK hP 3 0 rfl rfl (zI.inn hv_166 (by decide)) d_Model_addEdge_276 ?_
            refine lv_topi (fun v_186 ev_186 => ?_)
            obtain rfl : v_182 = v_186 := ev_182.trans ev_186.symm
            refine va_iast hx hb hK hP hD hS 3 0 rfl rfl (zI.inn hv_166 (by decide)) d_Model_addEdge_277 (fun H locs hP hD hS => ?_)
            obtain ⟨f_187, hf_187, gf_187, uf_187, hP, hD⟩ := z_newq_ (Q := qE) 3 hP hD rfl hf_179 (qE_s kv_182 hv_166 hv_166 (by decide) (by omega))
            have hP : va_P G.1 classes [(b20, .inl (G.2 0, 520, .inl b58)), (b23, .inl (G.2 0, 482, .inl b59)), (b28, .inl (G.2 0, 2, .inl f_153)), (b29, .inl (G.2 0, 2880, .inl f_187)), (b0, .inr (12, [.int b3, .ref b4, .ref b5, .ref b6, .ref b7, .int b8, .ref b9, .int b10, .int b11, .int b12, .int b13, .ref b14, .ref b15, .ref b16, .int b17, .ref b18, .ref b19, .ref b20, .ref b21, .ref b22, .ref b23, .ref b24, .ref b25, .ref b26, .ref b27, .ref b28, .ref b29, .int x_15, .ref b31, .ref b32, .int b33, .int b34, .int b35, .int b36, .ref b37, .ref b38, .ref b39, .ref b40, .ref b41, .ref b42, .ref b43, .int b44, .ref b45, .ref b46, .int b47, .ref b48, .ref b49, .ref b50, .ref b51, .ref b52, .int b53, .ref b54, .ref b55, .ref b56])), (b4, .inl (G.2 0, 503, .inl b57))] H := hP
            have hD := z_tie hP hD rfl
            exact z_vret hx hb hr hlocks (hP.sub [4, 5, 0, 1, 2, 3] rfl) (hD.sub [4, 5, 0, 1, 2, 3] (by decide) rfl) hS (Nat.le_of_ble_eq_true rfl) (Nat.le_of_ble_eq_true rfl) d_Model_addEdge_278 ⟨x_15, f_153, f_187, rfl, rfl, (zI.wk (l' := 0) (h' := 1) hv_69 (by decide)), hf_153, hf_187, (by rw [gf_153, ← ev_70]; omega), (fun hub => by have hfr9 : zst b59 b58 b1.toInt.toNat b2.toInt.toNat = x_2.toInt := (by unfold zst; rw [← hfx_3]); have hto9 : zst b59 b58 b1.toInt.toNat (b2.toInt + 1).toNat = x_7.toInt := (by unfold zst; have h8 := hfx_8; rw [h8]; congr 4; omega); have hv9 : v_169.toInt = 0 := (by rw [ev_169, uf_167, z_at, if_neg (by have p9 := z_pl hv_162 (by decide); have p8 := z_pl hv_166 (by decide); omega), uf_165, z_at, if_neg (by have p9 := z_pl hv_162 (by decide); have p8 := z_pl hv_164 (by decide); omega), gf_163]; exact li_0); rw [hfr9, hto9, gf_153, (by have h8 := ev_70; have h7 : v_70.toInt = (b60 (0 : Int32).toNatClampNeg).toInt := (by rw [h8]); omega : (v_152.toInt).toNat = (b60 (0 : Int32).toNatClampNeg).toInt.toNat + 1)]; exact zadd_ins (e := x_14.toInt.toNat) (n := (b60 (0 : Int32).toNatClampNeg).toInt.toNat) (y := y_145) (f6 := f_167) (v := v_169) (by omega) (fun q => by rw [hli_146 q]; by_cases h7 : 6 * x_14.toInt.toNat + 5 < q ∧ q < 6 * (b60 (0 : Int32).toNatClampNeg).toInt.toNat + 6; rw [if_pos h7, if_pos (by omega)]; rw [if_neg h7, if_neg (by omega)]) (by rw [uf_167, uf_165, uf_163, uf_161, uf_159, uf_154]) (by rw [uf_187, uf_179, uf_171]) (by have p9 := z_pl hv_24 (by decide); omega) (by have p9 := z_pl hv_155 (by decide); omega) (by have p9 := z_pl hv_160 (by decide); omega) (by have p9 := z_pl hv_162 (by decide); omega) (by have p9 := z_pl hv_164 (by decide); omega) (by have p9 := z_pl hv_166 (by decide); omega) (by have p9 := z_pl hv_162 (by decide); omega) (by have p9 := z_pl hv_164 (by decide); omega) (by have p9 := z_pl hv_166 (by decide); omega) li_0 ev_169 (by have h7 := z_addq ev_170 (by have := hv9; have _l := li_1; omega); rw [h7, li_1])), (by have b9 := congrArg Int32.toInt hfx_12; exact ⟨x_2, x_11, x_7, x_21, ⟨hfx_4, hfx_12, (by have t9 := hfx_9; rw [t9]; congr 4; omega), hfx_22⟩, yAE_i (e := x_14.toInt.toNat) (E := (b60 (0 : Int32).toNatClampNeg).toInt.toNat) (y := y_145) (f6 := f_167) (u := v_169) (by omega) (fun j hj => (hfx_18).1 j (by omega)) (by rcases (hfx_18).2 with ⟨h8, _⟩ | ⟨_, h8⟩; (exfalso; omega); (rcases h8 with h8 | h8; exact Or.inl (by omega); exact Or.inr h8)) (by rw [gf_153]; have h8 := congrArg Int32.toInt ev_70; omega) (fun q => by rw [hli_146 q]; by_cases h7 : 0 + 6 * x_14.toInt.toNat + 5 < q ∧ q < 0 + 6 * (b60 (0 : Int32).toNatClampNeg).toInt.toNat + 6; rw [if_pos h7, if_pos (by omega)]; rw [if_neg h7, if_neg (by omega)]) (by rw [uf_167, uf_165, uf_163, uf_161, uf_159, uf_154]) (by rw [uf_187, uf_179, uf_171]) (by have p9 := z_pl hv_24 (by decide); omega) (by have p9 := z_pl hv_155 (by decide); omega) (by have p9 := z_pl hv_160 (by decide); omega) (by have p9 := z_pl hv_162 (by decide); omega) (by have p9 := z_pl hv_164 (by decide); omega) (by have p9 := z_pl hv_166 (by decide); omega) (by have p9 := z_pl hv_162 (by decide); omega) (by have p9 := z_pl hv_164 (by decide); omega) (by have p9 := z_pl hv_166 (by decide); omega) li_0 ev_169 ev_170 (Or.inr (by rw [← uf_171]; exact ev_174)) (Or.inr (by rw [← uf_171, ← uf_179]; exact ev_182))⟩)⟩
          · have _nhc_183 := hc_183
            have ni_188 := (fa_lt _ _).mp (zi_nle hc_183)
            have hv_189 : zI v_182 (-2147483648) 2147483646 := zI.lt_l (zI_all v_182) (zI_all x_21) (zi_nle hc_183) (by decide)
            have hv_190 : zI x_21 (-2147483647) 2147483647 := zI.lt_r (zI_all v_182) (zI_all x_21) (zi_nle hc_183) (by decide)
            refine lv_iload hx hb d_Model_addEdge_263 (lv_at hl 2 rfl) ?_
            refine lv_goto (tgt := 277) hx hb d_Model_addEdge_265 (by decide) ?_
            refine va_iast hx hb hK hP hD hS 3 0 rfl rfl (zI.inn hv_166 (by decide)) d_Model_addEdge_277 (fun H locs hP hD hS => ?_)
            obtain ⟨f_191, hf_191, gf_191, uf_191, hP, hD⟩ := z_newq_ (Q := qE) 3 hP hD rfl hf_179 (qE_v hv_166 (by decide) ⟨fun _ => ⟨by have _w := hv_190; omega, by have _w := hv_190; omega⟩, fun _ => ⟨by have _w := hv_190; omega, by have _w := hv_190; omega⟩, fun _ => ⟨by have _w := hv_190; omega, by have _w := hv_190; omega⟩⟩)
            have hP : va_P G.1 classes [(b20, .inl (G.2 0, 520, .inl b58)), (b23, .inl (G.2 0, 482, .inl b59)), (b28, .inl (G.2 0, 2, .inl f_153)), (b29, .inl (G.2 0, 2880, .inl f_191)), (b0, .inr (12, [.int b3, .ref b4, .ref b5, .ref b6, .ref b7, .int b8, .ref b9, .int b10, .int b11, .int b12, .int b13, .ref b14, .ref b15, .ref b16, .int b17, .ref b18, .ref b19, .ref b20, .ref b21, .ref b22, .ref b23, .ref b24, .ref b25, .ref b26, .ref b27, .ref b28, .ref b29, .int x_15, .ref b31, .ref b32, .int b33, .int b34, .int b35, .int b36, .ref b37, .ref b38, .ref b39, .ref b40, .ref b41, .ref b42, .ref b43, .int b44, .ref b45, .ref b46, .int b47, .ref b48, .ref b49, .ref b50, .ref b51, .ref b52, .int b53, .ref b54, .ref b55, .ref b56])), (b4, .inl (G.2 0, 503, .inl b57))] H := hP
            have hD := z_tie hP hD rfl
            exact z_vret hx hb hr hlocks (hP.sub [4, 5, 0, 1, 2, 3] rfl) (hD.sub [4, 5, 0, 1, 2, 3] (by decide) rfl) hS (Nat.le_of_ble_eq_true rfl) (Nat.le_of_ble_eq_true rfl) d_Model_addEdge_278 ⟨x_15, f_153, f_191, rfl, rfl, (zI.wk (l' := 0) (h' := 1) hv_69 (by decide)), hf_153, hf_191, (by rw [gf_153, ← ev_70]; omega), (fun hub => by have hfr9 : zst b59 b58 b1.toInt.toNat b2.toInt.toNat = x_2.toInt := (by unfold zst; rw [← hfx_3]); have hto9 : zst b59 b58 b1.toInt.toNat (b2.toInt + 1).toNat = x_7.toInt := (by unfold zst; have h8 := hfx_8; rw [h8]; congr 4; omega); have hv9 : v_169.toInt = 0 := (by rw [ev_169, uf_167, z_at, if_neg (by have p9 := z_pl hv_162 (by decide); have p8 := z_pl hv_166 (by decide); omega), uf_165, z_at, if_neg (by have p9 := z_pl hv_162 (by decide); have p8 := z_pl hv_164 (by decide); omega), gf_163]; exact li_0); rw [hfr9, hto9, gf_153, (by have h8 := ev_70; have h7 : v_70.toInt = (b60 (0 : Int32).toNatClampNeg).toInt := (by rw [h8]); omega : (v_152.toInt).toNat = (b60 (0 : Int32).toNatClampNeg).toInt.toNat + 1)]; exact zadd_ins (e := x_14.toInt.toNat) (n := (b60 (0 : Int32).toNatClampNeg).toInt.toNat) (y := y_145) (f6 := f_167) (v := v_169) (by omega) (fun q => by rw [hli_146 q]; by_cases h7 : 6 * x_14.toInt.toNat + 5 < q ∧ q < 6 * (b60 (0 : Int32).toNatClampNeg).toInt.toNat + 6; rw [if_pos h7, if_pos (by omega)]; rw [if_neg h7, if_neg (by omega)]) (by rw [uf_167, uf_165, uf_163, uf_161, uf_159, uf_154]) (by rw [uf_191, uf_179, uf_171]) (by have p9 := z_pl hv_24 (by decide); omega) (by have p9 := z_pl hv_155 (by decide); omega) (by have p9 := z_pl hv_160 (by decide); omega) (by have p9 := z_pl hv_162 (by decide); omega) (by have p9 := z_pl hv_164 (by decide); omega) (by have p9 := z_pl hv_166 (by decide); omega) (by have p9 := z_pl hv_162 (by decide); omega) (by have p9 := z_pl hv_164 (by decide); omega) (by have p9 := z_pl hv_166 (by decide); omega) li_0 ev_169 (by have h7 := z_addq ev_170 (by have := hv9; have _l := li_1; omega); rw [h7, li_1])), (by have b9 := congrArg Int32.toInt hfx_12; exact ⟨x_2, x_11, x_7, x_21, ⟨hfx_4, hfx_12, (by have t9 := hfx_9; rw [t9]; congr 4; omega), hfx_22⟩, yAE_i (e := x_14.toInt.toNat) (E := (b60 (0 : Int32).toNatClampNeg).toInt.toNat) (y := y_145) (f6 := f_167) (u := v_169) (by omega) (fun j hj => (hfx_18).1 j (by omega)) (by rcases (hfx_18).2 with ⟨h8, _⟩ | ⟨_, h8⟩; (exfalso; omega); (rcases h8 with h8 | h8; exact Or.inl (by omega); exact Or.inr h8)) (by rw [gf_153]; have h8 := congrArg Int32.toInt ev_70; omega) (fun q => by rw [hli_146 q]; by_cases h7 : 0 + 6 * x_14.toInt.toNat + 5 < q ∧ q < 0 + 6 * (b60 (0 : Int32).toNatClampNeg).toInt.toNat + 6; rw [if_pos h7, if_pos (by omega)]; rw [if_neg h7, if_neg (by omega)]) (by rw [uf_167, uf_165, uf_163, uf_161, uf_159, uf_154]) (by rw [uf_191, uf_179, uf_171]) (by have p9 := z_pl hv_24 (by decide); omega) (by have p9 := z_pl hv_155 (by decide); omega) (by have p9 := z_pl hv_160 (by decide); omega) (by have p9 := z_pl hv_162 (by decide); omega) (by have p9 := z_pl hv_164 (by decide); omega) (by have p9 := z_pl hv_166 (by decide); omega) (by have p9 := z_pl hv_162 (by decide); omega) (by have p9 := z_pl hv_164 (by decide); omega) (by have p9 := z_pl hv_166 (by decide); omega) li_0 ev_169 ev_170 (Or.inr (by rw [← uf_171]; exact ev_174)) (Or.inl rfl)⟩)⟩
        · have _nhc_175 := hc_175
          have ni_192 := (fa_lt _ _).mp (zi_nle hc_175)
          have hv_193 : zI x_21 (-2147483648) 2147483646 := zI.lt_l (zI_all x_21) (zI_all v_174) (zi_nle hc_175) (by decide)
          have hv_194 : zI v_174 (-2147483647) 2147483647 := zI.lt_r (zI_all x_21) (zI_all v_174) (zi_nle hc_175) (by decide)
          refine lv_iload hx hb d_Model_addEdge_226 (lv_at hl 2 rfl) ?_
          refine lv_goto (tgt := 240) hx hb d_Model_addEdge_228 (by decide) ?_
          refine va_iast hx hb hK hP hD hS 3 0 rfl rfl (zI.inn hv_164 (by decide)) d_Model_addEdge_240 (fun H locs hP hD hS => ?_)
          obtain ⟨f_195, hf_195, gf_195, uf_195, hP, hD⟩ := z_newq_ (Q := qE) 3 hP hD rfl hf_171 (qE_v hv_164 (by decide) ⟨fun _ => ⟨by have _w := hv_193; omega, by have _w := hv_193; omega⟩, fun _ => ⟨by have _w := hv_193; omega, by have _w := hv_193; omega⟩, fun _ => ⟨by have _w := hv_193; omega, by have _w := hv_193; omega⟩⟩)
          have hP : va_P G.1 classes [(b20, .inl (G.2 0, 520, .inl b58)), (b23, .inl (G.2 0, 482, .inl b59)), (b28, .inl (G.2 0, 2, .inl f_153)), (b29, .inl (G.2 0, 2880, .inl f_195)), (b0, .inr (12, [.int b3, .ref b4, .ref b5, .ref b6, .ref b7, .int b8, .ref b9, .int b10, .int b11, .int b12, .int b13, .ref b14, .ref b15, .ref b16, .int b17, .ref b18, .ref b19, .ref b20, .ref b21, .ref b22, .ref b23, .ref b24, .ref b25, .ref b26, .ref b27, .ref b28, .ref b29, .int x_15, .ref b31, .ref b32, .int b33, .int b34, .int b35, .int b36, .ref b37, .ref b38, .ref b39, .ref b40, .ref b41, .ref b42, .ref b43, .int b44, .ref b45, .ref b46, .int b47, .ref b48, .ref b49, .ref b50, .ref b51, .ref b52, .int b53, .ref b54, .ref b55, .ref b56])), (b4, .inl (G.2 0, 503, .inl b57))] H := hP
          have hD := z_tie hP hD rfl
          refine lv_aload_n hx hb d_Model_addEdge_241 rfl (lv_at hl 6 rfl) ?_
          refine va_get (D := G.1) (ci := 12) (v := .ref b29) (C := R_Model) (T := F_Model) (N := 54) hx hb hts i_Model hown hK hP 4 rfl rfl 26 (by decide) (hts _ q1135) (fun _ h9 => h9) rfl d_Model_addEdge_242 ?_
          refine lv_iload hx hb d_Model_addEdge_245 (lv_at hl 1 rfl) ?_
          refine lv_iconst (v := 5) hx hb d_Model_addEdge_247 (by decide) ?_
          refine lv_iadd hx hb d_Model_addEdge_248 ?_
          refine lv_topi (fun v_196 ev_196 => ?_)
          obtain rfl : v_166 = v_196 := ev_166.trans ev_196.symm
          refine lv_iload hx hb d_Model_addEdge_249 (lv_at hl 2 rfl) ?_
          refine lv_aload_n hx hb d_Model_addEdge_251 rfl (lv_at hl 6 rfl) ?_
          refine va_get (D := G.1) (ci := 12) (v := .ref b29) (C := R_Model) (T := F_Model) (N := 54) hx hb hts i_Model hown hK hP 4 rfl rfl 26 (by decide) (hts _ q1135) (fun _ h9 => h9) rfl d_Model_addEdge_252 ?_
          refine lv_iload hx hb d_Model_addEdge_255 (lv_at hl 1 rfl) ?_
          refine lv_iconst (v := 5) hx hb d_Model_addEdge_257 (by decide) ?_
          refine lv_iadd hx hb d_Model_addEdge_258 ?_
          refine lv_topi (fun v_197 ev_197 => ?_)
          obtain rfl : v_166 = v_197 := ev_166.trans ev_197.symm
          refine va_iald hx hb hK hP 3 0 rfl rfl (zI.inn hv_166 (by decide)) d_Model_addEdge_259 ?_
          refine lv_topi (fun v_198 ev_198 => ?_)
          have kv_198 := zQE.ld hf_195 hv_166 ev_198 (by decide)
          refine lv_icmp_le (tgt := 268) hx hb d_Model_addEdge_260 (by decide) (fun hc_199 => ?_) (fun hc_199 => ?_)
          · have _nhc_199 := hc_199
            have ni_200 := (fa_le _ _).mp hc_199
            refine lv_aload_n hx hb d_Model_addEdge_268 rfl (lv_at hl 6 rfl) ?_
            refine va_get (D := G.1) (ci := 12) (v := .ref b29) (C := R_Model) (T := F_Model) (N := 54) hx hb hts i_Model hown hK hP 4 rfl rfl 26 (by decide) (hts _ q1135) (fun _ h9 => h9) rfl d_Model_addEdge_269 ?_
            refine lv_iload hx hb d_Model_addEdge_272 (lv_at hl 1 rfl) ?_
            refine lv_iconst (v := 5) hx hb d_Model_addEdge_274 (by decide) ?_
            refine lv_iadd hx hb d_Model_addEdge_275 ?_
            refine lv_topi (fun v_201 ev_201 => ?_)
            obtain rfl : v_166 = v_201 := ev_166.trans ev_201.symm
            refine va_iald hx hb hK hP 3 0 rfl rfl (zI.inn hv_166 (by decide)) d_Model_addEdge_276 ?_
            refine lv_topi (fun v_202 ev_202 => ?_)
            obtain rfl : v_198 = v_202 := ev_198.trans ev_202.symm
            refine va_iast hx hb hK hP hD hS 3 0 rfl rfl (zI.inn hv_166 (by decide)) d_Model_addEdge_277 (fun H locs hP hD hS => ?_)
            obtain ⟨f_203, hf_203, gf_203, uf_203, hP, hD⟩ := z_newq_ (Q := qE) 3 hP hD rfl hf_195 (qE_s kv_198 hv_166 hv_166 (by decide) (by omega))
            have hP : va_P G.1 classes [(b20, .inl (G.2 0, 520, .inl b58)), (b23, .inl (G.2 0, 482, .inl b59)), (b28, .inl (G.2 0, 2, .inl f_153)), (b29, .inl (G.2 0, 2880, .inl f_203)), (b0, .inr (12, [.int b3, .ref b4, .ref b5, .ref b6, .ref b7, .int b8, .ref b9, .int b10, .int b11, .int b12, .int b13, .ref b14, .ref b15, .ref b16, .int b17, .ref b18, .ref b19, .ref b20, .ref b21, .ref b22, .ref b23, .ref b24, .ref b25, .ref b26, .ref b27, .ref b28, .ref b29, .int x_15, .ref b31, .ref b32, .int b33, .int b34, .int b35, .int b36, .ref b37, .ref b38, .ref b39, .ref b40, .ref b41, .ref b42, .ref b43, .int b44, .ref b45, .ref b46, .int b47, .ref b48, .ref b49, .ref b50, .ref b51, .ref b52, .int b53, .ref b54, .ref b55, .ref b56])), (b4, .inl (G.2 0, 503, .inl b57))] H := hP
            have hD := z_tie hP hD rfl
            exact z_vret hx hb hr hlocks (hP.sub [4, 5, 0, 1, 2, 3] rfl) (hD.sub [4, 5, 0, 1, 2, 3] (by decide) rfl) hS (Nat.le_of_ble_eq_true rfl) (Nat.le_of_ble_eq_true rfl) d_Model_addEdge_278 ⟨x_15, f_153, f_203, rfl, rfl, (zI.wk (l' := 0) (h' := 1) hv_69 (by decide)), hf_153, hf_203, (by rw [gf_153, ← ev_70]; omega), (fun hub => by have hfr9 : zst b59 b58 b1.toInt.toNat b2.toInt.toNat = x_2.toInt := (by unfold zst; rw [← hfx_3]); have hto9 : zst b59 b58 b1.toInt.toNat (b2.toInt + 1).toNat = x_7.toInt := (by unfold zst; have h8 := hfx_8; rw [h8]; congr 4; omega); have hv9 : v_169.toInt = 0 := (by rw [ev_169, uf_167, z_at, if_neg (by have p9 := z_pl hv_162 (by decide); have p8 := z_pl hv_166 (by decide); omega), uf_165, z_at, if_neg (by have p9 := z_pl hv_162 (by decide); have p8 := z_pl hv_164 (by decide); omega), gf_163]; exact li_0); rw [hfr9, hto9, gf_153, (by have h8 := ev_70; have h7 : v_70.toInt = (b60 (0 : Int32).toNatClampNeg).toInt := (by rw [h8]); omega : (v_152.toInt).toNat = (b60 (0 : Int32).toNatClampNeg).toInt.toNat + 1)]; exact zadd_ins (e := x_14.toInt.toNat) (n := (b60 (0 : Int32).toNatClampNeg).toInt.toNat) (y := y_145) (f6 := f_167) (v := v_169) (by omega) (fun q => by rw [hli_146 q]; by_cases h7 : 6 * x_14.toInt.toNat + 5 < q ∧ q < 6 * (b60 (0 : Int32).toNatClampNeg).toInt.toNat + 6; rw [if_pos h7, if_pos (by omega)]; rw [if_neg h7, if_neg (by omega)]) (by rw [uf_167, uf_165, uf_163, uf_161, uf_159, uf_154]) (by rw [uf_203, uf_195, uf_171]) (by have p9 := z_pl hv_24 (by decide); omega) (by have p9 := z_pl hv_155 (by decide); omega) (by have p9 := z_pl hv_160 (by decide); omega) (by have p9 := z_pl hv_162 (by decide); omega) (by have p9 := z_pl hv_164 (by decide); omega) (by have p9 := z_pl hv_166 (by decide); omega) (by have p9 := z_pl hv_162 (by decide); omega) (by have p9 := z_pl hv_164 (by decide); omega) (by have p9 := z_pl hv_166 (by decide); omega) li_0 ev_169 (by have h7 := z_addq ev_170 (by have := hv9; have _l := li_1; omega); rw [h7, li_1])), (by have b9 := congrArg Int32.toInt hfx_12; exact ⟨x_2, x_11, x_7, x_21, ⟨hfx_4, hfx_12, (by have t9 := hfx_9; rw [t9]; congr 4; omega), hfx_22⟩, yAE_i (e := x_14.toInt.toNat) (E := (b60 (0 : Int32).toNatClampNeg).toInt.toNat) (y := y_145) (f6 := f_167) (u := v_169) (by omega) (fun j hj => (hfx_18).1 j (by omega)) (by rcases (hfx_18).2 with ⟨h8, _⟩ | ⟨_, h8⟩; (exfalso; omega); (rcases h8 with h8 | h8; exact Or.inl (by omega); exact Or.inr h8)) (by rw [gf_153]; have h8 := congrArg Int32.toInt ev_70; omega) (fun q => by rw [hli_146 q]; by_cases h7 : 0 + 6 * x_14.toInt.toNat + 5 < q ∧ q < 0 + 6 * (b60 (0 : Int32).toNatClampNeg).toInt.toNat + 6; rw [if_pos h7, if_pos (by omega)]; rw [if_neg h7, if_neg (by omega)]) (by rw [uf_167, uf_165, uf_163, uf_161, uf_159, uf_154]) (by rw [uf_203, uf_195, uf_171]) (by have p9 := z_pl hv_24 (by decide); omega) (by have p9 := z_pl hv_155 (by decide); omega) (by have p9 := z_pl hv_160 (by decide); omega) (by have p9 := z_pl hv_162 (by decide); omega) (by have p9 := z_pl hv_164 (by decide); omega) (by have p9 := z_pl hv_166 (by decide); omega) (by have p9 := z_pl hv_162 (by decide); omega) (by have p9 := z_pl hv_164 (by decide); omega) (by have p9 := z_pl hv_166 (by decide); omega) li_0 ev_169 ev_170 (Or.inl rfl) (Or.inr (by rw [← uf_171, ← uf_195]; exact ev_198))⟩)⟩
          · have _nhc_199 := hc_199
            have ni_204 := (fa_lt _ _).mp (zi_nle hc_199)
            have hv_205 : zI v_198 (-2147483648) 2147483645 := zI.lt_l (zI_all v_198) hv_193 (zi_nle hc_199) (by decide)
            have hv_206 : zI x_21 (-2147483647) 2147483646 := zI.lt_r (zI_all v_198) hv_193 (zi_nle hc_199) (by decide)
            refine lv_iload hx hb d_Model_addEdge_263 (lv_at hl 2 rfl) ?_
            refine lv_goto (tgt := 277) hx hb d_Model_addEdge_265 (by decide) ?_
            refine va_iast hx hb hK hP hD hS 3 0 rfl rfl (zI.inn hv_166 (by decide)) d_Model_addEdge_277 (fun H locs hP hD hS => ?_)
            obtain ⟨f_207, hf_207, gf_207, uf_207, hP, hD⟩ := z_newq_ (Q := qE) 3 hP hD rfl hf_195 (qE_v hv_166 (by decide) ⟨fun _ => ⟨by have _w := hv_206; omega, by have _w := hv_206; omega⟩, fun _ => ⟨by have _w := hv_206; omega, by have _w := hv_206; omega⟩, fun _ => ⟨by have _w := hv_206; omega, by have _w := hv_206; omega⟩⟩)
            have hP : va_P G.1 classes [(b20, .inl (G.2 0, 520, .inl b58)), (b23, .inl (G.2 0, 482, .inl b59)), (b28, .inl (G.2 0, 2, .inl f_153)), (b29, .inl (G.2 0, 2880, .inl f_207)), (b0, .inr (12, [.int b3, .ref b4, .ref b5, .ref b6, .ref b7, .int b8, .ref b9, .int b10, .int b11, .int b12, .int b13, .ref b14, .ref b15, .ref b16, .int b17, .ref b18, .ref b19, .ref b20, .ref b21, .ref b22, .ref b23, .ref b24, .ref b25, .ref b26, .ref b27, .ref b28, .ref b29, .int x_15, .ref b31, .ref b32, .int b33, .int b34, .int b35, .int b36, .ref b37, .ref b38, .ref b39, .ref b40, .ref b41, .ref b42, .ref b43, .int b44, .ref b45, .ref b46, .int b47, .ref b48, .ref b49, .ref b50, .ref b51, .ref b52, .int b53, .ref b54, .ref b55, .ref b56])), (b4, .inl (G.2 0, 503, .inl b57))] H := hP
            have hD := z_tie hP hD rfl
            exact z_vret hx hb hr hlocks (hP.sub [4, 5, 0, 1, 2, 3] rfl) (hD.sub [4, 5, 0, 1, 2, 3] (by decide) rfl) hS (Nat.le_of_ble_eq_true rfl) (Nat.le_of_ble_eq_true rfl) d_Model_addEdge_278 ⟨x_15, f_153, f_207, rfl, rfl, (zI.wk (l' := 0) (h' := 1) hv_69 (by decide)), hf_153, hf_207, (by rw [gf_153, ← ev_70]; omega), (fun hub => by have hfr9 : zst b59 b58 b1.toInt.toNat b2.toInt.toNat = x_2.toInt := (by unfold zst; rw [← hfx_3]); have hto9 : zst b59 b58 b1.toInt.toNat (b2.toInt + 1).toNat = x_7.toInt := (by unfold zst; have h8 := hfx_8; rw [h8]; congr 4; omega); have hv9 : v_169.toInt = 0 := (by rw [ev_169, uf_167, z_at, if_neg (by have p9 := z_pl hv_162 (by decide); have p8 := z_pl hv_166 (by decide); omega), uf_165, z_at, if_neg (by have p9 := z_pl hv_162 (by decide); have p8 := z_pl hv_164 (by decide); omega), gf_163]; exact li_0); rw [hfr9, hto9, gf_153, (by have h8 := ev_70; have h7 : v_70.toInt = (b60 (0 : Int32).toNatClampNeg).toInt := (by rw [h8]); omega : (v_152.toInt).toNat = (b60 (0 : Int32).toNatClampNeg).toInt.toNat + 1)]; exact zadd_ins (e := x_14.toInt.toNat) (n := (b60 (0 : Int32).toNatClampNeg).toInt.toNat) (y := y_145) (f6 := f_167) (v := v_169) (by omega) (fun q => by rw [hli_146 q]; by_cases h7 : 6 * x_14.toInt.toNat + 5 < q ∧ q < 6 * (b60 (0 : Int32).toNatClampNeg).toInt.toNat + 6; rw [if_pos h7, if_pos (by omega)]; rw [if_neg h7, if_neg (by omega)]) (by rw [uf_167, uf_165, uf_163, uf_161, uf_159, uf_154]) (by rw [uf_207, uf_195, uf_171]) (by have p9 := z_pl hv_24 (by decide); omega) (by have p9 := z_pl hv_155 (by decide); omega) (by have p9 := z_pl hv_160 (by decide); omega) (by have p9 := z_pl hv_162 (by decide); omega) (by have p9 := z_pl hv_164 (by decide); omega) (by have p9 := z_pl hv_166 (by decide); omega) (by have p9 := z_pl hv_162 (by decide); omega) (by have p9 := z_pl hv_164 (by decide); omega) (by have p9 := z_pl hv_166 (by decide); omega) li_0 ev_169 (by have h7 := z_addq ev_170 (by have := hv9; have _l := li_1; omega); rw [h7, li_1])), (by have b9 := congrArg Int32.toInt hfx_12; exact ⟨x_2, x_11, x_7, x_21, ⟨hfx_4, hfx_12, (by have t9 := hfx_9; rw [t9]; congr 4; omega), hfx_22⟩, yAE_i (e := x_14.toInt.toNat) (E := (b60 (0 : Int32).toNatClampNeg).toInt.toNat) (y := y_145) (f6 := f_167) (u := v_169) (by omega) (fun j hj => (hfx_18).1 j (by omega)) (by rcases (hfx_18).2 with ⟨h8, _⟩ | ⟨_, h8⟩; (exfalso; omega); (rcases h8 with h8 | h8; exact Or.inl (by omega); exact Or.inr h8)) (by rw [gf_153]; have h8 := congrArg Int32.toInt ev_70; omega) (fun q => by rw [hli_146 q]; by_cases h7 : 0 + 6 * x_14.toInt.toNat + 5 < q ∧ q < 0 + 6 * (b60 (0 : Int32).toNatClampNeg).toInt.toNat + 6; rw [if_pos h7, if_pos (by omega)]; rw [if_neg h7, if_neg (by omega)]) (by rw [uf_167, uf_165, uf_163, uf_161, uf_159, uf_154]) (by rw [uf_207, uf_195, uf_171]) (by have p9 := z_pl hv_24 (by decide); omega) (by have p9 := z_pl hv_155 (by decide); omega) (by have p9 := z_pl hv_160 (by decide); omega) (by have p9 := z_pl hv_162 (by decide); omega) (by have p9 := z_pl hv_164 (by decide); omega) (by have p9 := z_pl hv_166 (by decide); omega) (by have p9 := z_pl hv_162 (by decide); omega) (by have p9 := z_pl hv_164 (by decide); omega) (by have p9 := z_pl hv_166 (by decide); omega) li_0 ev_169 ev_170 (Or.inl rfl) (Or.inl rfl)⟩)⟩
      · have _nhc_149 := hc_149
        have ni_208 := (fa_le _ _).mp (zi_nlt hc_149)
        have hv_209 : zI v_24 0 1433 := zI.le_l hv_24 hy_144 (zi_nlt hc_149) (by decide)
        have hv_210 : zI y_144 0 1433 := zI.le_r hv_24 hy_144 (zi_nlt hc_149) (by decide)
        refine lv_aload_n hx hb d_Model_addEdge_91 rfl (lv_at hl 6 rfl) ?_
        refine va_get (D := G.1) (ci := 12) (v := .ref b29) (C := R_Model) (T := F_Model) (N := 54) hx hb hts i_Model hown hK hP 4 rfl rfl 26 (by decide) (hts _ q1135) (fun _ h9 => h9) rfl d_Model_addEdge_92 ?_
        refine lv_iload hx hb d_Model_addEdge_95 (lv_at hl 0 rfl) ?_
        refine lv_bipush (v := 6) hx hb d_Model_addEdge_97 (by decide) ?_
        refine lv_iadd hx hb d_Model_addEdge_99 ?_
        refine lv_topi (fun v_211 ev_211 => ?_)
        obtain ⟨qv_211, hv_211⟩ := zI_add (l := 6) (h := 1439) hv_210 zc_6 ev_211 (by decide)
        rw [li_6] at qv_211
        refine lv_aload_n hx hb d_Model_addEdge_100 rfl (lv_at hl 6 rfl) ?_
        refine va_get (D := G.1) (ci := 12) (v := .ref b29) (C := R_Model) (T := F_Model) (N := 54) hx hb hts i_Model hown hK hP 4 rfl rfl 26 (by decide) (hts _ q1135) (fun _ h9 => h9) rfl d_Model_addEdge_101 ?_
        refine lv_iload hx hb d_Model_addEdge_104 (lv_at hl 0 rfl) ?_
        refine va_iald hx hb hK hP 3 0 rfl rfl (zI.inn hv_210 (by decide)) d_Model_addEdge_106 ?_
        refine lv_topi (fun v_212 ev_212 => ?_)
        have kv_212 := zQE.ld hy_145 hv_210 ev_212 (by decide)
        refine va_iast hx hb hK hP hD hS 3 0 rfl rfl (zI.inn hv_211 (by decide)) d_Model_addEdge_107 (fun H locs hP hD hS => ?_)
        obtain ⟨f_213, hf_213, gf_213, uf_213, hP, hD⟩ := z_newq_ (Q := qE) 3 hP hD rfl hy_145 (qE_s kv_212 hv_210 hv_211 (by decide) (by omega))
        have hP : va_P G.1 classes [(b20, .inl (G.2 0, 520, .inl b58)), (b23, .inl (G.2 0, 482, .inl b59)), (b28, .inl (G.2 0, 2, .inl b60)), (b29, .inl (G.2 0, 2880, .inl f_213)), (b0, .inr (12, [.int b3, .ref b4, .ref b5, .ref b6, .ref b7, .int b8, .ref b9, .int b10, .int b11, .int b12, .int b13, .ref b14, .ref b15, .ref b16, .int b17, .ref b18, .ref b19, .ref b20, .ref b21, .ref b22, .ref b23, .ref b24, .ref b25, .ref b26, .ref b27, .ref b28, .ref b29, .int x_15, .ref b31, .ref b32, .int b33, .int b34, .int b35, .int b36, .ref b37, .ref b38, .ref b39, .ref b40, .ref b41, .ref b42, .ref b43, .int b44, .ref b45, .ref b46, .int b47, .ref b48, .ref b49, .ref b50, .ref b51, .ref b52, .int b53, .ref b54, .ref b55, .ref b56])), (b4, .inl (G.2 0, 503, .inl b57))] H := hP
        have hD := z_tie hP hD rfl
        obtain ⟨v_214, ev_214⟩ : ∃ z : Int32, z = y_144 + (-1) := ⟨_, rfl⟩
        obtain ⟨qv_214, hv_214⟩ := zI_add (l := -1) (h := 1432) hv_210 zc_m1 ev_214 (by decide)
        rw [li_m1] at qv_214
        refine lv_iinc (v := v_214) (lv' := [(9, .int v_214), (8, .int v_24), (7, .int x_21), (6, .int x_14), (5, .int x_7), (4, .int x_2), (0, .ref b0), (1, .int 0), (2, .int b1), (3, .int b2)]) hx hb d_Model_addEdge_108 hl (k := 0) rfl (by rw [ev_214]; rfl) (by decide) rfl (fun ls hl => ?_)
        refine lv_goto (tgt := 84) hx hb d_Model_addEdge_111 (by decide) ?_
        exact ihk_143 (v_214) (f_213) _ _ _ (zI.wk (l' := (-1)) (h' := 1433) hv_214 (by decide)) hf_213 (by have p9 := z_pl hv_211 (by decide); have p8 := z_pl hv_210 (by decide); intro q; rw [uf_213, z_at]; by_cases h9 : q = v_211.toNatClampNeg; rw [if_pos h9, ev_212, hli_146, if_neg (by omega), if_pos (by omega)]; congr 1; omega; rw [if_neg h9, hli_146]; by_cases h8 : (y_144.toInt + 6 < (q : Int) ∧ (q : Int) < 6 * (b60 (0 : Int32).toNatClampNeg).toInt + 6); rw [if_pos h8, if_pos (by omega)]; rw [if_neg h8, if_neg (by omega)]) (by omega) (by have h9 := hli_148; omega) (zm_dn qv_214 hmk_143 (by decide)) hP hD hS (lv_sub hl [0, 1, 2, 3, 4, 5, 6, 7, 8, 9] rfl)
abbrev m_s27_Model_edgeAt : Room := { frames := 0, cells := 0, slots := 0, locals := 0 }
set_option maxHeartbeats 4000000 in
set_option maxRecDepth 100000 in
theorem s27_Model_edgeAt (l : Launch) (G : zG) (b0 : Nat) (b1 : Int32) (b2 : Int32) (b3 : Nat) (b4 : Nat) (b5 : Nat) (b6 : Nat) (b7 : Int32) (b8 : Nat) (b9 : Int32) (b10 : Int32) (b11 : Int32) (b12 : Int32) (b13 : Nat) (b14 : Nat) (b15 : Nat) (b16 : Int32) (b17 : Nat) (b18 : Nat) (b19 : Nat) (b20 : Nat) (b21 : Nat) (b22 : Nat) (b23 : Nat) (b24 : Nat) (b25 : Nat) (b26 : Nat) (b27 : Nat) (b28 : Nat) (b29 : Int32) (b30 : Nat) (b31 : Nat) (b32 : Int32) (b33 : Int32) (b34 : Int32) (b35 : Int32) (b36 : Nat) (b37 : Nat) (b38 : Nat) (b39 : Nat) (b40 : Nat) (b41 : Nat) (b42 : Nat) (b43 : Int32) (b44 : Nat) (b45 : Nat) (b46 : Int32) (b47 : Nat) (b48 : Nat) (b49 : Nat) (b50 : Nat) (b51 : Nat) (b52 : Int32) (b53 : Nat) (b54 : Nat) (b55 : Nat) (b56 : Nat → Int32) (hb1 : zI b1 0 239) (hb7 : zI b7 0 8) (hb9 : zI b9 0 240) (hb10 : zI b10 0 240) (hb12 : zI b12 0 1) (hb16 : zI b16 0 12) (hb29 : zI b29 0 1) (hb32 : zI b32 0 1) (hb43 : zI b43 0 1000) (hb46 : zI b46 0 1000) (hb52 : zI b52 0 400) (hb56 : zqa qE b56) : zM l G y_Model_edgeAt prog_14_method_25_code 4 (Option.some Jvm.ClassFile.FieldType.int) m_s27_Model_edgeAt [.ref b0, .int 1, .int b1, .int 0] [(b0, .inr (12, [.int b2, .ref b3, .ref b4, .ref b5, .ref b6, .int b7, .ref b8, .int b9, .int b10, .int b11, .int b12, .ref b13, .ref b14, .ref b15, .int b16, .ref b17, .ref b18, .ref b19, .ref b20, .ref b21, .ref b22, .ref b23, .ref b24, .ref b25, .ref b26, .ref b27, .ref b28, .int b29, .ref b30, .ref b31, .int b32, .int b33, .int b34, .int b35, .ref b36, .ref b37, .ref b38, .ref b39, .ref b40, .ref b41, .ref b42, .int b43, .ref b44, .ref b45, .int b46, .ref b47, .ref b48, .ref b49, .ref b50, .ref b51, .int b52, .ref b53, .ref b54, .ref b55])), (b28, .inl (G.2 0, 2880, .inl b56))] (fun v w => ∃ (e0 : Int32), v = some (.int e0) ∧ w = [(b0, .inr (12, [.int b2, .ref b3, .ref b4, .ref b5, .ref b6, .int b7, .ref b8, .int b9, .int b10, .int b11, .int b12, .ref b13, .ref b14, .ref b15, .int b16, .ref b17, .ref b18, .ref b19, .ref b20, .ref b21, .ref b22, .ref b23, .ref b24, .ref b25, .ref b26, .ref b27, .ref b28, .int b29, .ref b30, .ref b31, .int b32, .int b33, .int b34, .int b35, .ref b36, .ref b37, .ref b38, .ref b39, .ref b40, .ref b41, .ref b42, .int b43, .ref b44, .ref b45, .int b46, .ref b47, .ref b48, .ref b49, .ref b50, .ref b51, .int b52, .ref b53, .ref b54, .ref b55])), (b28, .inl (G.2 0, 2880, .inl b56))] ∧ (zI e0 0 240) ∧ (e0 = b56 (1440 + 6 * b1.toInt.toNat))) := by
  refine z_start (by decide +kernel) (Nat.le_of_ble_eq_true rfl) ?_
  intro p e s m below meth c A Z hr hnm hA hP hD hS ls hl
  have Z : zC p s m _ meth c prog_14_method_25_code 4 "TraceMachinesModel" G := Z
  obtain ⟨hx, hb, hml, hown, hts, hK, hN, hlocks⟩ := id Z
  have hl : lv_has ls 4 [(0, .ref b0), (1, .int 1), (2, .int b1), (3, .int 0)] := hl
  refine lv_aload_n hx hb d_Model_edgeAt_0 rfl (lv_at hl 0 rfl) ?_
  refine va_get (D := G.1) (ci := 12) (v := .ref b28) (C := R_Model) (T := F_Model) (N := 54) hx hb hts i_Model hown hK hP 0 rfl rfl 26 (by decide) (hts _ q1135) (fun _ h9 => h9) rfl d_Model_edgeAt_1 ?_
  refine lv_bipush (v := 6) hx hb d_Model_edgeAt_4 (by decide) ?_
  refine lv_sipush (v := 240) hx hb d_Model_edgeAt_6 (by decide) ?_
  refine lv_iload_n hx hb d_Model_edgeAt_9 rfl (lv_at hl 1 rfl) ?_
  refine lv_imul hx hb d_Model_edgeAt_10 ?_
  refine z_topi (y := 240) (by decide +kernel) ?_
  refine lv_iload_n hx hb d_Model_edgeAt_11 rfl (lv_at hl 2 rfl) ?_
  refine lv_iadd hx hb d_Model_edgeAt_12 ?_
  refine lv_topi (fun v_1 ev_1 => ?_)
  obtain ⟨qv_1, hv_1⟩ := zI_add (l := 240) (h := 479) zc_240 hb1 ev_1 (by decide)
  rw [li_240] at qv_1
  refine lv_imul hx hb d_Model_edgeAt_13 ?_
  refine lv_topi (fun v_2 ev_2 => ?_)
  obtain ⟨qv_2, hv_2⟩ := zI_mul (l := 1440) (h := 2874) zc_6 hv_1 ev_2 (by decide)
  rw [li_6] at qv_2
  refine lv_iload_n hx hb d_Model_edgeAt_14 rfl (lv_at hl 3 rfl) ?_
  refine lv_iadd hx hb d_Model_edgeAt_15 ?_
  refine lv_topi (fun v_3 ev_3 => ?_)
  obtain ⟨qv_3, hv_3⟩ := zI_add (l := 1440) (h := 2874) hv_2 zc_0 ev_3 (by decide)
  rw [li_0] at qv_3
  refine va_iald hx hb hK hP 1 0 rfl rfl (zI.inn hv_3 (by decide)) d_Model_edgeAt_16 ?_
  refine lv_topi (fun v_4 ev_4 => ?_)
  have kv_4 := zQE.ld hb56 hv_3 ev_4 (by decide)
  have hv_4 : zI v_4 0 240 := kv_4.1 (by omega)
  exact z_iret hx hb hr hlocks hP hD hS (Nat.le_of_ble_eq_true rfl) (Nat.le_of_ble_eq_true rfl) d_Model_edgeAt_17 ⟨v_4, rfl, rfl, hv_4, (by rw [ev_4, z_plf hv_3 (by decide)]; congr 1; omega)⟩
abbrev m_s28_Model_edgeAt : Room := { frames := 0, cells := 0, slots := 0, locals := 0 }
set_option maxHeartbeats 4000000 in
set_option maxRecDepth 100000 in
theorem s28_Model_edgeAt (l : Launch) (G : zG) (b0 : Nat) (b1 : Int32) (b2 : Int32) (b3 : Nat) (b4 : Nat) (b5 : Nat) (b6 : Nat) (b7 : Int32) (b8 : Nat) (b9 : Int32) (b10 : Int32) (b11 : Int32) (b12 : Int32) (b13 : Nat) (b14 : Nat) (b15 : Nat) (b16 : Int32) (b17 : Nat) (b18 : Nat) (b19 : Nat) (b20 : Nat) (b21 : Nat) (b22 : Nat) (b23 : Nat) (b24 : Nat) (b25 : Nat) (b26 : Nat) (b27 : Nat) (b28 : Nat) (b29 : Int32) (b30 : Nat) (b31 : Nat) (b32 : Int32) (b33 : Int32) (b34 : Int32) (b35 : Int32) (b36 : Nat) (b37 : Nat) (b38 : Nat) (b39 : Nat) (b40 : Nat) (b41 : Nat) (b42 : Nat) (b43 : Int32) (b44 : Nat) (b45 : Nat) (b46 : Int32) (b47 : Nat) (b48 : Nat) (b49 : Nat) (b50 : Nat) (b51 : Nat) (b52 : Int32) (b53 : Nat) (b54 : Nat) (b55 : Nat) (b56 : Nat → Int32) (hb1 : zI b1 0 239) (hb7 : zI b7 0 8) (hb9 : zI b9 0 240) (hb10 : zI b10 0 240) (hb12 : zI b12 0 1) (hb16 : zI b16 0 12) (hb29 : zI b29 0 1) (hb32 : zI b32 0 1) (hb43 : zI b43 0 1000) (hb46 : zI b46 0 1000) (hb52 : zI b52 0 400) (hb56 : zqa qE b56) : zM l G y_Model_edgeAt prog_14_method_25_code 4 (Option.some Jvm.ClassFile.FieldType.int) m_s28_Model_edgeAt [.ref b0, .int 1, .int b1, .int 1] [(b0, .inr (12, [.int b2, .ref b3, .ref b4, .ref b5, .ref b6, .int b7, .ref b8, .int b9, .int b10, .int b11, .int b12, .ref b13, .ref b14, .ref b15, .int b16, .ref b17, .ref b18, .ref b19, .ref b20, .ref b21, .ref b22, .ref b23, .ref b24, .ref b25, .ref b26, .ref b27, .ref b28, .int b29, .ref b30, .ref b31, .int b32, .int b33, .int b34, .int b35, .ref b36, .ref b37, .ref b38, .ref b39, .ref b40, .ref b41, .ref b42, .int b43, .ref b44, .ref b45, .int b46, .ref b47, .ref b48, .ref b49, .ref b50, .ref b51, .int b52, .ref b53, .ref b54, .ref b55])), (b28, .inl (G.2 0, 2880, .inl b56))] (fun v w => ∃ (e0 : Int32), v = some (.int e0) ∧ w = [(b0, .inr (12, [.int b2, .ref b3, .ref b4, .ref b5, .ref b6, .int b7, .ref b8, .int b9, .int b10, .int b11, .int b12, .ref b13, .ref b14, .ref b15, .int b16, .ref b17, .ref b18, .ref b19, .ref b20, .ref b21, .ref b22, .ref b23, .ref b24, .ref b25, .ref b26, .ref b27, .ref b28, .int b29, .ref b30, .ref b31, .int b32, .int b33, .int b34, .int b35, .ref b36, .ref b37, .ref b38, .ref b39, .ref b40, .ref b41, .ref b42, .int b43, .ref b44, .ref b45, .int b46, .ref b47, .ref b48, .ref b49, .ref b50, .ref b51, .int b52, .ref b53, .ref b54, .ref b55])), (b28, .inl (G.2 0, 2880, .inl b56))] ∧ (zI e0 0 9) ∧ (e0 = b56 (1440 + 6 * b1.toInt.toNat + 1))) := by
  refine z_start (by decide +kernel) (Nat.le_of_ble_eq_true rfl) ?_
  intro p e s m below meth c A Z hr hnm hA hP hD hS ls hl
  have Z : zC p s m _ meth c prog_14_method_25_code 4 "TraceMachinesModel" G := Z
  obtain ⟨hx, hb, hml, hown, hts, hK, hN, hlocks⟩ := id Z
  have hl : lv_has ls 4 [(0, .ref b0), (1, .int 1), (2, .int b1), (3, .int 1)] := hl
  refine lv_aload_n hx hb d_Model_edgeAt_0 rfl (lv_at hl 0 rfl) ?_
  refine va_get (D := G.1) (ci := 12) (v := .ref b28) (C := R_Model) (T := F_Model) (N := 54) hx hb hts i_Model hown hK hP 0 rfl rfl 26 (by decide) (hts _ q1135) (fun _ h9 => h9) rfl d_Model_edgeAt_1 ?_
  refine lv_bipush (v := 6) hx hb d_Model_edgeAt_4 (by decide) ?_
  refine lv_sipush (v := 240) hx hb d_Model_edgeAt_6 (by decide) ?_
  refine lv_iload_n hx hb d_Model_edgeAt_9 rfl (lv_at hl 1 rfl) ?_
  refine lv_imul hx hb d_Model_edgeAt_10 ?_
  refine z_topi (y := 240) (by decide +kernel) ?_
  refine lv_iload_n hx hb d_Model_edgeAt_11 rfl (lv_at hl 2 rfl) ?_
  refine lv_iadd hx hb d_Model_edgeAt_12 ?_
  refine lv_topi (fun v_1 ev_1 => ?_)
  obtain ⟨qv_1, hv_1⟩ := zI_add (l := 240) (h := 479) zc_240 hb1 ev_1 (by decide)
  rw [li_240] at qv_1
  refine lv_imul hx hb d_Model_edgeAt_13 ?_
  refine lv_topi (fun v_2 ev_2 => ?_)
  obtain ⟨qv_2, hv_2⟩ := zI_mul (l := 1440) (h := 2874) zc_6 hv_1 ev_2 (by decide)
  rw [li_6] at qv_2
  refine lv_iload_n hx hb d_Model_edgeAt_14 rfl (lv_at hl 3 rfl) ?_
  refine lv_iadd hx hb d_Model_edgeAt_15 ?_
  refine lv_topi (fun v_3 ev_3 => ?_)
  obtain ⟨qv_3, hv_3⟩ := zI_add (l := 1441) (h := 2875) hv_2 zc_1 ev_3 (by decide)
  rw [li_1] at qv_3
  refine va_iald hx hb hK hP 1 0 rfl rfl (zI.inn hv_3 (by decide)) d_Model_edgeAt_16 ?_
  refine lv_topi (fun v_4 ev_4 => ?_)
  have kv_4 := zQE.ld hb56 hv_3 ev_4 (by decide)
  have hv_4 : zI v_4 0 9 := kv_4.2.1 (by omega)
  exact z_iret hx hb hr hlocks hP hD hS (Nat.le_of_ble_eq_true rfl) (Nat.le_of_ble_eq_true rfl) d_Model_edgeAt_17 ⟨v_4, rfl, rfl, hv_4, (by rw [ev_4, z_plf hv_3 (by decide)]; congr 1; omega)⟩
abbrev m_s29_Model_edgeAt : Room := { frames := 0, cells := 0, slots := 0, locals := 0 }
set_option maxHeartbeats 4000000 in
set_option maxRecDepth 100000 in
theorem s29_Model_edgeAt (l : Launch) (G : zG) (b0 : Nat) (b1 : Int32) (b2 : Int32) (b3 : Nat) (b4 : Nat) (b5 : Nat) (b6 : Nat) (b7 : Int32) (b8 : Nat) (b9 : Int32) (b10 : Int32) (b11 : Int32) (b12 : Int32) (b13 : Nat) (b14 : Nat) (b15 : Nat) (b16 : Int32) (b17 : Nat) (b18 : Nat) (b19 : Nat) (b20 : Nat) (b21 : Nat) (b22 : Nat) (b23 : Nat) (b24 : Nat) (b25 : Nat) (b26 : Nat) (b27 : Nat) (b28 : Nat) (b29 : Int32) (b30 : Nat) (b31 : Nat) (b32 : Int32) (b33 : Int32) (b34 : Int32) (b35 : Int32) (b36 : Nat) (b37 : Nat) (b38 : Nat) (b39 : Nat) (b40 : Nat) (b41 : Nat) (b42 : Nat) (b43 : Int32) (b44 : Nat) (b45 : Nat) (b46 : Int32) (b47 : Nat) (b48 : Nat) (b49 : Nat) (b50 : Nat) (b51 : Nat) (b52 : Int32) (b53 : Nat) (b54 : Nat) (b55 : Nat) (b56 : Nat → Int32) (hb1 : zI b1 0 239) (hb7 : zI b7 0 8) (hb9 : zI b9 0 240) (hb10 : zI b10 0 240) (hb12 : zI b12 0 1) (hb16 : zI b16 0 12) (hb29 : zI b29 0 1) (hb32 : zI b32 0 1) (hb43 : zI b43 0 1000) (hb46 : zI b46 0 1000) (hb52 : zI b52 0 400) (hb56 : zqa qE b56) : zM l G y_Model_edgeAt prog_14_method_25_code 4 (Option.some Jvm.ClassFile.FieldType.int) m_s29_Model_edgeAt [.ref b0, .int 1, .int b1, .int 2] [(b0, .inr (12, [.int b2, .ref b3, .ref b4, .ref b5, .ref b6, .int b7, .ref b8, .int b9, .int b10, .int b11, .int b12, .ref b13, .ref b14, .ref b15, .int b16, .ref b17, .ref b18, .ref b19, .ref b20, .ref b21, .ref b22, .ref b23, .ref b24, .ref b25, .ref b26, .ref b27, .ref b28, .int b29, .ref b30, .ref b31, .int b32, .int b33, .int b34, .int b35, .ref b36, .ref b37, .ref b38, .ref b39, .ref b40, .ref b41, .ref b42, .int b43, .ref b44, .ref b45, .int b46, .ref b47, .ref b48, .ref b49, .ref b50, .ref b51, .int b52, .ref b53, .ref b54, .ref b55])), (b28, .inl (G.2 0, 2880, .inl b56))] (fun v w => ∃ (e0 : Int32), v = some (.int e0) ∧ w = [(b0, .inr (12, [.int b2, .ref b3, .ref b4, .ref b5, .ref b6, .int b7, .ref b8, .int b9, .int b10, .int b11, .int b12, .ref b13, .ref b14, .ref b15, .int b16, .ref b17, .ref b18, .ref b19, .ref b20, .ref b21, .ref b22, .ref b23, .ref b24, .ref b25, .ref b26, .ref b27, .ref b28, .int b29, .ref b30, .ref b31, .int b32, .int b33, .int b34, .int b35, .ref b36, .ref b37, .ref b38, .ref b39, .ref b40, .ref b41, .ref b42, .int b43, .ref b44, .ref b45, .int b46, .ref b47, .ref b48, .ref b49, .ref b50, .ref b51, .int b52, .ref b53, .ref b54, .ref b55])), (b28, .inl (G.2 0, 2880, .inl b56))] ∧ (zI e0 0 240) ∧ (e0 = b56 (1440 + 6 * b1.toInt.toNat + 2))) := by
  refine z_start (by decide +kernel) (Nat.le_of_ble_eq_true rfl) ?_
  intro p e s m below meth c A Z hr hnm hA hP hD hS ls hl
  have Z : zC p s m _ meth c prog_14_method_25_code 4 "TraceMachinesModel" G := Z
  obtain ⟨hx, hb, hml, hown, hts, hK, hN, hlocks⟩ := id Z
  have hl : lv_has ls 4 [(0, .ref b0), (1, .int 1), (2, .int b1), (3, .int 2)] := hl
  refine lv_aload_n hx hb d_Model_edgeAt_0 rfl (lv_at hl 0 rfl) ?_
  refine va_get (D := G.1) (ci := 12) (v := .ref b28) (C := R_Model) (T := F_Model) (N := 54) hx hb hts i_Model hown hK hP 0 rfl rfl 26 (by decide) (hts _ q1135) (fun _ h9 => h9) rfl d_Model_edgeAt_1 ?_
  refine lv_bipush (v := 6) hx hb d_Model_edgeAt_4 (by decide) ?_
  refine lv_sipush (v := 240) hx hb d_Model_edgeAt_6 (by decide) ?_
  refine lv_iload_n hx hb d_Model_edgeAt_9 rfl (lv_at hl 1 rfl) ?_
  refine lv_imul hx hb d_Model_edgeAt_10 ?_
  refine z_topi (y := 240) (by decide +kernel) ?_
  refine lv_iload_n hx hb d_Model_edgeAt_11 rfl (lv_at hl 2 rfl) ?_
  refine lv_iadd hx hb d_Model_edgeAt_12 ?_
  refine lv_topi (fun v_1 ev_1 => ?_)
  obtain ⟨qv_1, hv_1⟩ := zI_add (l := 240) (h := 479) zc_240 hb1 ev_1 (by decide)
  rw [li_240] at qv_1
  refine lv_imul hx hb d_Model_edgeAt_13 ?_
  refine lv_topi (fun v_2 ev_2 => ?_)
  obtain ⟨qv_2, hv_2⟩ := zI_mul (l := 1440) (h := 2874) zc_6 hv_1 ev_2 (by decide)
  rw [li_6] at qv_2
  refine lv_iload_n hx hb d_Model_edgeAt_14 rfl (lv_at hl 3 rfl) ?_
  refine lv_iadd hx hb d_Model_edgeAt_15 ?_
  refine lv_topi (fun v_3 ev_3 => ?_)
  obtain ⟨qv_3, hv_3⟩ := zI_add (l := 1442) (h := 2876) hv_2 zc_2 ev_3 (by decide)
  rw [li_2] at qv_3
  refine va_iald hx hb hK hP 1 0 rfl rfl (zI.inn hv_3 (by decide)) d_Model_edgeAt_16 ?_
  refine lv_topi (fun v_4 ev_4 => ?_)
  have kv_4 := zQE.ld hb56 hv_3 ev_4 (by decide)
  have hv_4 : zI v_4 0 240 := kv_4.2.2 (by omega)
  exact z_iret hx hb hr hlocks hP hD hS (Nat.le_of_ble_eq_true rfl) (Nat.le_of_ble_eq_true rfl) d_Model_edgeAt_17 ⟨v_4, rfl, rfl, hv_4, (by rw [ev_4, z_plf hv_3 (by decide)]; congr 1; omega)⟩
abbrev m_s30_Model_edgeAt : Room := { frames := 0, cells := 0, slots := 0, locals := 0 }
set_option maxHeartbeats 4000000 in
set_option maxRecDepth 100000 in
theorem s30_Model_edgeAt (l : Launch) (G : zG) (b0 : Nat) (b1 : Int32) (b2 : Int32) (b3 : Nat) (b4 : Nat) (b5 : Nat) (b6 : Nat) (b7 : Int32) (b8 : Nat) (b9 : Int32) (b10 : Int32) (b11 : Int32) (b12 : Int32) (b13 : Nat) (b14 : Nat) (b15 : Nat) (b16 : Int32) (b17 : Nat) (b18 : Nat) (b19 : Nat) (b20 : Nat) (b21 : Nat) (b22 : Nat) (b23 : Nat) (b24 : Nat) (b25 : Nat) (b26 : Nat) (b27 : Nat) (b28 : Nat) (b29 : Int32) (b30 : Nat) (b31 : Nat) (b32 : Int32) (b33 : Int32) (b34 : Int32) (b35 : Int32) (b36 : Nat) (b37 : Nat) (b38 : Nat) (b39 : Nat) (b40 : Nat) (b41 : Nat) (b42 : Nat) (b43 : Int32) (b44 : Nat) (b45 : Nat) (b46 : Int32) (b47 : Nat) (b48 : Nat) (b49 : Nat) (b50 : Nat) (b51 : Nat) (b52 : Int32) (b53 : Nat) (b54 : Nat) (b55 : Nat) (b56 : Nat → Int32) (hb1 : zI b1 0 239) (hb7 : zI b7 0 8) (hb9 : zI b9 0 240) (hb10 : zI b10 0 240) (hb12 : zI b12 0 1) (hb16 : zI b16 0 12) (hb29 : zI b29 0 1) (hb32 : zI b32 0 1) (hb43 : zI b43 0 1000) (hb46 : zI b46 0 1000) (hb52 : zI b52 0 400) (hb56 : zqa qE b56) : zM l G y_Model_edgeAt prog_14_method_25_code 4 (Option.some Jvm.ClassFile.FieldType.int) m_s30_Model_edgeAt [.ref b0, .int 1, .int b1, .int 3] [(b0, .inr (12, [.int b2, .ref b3, .ref b4, .ref b5, .ref b6, .int b7, .ref b8, .int b9, .int b10, .int b11, .int b12, .ref b13, .ref b14, .ref b15, .int b16, .ref b17, .ref b18, .ref b19, .ref b20, .ref b21, .ref b22, .ref b23, .ref b24, .ref b25, .ref b26, .ref b27, .ref b28, .int b29, .ref b30, .ref b31, .int b32, .int b33, .int b34, .int b35, .ref b36, .ref b37, .ref b38, .ref b39, .ref b40, .ref b41, .ref b42, .int b43, .ref b44, .ref b45, .int b46, .ref b47, .ref b48, .ref b49, .ref b50, .ref b51, .int b52, .ref b53, .ref b54, .ref b55])), (b28, .inl (G.2 0, 2880, .inl b56))] (fun v w => ∃ (e0 : Int32), v = some (.int e0) ∧ w = [(b0, .inr (12, [.int b2, .ref b3, .ref b4, .ref b5, .ref b6, .int b7, .ref b8, .int b9, .int b10, .int b11, .int b12, .ref b13, .ref b14, .ref b15, .int b16, .ref b17, .ref b18, .ref b19, .ref b20, .ref b21, .ref b22, .ref b23, .ref b24, .ref b25, .ref b26, .ref b27, .ref b28, .int b29, .ref b30, .ref b31, .int b32, .int b33, .int b34, .int b35, .ref b36, .ref b37, .ref b38, .ref b39, .ref b40, .ref b41, .ref b42, .int b43, .ref b44, .ref b45, .int b46, .ref b47, .ref b48, .ref b49, .ref b50, .ref b51, .int b52, .ref b53, .ref b54, .ref b55])), (b28, .inl (G.2 0, 2880, .inl b56))] ∧ (e0 = b56 (1440 + 6 * b1.toInt.toNat + 3))) := by
  refine z_start (by decide +kernel) (Nat.le_of_ble_eq_true rfl) ?_
  intro p e s m below meth c A Z hr hnm hA hP hD hS ls hl
  have Z : zC p s m _ meth c prog_14_method_25_code 4 "TraceMachinesModel" G := Z
  obtain ⟨hx, hb, hml, hown, hts, hK, hN, hlocks⟩ := id Z
  have hl : lv_has ls 4 [(0, .ref b0), (1, .int 1), (2, .int b1), (3, .int 3)] := hl
  refine lv_aload_n hx hb d_Model_edgeAt_0 rfl (lv_at hl 0 rfl) ?_
  refine va_get (D := G.1) (ci := 12) (v := .ref b28) (C := R_Model) (T := F_Model) (N := 54) hx hb hts i_Model hown hK hP 0 rfl rfl 26 (by decide) (hts _ q1135) (fun _ h9 => h9) rfl d_Model_edgeAt_1 ?_
  refine lv_bipush (v := 6) hx hb d_Model_edgeAt_4 (by decide) ?_
  refine lv_sipush (v := 240) hx hb d_Model_edgeAt_6 (by decide) ?_
  refine lv_iload_n hx hb d_Model_edgeAt_9 rfl (lv_at hl 1 rfl) ?_
  refine lv_imul hx hb d_Model_edgeAt_10 ?_
  refine z_topi (y := 240) (by decide +kernel) ?_
  refine lv_iload_n hx hb d_Model_edgeAt_11 rfl (lv_at hl 2 rfl) ?_
  refine lv_iadd hx hb d_Model_edgeAt_12 ?_
  refine lv_topi (fun v_1 ev_1 => ?_)
  obtain ⟨qv_1, hv_1⟩ := zI_add (l := 240) (h := 479) zc_240 hb1 ev_1 (by decide)
  rw [li_240] at qv_1
  refine lv_imul hx hb d_Model_edgeAt_13 ?_
  refine lv_topi (fun v_2 ev_2 => ?_)
  obtain ⟨qv_2, hv_2⟩ := zI_mul (l := 1440) (h := 2874) zc_6 hv_1 ev_2 (by decide)
  rw [li_6] at qv_2
  refine lv_iload_n hx hb d_Model_edgeAt_14 rfl (lv_at hl 3 rfl) ?_
  refine lv_iadd hx hb d_Model_edgeAt_15 ?_
  refine lv_topi (fun v_3 ev_3 => ?_)
  obtain ⟨qv_3, hv_3⟩ := zI_add (l := 1443) (h := 2877) hv_2 zc_3 ev_3 (by decide)
  rw [li_3] at qv_3
  refine va_iald hx hb hK hP 1 0 rfl rfl (zI.inn hv_3 (by decide)) d_Model_edgeAt_16 ?_
  refine lv_topi (fun v_4 ev_4 => ?_)
  have kv_4 := zQE.ld hb56 hv_3 ev_4 (by decide)
  exact z_iret hx hb hr hlocks hP hD hS (Nat.le_of_ble_eq_true rfl) (Nat.le_of_ble_eq_true rfl) d_Model_edgeAt_17 ⟨v_4, rfl, rfl, (by rw [ev_4, z_plf hv_3 (by decide)]; congr 1; omega)⟩
abbrev m_s31_Model_edgeAt : Room := { frames := 0, cells := 0, slots := 0, locals := 0 }
set_option maxHeartbeats 4000000 in
set_option maxRecDepth 100000 in
theorem s31_Model_edgeAt (l : Launch) (G : zG) (b0 : Nat) (b1 : Int32) (b2 : Int32) (b3 : Nat) (b4 : Nat) (b5 : Nat) (b6 : Nat) (b7 : Int32) (b8 : Nat) (b9 : Int32) (b10 : Int32) (b11 : Int32) (b12 : Int32) (b13 : Nat) (b14 : Nat) (b15 : Nat) (b16 : Int32) (b17 : Nat) (b18 : Nat) (b19 : Nat) (b20 : Nat) (b21 : Nat) (b22 : Nat) (b23 : Nat) (b24 : Nat) (b25 : Nat) (b26 : Nat) (b27 : Nat) (b28 : Nat) (b29 : Int32) (b30 : Nat) (b31 : Nat) (b32 : Int32) (b33 : Int32) (b34 : Int32) (b35 : Int32) (b36 : Nat) (b37 : Nat) (b38 : Nat) (b39 : Nat) (b40 : Nat) (b41 : Nat) (b42 : Nat) (b43 : Int32) (b44 : Nat) (b45 : Nat) (b46 : Int32) (b47 : Nat) (b48 : Nat) (b49 : Nat) (b50 : Nat) (b51 : Nat) (b52 : Int32) (b53 : Nat) (b54 : Nat) (b55 : Nat) (b56 : Nat → Int32) (hb1 : zI b1 0 239) (hb7 : zI b7 0 8) (hb9 : zI b9 0 240) (hb10 : zI b10 0 240) (hb12 : zI b12 0 1) (hb16 : zI b16 0 12) (hb29 : zI b29 0 1) (hb32 : zI b32 0 1) (hb43 : zI b43 0 1000) (hb46 : zI b46 0 1000) (hb52 : zI b52 0 400) (hb56 : zqa qE b56) : zM l G y_Model_edgeAt prog_14_method_25_code 4 (Option.some Jvm.ClassFile.FieldType.int) m_s31_Model_edgeAt [.ref b0, .int 1, .int b1, .int 4] [(b0, .inr (12, [.int b2, .ref b3, .ref b4, .ref b5, .ref b6, .int b7, .ref b8, .int b9, .int b10, .int b11, .int b12, .ref b13, .ref b14, .ref b15, .int b16, .ref b17, .ref b18, .ref b19, .ref b20, .ref b21, .ref b22, .ref b23, .ref b24, .ref b25, .ref b26, .ref b27, .ref b28, .int b29, .ref b30, .ref b31, .int b32, .int b33, .int b34, .int b35, .ref b36, .ref b37, .ref b38, .ref b39, .ref b40, .ref b41, .ref b42, .int b43, .ref b44, .ref b45, .int b46, .ref b47, .ref b48, .ref b49, .ref b50, .ref b51, .int b52, .ref b53, .ref b54, .ref b55])), (b28, .inl (G.2 0, 2880, .inl b56))] (fun v w => ∃ (e0 : Int32), v = some (.int e0) ∧ w = [(b0, .inr (12, [.int b2, .ref b3, .ref b4, .ref b5, .ref b6, .int b7, .ref b8, .int b9, .int b10, .int b11, .int b12, .ref b13, .ref b14, .ref b15, .int b16, .ref b17, .ref b18, .ref b19, .ref b20, .ref b21, .ref b22, .ref b23, .ref b24, .ref b25, .ref b26, .ref b27, .ref b28, .int b29, .ref b30, .ref b31, .int b32, .int b33, .int b34, .int b35, .ref b36, .ref b37, .ref b38, .ref b39, .ref b40, .ref b41, .ref b42, .int b43, .ref b44, .ref b45, .int b46, .ref b47, .ref b48, .ref b49, .ref b50, .ref b51, .int b52, .ref b53, .ref b54, .ref b55])), (b28, .inl (G.2 0, 2880, .inl b56))] ∧ (e0 = b56 (1440 + 6 * b1.toInt.toNat + 4))) := by
  refine z_start (by decide +kernel) (Nat.le_of_ble_eq_true rfl) ?_
  intro p e s m below meth c A Z hr hnm hA hP hD hS ls hl
  have Z : zC p s m _ meth c prog_14_method_25_code 4 "TraceMachinesModel" G := Z
  obtain ⟨hx, hb, hml, hown, hts, hK, hN, hlocks⟩ := id Z
  have hl : lv_has ls 4 [(0, .ref b0), (1, .int 1), (2, .int b1), (3, .int 4)] := hl
  refine lv_aload_n hx hb d_Model_edgeAt_0 rfl (lv_at hl 0 rfl) ?_
  refine va_get (D := G.1) (ci := 12) (v := .ref b28) (C := R_Model) (T := F_Model) (N := 54) hx hb hts i_Model hown hK hP 0 rfl rfl 26 (by decide) (hts _ q1135) (fun _ h9 => h9) rfl d_Model_edgeAt_1 ?_
  refine lv_bipush (v := 6) hx hb d_Model_edgeAt_4 (by decide) ?_
  refine lv_sipush (v := 240) hx hb d_Model_edgeAt_6 (by decide) ?_
  refine lv_iload_n hx hb d_Model_edgeAt_9 rfl (lv_at hl 1 rfl) ?_
  refine lv_imul hx hb d_Model_edgeAt_10 ?_
  refine z_topi (y := 240) (by decide +kernel) ?_
  refine lv_iload_n hx hb d_Model_edgeAt_11 rfl (lv_at hl 2 rfl) ?_
  refine lv_iadd hx hb d_Model_edgeAt_12 ?_
  refine lv_topi (fun v_1 ev_1 => ?_)
  obtain ⟨qv_1, hv_1⟩ := zI_add (l := 240) (h := 479) zc_240 hb1 ev_1 (by decide)
  rw [li_240] at qv_1
  refine lv_imul hx hb d_Model_edgeAt_13 ?_
  refine lv_topi (fun v_2 ev_2 => ?_)
  obtain ⟨qv_2, hv_2⟩ := zI_mul (l := 1440) (h := 2874) zc_6 hv_1 ev_2 (by decide)
  rw [li_6] at qv_2
  refine lv_iload_n hx hb d_Model_edgeAt_14 rfl (lv_at hl 3 rfl) ?_
  refine lv_iadd hx hb d_Model_edgeAt_15 ?_
  refine lv_topi (fun v_3 ev_3 => ?_)
  obtain ⟨qv_3, hv_3⟩ := zI_add (l := 1444) (h := 2878) hv_2 zc_4 ev_3 (by decide)
  rw [li_4] at qv_3
  refine va_iald hx hb hK hP 1 0 rfl rfl (zI.inn hv_3 (by decide)) d_Model_edgeAt_16 ?_
  refine lv_topi (fun v_4 ev_4 => ?_)
  have kv_4 := zQE.ld hb56 hv_3 ev_4 (by decide)
  exact z_iret hx hb hr hlocks hP hD hS (Nat.le_of_ble_eq_true rfl) (Nat.le_of_ble_eq_true rfl) d_Model_edgeAt_17 ⟨v_4, rfl, rfl, (by rw [ev_4, z_plf hv_3 (by decide)]; congr 1; omega)⟩
abbrev m_s32_Model_edgeAt : Room := { frames := 0, cells := 0, slots := 0, locals := 0 }
set_option maxHeartbeats 4000000 in
set_option maxRecDepth 100000 in
theorem s32_Model_edgeAt (l : Launch) (G : zG) (b0 : Nat) (b1 : Int32) (b2 : Int32) (b3 : Nat) (b4 : Nat) (b5 : Nat) (b6 : Nat) (b7 : Int32) (b8 : Nat) (b9 : Int32) (b10 : Int32) (b11 : Int32) (b12 : Int32) (b13 : Nat) (b14 : Nat) (b15 : Nat) (b16 : Int32) (b17 : Nat) (b18 : Nat) (b19 : Nat) (b20 : Nat) (b21 : Nat) (b22 : Nat) (b23 : Nat) (b24 : Nat) (b25 : Nat) (b26 : Nat) (b27 : Nat) (b28 : Nat) (b29 : Int32) (b30 : Nat) (b31 : Nat) (b32 : Int32) (b33 : Int32) (b34 : Int32) (b35 : Int32) (b36 : Nat) (b37 : Nat) (b38 : Nat) (b39 : Nat) (b40 : Nat) (b41 : Nat) (b42 : Nat) (b43 : Int32) (b44 : Nat) (b45 : Nat) (b46 : Int32) (b47 : Nat) (b48 : Nat) (b49 : Nat) (b50 : Nat) (b51 : Nat) (b52 : Int32) (b53 : Nat) (b54 : Nat) (b55 : Nat) (b56 : Nat → Int32) (hb1 : zI b1 0 239) (hb7 : zI b7 0 8) (hb9 : zI b9 0 240) (hb10 : zI b10 0 240) (hb12 : zI b12 0 1) (hb16 : zI b16 0 12) (hb29 : zI b29 0 1) (hb32 : zI b32 0 1) (hb43 : zI b43 0 1000) (hb46 : zI b46 0 1000) (hb52 : zI b52 0 400) (hb56 : zqa qE b56) : zM l G y_Model_edgeAt prog_14_method_25_code 4 (Option.some Jvm.ClassFile.FieldType.int) m_s32_Model_edgeAt [.ref b0, .int 1, .int b1, .int 5] [(b0, .inr (12, [.int b2, .ref b3, .ref b4, .ref b5, .ref b6, .int b7, .ref b8, .int b9, .int b10, .int b11, .int b12, .ref b13, .ref b14, .ref b15, .int b16, .ref b17, .ref b18, .ref b19, .ref b20, .ref b21, .ref b22, .ref b23, .ref b24, .ref b25, .ref b26, .ref b27, .ref b28, .int b29, .ref b30, .ref b31, .int b32, .int b33, .int b34, .int b35, .ref b36, .ref b37, .ref b38, .ref b39, .ref b40, .ref b41, .ref b42, .int b43, .ref b44, .ref b45, .int b46, .ref b47, .ref b48, .ref b49, .ref b50, .ref b51, .int b52, .ref b53, .ref b54, .ref b55])), (b28, .inl (G.2 0, 2880, .inl b56))] (fun v w => ∃ (e0 : Int32), v = some (.int e0) ∧ w = [(b0, .inr (12, [.int b2, .ref b3, .ref b4, .ref b5, .ref b6, .int b7, .ref b8, .int b9, .int b10, .int b11, .int b12, .ref b13, .ref b14, .ref b15, .int b16, .ref b17, .ref b18, .ref b19, .ref b20, .ref b21, .ref b22, .ref b23, .ref b24, .ref b25, .ref b26, .ref b27, .ref b28, .int b29, .ref b30, .ref b31, .int b32, .int b33, .int b34, .int b35, .ref b36, .ref b37, .ref b38, .ref b39, .ref b40, .ref b41, .ref b42, .int b43, .ref b44, .ref b45, .int b46, .ref b47, .ref b48, .ref b49, .ref b50, .ref b51, .int b52, .ref b53, .ref b54, .ref b55])), (b28, .inl (G.2 0, 2880, .inl b56))] ∧ (e0 = b56 (1440 + 6 * b1.toInt.toNat + 5))) := by
  refine z_start (by decide +kernel) (Nat.le_of_ble_eq_true rfl) ?_
  intro p e s m below meth c A Z hr hnm hA hP hD hS ls hl
  have Z : zC p s m _ meth c prog_14_method_25_code 4 "TraceMachinesModel" G := Z
  obtain ⟨hx, hb, hml, hown, hts, hK, hN, hlocks⟩ := id Z
  have hl : lv_has ls 4 [(0, .ref b0), (1, .int 1), (2, .int b1), (3, .int 5)] := hl
  refine lv_aload_n hx hb d_Model_edgeAt_0 rfl (lv_at hl 0 rfl) ?_
  refine va_get (D := G.1) (ci := 12) (v := .ref b28) (C := R_Model) (T := F_Model) (N := 54) hx hb hts i_Model hown hK hP 0 rfl rfl 26 (by decide) (hts _ q1135) (fun _ h9 => h9) rfl d_Model_edgeAt_1 ?_
  refine lv_bipush (v := 6) hx hb d_Model_edgeAt_4 (by decide) ?_
  refine lv_sipush (v := 240) hx hb d_Model_edgeAt_6 (by decide) ?_
  refine lv_iload_n hx hb d_Model_edgeAt_9 rfl (lv_at hl 1 rfl) ?_
  refine lv_imul hx hb d_Model_edgeAt_10 ?_
  refine z_topi (y := 240) (by decide +kernel) ?_
  refine lv_iload_n hx hb d_Model_edgeAt_11 rfl (lv_at hl 2 rfl) ?_
  refine lv_iadd hx hb d_Model_edgeAt_12 ?_
  refine lv_topi (fun v_1 ev_1 => ?_)
  obtain ⟨qv_1, hv_1⟩ := zI_add (l := 240) (h := 479) zc_240 hb1 ev_1 (by decide)
  rw [li_240] at qv_1
  refine lv_imul hx hb d_Model_edgeAt_13 ?_
  refine lv_topi (fun v_2 ev_2 => ?_)
  obtain ⟨qv_2, hv_2⟩ := zI_mul (l := 1440) (h := 2874) zc_6 hv_1 ev_2 (by decide)
  rw [li_6] at qv_2
  refine lv_iload_n hx hb d_Model_edgeAt_14 rfl (lv_at hl 3 rfl) ?_
  refine lv_iadd hx hb d_Model_edgeAt_15 ?_
  refine lv_topi (fun v_3 ev_3 => ?_)
  obtain ⟨qv_3, hv_3⟩ := zI_add (l := 1445) (h := 2879) hv_2 zc_5 ev_3 (by decide)
  rw [li_5] at qv_3
  refine va_iald hx hb hK hP 1 0 rfl rfl (zI.inn hv_3 (by decide)) d_Model_edgeAt_16 ?_
  refine lv_topi (fun v_4 ev_4 => ?_)
  have kv_4 := zQE.ld hb56 hv_3 ev_4 (by decide)
  exact z_iret hx hb hr hlocks hP hD hS (Nat.le_of_ble_eq_true rfl) (Nat.le_of_ble_eq_true rfl) d_Model_edgeAt_17 ⟨v_4, rfl, rfl, (by rw [ev_4, z_plf hv_3 (by decide)]; congr 1; omega)⟩
abbrev m_s4_Model_stateAt : Room := { frames := 1, cells := 0, slots := 0, locals := 23 }
set_option maxHeartbeats 4000000 in
set_option maxRecDepth 100000 in
theorem s4_Model_stateAt (l : Launch) (G : zG) (b0 : Nat) (b1 : Int32) (b2 : Int32) (b3 : Int32) (b4 : Nat) (b5 : Nat) (b6 : Nat) (b7 : Nat) (b8 : Int32) (b9 : Nat) (b10 : Int32) (b11 : Int32) (b12 : Int32) (b13 : Int32) (b14 : Nat) (b15 : Nat) (b16 : Nat) (b17 : Int32) (b18 : Nat) (b19 : Nat) (b20 : Nat) (b21 : Nat) (b22 : Nat) (b23 : Nat) (b24 : Nat) (b25 : Nat) (b26 : Nat) (b27 : Nat) (b28 : Nat) (b29 : Nat) (b30 : Int32) (b31 : Nat) (b32 : Nat) (b33 : Int32) (b34 : Int32) (b35 : Int32) (b36 : Int32) (b37 : Nat) (b38 : Nat) (b39 : Nat) (b40 : Nat) (b41 : Nat) (b42 : Nat) (b43 : Nat) (b44 : Int32) (b45 : Nat) (b46 : Nat) (b47 : Int32) (b48 : Nat) (b49 : Nat) (b50 : Nat) (b51 : Nat) (b52 : Nat) (b53 : Int32) (b54 : Nat) (b55 : Nat) (b56 : Nat) (b57 : Nat → Int32) (b58 : Nat → Int32) (hb1 : zI b1 0 19) (hb2 : zI b2 0 12) (hb8 : zI b8 0 8) (hb10 : zI b10 0 240) (hb11 : zI b11 0 240) (hb13 : zI b13 0 1) (hb17 : zI b17 0 12) (hb30 : zI b30 0 1) (hb33 : zI b33 0 1) (hb44 : zI b44 0 1000) (hb47 : zI b47 0 1000) (hb53 : zI b53 0 400) (hb57 : zqa qP b57) (hb58 : zR b58 0 240) : zM l G y_Model_stateAt prog_14_method_32_code 4 (Option.some Jvm.ClassFile.FieldType.int) m_s4_Model_stateAt [.ref b0, .int 1, .int b1, .int b2] [(b0, .inr (12, [.int b3, .ref b4, .ref b5, .ref b6, .ref b7, .int b8, .ref b9, .int b10, .int b11, .int b12, .int b13, .ref b14, .ref b15, .ref b16, .int b17, .ref b18, .ref b19, .ref b20, .ref b21, .ref b22, .ref b23, .ref b24, .ref b25, .ref b26, .ref b27, .ref b28, .ref b29, .int b30, .ref b31, .ref b32, .int b33, .int b34, .int b35, .int b36, .ref b37, .ref b38, .ref b39, .ref b40, .ref b41, .ref b42, .ref b43, .int b44, .ref b45, .ref b46, .int b47, .ref b48, .ref b49, .ref b50, .ref b51, .ref b52, .int b53, .ref b54, .ref b55, .ref b56])), (b20, .inl (G.2 0, 520, .inl b57)), (b23, .inl (G.2 0, 482, .inl b58))] (fun v w => ∃ (e0 : Int32), v = some (.int e0) ∧ w = [(b0, .inr (12, [.int b3, .ref b4, .ref b5, .ref b6, .ref b7, .int b8, .ref b9, .int b10, .int b11, .int b12, .int b13, .ref b14, .ref b15, .ref b16, .int b17, .ref b18, .ref b19, .ref b20, .ref b21, .ref b22, .ref b23, .ref b24, .ref b25, .ref b26, .ref b27, .ref b28, .ref b29, .int b30, .ref b31, .ref b32, .int b33, .int b34, .int b35, .int b36, .ref b37, .ref b38, .ref b39, .ref b40, .ref b41, .ref b42, .ref b43, .int b44, .ref b45, .ref b46, .int b47, .ref b48, .ref b49, .ref b50, .ref b51, .ref b52, .int b53, .ref b54, .ref b55, .ref b56])), (b20, .inl (G.2 0, 520, .inl b57)), (b23, .inl (G.2 0, 482, .inl b58))] ∧ (zI e0 0 240) ∧ (e0 = b58 (241 + (b57 (260 + 13 * b1.toInt.toNat + b2.toInt.toNat)).toInt.toNat))) := by
  refine z_start (by decide +kernel) (Nat.le_of_ble_eq_true rfl) ?_
  intro p e s m below meth c A Z hr hnm hA hP hD hS ls hl
  have Z : zC p s m _ meth c prog_14_method_32_code 4 "TraceMachinesModel" G := Z
  obtain ⟨hx, hb, hml, hown, hts, hK, hN, hlocks⟩ := id Z
  have hl : lv_has ls 4 [(0, .ref b0), (1, .int 1), (2, .int b1), (3, .int b2)] := hl
  refine lv_aload_n hx hb d_Model_stateAt_0 rfl (lv_at hl 0 rfl) ?_
  refine va_get (D := G.1) (ci := 12) (v := .ref b23) (C := R_Model) (T := F_Model) (N := 54) hx hb hts i_Model hown hK hP 0 rfl rfl 20 (by decide) (hts _ q1129) (fun _ h9 => h9) rfl d_Model_stateAt_1 ?_
  refine lv_sipush (v := 241) hx hb d_Model_stateAt_4 (by decide) ?_
  refine lv_iload_n hx hb d_Model_stateAt_7 rfl (lv_at hl 1 rfl) ?_
  refine lv_imul hx hb d_Model_stateAt_8 ?_
  refine z_topi (y := 241) (by decide +kernel) ?_
  refine lv_aload_n hx hb d_Model_stateAt_9 rfl (lv_at hl 0 rfl) ?_
  refine lv_iload_n hx hb d_Model_stateAt_10 rfl (lv_at hl 1 rfl) ?_
  refine lv_iload_n hx hb d_Model_stateAt_11 rfl (lv_at hl 2 rfl) ?_
  refine lv_iload_n hx hb d_Model_stateAt_12 rfl (lv_at hl 3 rfl) ?_
  refine z_callV (index := 211) (As := [.int 1, .int b1, .int b2]) (rest := [.int 241, .ref b23]) (wr := [(b23, .inl (G.2 0, 482, .inl b58))]) Z (s2_Model_pathOf l G (b0) (b1) (b2) (b3) (b4) (b5) (b6) (b7) (b8) (b9) (b10) (b11) (b12) (b13) (b14) (b15) (b16) (b17) (b18) (b19) (b20) (b21) (b22) (b23) (b24) (b25) (b26) (b27) (b28) (b29) (b30) (b31) (b32) (b33) (b34) (b35) (b36) (b37) (b38) (b39) (b40) (b41) (b42) (b43) (b44) (b45) (b46) (b47) (b48) (b49) (b50) (b51) (b52) (b53) (b54) (b55) (b56) (b57) hb1 hb2 hb8 hb10 hb11 hb13 hb17 hb30 hb33 hb44 hb47 hb53 hb57) hl.1 q1380 q1382 qs61 q14 q1383 ⟨by decide, by decide, by show _ = some 3; decide +kernel⟩ ⟨Nat.le_of_ble_eq_true rfl, Nat.le_of_ble_eq_true rfl⟩ ⟨Nat.le_of_ble_eq_true rfl, Nat.le_of_ble_eq_true rfl⟩ rfl (Nat.le_of_ble_eq_true rfl) d_Model_stateAt_13 hP hD hS hA 0 12 rfl rfl rfl [0, 1] [2] rfl rfl rfl rfl (by decide) (fun v w1 H locs hw_1 hP hD hS => ?_)
  obtain ⟨x_2, rfl, rfl, hx_2, hfx_3, hfx_4⟩ := hw_1
  have hP : va_P G.1 classes [(b23, .inl (G.2 0, 482, .inl b58)), (b0, .inr (12, [.int b3, .ref b4, .ref b5, .ref b6, .ref b7, .int b8, .ref b9, .int b10, .int b11, .int b12, .int b13, .ref b14, .ref b15, .ref b16, .int b17, .ref b18, .ref b19, .ref b20, .ref b21, .ref b22, .ref b23, .ref b24, .ref b25, .ref b26, .ref b27, .ref b28, .ref b29, .int b30, .ref b31, .ref b32, .int b33, .int b34, .int b35, .int b36, .ref b37, .ref b38, .ref b39, .ref b40, .ref b41, .ref b42, .ref b43, .int b44, .ref b45, .ref b46, .int b47, .ref b48, .ref b49, .ref b50, .ref b51, .ref b52, .int b53, .ref b54, .ref b55, .ref b56])), (b20, .inl (G.2 0, 520, .inl b57))] H := hP
  have hD := z_tie hP hD rfl
  refine W.widen (k := 0) (n := 0) (Nat.le_of_ble_eq_true rfl) (Nat.le_of_ble_eq_true rfl) ?_
  refine lv_iadd hx hb d_Model_stateAt_16 ?_
  refine lv_topi (fun v_5 ev_5 => ?_)
  obtain ⟨qv_5, hv_5⟩ := zI_add (l := 241) (h := 481) zc_241 hx_2 ev_5 (by decide)
  rw [li_241] at qv_5
  refine va_iald hx hb hK hP 0 0 rfl rfl (zI.inn hv_5 (by decide)) d_Model_stateAt_17 ?_
  refine lv_topi (fun v_6 ev_6 => ?_)
  have hv_6 : zI v_6 0 240 := (hb58 _).eq ev_6
  exact z_iret hx hb hr hlocks (hP.sub [1, 2, 0] rfl) (hD.sub [1, 2, 0] (by decide) rfl) hS (Nat.le_of_ble_eq_true rfl) (Nat.le_of_ble_eq_true rfl) d_Model_stateAt_18 ⟨v_6, rfl, rfl, hv_6, (by have h9 := hfx_3; have h8 : v_5.toNatClampNeg = 241 + x_2.toInt.toNat := (by have p9 := z_pl hv_5 (by decide); have p8 := z_pl hx_2 (by decide); omega); rw [ev_6, h8, h9]; congr 4; omega)⟩
abbrev m_s4_Model_placeOf : Room := { frames := 1, cells := 0, slots := 0, locals := 23 }
set_option maxHeartbeats 4000000 in
set_option maxRecDepth 100000 in
theorem s4_Model_placeOf (l : Launch) (G : zG) (b0 : Nat) (b1 : Int32) (b2 : Int32) (b3 : Int32) (b4 : Int32) (b5 : Nat) (b6 : Nat) (b7 : Nat) (b8 : Nat) (b9 : Int32) (b10 : Nat) (b11 : Int32) (b12 : Int32) (b13 : Int32) (b14 : Int32) (b15 : Nat) (b16 : Nat) (b17 : Nat) (b18 : Int32) (b19 : Nat) (b20 : Nat) (b21 : Nat) (b22 : Nat) (b23 : Nat) (b24 : Nat) (b25 : Nat) (b26 : Nat) (b27 : Nat) (b28 : Nat) (b29 : Nat) (b30 : Nat) (b31 : Int32) (b32 : Nat) (b33 : Nat) (b34 : Int32) (b35 : Int32) (b36 : Int32) (b37 : Int32) (b38 : Nat) (b39 : Nat) (b40 : Nat) (b41 : Nat) (b42 : Nat) (b43 : Nat) (b44 : Nat) (b45 : Int32) (b46 : Nat) (b47 : Nat) (b48 : Int32) (b49 : Nat) (b50 : Nat) (b51 : Nat) (b52 : Nat) (b53 : Nat) (b54 : Int32) (b55 : Nat) (b56 : Nat) (b57 : Nat) (b58 : Nat → Int32) (b59 : Nat → Int32) (hb1 : zI b1 0 240) (hb2 : zI b2 0 9) (hb3 : zI b3 0 240) (hb9 : zI b9 0 8) (hb11 : zI b11 0 240) (hb12 : zI b12 0 240) (hb14 : zI b14 0 1) (hb18 : zI b18 0 12) (hb31 : zI b31 0 1) (hb34 : zI b34 0 1) (hb45 : zI b45 0 1000) (hb48 : zI b48 0 1000) (hb54 : zI b54 0 400) (hb58 : zR b58 0 240) (hb59 : zqa qE b59) : zM l G y_Model_placeOf prog_14_method_33_code 8 (Option.some Jvm.ClassFile.FieldType.int) m_s4_Model_placeOf [.ref b0, .int 1, .int b1, .int b2, .int b3] [(b0, .inr (12, [.int b4, .ref b5, .ref b6, .ref b7, .ref b8, .int b9, .ref b10, .int b11, .int b12, .int b13, .int b14, .ref b15, .ref b16, .ref b17, .int b18, .ref b19, .ref b20, .ref b21, .ref b22, .ref b23, .ref b24, .ref b25, .ref b26, .ref b27, .ref b28, .ref b29, .ref b30, .int b31, .ref b32, .ref b33, .int b34, .int b35, .int b36, .int b37, .ref b38, .ref b39, .ref b40, .ref b41, .ref b42, .ref b43, .ref b44, .int b45, .ref b46, .ref b47, .int b48, .ref b49, .ref b50, .ref b51, .ref b52, .ref b53, .int b54, .ref b55, .ref b56, .ref b57])), (b29, .inl (G.2 0, 2, .inl b58)), (b30, .inl (G.2 0, 2880, .inl b59))] (fun v w => ∃ (e0 : Int32), ∃ (e1 : Int32), v = some (.int e0) ∧ w = [(b0, .inr (12, [.int b4, .ref b5, .ref b6, .ref b7, .ref b8, .int b9, .ref b10, .int b11, .int b12, .int b13, .int b14, .ref b15, .ref b16, .ref b17, .int b18, .ref b19, .ref b20, .ref b21, .ref b22, .ref b23, .ref b24, .ref b25, .ref b26, .ref b27, .ref b28, .ref b29, .ref b30, .int e1, .ref b32, .ref b33, .int b34, .int b35, .int b36, .int b37, .ref b38, .ref b39, .ref b40, .ref b41, .ref b42, .ref b43, .ref b44, .int b45, .ref b46, .ref b47, .int b48, .ref b49, .ref b50, .ref b51, .ref b52, .ref b53, .int b54, .ref b55, .ref b56, .ref b57])), (b29, .inl (G.2 0, 2, .inl b58)), (b30, .inl (G.2 0, 2880, .inl b59))] ∧ (zI e0 0 240) ∧ (zI e1 0 1) ∧ ((e0 : Int32).toInt ≤ (b58 (1 : Int32).toNatClampNeg).toInt) ∧ ((∀ j : Nat, (j : Int) < (e0 : Int32).toInt → ((yRc b59 1440 j : Nat) : Int) < 2410 * (b1 : Int32).toInt + 241 * (b2 : Int32).toInt + (b3 : Int32).toInt) ∧ ((e1 : Int32).toInt = 1 ∧ (e0 : Int32).toInt < (b58 (1 : Int32).toNatClampNeg).toInt ∧ ((yRc b59 1440 (e0 : Int32).toInt.toNat : Nat) : Int) = 2410 * (b1 : Int32).toInt + 241 * (b2 : Int32).toInt + (b3 : Int32).toInt ∨ (e1 : Int32).toInt = 0 ∧ ((e0 : Int32).toInt = (b58 (1 : Int32).toNatClampNeg).toInt ∨ 2410 * (b1 : Int32).toInt + 241 * (b2 : Int32).toInt + (b3 : Int32).toInt < ((yRc b59 1440 (e0 : Int32).toInt.toNat : Nat) : Int))))) := by
  refine z_start (by decide +kernel) (Nat.le_of_ble_eq_true rfl) ?_
  intro p e s m below meth c A Z hr hnm hA hP hD hS ls hl
  have Z : zC p s m _ meth c prog_14_method_33_code 8 "TraceMachinesModel" G := Z
  obtain ⟨hx, hb, hml, hown, hts, hK, hN, hlocks⟩ := id Z
  have hl : lv_has ls 8 [(0, .ref b0), (1, .int 1), (2, .int b1), (3, .int b2), (4, .int b3)] := hl
  refine lv_sipush (v := 2410) hx hb d_Model_placeOf_0 (by decide) ?_
  refine lv_iload_n hx hb d_Model_placeOf_3 rfl (lv_at hl 2 rfl) ?_
  refine lv_imul hx hb d_Model_placeOf_4 ?_
  refine lv_topi (fun v_1 ev_1 => ?_)
  obtain ⟨qv_1, hv_1⟩ := zI_mul (l := 0) (h := 578400) zc_2410 hb1 ev_1 (by decide)
  rw [li_2410] at qv_1
  refine lv_sipush (v := 241) hx hb d_Model_placeOf_5 (by decide) ?_
  refine lv_iload_n hx hb d_Model_placeOf_8 rfl (lv_at hl 3 rfl) ?_
  refine lv_imul hx hb d_Model_placeOf_9 ?_
  refine lv_topi (fun v_2 ev_2 => ?_)
  obtain ⟨qv_2, hv_2⟩ := zI_mul (l := 0) (h := 2169) zc_241 hb2 ev_2 (by decide)
  rw [li_241] at qv_2
  refine lv_iadd hx hb d_Model_placeOf_10 ?_
  refine lv_topi (fun v_3 ev_3 => ?_)
  obtain ⟨qv_3, hv_3⟩ := zI_add (l := 0) (h := 580569) hv_1 hv_2 ev_3 (by decide)
  refine lv_iload hx hb d_Model_placeOf_11 (lv_at hl 4 rfl) ?_
  refine lv_iadd hx hb d_Model_placeOf_13 ?_
  refine lv_topi (fun v_4 ev_4 => ?_)
  obtain ⟨qv_4, hv_4⟩ := zI_add (l := 0) (h := 580809) hv_3 hb3 ev_4 (by decide)
  refine lv_istore (lv' := [(5, .int v_4), (0, .ref b0), (1, .int 1), (2, .int b1), (3, .int b2), (4, .int b3)]) hx hb d_Model_placeOf_14 hl (by decide) rfl (fun ls hl => ?_)
  refine lv_iconst (v := 0) hx hb d_Model_placeOf_16 (by decide) ?_
  refine lv_istore (lv' := [(6, .int 0), (5, .int v_4), (0, .ref b0), (1, .int 1), (2, .int b1), (3, .int b2), (4, .int b3)]) hx hb d_Model_placeOf_17 hl (by decide) rfl (fun ls hl => ?_)
  refine lv_iconst (v := (-1)) hx hb d_Model_placeOf_19 (by decide) ?_
  refine lv_istore (lv' := [(7, .int (-1)), (6, .int 0), (5, .int v_4), (0, .ref b0), (1, .int 1), (2, .int b1), (3, .int b2), (4, .int b3)]) hx hb d_Model_placeOf_20 hl (by decide) rfl (fun ls hl => ?_)
  suffices key : ∀ (k_57 : Nat) (y_58 : Int32) (y_59 : Int32) (H : Heap) (locs : List Loc) (ls : Array Slot), (zI y_58 (-1) 580809) → (zI y_59 0 240) → ((y_59 : Int32).toInt ≤ (b58 (1 : Int32).toNatClampNeg).toInt) → ((y_58 : Int32).toInt < (v_4 : Int32).toInt) → (∀ j : Nat, (j : Int) < (y_59 : Int32).toInt → ((yRc b59 1440 j : Nat) : Int) < 2410 * (b1 : Int32).toInt + 241 * (b2 : Int32).toInt + (b3 : Int32).toInt) → (240 : Int) - y_59.toInt < (k_57 : Int) → va_P G.1 classes [(b0, .inr (12, [.int b4, .ref b5, .ref b6, .ref b7, .ref b8, .int b9, .ref b10, .int b11, .int b12, .int b13, .int b14, .ref b15, .ref b16, .ref b17, .int b18, .ref b19, .ref b20, .ref b21, .ref b22, .ref b23, .ref b24, .ref b25, .ref b26, .ref b27, .ref b28, .ref b29, .ref b30, .int b31, .ref b32, .ref b33, .int b34, .int b35, .int b36, .int b37, .ref b38, .ref b39, .ref b40, .ref b41, .ref b42, .ref b43, .ref b44, .int b45, .ref b46, .ref b47, .int b48, .ref b49, .ref b50, .ref b51, .ref b52, .ref b53, .int b54, .ref b55, .ref b56, .ref b57])), (b29, .inl (G.2 0, 2, .inl b58)), (b30, .inl (G.2 0, 2880, .inl b59))] H → va_D A [(b0, .inr (12, [.int b4, .ref b5, .ref b6, .ref b7, .ref b8, .int b9, .ref b10, .int b11, .int b12, .int b13, .int b14, .ref b15, .ref b16, .ref b17, .int b18, .ref b19, .ref b20, .ref b21, .ref b22, .ref b23, .ref b24, .ref b25, .ref b26, .ref b27, .ref b28, .ref b29, .ref b30, .int b31, .ref b32, .ref b33, .int b34, .int b35, .int b36, .int b37, .ref b38, .ref b39, .ref b40, .ref b41, .ref b42, .ref b43, .ref b44, .int b45, .ref b46, .ref b47, .int b48, .ref b49, .ref b50, .ref b51, .ref b52, .ref b53, .int b54, .ref b55, .ref b56, .ref b57])), (b29, .inl (G.2 0, 2, .inl b58)), (b30, .inl (G.2 0, 2880, .inl b59))] → va_S A s.heap H locs → lv_has ls 8 [(7, .int y_58), (6, .int y_59), (5, .int v_4), (0, .ref b0), (1, .int 1), (2, .int b1), (3, .int b2), (4, .int b3)] → W p l e m_s4_Model_placeOf s m ([.ref b0, .int 1, .int b1, .int b2, .int b3] : List Value).toArray below meth c H locs 0 0 (MQ below (zQ G (fun v w => ∃ (e0 : Int32), ∃ (e1 : Int32), v = some (.int e0) ∧ w = [(b0, .inr (12, [.int b4, .ref b5, .ref b6, .ref b7, .ref b8, .int b9, .ref b10, .int b11, .int b12, .int b13, .int b14, .ref b15, .ref b16, .ref b17, .int b18, .ref b19, .ref b20, .ref b21, .ref b22, .ref b23, .ref b24, .ref b25, .ref b26, .ref b27, .ref b28, .ref b29, .ref b30, .int e1, .ref b32, .ref b33, .int b34, .int b35, .int b36, .int b37, .ref b38, .ref b39, .ref b40, .ref b41, .ref b42, .ref b43, .ref b44, .int b45, .ref b46, .ref b47, .int b48, .ref b49, .ref b50, .ref b51, .ref b52, .ref b53, .int b54, .ref b55, .ref b56, .ref b57])), (b29, .inl (G.2 0, 2, .inl b58)), (b30, .inl (G.2 0, 2880, .inl b59))] ∧ (zI e0 0 240) ∧ (zI e1 0 1) ∧ ((e0 : Int32).toInt ≤ (b58 (1 : Int32).toNatClampNeg).toInt) ∧ ((∀ j : Nat, (j : Int) < (e0 : Int32).toInt → ((yRc b59 1440 j : Nat) : Int) < 2410 * (b1 : Int32).toInt + 241 * (b2 : Int32).toInt + (b3 : Int32).toInt) ∧ ((e1 : Int32).toInt = 1 ∧ (e0 : Int32).toInt < (b58 (1 : Int32).toNatClampNeg).toInt ∧ ((yRc b59 1440 (e0 : Int32).toInt.toNat : Nat) : Int) = 2410 * (b1 : Int32).toInt + 241 * (b2 : Int32).toInt + (b3 : Int32).toInt ∨ (e1 : Int32).toInt = 0 ∧ ((e0 : Int32).toInt = (b58 (1 : Int32).toNatClampNeg).toInt ∨ 2410 * (b1 : Int32).toInt + 241 * (b2 : Int32).toInt + (b3 : Int32).toInt < ((yRc b59 1440 (e0 : Int32).toInt.toNat : Nat) : Int))))) A) ([.ref b0, .int 1, .int b1, .int b2, .int b3] : List Value).toArray s m_s4_Model_placeOf.cells m_s4_Model_placeOf.slots A) (F0 m 22 ls []) by
    exact key 242 ((-1)) (0) _ _ _ (zI.wk (l' := (-1)) (h' := 580809) zc_m1 (by decide)) (zI.wk (l' := 0) (h' := 240) zc_0 (by decide)) (by have _l0 := li_0; have h9 := hb58 (1 : Int32).toNatClampNeg; omega) (by have _l0 := li_m1; omega) (by have _l0 := li_0; intro j hj; exfalso; omega) (by have _l0 := li_0; omega) hP hD hS (lv_sub hl [0, 1, 2, 3, 4, 5, 6, 7] rfl)
  intro k_57
  induction k_57 with
  | zero =>
    intro y_58 y_59 H locs ls hy_58 hy_59 hli_60 hli_61 hli_62 hmk_57 hP hD hS hl
    exfalso; omega
  | succ k_57 ihk_57 =>
    intro y_58 y_59 H locs ls hy_58 hy_59 hli_60 hli_61 hli_62 hmk_57 hP hD hS hl
    refine lv_iload hx hb d_Model_placeOf_22 (lv_at hl 1 rfl) ?_
    refine lv_aload_n hx hb d_Model_placeOf_24 rfl (lv_at hl 3 rfl) ?_
    refine va_get (D := G.1) (ci := 12) (v := .ref b29) (C := R_Model) (T := F_Model) (N := 54) hx hb hts i_Model hown hK hP 0 rfl rfl 25 (by decide) (hts _ q1134) (fun _ h9 => h9) rfl d_Model_placeOf_25 ?_
    refine lv_iload_n hx hb d_Model_placeOf_28 rfl (lv_at hl 4 rfl) ?_
    refine va_iald hx hb hK hP 1 0 rfl rfl (i := 1) (z_in rfl) d_Model_placeOf_29 ?_
    refine lv_topi (fun v_63 ev_63 => ?_)
    have hv_63 : zI v_63 0 240 := (hb58 _).eq ev_63
    have hemv_63 : v_63.toInt ≤ 240 ∧ v_63.toInt = (b58 (1 : Int32).toNatClampNeg).toInt := ⟨hv_63.2, by rw [ev_63]⟩
    refine lv_icmp_ge (tgt := 96) hx hb d_Model_placeOf_30 (by decide) (fun hc_64 => ?_) (fun hc_64 => ?_)
    · have _nhc_64 := hc_64
      have ni_65 := (fa_le _ _).mp hc_64
      refine lv_aload_n hx hb d_Model_placeOf_96 rfl (lv_at hl 3 rfl) ?_
      refine lv_iload hx hb d_Model_placeOf_97 (lv_at hl 1 rfl) ?_
      refine lv_aload_n hx hb d_Model_placeOf_99 rfl (lv_at hl 3 rfl) ?_
      refine va_get (D := G.1) (ci := 12) (v := .ref b29) (C := R_Model) (T := F_Model) (N := 54) hx hb hts i_Model hown hK hP 0 rfl rfl 25 (by decide) (hts _ q1134) (fun _ h9 => h9) rfl d_Model_placeOf_100 ?_
      refine lv_iload_n hx hb d_Model_placeOf_103 rfl (lv_at hl 4 rfl) ?_
      refine va_iald hx hb hK hP 1 0 rfl rfl (i := 1) (z_in rfl) d_Model_placeOf_104 ?_
      refine lv_topi (fun v_66 ev_66 => ?_)
      obtain rfl : v_63 = v_66 := ev_63.trans ev_66.symm
      refine lv_icmp_ge (tgt := 119) hx hb d_Model_placeOf_105 (by decide) (fun _ => ?_) (fun hc => (by exfalso; exact hc ((fa_le _ _).mpr (by omega))))
      refine lv_iconst (v := 0) hx hb d_Model_placeOf_119 (by decide) ?_
      refine va_put (D := G.1) (ci := 12) (v := .int 0) (ty := .boolean) (C := R_Model) (T := F_Model) (N := 54) hx hb hts i_Model t_Model t_Model_ok n_Model hown hK hP hD hS 0 rfl rfl 27 (by decide) (hts _ q1136) (fun _ h9 => h9) rfl (by decide +kernel) rfl rfl (Nat.le_of_ble_eq_true rfl) d_Model_placeOf_120 (fun H locs hP hD hS => ?_)
      have hP : va_P G.1 classes [(b0, .inr (12, [.int b4, .ref b5, .ref b6, .ref b7, .ref b8, .int b9, .ref b10, .int b11, .int b12, .int b13, .int b14, .ref b15, .ref b16, .ref b17, .int b18, .ref b19, .ref b20, .ref b21, .ref b22, .ref b23, .ref b24, .ref b25, .ref b26, .ref b27, .ref b28, .ref b29, .ref b30, .int 0, .ref b32, .ref b33, .int b34, .int b35, .int b36, .int b37, .ref b38, .ref b39, .ref b40, .ref b41, .ref b42, .ref b43, .ref b44, .int b45, .ref b46, .ref b47, .int b48, .ref b49, .ref b50, .ref b51, .ref b52, .ref b53, .int b54, .ref b55, .ref b56, .ref b57])), (b29, .inl (G.2 0, 2, .inl b58)), (b30, .inl (G.2 0, 2880, .inl b59))] H := hP
      have hD := z_tie hP hD rfl
      refine lv_iload hx hb d_Model_placeOf_123 (lv_at hl 1 rfl) ?_
      exact z_iret hx hb hr hlocks hP hD hS (Nat.le_of_ble_eq_true rfl) (Nat.le_of_ble_eq_true rfl) d_Model_placeOf_125 ⟨y_59, 0, rfl, rfl, hy_59, (zI.wk (l' := 0) (h' := 1) zc_0 (by decide)), (by omega), (by have em9 := hemv_63.2; exact ⟨fun j hj => hli_62 j (by omega), Or.inr ⟨li_0, Or.inl (by omega)⟩⟩)⟩
    · have _nhc_64 := hc_64
      have ni_67 := (fa_lt _ _).mp (zi_nle hc_64)
      have hv_68 : zI y_59 0 239 := zI.lt_l hy_59 hv_63 (zi_nle hc_64) (by decide)
      have hv_69 : zI v_63 1 240 := zI.lt_r hy_59 hv_63 (zi_nle hc_64) (by decide)
      refine lv_iload hx hb d_Model_placeOf_33 (lv_at hl 0 rfl) ?_
      refine lv_iload hx hb d_Model_placeOf_35 (lv_at hl 2 rfl) ?_
      refine lv_icmp_ge (tgt := 96) hx hb d_Model_placeOf_37 (by decide) (fun hc => (by exfalso; have h9 := (fa_le _ _).mp hc; omega)) (fun _ => ?_)
      refine lv_sipush (v := 2410) hx hb d_Model_placeOf_40 (by decide) ?_
      refine lv_aload_n hx hb d_Model_placeOf_43 rfl (lv_at hl 3 rfl) ?_
      refine lv_iload_n hx hb d_Model_placeOf_44 rfl (lv_at hl 4 rfl) ?_
      refine lv_iload hx hb d_Model_placeOf_45 (lv_at hl 1 rfl) ?_
      refine lv_iconst (v := 0) hx hb d_Model_placeOf_47 (by decide) ?_
      refine z_callV (index := 225) (As := [.int 1, .int y_59, .int 0]) (rest := [.int 2410]) (wr := [(b29, .inl (G.2 0, 2, .inl b58))]) Z (s27_Model_edgeAt l G (b0) (y_59) (b4) (b5) (b6) (b7) (b8) (b9) (b10) (b11) (b12) (b13) (b14) (b15) (b16) (b17) (b18) (b19) (b20) (b21) (b22) (b23) (b24) (b25) (b26) (b27) (b28) (b29) (b30) (b31) (b32) (b33) (b34) (b35) (b36) (b37) (b38) (b39) (b40) (b41) (b42) (b43) (b44) (b45) (b46) (b47) (b48) (b49) (b50) (b51) (b52) (b53) (b54) (b55) (b56) (b57) (b59) hv_68 hb9 hb11 hb12 hb14 hb18 hb31 hb34 hb45 hb48 hb54 hb59) hl.1 q1408 q1410 qs68 q14 q1411 ⟨by decide, by decide, by show _ = some 3; decide +kernel⟩ ⟨Nat.le_of_ble_eq_true rfl, Nat.le_of_ble_eq_true rfl⟩ ⟨Nat.le_of_ble_eq_true rfl, Nat.le_of_ble_eq_true rfl⟩ rfl (Nat.le_of_ble_eq_true rfl) d_Model_placeOf_48 hP hD hS hA 0 12 rfl rfl rfl [0, 2] [1] rfl rfl rfl rfl (by decide) (fun v w1 H locs hw_70 hP hD hS => ?_)
      obtain ⟨x_71, rfl, rfl, hx_71, hfx_72⟩ := hw_70
      have hP : va_P G.1 classes [(b29, .inl (G.2 0, 2, .inl b58)), (b0, .inr (12, [.int b4, .ref b5, .ref b6, .ref b7, .ref b8, .int b9, .ref b10, .int b11, .int b12, .int b13, .int b14, .ref b15, .ref b16, .ref b17, .int b18, .ref b19, .ref b20, .ref b21, .ref b22, .ref b23, .ref b24, .ref b25, .ref b26, .ref b27, .ref b28, .ref b29, .ref b30, .int b31, .ref b32, .ref b33, .int b34, .int b35, .int b36, .int b37, .ref b38, .ref b39, .ref b40, .ref b41, .ref b42, .ref b43, .ref b44, .int b45, .ref b46, .ref b47, .int b48, .ref b49, .ref b50, .ref b51, .ref b52, .ref b53, .int b54, .ref b55, .ref b56, .ref b57])), (b30, .inl (G.2 0, 2880, .inl b59))] H := hP
      have hD := z_tie hP hD rfl
      refine W.widen (k := 0) (n := 0) (Nat.le_of_ble_eq_true rfl) (Nat.le_of_ble_eq_true rfl) ?_
      refine lv_imul hx hb d_Model_placeOf_51 ?_
      refine lv_topi (fun v_73 ev_73 => ?_)
      obtain ⟨qv_73, hv_73⟩ := zI_mul (l := 0) (h := 578400) zc_2410 hx_71 ev_73 (by decide)
      rw [li_2410] at qv_73
      refine lv_sipush (v := 241) hx hb d_Model_placeOf_52 (by decide) ?_
      refine lv_aload_n hx hb d_Model_placeOf_55 rfl (lv_at hl 3 rfl) ?_
      refine lv_iload_n hx hb d_Model_placeOf_56 rfl (lv_at hl 4 rfl) ?_
      refine lv_iload hx hb d_Model_placeOf_57 (lv_at hl 1 rfl) ?_
      refine lv_iconst (v := 1) hx hb d_Model_placeOf_59 (by decide) ?_
      refine z_callV (index := 225) (As := [.int 1, .int y_59, .int 1]) (rest := [.int 241, .int v_73]) (wr := [(b29, .inl (G.2 0, 2, .inl b58))]) Z (s28_Model_edgeAt l G (b0) (y_59) (b4) (b5) (b6) (b7) (b8) (b9) (b10) (b11) (b12) (b13) (b14) (b15) (b16) (b17) (b18) (b19) (b20) (b21) (b22) (b23) (b24) (b25) (b26) (b27) (b28) (b29) (b30) (b31) (b32) (b33) (b34) (b35) (b36) (b37) (b38) (b39) (b40) (b41) (b42) (b43) (b44) (b45) (b46) (b47) (b48) (b49) (b50) (b51) (b52) (b53) (b54) (b55) (b56) (b57) (b59) hv_68 hb9 hb11 hb12 hb14 hb18 hb31 hb34 hb45 hb48 hb54 hb59) hl.1 q1408 q1410 qs68 q14 q1411 ⟨by decide, by decide, by show _ = some 3; decide +kernel⟩ ⟨Nat.le_of_ble_eq_true rfl, Nat.le_of_ble_eq_true rfl⟩ ⟨Nat.le_of_ble_eq_true rfl, Nat.le_of_ble_eq_true rfl⟩ rfl (Nat.le_of_ble_eq_true rfl) d_Model_placeOf_60 hP hD hS hA 1 12 rfl rfl rfl [1, 2] [0] rfl rfl rfl rfl (by decide) (fun v w1 H locs hw_74 hP hD hS => ?_)
      obtain ⟨x_75, rfl, rfl, hx_75, hfx_76⟩ := hw_74
      have hP : va_P G.1 classes [(b29, .inl (G.2 0, 2, .inl b58)), (b0, .inr (12, [.int b4, .ref b5, .ref b6, .ref b7, .ref b8, .int b9, .ref b10, .int b11, .int b12, .int b13, .int b14, .ref b15, .ref b16, .ref b17, .int b18, .ref b19, .ref b20, .ref b21, .ref b22, .ref b23, .ref b24, .ref b25, .ref b26, .ref b27, .ref b28, .ref b29, .ref b30, .int b31, .ref b32, .ref b33, .int b34, .int b35, .int b36, .int b37, .ref b38, .ref b39, .ref b40, .ref b41, .ref b42, .ref b43, .ref b44, .int b45, .ref b46, .ref b47, .int b48, .ref b49, .ref b50, .ref b51, .ref b52, .ref b53, .int b54, .ref b55, .ref b56, .ref b57])), (b30, .inl (G.2 0, 2880, .inl b59))] H := hP
      have hD := z_tie hP hD rfl
      refine W.widen (k := 0) (n := 0) (Nat.le_of_ble_eq_true rfl) (Nat.le_of_ble_eq_true rfl) ?_
      refine lv_imul hx hb d_Model_placeOf_63 ?_
      refine lv_topi (fun v_77 ev_77 => ?_)
      obtain ⟨qv_77, hv_77⟩ := zI_mul (l := 0) (h := 2169) zc_241 hx_75 ev_77 (by decide)
      rw [li_241] at qv_77
      refine lv_iadd hx hb d_Model_placeOf_64 ?_
      refine lv_topi (fun v_78 ev_78 => ?_)
      obtain ⟨qv_78, hv_78⟩ := zI_add (l := 0) (h := 580569) hv_73 hv_77 ev_78 (by decide)
      refine lv_aload_n hx hb d_Model_placeOf_65 rfl (lv_at hl 3 rfl) ?_
      refine lv_iload_n hx hb d_Model_placeOf_66 rfl (lv_at hl 4 rfl) ?_
      refine lv_iload hx hb d_Model_placeOf_67 (lv_at hl 1 rfl) ?_
      refine lv_iconst (v := 2) hx hb d_Model_placeOf_69 (by decide) ?_
      refine z_callV (index := 225) (As := [.int 1, .int y_59, .int 2]) (rest := [.int v_78]) (wr := [(b29, .inl (G.2 0, 2, .inl b58))]) Z (s29_Model_edgeAt l G (b0) (y_59) (b4) (b5) (b6) (b7) (b8) (b9) (b10) (b11) (b12) (b13) (b14) (b15) (b16) (b17) (b18) (b19) (b20) (b21) (b22) (b23) (b24) (b25) (b26) (b27) (b28) (b29) (b30) (b31) (b32) (b33) (b34) (b35) (b36) (b37) (b38) (b39) (b40) (b41) (b42) (b43) (b44) (b45) (b46) (b47) (b48) (b49) (b50) (b51) (b52) (b53) (b54) (b55) (b56) (b57) (b59) hv_68 hb9 hb11 hb12 hb14 hb18 hb31 hb34 hb45 hb48 hb54 hb59) hl.1 q1408 q1410 qs68 q14 q1411 ⟨by decide, by decide, by show _ = some 3; decide +kernel⟩ ⟨Nat.le_of_ble_eq_true rfl, Nat.le_of_ble_eq_true rfl⟩ ⟨Nat.le_of_ble_eq_true rfl, Nat.le_of_ble_eq_true rfl⟩ rfl (Nat.le_of_ble_eq_true rfl) d_Model_placeOf_70 hP hD hS hA 1 12 rfl rfl rfl [1, 2] [0] rfl rfl rfl rfl (by decide) (fun v w1 H locs hw_79 hP hD hS => ?_)
      obtain ⟨x_80, rfl, rfl, hx_80, hfx_81⟩ := hw_79
      have hP : va_P G.1 classes [(b29, .inl (G.2 0, 2, .inl b58)), (b0, .inr (12, [.int b4, .ref b5, .ref b6, .ref b7, .ref b8, .int b9, .ref b10, .int b11, .int b12, .int b13, .int b14, .ref b15, .ref b16, .ref b17, .int b18, .ref b19, .ref b20, .ref b21, .ref b22, .ref b23, .ref b24, .ref b25, .ref b26, .ref b27, .ref b28, .ref b29, .ref b30, .int b31, .ref b32, .ref b33, .int b34, .int b35, .int b36, .int b37, .ref b38, .ref b39, .ref b40, .ref b41, .ref b42, .ref b43, .ref b44, .int b45, .ref b46, .ref b47, .int b48, .ref b49, .ref b50, .ref b51, .ref b52, .ref b53, .int b54, .ref b55, .ref b56, .ref b57])), (b30, .inl (G.2 0, 2880, .inl b59))] H := hP
      have hD := z_tie hP hD rfl
      refine W.widen (k := 0) (n := 0) (Nat.le_of_ble_eq_true rfl) (Nat.le_of_ble_eq_true rfl) ?_
      refine lv_iadd hx hb d_Model_placeOf_73 ?_
      refine lv_topi (fun v_82 ev_82 => ?_)
      obtain ⟨qv_82, hv_82⟩ := zI_add (l := 0) (h := 580809) hv_78 hx_80 ev_82 (by decide)
      refine lv_istore (lv' := [(7, .int v_82), (6, .int y_59), (5, .int v_4), (0, .ref b0), (1, .int 1), (2, .int b1), (3, .int b2), (4, .int b3)]) hx hb d_Model_placeOf_74 hl (by decide) rfl (fun ls hl => ?_)
      refine lv_iload hx hb d_Model_placeOf_76 (lv_at hl 1 rfl) ?_
      refine lv_iload hx hb d_Model_placeOf_78 (lv_at hl 0 rfl) ?_
      refine lv_iload hx hb d_Model_placeOf_80 (lv_at hl 2 rfl) ?_
      refine lv_icmp_ge (tgt := 89) hx hb d_Model_placeOf_82 (by decide) (fun hc_83 => ?_) (fun hc_83 => ?_)
      · have _nhc_83 := hc_83
        have ni_84 := (fa_le _ _).mp hc_83
        refine lv_iconst (v := 0) hx hb d_Model_placeOf_89 (by decide) ?_
        refine lv_iadd hx hb d_Model_placeOf_90 ?_
        refine lv_topi (fun v_85 ev_85 => ?_)
        obtain ⟨qv_85, hv_85⟩ := zI_add (l := 0) (h := 239) hv_68 zc_0 ev_85 (by decide)
        rw [li_0] at qv_85
        refine lv_istore (lv' := [(6, .int v_85), (7, .int v_82), (5, .int v_4), (0, .ref b0), (1, .int 1), (2, .int b1), (3, .int b2), (4, .int b3)]) hx hb d_Model_placeOf_91 hl (by decide) rfl (fun ls hl => ?_)
        refine lv_goto (tgt := 22) hx hb d_Model_placeOf_93 (by decide) ?_
        refine lv_iload hx hb d_Model_placeOf_22 (lv_at hl 0 rfl) ?_
        refine lv_aload_n hx hb d_Model_placeOf_24 rfl (lv_at hl 3 rfl) ?_
        refine va_get (D := G.1) (ci := 12) (v := .ref b29) (C := R_Model) (T := F_Model) (N := 54) hx hb hts i_Model hown hK hP 1 rfl rfl 25 (by decide) (hts _ q1134) (fun _ h9 => h9) rfl d_Model_placeOf_25 ?_
        refine lv_iload_n hx hb d_Model_placeOf_28 rfl (lv_at hl 4 rfl) ?_
        refine va_iald hx hb hK hP 0 0 rfl rfl (i := 1) (z_in rfl) d_Model_placeOf_29 ?_
        refine lv_topi (fun v_86 ev_86 => ?_)
        obtain rfl : v_63 = v_86 := ev_63.trans ev_86.symm
        refine lv_icmp_ge (tgt := 96) hx hb d_Model_placeOf_30 (by decide) (fun hc_87 => ?_) (fun hc_87 => ?_)
        · have _nhc_87 := hc_87
          have ni_88 := (fa_le _ _).mp hc_87
          have hv_89 : zI v_63 1 239 := zI.le_l hv_69 hv_85 hc_87 (by decide)
          have hv_90 : zI v_85 1 239 := zI.le_r hv_69 hv_85 hc_87 (by decide)
          have hv_91 : zI y_59 1 239 := by have _a := hv_90; have _b := qv_85; have _c := zc_0; have _d := hv_68; exact ⟨by omega, by omega⟩
          refine lv_aload_n hx hb d_Model_placeOf_96 rfl (lv_at hl 3 rfl) ?_
          refine lv_iload hx hb d_Model_placeOf_97 (lv_at hl 0 rfl) ?_
          refine lv_aload_n hx hb d_Model_placeOf_99 rfl (lv_at hl 3 rfl) ?_
          refine va_get (D := G.1) (ci := 12) (v := .ref b29) (C := R_Model) (T := F_Model) (N := 54) hx hb hts i_Model hown hK hP 1 rfl rfl 25 (by decide) (hts _ q1134) (fun _ h9 => h9) rfl d_Model_placeOf_100 ?_
          refine lv_iload_n hx hb d_Model_placeOf_103 rfl (lv_at hl 4 rfl) ?_
          refine va_iald hx hb hK hP 0 0 rfl rfl (i := 1) (z_in rfl) d_Model_placeOf_104 ?_
          refine lv_topi (fun v_92 ev_92 => ?_)
          obtain rfl : v_63 = v_92 := ev_63.trans ev_92.symm
          refine lv_icmp_ge (tgt := 119) hx hb d_Model_placeOf_105 (by decide) (fun hc => (by exfalso; have h9 := (fa_le _ _).mp hc; omega)) (fun _ => ?_)
          refine lv_iload hx hb d_Model_placeOf_108 (lv_at hl 1 rfl) ?_
          refine lv_iload hx hb d_Model_placeOf_110 (lv_at hl 2 rfl) ?_
          refine lv_icmp_ne (tgt := 119) hx hb d_Model_placeOf_112 (by decide) (fun hc_93 => ?_) (fun hc_93 => ?_)
          · have _nhc_93 := hc_93
            have ni_94 : ¬ (v_82 : Int32).toInt = (v_4 : Int32).toInt := fun z => hc_93 ((fa_eq _ _).mpr z)
            refine lv_iconst (v := 0) hx hb d_Model_placeOf_119 (by decide) ?_
            refine va_put (D := G.1) (ci := 12) (v := .int 0) (ty := .boolean) (C := R_Model) (T := F_Model) (N := 54) hx hb hts i_Model t_Model t_Model_ok n_Model hown hK hP hD hS 1 rfl rfl 27 (by decide) (hts _ q1136) (fun _ h9 => h9) rfl (by decide +kernel) rfl rfl (Nat.le_of_ble_eq_true rfl) d_Model_placeOf_120 (fun H locs hP hD hS => ?_)
            have hP : va_P G.1 classes [(b29, .inl (G.2 0, 2, .inl b58)), (b0, .inr (12, [.int b4, .ref b5, .ref b6, .ref b7, .ref b8, .int b9, .ref b10, .int b11, .int b12, .int b13, .int b14, .ref b15, .ref b16, .ref b17, .int b18, .ref b19, .ref b20, .ref b21, .ref b22, .ref b23, .ref b24, .ref b25, .ref b26, .ref b27, .ref b28, .ref b29, .ref b30, .int 0, .ref b32, .ref b33, .int b34, .int b35, .int b36, .int b37, .ref b38, .ref b39, .ref b40, .ref b41, .ref b42, .ref b43, .ref b44, .int b45, .ref b46, .ref b47, .int b48, .ref b49, .ref b50, .ref b51, .ref b52, .ref b53, .int b54, .ref b55, .ref b56, .ref b57])), (b30, .inl (G.2 0, 2880, .inl b59))] H := hP
            have hD := z_tie hP hD rfl
            refine lv_iload hx hb d_Model_placeOf_123 (lv_at hl 0 rfl) ?_
            exact z_iret hx hb hr hlocks (hP.sub [1, 0, 2] rfl) (hD.sub [1, 0, 2] (by decide) rfl) hS (Nat.le_of_ble_eq_true rfl) (Nat.le_of_ble_eq_true rfl) d_Model_placeOf_125 ⟨v_85, 0, rfl, rfl, (zI.wk (l' := 0) (h' := 240) hv_90 (by decide)), (zI.wk (l' := 0) (h' := 1) zc_0 (by decide)), (by omega), (by have em9 := hemv_63.2; have g0 := congrArg Int32.toInt hfx_72; have g1 := congrArg Int32.toInt hfx_76; have g2 := congrArg Int32.toInt hfx_81; have r9 : ((yRc b59 1440 y_59.toInt.toNat : Nat) : Int) = v_82.toInt := (by show ((2410 * (b59 (1440 + 6 * y_59.toInt.toNat)).toInt.toNat + 241 * (b59 (1440 + 6 * y_59.toInt.toNat + 1)).toInt.toNat + (b59 (1440 + 6 * y_59.toInt.toNat + 2)).toInt.toNat : Nat) : Int) = _; omega); exact ⟨fun j hj => hli_62 j (by omega), Or.inr ⟨li_0, by by_cases c9 : v_85.toInt = (b58 (1 : Int32).toNatClampNeg).toInt; exact Or.inl c9; exact Or.inr (by rw [show v_85.toInt.toNat = y_59.toInt.toNat by omega]; omega)⟩⟩)⟩
          · have _nhc_93 := hc_93
            have ni_95 := (fa_eq _ _).mp hc_93
            refine lv_iconst (v := 1) hx hb d_Model_placeOf_115 (by decide) ?_
            refine lv_goto (tgt := 120) hx hb d_Model_placeOf_116 (by decide) ?_
            refine va_put (D := G.1) (ci := 12) (v := .int 1) (ty := .boolean) (C := R_Model) (T := F_Model) (N := 54) hx hb hts i_Model t_Model t_Model_ok n_Model hown hK hP hD hS 1 rfl rfl 27 (by decide) (hts _ q1136) (fun _ h9 => h9) rfl (by decide +kernel) rfl rfl (Nat.le_of_ble_eq_true rfl) d_Model_placeOf_120 (fun H locs hP hD hS => ?_)
            have hP : va_P G.1 classes [(b29, .inl (G.2 0, 2, .inl b58)), (b0, .inr (12, [.int b4, .ref b5, .ref b6, .ref b7, .ref b8, .int b9, .ref b10, .int b11, .int b12, .int b13, .int b14, .ref b15, .ref b16, .ref b17, .int b18, .ref b19, .ref b20, .ref b21, .ref b22, .ref b23, .ref b24, .ref b25, .ref b26, .ref b27, .ref b28, .ref b29, .ref b30, .int 1, .ref b32, .ref b33, .int b34, .int b35, .int b36, .int b37, .ref b38, .ref b39, .ref b40, .ref b41, .ref b42, .ref b43, .ref b44, .int b45, .ref b46, .ref b47, .int b48, .ref b49, .ref b50, .ref b51, .ref b52, .ref b53, .int b54, .ref b55, .ref b56, .ref b57])), (b30, .inl (G.2 0, 2880, .inl b59))] H := hP
            have hD := z_tie hP hD rfl
            refine lv_iload hx hb d_Model_placeOf_123 (lv_at hl 0 rfl) ?_
            exact z_iret hx hb hr hlocks (hP.sub [1, 0, 2] rfl) (hD.sub [1, 0, 2] (by decide) rfl) hS (Nat.le_of_ble_eq_true rfl) (Nat.le_of_ble_eq_true rfl) d_Model_placeOf_125 ⟨v_85, 1, rfl, rfl, (zI.wk (l' := 0) (h' := 240) hv_90 (by decide)), (zI.wk (l' := 0) (h' := 1) zc_1 (by decide)), (by omega), (by have em9 := hemv_63.2; have g0 := congrArg Int32.toInt hfx_72; have g1 := congrArg Int32.toInt hfx_76; have g2 := congrArg Int32.toInt hfx_81; have r9 : ((yRc b59 1440 y_59.toInt.toNat : Nat) : Int) = v_82.toInt := (by show ((2410 * (b59 (1440 + 6 * y_59.toInt.toNat)).toInt.toNat + 241 * (b59 (1440 + 6 * y_59.toInt.toNat + 1)).toInt.toNat + (b59 (1440 + 6 * y_59.toInt.toNat + 2)).toInt.toNat : Nat) : Int) = _; omega); exact ⟨fun j hj => hli_62 j (by omega), Or.inl ⟨li_1, by omega, by rw [show v_85.toInt.toNat = y_59.toInt.toNat by omega]; omega⟩⟩)⟩
        · have _nhc_87 := hc_87
          have ni_96 := (fa_lt _ _).mp (zi_nle hc_87)
          refine lv_iload hx hb d_Model_placeOf_33 (lv_at hl 1 rfl) ?_
          refine lv_iload hx hb d_Model_placeOf_35 (lv_at hl 2 rfl) ?_
          refine lv_icmp_ge (tgt := 96) hx hb d_Model_placeOf_37 (by decide) (fun _ => ?_) (fun hc => (by exfalso; exact hc ((fa_le _ _).mpr (by omega))))
          refine lv_aload_n hx hb d_Model_placeOf_96 rfl (lv_at hl 3 rfl) ?_
          refine lv_iload hx hb d_Model_placeOf_97 (lv_at hl 0 rfl) ?_
          refine lv_aload_n hx hb d_Model_placeOf_99 rfl (lv_at hl 3 rfl) ?_
          refine va_get (D := G.1) (ci := 12) (v := .ref b29) (C := R_Model) (T := F_Model) (N := 54) hx hb hts i_Model hown hK hP 1 rfl rfl 25 (by decide) (hts _ q1134) (fun _ h9 => h9) rfl d_Model_placeOf_100 ?_
          refine lv_iload_n hx hb d_Model_placeOf_103 rfl (lv_at hl 4 rfl) ?_
          refine va_iald hx hb hK hP 0 0 rfl rfl (i := 1) (z_in rfl) d_Model_placeOf_104 ?_
          refine lv_topi (fun v_97 ev_97 => ?_)
          obtain rfl : v_63 = v_97 := ev_63.trans ev_97.symm
          refine lv_icmp_ge (tgt := 119) hx hb d_Model_placeOf_105 (by decide) (fun hc => (by exfalso; have h9 := (fa_le _ _).mp hc; omega)) (fun _ => ?_)
          refine lv_iload hx hb d_Model_placeOf_108 (lv_at hl 1 rfl) ?_
          refine lv_iload hx hb d_Model_placeOf_110 (lv_at hl 2 rfl) ?_
          refine lv_icmp_ne (tgt := 119) hx hb d_Model_placeOf_112 (by decide) (fun hc_98 => ?_) (fun hc_98 => ?_)
          · have _nhc_98 := hc_98
            have ni_99 : ¬ (v_82 : Int32).toInt = (v_4 : Int32).toInt := fun z => hc_98 ((fa_eq _ _).mpr z)
            refine lv_iconst (v := 0) hx hb d_Model_placeOf_119 (by decide) ?_
            refine va_put (D := G.1) (ci := 12) (v := .int 0) (ty := .boolean) (C := R_Model) (T := F_Model) (N := 54) hx hb hts i_Model t_Model t_Model_ok n_Model hown hK hP hD hS 1 rfl rfl 27 (by decide) (hts _ q1136) (fun _ h9 => h9) rfl (by decide +kernel) rfl rfl (Nat.le_of_ble_eq_true rfl) d_Model_placeOf_120 (fun H locs hP hD hS => ?_)
            have hP : va_P G.1 classes [(b29, .inl (G.2 0, 2, .inl b58)), (b0, .inr (12, [.int b4, .ref b5, .ref b6, .ref b7, .ref b8, .int b9, .ref b10, .int b11, .int b12, .int b13, .int b14, .ref b15, .ref b16, .ref b17, .int b18, .ref b19, .ref b20, .ref b21, .ref b22, .ref b23, .ref b24, .ref b25, .ref b26, .ref b27, .ref b28, .ref b29, .ref b30, .int 0, .ref b32, .ref b33, .int b34, .int b35, .int b36, .int b37, .ref b38, .ref b39, .ref b40, .ref b41, .ref b42, .ref b43, .ref b44, .int b45, .ref b46, .ref b47, .int b48, .ref b49, .ref b50, .ref b51, .ref b52, .ref b53, .int b54, .ref b55, .ref b56, .ref b57])), (b30, .inl (G.2 0, 2880, .inl b59))] H := hP
            have hD := z_tie hP hD rfl
            refine lv_iload hx hb d_Model_placeOf_123 (lv_at hl 0 rfl) ?_
            exact z_iret hx hb hr hlocks (hP.sub [1, 0, 2] rfl) (hD.sub [1, 0, 2] (by decide) rfl) hS (Nat.le_of_ble_eq_true rfl) (Nat.le_of_ble_eq_true rfl) d_Model_placeOf_125 ⟨v_85, 0, rfl, rfl, (zI.wk (l' := 0) (h' := 240) hv_85 (by decide)), (zI.wk (l' := 0) (h' := 1) zc_0 (by decide)), (by omega), (by have em9 := hemv_63.2; have g0 := congrArg Int32.toInt hfx_72; have g1 := congrArg Int32.toInt hfx_76; have g2 := congrArg Int32.toInt hfx_81; have r9 : ((yRc b59 1440 y_59.toInt.toNat : Nat) : Int) = v_82.toInt := (by show ((2410 * (b59 (1440 + 6 * y_59.toInt.toNat)).toInt.toNat + 241 * (b59 (1440 + 6 * y_59.toInt.toNat + 1)).toInt.toNat + (b59 (1440 + 6 * y_59.toInt.toNat + 2)).toInt.toNat : Nat) : Int) = _; omega); exact ⟨fun j hj => hli_62 j (by omega), Or.inr ⟨li_0, by by_cases c9 : v_85.toInt = (b58 (1 : Int32).toNatClampNeg).toInt; exact Or.inl c9; exact Or.inr (by rw [show v_85.toInt.toNat = y_59.toInt.toNat by omega]; omega)⟩⟩)⟩
          · have _nhc_98 := hc_98
            have ni_100 := (fa_eq _ _).mp hc_98
            refine lv_iconst (v := 1) hx hb d_Model_placeOf_115 (by decide) ?_
            refine lv_goto (tgt := 120) hx hb d_Model_placeOf_116 (by decide) ?_
            refine va_put (D := G.1) (ci := 12) (v := .int 1) (ty := .boolean) (C := R_Model) (T := F_Model) (N := 54) hx hb hts i_Model t_Model t_Model_ok n_Model hown hK hP hD hS 1 rfl rfl 27 (by decide) (hts _ q1136) (fun _ h9 => h9) rfl (by decide +kernel) rfl rfl (Nat.le_of_ble_eq_true rfl) d_Model_placeOf_120 (fun H locs hP hD hS => ?_)
            have hP : va_P G.1 classes [(b29, .inl (G.2 0, 2, .inl b58)), (b0, .inr (12, [.int b4, .ref b5, .ref b6, .ref b7, .ref b8, .int b9, .ref b10, .int b11, .int b12, .int b13, .int b14, .ref b15, .ref b16, .ref b17, .int b18, .ref b19, .ref b20, .ref b21, .ref b22, .ref b23, .ref b24, .ref b25, .ref b26, .ref b27, .ref b28, .ref b29, .ref b30, .int 1, .ref b32, .ref b33, .int b34, .int b35, .int b36, .int b37, .ref b38, .ref b39, .ref b40, .ref b41, .ref b42, .ref b43, .ref b44, .int b45, .ref b46, .ref b47, .int b48, .ref b49, .ref b50, .ref b51, .ref b52, .ref b53, .int b54, .ref b55, .ref b56, .ref b57])), (b30, .inl (G.2 0, 2880, .inl b59))] H := hP
            have hD := z_tie hP hD rfl
            refine lv_iload hx hb d_Model_placeOf_123 (lv_at hl 0 rfl) ?_
            exact z_iret hx hb hr hlocks (hP.sub [1, 0, 2] rfl) (hD.sub [1, 0, 2] (by decide) rfl) hS (Nat.le_of_ble_eq_true rfl) (Nat.le_of_ble_eq_true rfl) d_Model_placeOf_125 ⟨v_85, 1, rfl, rfl, (zI.wk (l' := 0) (h' := 240) hv_85 (by decide)), (zI.wk (l' := 0) (h' := 1) zc_1 (by decide)), (by omega), (by have em9 := hemv_63.2; have g0 := congrArg Int32.toInt hfx_72; have g1 := congrArg Int32.toInt hfx_76; have g2 := congrArg Int32.toInt hfx_81; have r9 : ((yRc b59 1440 y_59.toInt.toNat : Nat) : Int) = v_82.toInt := (by show ((2410 * (b59 (1440 + 6 * y_59.toInt.toNat)).toInt.toNat + 241 * (b59 (1440 + 6 * y_59.toInt.toNat + 1)).toInt.toNat + (b59 (1440 + 6 * y_59.toInt.toNat + 2)).toInt.toNat : Nat) : Int) = _; omega); exact ⟨fun j hj => hli_62 j (by omega), Or.inl ⟨li_1, by omega, by rw [show v_85.toInt.toNat = y_59.toInt.toNat by omega]; omega⟩⟩)⟩
      · have _nhc_83 := hc_83
        have ni_101 := (fa_lt _ _).mp (zi_nle hc_83)
        have hv_102 : zI v_82 0 580808 := zI.lt_l hv_82 hv_4 (zi_nle hc_83) (by decide)
        have hv_103 : zI v_4 1 580809 := zI.lt_r hv_82 hv_4 (zi_nle hc_83) (by decide)
        refine lv_iconst (v := 1) hx hb d_Model_placeOf_85 (by decide) ?_
        refine lv_goto (tgt := 90) hx hb d_Model_placeOf_86 (by decide) ?_
        refine lv_iadd hx hb d_Model_placeOf_90 ?_
        refine lv_topi (fun v_104 ev_104 => ?_)
        obtain ⟨qv_104, hv_104⟩ := zI_add (l := 1) (h := 240) hv_68 zc_1 ev_104 (by decide)
        rw [li_1] at qv_104
        refine lv_istore (lv' := [(6, .int v_104), (7, .int v_82), (5, .int v_4), (0, .ref b0), (1, .int 1), (2, .int b1), (3, .int b2), (4, .int b3)]) hx hb d_Model_placeOf_91 hl (by decide) rfl (fun ls hl => ?_)
        refine lv_goto (tgt := 22) hx hb d_Model_placeOf_93 (by decide) ?_
        exact ihk_57 (v_82) (v_104) _ _ _ (zI.wk (l' := (-1)) (h' := 580809) hv_102 (by decide)) (zI.wk (l' := 0) (h' := 240) hv_104 (by decide)) (by omega) (by omega) (by have g0 := congrArg Int32.toInt hfx_72; have g1 := congrArg Int32.toInt hfx_76; have g2 := congrArg Int32.toInt hfx_81; have r9 : ((yRc b59 1440 y_59.toInt.toNat : Nat) : Int) = v_82.toInt := (by show ((2410 * (b59 (1440 + 6 * y_59.toInt.toNat)).toInt.toNat + 241 * (b59 (1440 + 6 * y_59.toInt.toNat + 1)).toInt.toNat + (b59 (1440 + 6 * y_59.toInt.toNat + 2)).toInt.toNat : Nat) : Int) = _; omega); intro j hj; by_cases c9 : (j : Int) < y_59.toInt; exact hli_62 j c9; rw [show j = y_59.toInt.toNat by omega, r9]; omega) (by omega) (hP.sub [1, 0, 2] rfl) (hD.sub [1, 0, 2] (by decide) rfl) hS (lv_sub hl [1, 0, 2, 3, 4, 5, 6, 7] rfl)
abbrev m_s4_Model_addEdge : Room := { frames := 2, cells := 0, slots := 0, locals := 50 }
set_option maxHeartbeats 4000000 in
set_option maxRecDepth 100000 in
theorem s4_Model_addEdge (l : Launch) (G : zG) (b0 : Nat) (b1 : Int32) (b2 : Int32) (b3 : Int32) (b4 : Nat) (b5 : Nat) (b6 : Nat) (b7 : Nat) (b8 : Int32) (b9 : Nat) (b10 : Int32) (b11 : Int32) (b12 : Int32) (b13 : Int32) (b14 : Nat) (b15 : Nat) (b16 : Nat) (b17 : Int32) (b18 : Nat) (b19 : Nat) (b20 : Nat) (b21 : Nat) (b22 : Nat) (b23 : Nat) (b24 : Nat) (b25 : Nat) (b26 : Nat) (b27 : Nat) (b28 : Nat) (b29 : Nat) (b30 : Int32) (b31 : Nat) (b32 : Nat) (b33 : Int32) (b34 : Int32) (b35 : Int32) (b36 : Int32) (b37 : Nat) (b38 : Nat) (b39 : Nat) (b40 : Nat) (b41 : Nat) (b42 : Nat) (b43 : Nat) (b44 : Int32) (b45 : Nat) (b46 : Nat) (b47 : Int32) (b48 : Nat) (b49 : Nat) (b50 : Nat) (b51 : Nat) (b52 : Nat) (b53 : Int32) (b54 : Nat) (b55 : Nat) (b56 : Nat) (b57 : Nat → Int32) (b58 : Nat → Int32) (b59 : Nat → Int32) (b60 : Nat → Int32) (b61 : Nat → Int32) (hb1 : zI b1 0 19) (hb2 : zI b2 0 11) (hb8 : zI b8 0 8) (hb10 : zI b10 0 240) (hb11 : zI b11 0 240) (hb13 : zI b13 0 1) (hb17 : zI b17 0 12) (hb30 : zI b30 0 1) (hb33 : zI b33 0 1) (hb44 : zI b44 0 1000) (hb47 : zI b47 0 1000) (hb53 : zI b53 0 400) (hb57 : zW5 b57) (hb58 : zqa qP b58) (hb59 : zR b59 0 240) (hb60 : zR b60 0 240) (hb61 : zqa qE b61) (hem : (b60 (1 : Int32).toNatClampNeg).toInt ≤ 239) : zM l G y_Model_addEdge prog_14_method_34_code 10 (Option.none : Option Jvm.ClassFile.FieldType) m_s4_Model_addEdge [.ref b0, .int 1, .int b1, .int b2] [(b0, .inr (12, [.int b3, .ref b4, .ref b5, .ref b6, .ref b7, .int b8, .ref b9, .int b10, .int b11, .int b12, .int b13, .ref b14, .ref b15, .ref b16, .int b17, .ref b18, .ref b19, .ref b20, .ref b21, .ref b22, .ref b23, .ref b24, .ref b25, .ref b26, .ref b27, .ref b28, .ref b29, .int b30, .ref b31, .ref b32, .int b33, .int b34, .int b35, .int b36, .ref b37, .ref b38, .ref b39, .ref b40, .ref b41, .ref b42, .ref b43, .int b44, .ref b45, .ref b46, .int b47, .ref b48, .ref b49, .ref b50, .ref b51, .ref b52, .int b53, .ref b54, .ref b55, .ref b56])), (b4, .inl (G.2 0, 503, .inl b57)), (b20, .inl (G.2 0, 520, .inl b58)), (b23, .inl (G.2 0, 482, .inl b59)), (b28, .inl (G.2 0, 2, .inl b60)), (b29, .inl (G.2 0, 2880, .inl b61))] (fun v w => ∃ (e0 : Int32), ∃ (e1 : Nat → Int32), ∃ (e2 : Nat → Int32), v = none ∧ w = [(b0, .inr (12, [.int b3, .ref b4, .ref b5, .ref b6, .ref b7, .int b8, .ref b9, .int b10, .int b11, .int b12, .int b13, .ref b14, .ref b15, .ref b16, .int b17, .ref b18, .ref b19, .ref b20, .ref b21, .ref b22, .ref b23, .ref b24, .ref b25, .ref b26, .ref b27, .ref b28, .ref b29, .int e0, .ref b31, .ref b32, .int b33, .int b34, .int b35, .int b36, .ref b37, .ref b38, .ref b39, .ref b40, .ref b41, .ref b42, .ref b43, .int b44, .ref b45, .ref b46, .int b47, .ref b48, .ref b49, .ref b50, .ref b51, .ref b52, .int b53, .ref b54, .ref b55, .ref b56])), (b4, .inl (G.2 0, 503, .inl b57)), (b20, .inl (G.2 0, 520, .inl b58)), (b23, .inl (G.2 0, 482, .inl b59)), (b28, .inl (G.2 0, 2, .inl e1)), (b29, .inl (G.2 0, 2880, .inl e2))] ∧ (zI e0 0 1) ∧ (zR e1 0 240) ∧ (zqa qE e2) ∧ ((e1 (1 : Int32).toNatClampNeg).toInt ≤ (b60 (1 : Int32).toNatClampNeg).toInt + 1) ∧ (∃ fr by_ to va : Int32, (fr = b59 (241 + (b58 (260 + 13 * b1.toInt.toNat + b2.toInt.toNat)).toInt.toNat) ∧ by_ = b57 (21 + (12 * b1.toInt.toNat + b2.toInt.toNat)) ∧ to = b59 (241 + (b58 (260 + 13 * b1.toInt.toNat + (b2.toInt.toNat + 1))).toInt.toNat) ∧ va = b57 (261 + (12 * b1.toInt.toNat + b2.toInt.toNat))) ∧ yAE 1440 ((b60 (1 : Int32).toNatClampNeg).toInt).toNat b61 e2 ((e1 (1 : Int32).toNatClampNeg).toInt) fr by_ to va)) := by
  refine z_start (by decide +kernel) (Nat.le_of_ble_eq_true rfl) ?_
  intro p e s m below meth c A Z hr hnm hA hP hD hS ls hl
  have Z : zC p s m _ meth c prog_14_method_34_code 10 "TraceMachinesModel" G := Z
  obtain ⟨hx, hb, hml, hown, hts, hK, hN, hlocks⟩ := id Z
  have hl : lv_has ls 10 [(0, .ref b0), (1, .int 1), (2, .int b1), (3, .int b2)] := hl
  refine lv_aload_n hx hb d_Model_addEdge_0 rfl (lv_at hl 0 rfl) ?_
  refine lv_iload_n hx hb d_Model_addEdge_1 rfl (lv_at hl 1 rfl) ?_
  refine lv_iload_n hx hb d_Model_addEdge_2 rfl (lv_at hl 2 rfl) ?_
  refine lv_iload_n hx hb d_Model_addEdge_3 rfl (lv_at hl 3 rfl) ?_
  refine z_callV (index := 231) (As := [.int 1, .int b1, .int b2]) (rest := []) (wr := [(b4, .inl (G.2 0, 503, .inl b57)), (b28, .inl (G.2 0, 2, .inl b60)), (b29, .inl (G.2 0, 2880, .inl b61))]) Z (s4_Model_stateAt l G (b0) (b1) (b2) (b3) (b4) (b5) (b6) (b7) (b8) (b9) (b10) (b11) (b12) (b13) (b14) (b15) (b16) (b17) (b18) (b19) (b20) (b21) (b22) (b23) (b24) (b25) (b26) (b27) (b28) (b29) (b30) (b31) (b32) (b33) (b34) (b35) (b36) (b37) (b38) (b39) (b40) (b41) (b42) (b43) (b44) (b45) (b46) (b47) (b48) (b49) (b50) (b51) (b52) (b53) (b54) (b55) (b56) (b58) (b59) hb1 (zI.wk (l' := 0) (h' := 12) hb2 (by decide)) hb8 hb10 hb11 hb13 hb17 hb30 hb33 hb44 hb47 hb53 hb58 hb59) hl.1 q1400 q1402 qs66 q14 q1403 ⟨by decide, by decide, by show _ = some 3; decide +kernel⟩ ⟨Nat.le_of_ble_eq_true rfl, Nat.le_of_ble_eq_true rfl⟩ ⟨Nat.le_of_ble_eq_true rfl, Nat.le_of_ble_eq_true rfl⟩ rfl (Nat.le_of_ble_eq_true rfl) d_Model_addEdge_4 hP hD hS hA 0 12 rfl rfl rfl [0, 2, 3] [1, 4, 5] rfl rfl rfl rfl (by decide) (fun v w1 H locs hw_1 hP hD hS => ?_)
  obtain ⟨x_2, rfl, rfl, hx_2, hfx_3⟩ := hw_1
  have hP : va_P G.1 classes [(b4, .inl (G.2 0, 503, .inl b57)), (b28, .inl (G.2 0, 2, .inl b60)), (b29, .inl (G.2 0, 2880, .inl b61)), (b0, .inr (12, [.int b3, .ref b4, .ref b5, .ref b6, .ref b7, .int b8, .ref b9, .int b10, .int b11, .int b12, .int b13, .ref b14, .ref b15, .ref b16, .int b17, .ref b18, .ref b19, .ref b20, .ref b21, .ref b22, .ref b23, .ref b24, .ref b25, .ref b26, .ref b27, .ref b28, .ref b29, .int b30, .ref b31, .ref b32, .int b33, .int b34, .int b35, .int b36, .ref b37, .ref b38, .ref b39, .ref b40, .ref b41, .ref b42, .ref b43, .int b44, .ref b45, .ref b46, .int b47, .ref b48, .ref b49, .ref b50, .ref b51, .ref b52, .int b53, .ref b54, .ref b55, .ref b56])), (b20, .inl (G.2 0, 520, .inl b58)), (b23, .inl (G.2 0, 482, .inl b59))] H := hP
  have hD := z_tie hP hD rfl
  refine W.widen (k := 0) (n := 0) (Nat.le_of_ble_eq_true rfl) (Nat.le_of_ble_eq_true rfl) ?_
  refine lv_istore (lv' := [(4, .int x_2), (0, .ref b0), (1, .int 1), (2, .int b1), (3, .int b2)]) hx hb d_Model_addEdge_7 hl (by decide) rfl (fun ls hl => ?_)
  refine lv_aload_n hx hb d_Model_addEdge_9 rfl (lv_at hl 1 rfl) ?_
  refine lv_iload_n hx hb d_Model_addEdge_10 rfl (lv_at hl 2 rfl) ?_
  refine lv_iload_n hx hb d_Model_addEdge_11 rfl (lv_at hl 3 rfl) ?_
  refine lv_iload_n hx hb d_Model_addEdge_12 rfl (lv_at hl 4 rfl) ?_
  refine lv_iconst (v := 1) hx hb d_Model_addEdge_13 (by decide) ?_
  refine lv_iadd hx hb d_Model_addEdge_14 ?_
  refine lv_topi (fun v_4 ev_4 => ?_)
  obtain ⟨qv_4, hv_4⟩ := zI_add (l := 1) (h := 12) hb2 zc_1 ev_4 (by decide)
  rw [li_1] at qv_4
  refine z_callV (index := 231) (As := [.int 1, .int b1, .int v_4]) (rest := []) (wr := [(b4, .inl (G.2 0, 503, .inl b57)), (b28, .inl (G.2 0, 2, .inl b60)), (b29, .inl (G.2 0, 2880, .inl b61))]) Z (s4_Model_stateAt l G (b0) (b1) (v_4) (b3) (b4) (b5) (b6) (b7) (b8) (b9) (b10) (b11) (b12) (b13) (b14) (b15) (b16) (b17) (b18) (b19) (b20) (b21) (b22) (b23) (b24) (b25) (b26) (b27) (b28) (b29) (b30) (b31) (b32) (b33) (b34) (b35) (b36) (b37) (b38) (b39) (b40) (b41) (b42) (b43) (b44) (b45) (b46) (b47) (b48) (b49) (b50) (b51) (b52) (b53) (b54) (b55) (b56) (b58) (b59) hb1 (zI.wk (l' := 0) (h' := 12) hv_4 (by decide)) hb8 hb10 hb11 hb13 hb17 hb30 hb33 hb44 hb47 hb53 hb58 hb59) hl.1 q1400 q1402 qs66 q14 q1403 ⟨by decide, by decide, by show _ = some 3; decide +kernel⟩ ⟨Nat.le_of_ble_eq_true rfl, Nat.le_of_ble_eq_true rfl⟩ ⟨Nat.le_of_ble_eq_true rfl, Nat.le_of_ble_eq_true rfl⟩ rfl (Nat.le_of_ble_eq_true rfl) d_Model_addEdge_15 hP hD hS hA 3 12 rfl rfl rfl [3, 4, 5] [0, 1, 2] rfl rfl rfl rfl (by decide) (fun v w1 H locs hw_5 hP hD hS => ?_)
  obtain ⟨x_6, rfl, rfl, hx_6, hfx_7⟩ := hw_5
  have hP : va_P G.1 classes [(b4, .inl (G.2 0, 503, .inl b57)), (b28, .inl (G.2 0, 2, .inl b60)), (b29, .inl (G.2 0, 2880, .inl b61)), (b0, .inr (12, [.int b3, .ref b4, .ref b5, .ref b6, .ref b7, .int b8, .ref b9, .int b10, .int b11, .int b12, .int b13, .ref b14, .ref b15, .ref b16, .int b17, .ref b18, .ref b19, .ref b20, .ref b21, .ref b22, .ref b23, .ref b24, .ref b25, .ref b26, .ref b27, .ref b28, .ref b29, .int b30, .ref b31, .ref b32, .int b33, .int b34, .int b35, .int b36, .ref b37, .ref b38, .ref b39, .ref b40, .ref b41, .ref b42, .ref b43, .int b44, .ref b45, .ref b46, .int b47, .ref b48, .ref b49, .ref b50, .ref b51, .ref b52, .int b53, .ref b54, .ref b55, .ref b56])), (b20, .inl (G.2 0, 520, .inl b58)), (b23, .inl (G.2 0, 482, .inl b59))] H := hP
  have hD := z_tie hP hD rfl
  refine W.widen (k := 0) (n := 0) (Nat.le_of_ble_eq_true rfl) (Nat.le_of_ble_eq_true rfl) ?_
  refine lv_istore (lv' := [(5, .int x_6), (4, .int x_2), (0, .ref b0), (1, .int 1), (2, .int b1), (3, .int b2)]) hx hb d_Model_addEdge_18 hl (by decide) rfl (fun ls hl => ?_)
  refine lv_aload_n hx hb d_Model_addEdge_20 rfl (lv_at hl 2 rfl) ?_
  refine lv_iload_n hx hb d_Model_addEdge_21 rfl (lv_at hl 3 rfl) ?_
  refine lv_iload hx hb d_Model_addEdge_22 (lv_at hl 1 rfl) ?_
  refine lv_aload_n hx hb d_Model_addEdge_24 rfl (lv_at hl 2 rfl) ?_
  refine lv_iload_n hx hb d_Model_addEdge_25 rfl (lv_at hl 4 rfl) ?_
  refine lv_iload_n hx hb d_Model_addEdge_26 rfl (lv_at hl 5 rfl) ?_
  refine z_callV (index := 207) (As := [.int b1, .int b2]) (rest := [.int x_2, .int 1, .ref b0]) (wr := [(b28, .inl (G.2 0, 2, .inl b60)), (b29, .inl (G.2 0, 2880, .inl b61)), (b20, .inl (G.2 0, 520, .inl b58)), (b23, .inl (G.2 0, 482, .inl b59))]) Z (s2_Model_letterAt l G (b0) (b1) (b2) (b3) (b4) (b5) (b6) (b7) (b8) (b9) (b10) (b11) (b12) (b13) (b14) (b15) (b16) (b17) (b18) (b19) (b20) (b21) (b22) (b23) (b24) (b25) (b26) (b27) (b28) (b29) (b30) (b31) (b32) (b33) (b34) (b35) (b36) (b37) (b38) (b39) (b40) (b41) (b42) (b43) (b44) (b45) (b46) (b47) (b48) (b49) (b50) (b51) (b52) (b53) (b54) (b55) (b56) (b57) hb1 hb2 hb8 hb10 hb11 hb13 hb17 hb30 hb33 hb44 hb47 hb53 hb57) hl.1 q1372 q1374 qs59 q14 q1375 ⟨by decide, by decide, by show _ = some 2; decide +kernel⟩ ⟨Nat.le_of_ble_eq_true rfl, Nat.le_of_ble_eq_true rfl⟩ ⟨Nat.le_of_ble_eq_true rfl, Nat.le_of_ble_eq_true rfl⟩ rfl (Nat.le_of_ble_eq_true rfl) d_Model_addEdge_27 hP hD hS hA 3 12 rfl rfl rfl [3, 0] [1, 2, 4, 5] rfl rfl rfl rfl (by decide) (fun v w1 H locs hw_8 hP hD hS => ?_)
  obtain ⟨x_9, rfl, rfl, hx_9, hfx_10⟩ := hw_8
  have hP : va_P G.1 classes [(b28, .inl (G.2 0, 2, .inl b60)), (b29, .inl (G.2 0, 2880, .inl b61)), (b20, .inl (G.2 0, 520, .inl b58)), (b23, .inl (G.2 0, 482, .inl b59)), (b0, .inr (12, [.int b3, .ref b4, .ref b5, .ref b6, .ref b7, .int b8, .ref b9, .int b10, .int b11, .int b12, .int b13, .ref b14, .ref b15, .ref b16, .int b17, .ref b18, .ref b19, .ref b20, .ref b21, .ref b22, .ref b23, .ref b24, .ref b25, .ref b26, .ref b27, .ref b28, .ref b29, .int b30, .ref b31, .ref b32, .int b33, .int b34, .int b35, .int b36, .ref b37, .ref b38, .ref b39, .ref b40, .ref b41, .ref b42, .ref b43, .int b44, .ref b45, .ref b46, .int b47, .ref b48, .ref b49, .ref b50, .ref b51, .ref b52, .int b53, .ref b54, .ref b55, .ref b56])), (b4, .inl (G.2 0, 503, .inl b57))] H := hP
  have hD := z_tie hP hD rfl
  refine W.widen (k := 0) (n := 0) (Nat.le_of_ble_eq_true rfl) (Nat.le_of_ble_eq_true rfl) ?_
  refine lv_iload hx hb d_Model_addEdge_30 (lv_at hl 0 rfl) ?_
  refine z_callV (index := 234) (As := [.int 1, .int x_2, .int x_9, .int x_6]) (rest := []) (wr := [(b20, .inl (G.2 0, 520, .inl b58)), (b23, .inl (G.2 0, 482, .inl b59)), (b4, .inl (G.2 0, 503, .inl b57))]) Z (s4_Model_placeOf l G (b0) (x_2) (x_9) (x_6) (b3) (b4) (b5) (b6) (b7) (b8) (b9) (b10) (b11) (b12) (b13) (b14) (b15) (b16) (b17) (b18) (b19) (b20) (b21) (b22) (b23) (b24) (b25) (b26) (b27) (b28) (b29) (b30) (b31) (b32) (b33) (b34) (b35) (b36) (b37) (b38) (b39) (b40) (b41) (b42) (b43) (b44) (b45) (b46) (b47) (b48) (b49) (b50) (b51) (b52) (b53) (b54) (b55) (b56) (b60) (b61) hx_2 hx_9 hx_6 hb8 hb10 hb11 hb13 hb17 hb30 hb33 hb44 hb47 hb53 hb60 hb61) hl.1 q1404 q1406 qs67 q14 q1407 ⟨by decide, by decide, by show _ = some 4; decide +kernel⟩ ⟨Nat.le_of_ble_eq_true rfl, Nat.le_of_ble_eq_true rfl⟩ ⟨Nat.le_of_ble_eq_true rfl, Nat.le_of_ble_eq_true rfl⟩ rfl (Nat.le_of_ble_eq_true rfl) d_Model_addEdge_32 hP hD hS hA 4 12 rfl rfl rfl [4, 0, 1] [2, 3, 5] rfl rfl rfl rfl (by decide) (fun v w1 H locs hw_11 hP hD hS => ?_)
  obtain ⟨x_12, x_13, rfl, rfl, hx_12, hx_13, hfx_14, hfx_15⟩ := hw_11
  have hP : va_P G.1 classes [(b20, .inl (G.2 0, 520, .inl b58)), (b23, .inl (G.2 0, 482, .inl b59)), (b4, .inl (G.2 0, 503, .inl b57)), (b0, .inr (12, [.int b3, .ref b4, .ref b5, .ref b6, .ref b7, .int b8, .ref b9, .int b10, .int b11, .int b12, .int b13, .ref b14, .ref b15, .ref b16, .int b17, .ref b18, .ref b19, .ref b20, .ref b21, .ref b22, .ref b23, .ref b24, .ref b25, .ref b26, .ref b27, .ref b28, .ref b29, .int x_13, .ref b31, .ref b32, .int b33, .int b34, .int b35, .int b36, .ref b37, .ref b38, .ref b39, .ref b40, .ref b41, .ref b42, .ref b43, .int b44, .ref b45, .ref b46, .int b47, .ref b48, .ref b49, .ref b50, .ref b51, .ref b52, .int b53, .ref b54, .ref b55, .ref b56])), (b28, .inl (G.2 0, 2, .inl b60)), (b29, .inl (G.2 0, 2880, .inl b61))] H := hP
  have hD := z_tie hP hD rfl
  refine W.widen (k := 0) (n := 0) (Nat.le_of_ble_eq_true rfl) (Nat.le_of_ble_eq_true rfl) ?_
  have hv_16 : zI x_12 0 239 := ⟨(hx_12).1, by have := hfx_14; omega⟩
  refine lv_istore (lv' := [(6, .int x_12), (5, .int x_6), (4, .int x_2), (0, .ref b0), (1, .int 1), (2, .int b1), (3, .int b2)]) hx hb d_Model_addEdge_35 hl (by decide) rfl (fun ls hl => ?_)
  refine lv_aload_n hx hb d_Model_addEdge_37 rfl (lv_at hl 3 rfl) ?_
  refine lv_iload_n hx hb d_Model_addEdge_38 rfl (lv_at hl 5 rfl) ?_
  refine lv_iload_n hx hb d_Model_addEdge_39 rfl (lv_at hl 6 rfl) ?_
  refine z_callV (index := 238) (As := [.int b1, .int b2]) (rest := []) (wr := [(b20, .inl (G.2 0, 520, .inl b58)), (b23, .inl (G.2 0, 482, .inl b59)), (b28, .inl (G.2 0, 2, .inl b60)), (b29, .inl (G.2 0, 2880, .inl b61))]) Z (s2_Model_valueAt l G (b0) (b1) (b2) (b3) (b4) (b5) (b6) (b7) (b8) (b9) (b10) (b11) (b12) (b13) (b14) (b15) (b16) (b17) (b18) (b19) (b20) (b21) (b22) (b23) (b24) (b25) (b26) (b27) (b28) (b29) (x_13) (b31) (b32) (b33) (b34) (b35) (b36) (b37) (b38) (b39) (b40) (b41) (b42) (b43) (b44) (b45) (b46) (b47) (b48) (b49) (b50) (b51) (b52) (b53) (b54) (b55) (b56) (b57) hb1 hb2 hb8 hb10 hb11 hb13 hb17 hx_13 hb33 hb44 hb47 hb53 hb57) hl.1 q1412 q1414 qs69 q14 q1415 ⟨by decide, by decide, by show _ = some 2; decide +kernel⟩ ⟨Nat.le_of_ble_eq_true rfl, Nat.le_of_ble_eq_true rfl⟩ ⟨Nat.le_of_ble_eq_true rfl, Nat.le_of_ble_eq_true rfl⟩ rfl (Nat.le_of_ble_eq_true rfl) d_Model_addEdge_40 hP hD hS hA 3 12 rfl rfl rfl [3, 2] [0, 1, 4, 5] rfl rfl rfl rfl (by decide) (fun v w1 H locs hw_17 hP hD hS => ?_)
  obtain ⟨x_18, rfl, rfl, hfx_19⟩ := hw_17
  have hP : va_P G.1 classes [(b20, .inl (G.2 0, 520, .inl b58)), (b23, .inl (G.2 0, 482, .inl b59)), (b28, .inl (G.2 0, 2, .inl b60)), (b29, .inl (G.2 0, 2880, .inl b61)), (b0, .inr (12, [.int b3, .ref b4, .ref b5, .ref b6, .ref b7, .int b8, .ref b9, .int b10, .int b11, .int b12, .int b13, .ref b14, .ref b15, .ref b16, .int b17, .ref b18, .ref b19, .ref b20, .ref b21, .ref b22, .ref b23, .ref b24, .ref b25, .ref b26, .ref b27, .ref b28, .ref b29, .int x_13, .ref b31, .ref b32, .int b33, .int b34, .int b35, .int b36, .ref b37, .ref b38, .ref b39, .ref b40, .ref b41, .ref b42, .ref b43, .int b44, .ref b45, .ref b46, .int b47, .ref b48, .ref b49, .ref b50, .ref b51, .ref b52, .int b53, .ref b54, .ref b55, .ref b56])), (b4, .inl (G.2 0, 503, .inl b57))] H := hP
  have hD := z_tie hP hD rfl
  refine W.widen (k := 0) (n := 0) (Nat.le_of_ble_eq_true rfl) (Nat.le_of_ble_eq_true rfl) ?_
  refine lv_istore (lv' := [(7, .int x_18), (6, .int x_12), (5, .int x_6), (4, .int x_2), (0, .ref b0), (1, .int 1), (2, .int b1), (3, .int b2)]) hx hb d_Model_addEdge_43 hl (by decide) rfl (fun ls hl => ?_)
  refine lv_bipush (v := 6) hx hb d_Model_addEdge_45 (by decide) ?_
  refine lv_sipush (v := 240) hx hb d_Model_addEdge_47 (by decide) ?_
  refine lv_iload_n hx hb d_Model_addEdge_50 rfl (lv_at hl 5 rfl) ?_
  refine lv_imul hx hb d_Model_addEdge_51 ?_
  refine z_topi (y := 240) (by decide +kernel) ?_
  refine lv_iload hx hb d_Model_addEdge_52 (lv_at hl 1 rfl) ?_
  refine lv_iadd hx hb d_Model_addEdge_54 ?_
  refine lv_topi (fun v_20 ev_20 => ?_)
  obtain ⟨qv_20, hv_20⟩ := zI_add (l := 240) (h := 479) zc_240 hv_16 ev_20 (by decide)
  rw [li_240] at qv_20
  refine lv_imul hx hb d_Model_addEdge_55 ?_
  refine lv_topi (fun v_21 ev_21 => ?_)
  obtain ⟨qv_21, hv_21⟩ := zI_mul (l := 1440) (h := 2874) zc_6 hv_20 ev_21 (by decide)
  rw [li_6] at qv_21
  refine lv_istore (lv' := [(8, .int v_21), (7, .int x_18), (6, .int x_12), (5, .int x_6), (4, .int x_2), (0, .ref b0), (1, .int 1), (2, .int b1), (3, .int b2)]) hx hb d_Model_addEdge_56 hl (by decide) rfl (fun ls hl => ?_)
  refine lv_aload_n hx hb d_Model_addEdge_58 rfl (lv_at hl 5 rfl) ?_
  refine va_get (D := G.1) (ci := 12) (v := .int x_13) (C := R_Model) (T := F_Model) (N := 54) hx hb hts i_Model hown hK hP 4 rfl rfl 27 (by decide) (hts _ q1136) (fun _ h9 => h9) rfl d_Model_addEdge_59 ?_
  refine lv_if_ne (tgt := 191) hx hb d_Model_addEdge_62 (by decide) (fun hc_22 => ?_) (fun hc_22 => ?_)
  · have _nhc_22 := hc_22
    have ni_23 : ¬ (x_13 : Int32).toInt = (0 : Int32).toInt := fun z => hc_22 ((fa_eq _ _).mpr z)
    simp only [li_0] at ni_23
    have hv_24 : zI x_13 1 1 := zI.ne_lo hx_13 zc_0 hc_22 (by decide)
    refine lv_aload_n hx hb d_Model_addEdge_191 rfl (lv_at hl 5 rfl) ?_
    refine va_get (D := G.1) (ci := 12) (v := .ref b29) (C := R_Model) (T := F_Model) (N := 54) hx hb hts i_Model hown hK hP 4 rfl rfl 26 (by decide) (hts _ q1135) (fun _ h9 => h9) rfl d_Model_addEdge_192 ?_
    refine lv_iload hx hb d_Model_addEdge_195 (lv_at hl 0 rfl) ?_
    refine lv_iconst (v := 3) hx hb d_Model_addEdge_197 (by decide) ?_
    refine lv_iadd hx hb d_Model_addEdge_198 ?_
    refine lv_topi (fun v_25 ev_25 => ?_)
    obtain ⟨qv_25, hv_25⟩ := zI_add (l := 1443) (h := 2877) hv_21 zc_3 ev_25 (by decide)
    rw [li_3] at qv_25
    refine lv_dup2_11 hx hb d_Model_addEdge_199 rfl rfl ?_
    refine va_iald hx hb hK hP 3 0 rfl rfl (zI.inn hv_25 (by decide)) d_Model_addEdge_200 ?_
    refine lv_topi (fun v_26 ev_26 => ?_)
    have kv_26 := zQE.ld hb61 hv_25 ev_26 (by decide)
    refine lv_iconst (v := 1) hx hb d_Model_addEdge_201 (by decide) ?_
    refine lv_iadd hx hb d_Model_addEdge_202 ?_
    refine lv_topi (fun v_27 ev_27 => ?_)
    refine va_iast hx hb hK hP hD hS 3 0 rfl rfl (zI.inn hv_25 (by decide)) d_Model_addEdge_203 (fun H locs hP hD hS => ?_)
    obtain ⟨f_28, hf_28, gf_28, uf_28, hP, hD⟩ := z_newq_ (Q := qE) 3 hP hD rfl hb61 (qE_v hv_25 (by decide) ⟨fun _ => ⟨by have _w := (zI_all v_27); omega, by have _w := (zI_all v_27); omega⟩, fun _ => ⟨by have _w := (zI_all v_27); omega, by have _w := (zI_all v_27); omega⟩, fun _ => ⟨by have _w := (zI_all v_27); omega, by have _w := (zI_all v_27); omega⟩⟩)
    have hP : va_P G.1 classes [(b20, .inl (G.2 0, 520, .inl b58)), (b23, .inl (G.2 0, 482, .inl b59)), (b28, .inl (G.2 0, 2, .inl b60)), (b29, .inl (G.2 0, 2880, .inl f_28)), (b0, .inr (12, [.int b3, .ref b4, .ref b5, .ref b6, .ref b7, .int b8, .ref b9, .int b10, .int b11, .int b12, .int b13, .ref b14, .ref b15, .ref b16, .int b17, .ref b18, .ref b19, .ref b20, .ref b21, .ref b22, .ref b23, .ref b24, .ref b25, .ref b26, .ref b27, .ref b28, .ref b29, .int x_13, .ref b31, .ref b32, .int b33, .int b34, .int b35, .int b36, .ref b37, .ref b38, .ref b39, .ref b40, .ref b41, .ref b42, .ref b43, .int b44, .ref b45, .ref b46, .int b47, .ref b48, .ref b49, .ref b50, .ref b51, .ref b52, .int b53, .ref b54, .ref b55, .ref b56])), (b4, .inl (G.2 0, 503, .inl b57))] H := hP
    have hD := z_tie hP hD rfl
    refine lv_aload_n hx hb d_Model_addEdge_204 rfl (lv_at hl 5 rfl) ?_
    refine va_get (D := G.1) (ci := 12) (v := .ref b29) (C := R_Model) (T := F_Model) (N := 54) hx hb hts i_Model hown hK hP 4 rfl rfl 26 (by decide) (hts _ q1135) (fun _ h9 => h9) rfl d_Model_addEdge_205 ?_
    refine lv_iload hx hb d_Model_addEdge_208 (lv_at hl 0 rfl) ?_
    refine lv_iconst (v := 4) hx hb d_Model_addEdge_210 (by decide) ?_
    refine lv_iadd hx hb d_Model_addEdge_211 ?_
    refine lv_topi (fun v_29 ev_29 => ?_)
    obtain ⟨qv_29, hv_29⟩ := zI_add (l := 1444) (h := 2878) hv_21 zc_4 ev_29 (by decide)
    rw [li_4] at qv_29
    refine lv_iload hx hb d_Model_addEdge_212 (lv_at hl 1 rfl) ?_
    refine lv_aload_n hx hb d_Model_addEdge_214 rfl (lv_at hl 5 rfl) ?_
    refine va_get (D := G.1) (ci := 12) (v := .ref b29) (C := R_Model) (T := F_Model) (N := 54) hx hb hts i_Model hown hK hP 4 rfl rfl 26 (by decide) (hts _ q1135) (fun _ h9 => h9) rfl d_Model_addEdge_215 ?_
    refine lv_iload hx hb d_Model_addEdge_218 (lv_at hl 0 rfl) ?_
    refine lv_iconst (v := 4) hx hb d_Model_addEdge_220 (by decide) ?_
    refine lv_iadd hx hb d_Model_addEdge_221 ?_
    refine lv_topi (fun v_30 ev_30 => ?_)
    obtain rfl : v_29 = v_30 := ev_29.trans ev_30.symm
    refine va_iald hx hb hK hP 3 0 rfl rfl (zI.inn hv_29 (by decide)) d_Model_addEdge_222 ?_
    refine lv_topi (fun v_31 ev_31 => ?_)
    have kv_31 := zQE.ld hf_28 hv_29 ev_31 (by decide)
    refine lv_icmp_ge (tgt := 231) hx hb d_Model_addEdge_223 (by decide) (fun hc_32 => ?_) (fun hc_32 => ?_)
    · have _nhc_32 := hc_32
      have ni_33 := (fa_le _ _).mp hc_32
      refine lv_aload_n hx hb d_Model_addEdge_231 rfl (lv_at hl 5 rfl) ?_
      refine va_get (D := G.1) (ci := 12) (v := .ref b29) (C := R_Model) (T := F_Model) (N := 54) hx hb hts i_Model hown hK hP 4 rfl rfl 26 (by decide) (hts _ q1135) (fun _ h9 => h9) rfl d_Model_addEdge_232 ?_
      refine lv_iload hx hb d_Model_addEdge_235 (lv_at hl 0 rfl) ?_
      refine lv_iconst (v := 4) hx hb d_Model_addEdge_237 (by decide) ?_
      refine lv_iadd hx hb d_Model_addEdge_238 ?_
      refine lv_topi (fun v_34 ev_34 => ?_)
      obtain rfl : v_29 = v_34 := ev_29.trans ev_34.symm
      refine va_iald hx hb hK hP 3 0 rfl rfl (zI.inn hv_29 (by decide)) d_Model_addEdge_239 ?_
      refine lv_topi (fun v_35 ev_35 => ?_)
      obtain rfl : v_31 = v_35 := ev_31.trans ev_35.symm
      refine va_iast hx hb hK hP hD hS 3 0 rfl rfl (zI.inn hv_29 (by decide)) d_Model_addEdge_240 (fun H locs hP hD hS => ?_)
      obtain ⟨f_36, hf_36, gf_36, uf_36, hP, hD⟩ := z_newq_ (Q := qE) 3 hP hD rfl hf_28 (qE_s kv_31 hv_29 hv_29 (by decide) (by omega))
      have hP : va_P G.1 classes [(b20, .inl (G.2 0, 520, .inl b58)), (b23, .inl (G.2 0, 482, .inl b59)), (b28, .inl (G.2 0, 2, .inl b60)), (b29, .inl (G.2 0, 2880, .inl f_36)), (b0, .inr (12, [.int b3, .ref b4, .ref b5, .ref b6, .ref b7, .int b8, .ref b9, .int b10, .int b11, .int b12, .int b13, .ref b14, .ref b15, .ref b16, .int b17, .ref b18, .ref b19, .ref b20, .ref b21, .ref b22, .ref b23, .ref b24, .ref b25, .ref b26, .ref b27, .ref b28, .ref b29, .int x_13, .ref b31, .ref b32, .int b33, .int b34, .int b35, .int b36, .ref b37, .ref b38, .ref b39, .ref b40, .ref b41, .ref b42, .ref b43, .int b44, .ref b45, .ref b46, .int b47, .ref b48, .ref b49, .ref b50, .ref b51, .ref b52, .int b53, .ref b54, .ref b55, .ref b56])), (b4, .inl (G.2 0, 503, .inl b57))] H := hP
      have hD := z_tie hP hD rfl
      refine lv_aload_n hx hb d_Model_addEdge_241 rfl (lv_at hl 5 rfl) ?_
      refine va_get (D := G.1) (ci := 12) (v := .ref b29) (C := R_Model) (T := F_Model) (N := 54) hx hb hts i_Model hown hK hP 4 rfl rfl 26 (by decide) (hts _ q1135) (fun _ h9 => h9) rfl d_Model_addEdge_242 ?_
      refine lv_iload hx hb d_Model_addEdge_245 (lv_at hl 0 rfl) ?_
      refine lv_iconst (v := 5) hx hb d_Model_addEdge_247 (by decide) ?_
      refine lv_iadd hx hb d_Model_addEdge_248 ?_
      refine lv_topi (fun v_37 ev_37 => ?_)
      obtain ⟨qv_37, hv_37⟩ := zI_add (l := 1445) (h := 2879) hv_21 zc_5 ev_37 (by decide)
      rw [li_5] at qv_37
      refine lv_iload hx hb d_Model_addEdge_249 (lv_at hl 1 rfl) ?_
      refine lv_aload_n hx hb d_Model_addEdge_251 rfl (lv_at hl 5 rfl) ?_
      refine va_get (D := G.1) (ci := 12) (v := .ref b29) (C := R_Model) (T := F_Model) (N := 54) hx hb hts i_Model hown hK hP 4 rfl rfl 26 (by decide) (hts _ q1135) (fun _ h9 => h9) rfl d_Model_addEdge_252 ?_
      refine lv_iload hx hb d_Model_addEdge_255 (lv_at hl 0 rfl) ?_
      refine lv_iconst (v := 5) hx hb d_Model_addEdge_257 (by decide) ?_
      refine lv_iadd hx hb d_Model_addEdge_258 ?_
      refine lv_topi (fun v_38 ev_38 => ?_)
      obtain rfl : v_37 = v_38 := ev_37.trans ev_38.symm
      refine va_iald hx hb hK hP 3 0 rfl rfl (zI.inn hv_37 (by decide)) d_Model_addEdge_259 ?_
      refine lv_topi (fun v_39 ev_39 => ?_)
      have kv_39 := zQE.ld hf_36 hv_37 ev_39 (by decide)
      refine lv_icmp_le (tgt := 268) hx hb d_Model_addEdge_260 (by decide) (fun hc_40 => ?_) (fun hc_40 => ?_)
      · have _nhc_40 := hc_40
        have ni_41 := (fa_le _ _).mp hc_40
        refine lv_aload_n hx hb d_Model_addEdge_268 rfl (lv_at hl 5 rfl) ?_
        refine va_get (D := G.1) (ci := 12) (v := .ref b29) (C := R_Model) (T := F_Model) (N := 54) hx hb hts i_Model hown hK hP 4 rfl rfl 26 (by decide) (hts _ q1135) (fun _ h9 => h9) rfl d_Model_addEdge_269 ?_
        refine lv_iload hx hb d_Model_addEdge_272 (lv_at hl 0 rfl) ?_
        refine lv_iconst (v := 5) hx hb d_Model_addEdge_274 (by decide) ?_
        refine lv_iadd hx hb d_Model_addEdge_275 ?_
        refine lv_topi (fun v_42 ev_42 => ?_)
        obtain rfl : v_37 = v_42 := ev_37.trans ev_42.symm
        refine va_iald hx hb hK hP 3 0 rfl rfl (zI.inn hv_37 (by decide)) d_Model_addEdge_276 ?_
        refine lv_topi (fun v_43 ev_43 => ?_)
        obtain rfl : v_39 = v_43 := ev_39.trans ev_43.symm
        refine va_iast hx hb hK hP hD hS 3 0 rfl rfl (zI.inn hv_37 (by decide)) d_Model_addEdge_277 (fun H locs hP hD hS => ?_)
        obtain ⟨f_44, hf_44, gf_44, uf_44, hP, hD⟩ := z_newq_ (Q := qE) 3 hP hD rfl hf_36 (qE_s kv_39 hv_37 hv_37 (by decide) (by omega))
        have hP : va_P G.1 classes [(b20, .inl (G.2 0, 520, .inl b58)), (b23, .inl (G.2 0, 482, .inl b59)), (b28, .inl (G.2 0, 2, .inl b60)), (b29, .inl (G.2 0, 2880, .inl f_44)), (b0, .inr (12, [.int b3, .ref b4, .ref b5, .ref b6, .ref b7, .int b8, .ref b9, .int b10, .int b11, .int b12, .int b13, .ref b14, .ref b15, .ref b16, .int b17, .ref b18, .ref b19, .ref b20, .ref b21, .ref b22, .ref b23, .ref b24, .ref b25, .ref b26, .ref b27, .ref b28, .ref b29, .int x_13, .ref b31, .ref b32, .int b33, .int b34, .int b35, .int b36, .ref b37, .ref b38, .ref b39, .ref b40, .ref b41, .ref b42, .ref b43, .int b44, .ref b45, .ref b46, .int b47, .ref b48, .ref b49, .ref b50, .ref b51, .ref b52, .int b53, .ref b54, .ref b55, .ref b56])), (b4, .inl (G.2 0, 503, .inl b57))] H := hP
        have hD := z_tie hP hD rfl
        exact z_vret hx hb hr hlocks (hP.sub [4, 5, 0, 1, 2, 3] rfl) (hD.sub [4, 5, 0, 1, 2, 3] (by decide) rfl) hS (Nat.le_of_ble_eq_true rfl) (Nat.le_of_ble_eq_true rfl) d_Model_addEdge_278 ⟨x_13, b60, f_44, rfl, rfl, (zI.wk (l' := 0) (h' := 1) hv_24 (by decide)), hb60, hf_44, (by omega), (by have b9 := congrArg Int32.toInt hfx_10; rcases (hfx_15).2 with ⟨_, h6, _⟩ | ⟨h6, _⟩; (exact ⟨x_2, x_9, x_6, x_18, ⟨hfx_3, hfx_10, (by have t9 := hfx_7; rw [t9]; congr 4; omega), hfx_19⟩, yAE_b (e := x_12.toInt.toNat) (u := v_26) (lw := v_31) (hw := v_39) (by omega) (fun j hj => (hfx_15).1 j (by omega)) (by rcases (hfx_15).2 with ⟨_, _, h8⟩ | ⟨h8, _⟩; exact h8; (exfalso; omega)) (by omega) (by rw [uf_44, uf_36, uf_28]) (by have p9 := z_pl hv_25 (by decide); omega) (by have p9 := z_pl hv_29 (by decide); omega) (by have p9 := z_pl hv_37 (by decide); omega) ev_26 ev_27 (by rw [← uf_28]; exact ev_31) (by first | exact Or.inl ⟨by omega, rfl⟩ | exact Or.inr ⟨by omega, rfl⟩) (by rw [← uf_28, ← uf_36]; exact ev_39) (by first | exact Or.inl ⟨by omega, rfl⟩ | exact Or.inr ⟨by omega, rfl⟩)⟩); (exfalso; omega))⟩
      · have _nhc_40 := hc_40
        have ni_45 := (fa_lt _ _).mp (zi_nle hc_40)
        have hv_46 : zI v_39 (-2147483648) 2147483646 := zI.lt_l (zI_all v_39) (zI_all x_18) (zi_nle hc_40) (by decide)
        have hv_47 : zI x_18 (-2147483647) 2147483647 := zI.lt_r (zI_all v_39) (zI_all x_18) (zi_nle hc_40) (by decide)
        refine lv_iload hx hb d_Model_addEdge_263 (lv_at hl 1 rfl) ?_
        refine lv_goto (tgt := 277) hx hb d_Model_addEdge_265 (by decide) ?_
        refine va_iast hx hb hK hP hD hS 3 0 rfl rfl (zI.inn hv_37 (by decide)) d_Model_addEdge_277 (fun H locs hP hD hS => ?_)
        obtain ⟨f_48, hf_48, gf_48, uf_48, hP, hD⟩ := z_newq_ (Q := qE) 3 hP hD rfl hf_36 (qE_v hv_37 (by decide) ⟨fun _ => ⟨by have _w := hv_47; omega, by have _w := hv_47; omega⟩, fun _ => ⟨by have _w := hv_47; omega, by have _w := hv_47; omega⟩, fun _ => ⟨by have _w := hv_47; omega, by have _w := hv_47; omega⟩⟩)
        have hP : va_P G.1 classes [(b20, .inl (G.2 0, 520, .inl b58)), (b23, .inl (G.2 0, 482, .inl b59)), (b28, .inl (G.2 0, 2, .inl b60)), (b29, .inl (G.2 0, 2880, .inl f_48)), (b0, .inr (12, [.int b3, .ref b4, .ref b5, .ref b6, .ref b7, .int b8, .ref b9, .int b10, .int b11, .int b12, .int b13, .ref b14, .ref b15, .ref b16, .int b17, .ref b18, .ref b19, .ref b20, .ref b21, .ref b22, .ref b23, .ref b24, .ref b25, .ref b26, .ref b27, .ref b28, .ref b29, .int x_13, .ref b31, .ref b32, .int b33, .int b34, .int b35, .int b36, .ref b37, .ref b38, .ref b39, .ref b40, .ref b41, .ref b42, .ref b43, .int b44, .ref b45, .ref b46, .int b47, .ref b48, .ref b49, .ref b50, .ref b51, .ref b52, .int b53, .ref b54, .ref b55, .ref b56])), (b4, .inl (G.2 0, 503, .inl b57))] H := hP
        have hD := z_tie hP hD rfl
        exact z_vret hx hb hr hlocks (hP.sub [4, 5, 0, 1, 2, 3] rfl) (hD.sub [4, 5, 0, 1, 2, 3] (by decide) rfl) hS (Nat.le_of_ble_eq_true rfl) (Nat.le_of_ble_eq_true rfl) d_Model_addEdge_278 ⟨x_13, b60, f_48, rfl, rfl, (zI.wk (l' := 0) (h' := 1) hv_24 (by decide)), hb60, hf_48, (by omega), (by have b9 := congrArg Int32.toInt hfx_10; rcases (hfx_15).2 with ⟨_, h6, _⟩ | ⟨h6, _⟩; (exact ⟨x_2, x_9, x_6, x_18, ⟨hfx_3, hfx_10, (by have t9 := hfx_7; rw [t9]; congr 4; omega), hfx_19⟩, yAE_b (e := x_12.toInt.toNat) (u := v_26) (lw := v_31) (hw := v_39) (by omega) (fun j hj => (hfx_15).1 j (by omega)) (by rcases (hfx_15).2 with ⟨_, _, h8⟩ | ⟨h8, _⟩; exact h8; (exfalso; omega)) (by omega) (by rw [uf_48, uf_36, uf_28]) (by have p9 := z_pl hv_25 (by decide); omega) (by have p9 := z_pl hv_29 (by decide); omega) (by have p9 := z_pl hv_37 (by decide); omega) ev_26 ev_27 (by rw [← uf_28]; exact ev_31) (by first | exact Or.inl ⟨by omega, rfl⟩ | exact Or.inr ⟨by omega, rfl⟩) (by rw [← uf_28, ← uf_36]; exact ev_39) (by first | exact Or.inl ⟨by omega, rfl⟩ | exact Or.inr ⟨by omega, rfl⟩)⟩); (exfalso; omega))⟩
    · have _nhc_32 := hc_32
      have ni_49 := (fa_lt _ _).mp (zi_nle hc_32)
      have hv_50 : zI x_18 (-2147483648) 2147483646 := zI.lt_l (zI_all x_18) (zI_all v_31) (zi_nle hc_32) (by decide)
      have hv_51 : zI v_31 (-2147483647) 2147483647 := zI.lt_r (zI_all x_18) (zI_all v_31) (zi_nle hc_32) (by decide)
      refine lv_iload hx hb d_Model_addEdge_226 (lv_at hl 1 rfl) ?_
      refine lv_goto (tgt := 240) hx hb d_Model_addEdge_228 (by decide) ?_
      refine va_iast hx hb hK hP hD hS 3 0 rfl rfl (zI.inn hv_29 (by decide)) d_Model_addEdge_240 (fun H locs hP hD hS => ?_)
      obtain ⟨f_52, hf_52, gf_52, uf_52, hP, hD⟩ := z_newq_ (Q := qE) 3 hP hD rfl hf_28 (qE_v hv_29 (by decide) ⟨fun _ => ⟨by have _w := hv_50; omega, by have _w := hv_50; omega⟩, fun _ => ⟨by have _w := hv_50; omega, by have _w := hv_50; omega⟩, fun _ => ⟨by have _w := hv_50; omega, by have _w := hv_50; omega⟩⟩)
      have hP : va_P G.1 classes [(b20, .inl (G.2 0, 520, .inl b58)), (b23, .inl (G.2 0, 482, .inl b59)), (b28, .inl (G.2 0, 2, .inl b60)), (b29, .inl (G.2 0, 2880, .inl f_52)), (b0, .inr (12, [.int b3, .ref b4, .ref b5, .ref b6, .ref b7, .int b8, .ref b9, .int b10, .int b11, .int b12, .int b13, .ref b14, .ref b15, .ref b16, .int b17, .ref b18, .ref b19, .ref b20, .ref b21, .ref b22, .ref b23, .ref b24, .ref b25, .ref b26, .ref b27, .ref b28, .ref b29, .int x_13, .ref b31, .ref b32, .int b33, .int b34, .int b35, .int b36, .ref b37, .ref b38, .ref b39, .ref b40, .ref b41, .ref b42, .ref b43, .int b44, .ref b45, .ref b46, .int b47, .ref b48, .ref b49, .ref b50, .ref b51, .ref b52, .int b53, .ref b54, .ref b55, .ref b56])), (b4, .inl (G.2 0, 503, .inl b57))] H := hP
      have hD := z_tie hP hD rfl
      refine lv_aload_n hx hb d_Model_addEdge_241 rfl (lv_at hl 5 rfl) ?_
      refine va_get (D := G.1) (ci := 12) (v := .ref b29) (C := R_Model) (T := F_Model) (N := 54) hx hb hts i_Model hown hK hP 4 rfl rfl 26 (by decide) (hts _ q1135) (fun _ h9 => h9) rfl d_Model_addEdge_242 ?_
      refine lv_iload hx hb d_Model_addEdge_245 (lv_at hl 0 rfl) ?_
      refine lv_iconst (v := 5) hx hb d_Model_addEdge_247 (by decide) ?_
      refine lv_iadd hx hb d_Model_addEdge_248 ?_
      refine lv_topi (fun v_53 ev_53 => ?_)
      obtain ⟨qv_53, hv_53⟩ := zI_add (l := 1445) (h := 2879) hv_21 zc_5 ev_53 (by decide)
      rw [li_5] at qv_53
      refine lv_iload hx hb d_Model_addEdge_249 (lv_at hl 1 rfl) ?_
      refine lv_aload_n hx hb d_Model_addEdge_251 rfl (lv_at hl 5 rfl) ?_
      refine va_get (D := G.1) (ci := 12) (v := .ref b29) (C := R_Model) (T := F_Model) (N := 54) hx hb hts i_Model hown hK hP 4 rfl rfl 26 (by decide) (hts _ q1135) (fun _ h9 => h9) rfl d_Model_addEdge_252 ?_
      refine lv_iload hx hb d_Model_addEdge_255 (lv_at hl 0 rfl) ?_
      refine lv_iconst (v := 5) hx hb d_Model_addEdge_257 (by decide) ?_
      refine lv_iadd hx hb d_Model_addEdge_258 ?_
      refine lv_topi (fun v_54 ev_54 => ?_)
      obtain rfl : v_53 = v_54 := ev_53.trans ev_54.symm
      refine va_iald hx hb hK hP 3 0 rfl rfl (zI.inn hv_53 (by decide)) d_Model_addEdge_259 ?_
      refine lv_topi (fun v_55 ev_55 => ?_)
      have kv_55 := zQE.ld hf_52 hv_53 ev_55 (by decide)
      refine lv_icmp_le (tgt := 268) hx hb d_Model_addEdge_260 (by decide) (fun hc_56 => ?_) (fun hc_56 => ?_)
      · have _nhc_56 := hc_56
        have ni_57 := (fa_le _ _).mp hc_56
        refine lv_aload_n hx hb d_Model_addEdge_268 rfl (lv_at hl 5 rfl) ?_
        refine va_get (D := G.1) (ci := 12) (v := .ref b29) (C := R_Model) (T := F_Model) (N := 54) hx hb hts i_Model hown hK hP 4 rfl rfl 26 (by decide) (hts _ q1135) (fun _ h9 => h9) rfl d_Model_addEdge_269 ?_
        refine lv_iload hx hb d_Model_addEdge_272 (lv_at hl 0 rfl) ?_
        refine lv_iconst (v := 5) hx hb d_Model_addEdge_274 (by decide) ?_
        refine lv_iadd hx hb d_Model_addEdge_275 ?_
        refine lv_topi (fun v_58 ev_58 => ?_)
        obtain rfl : v_53 = v_58 := ev_53.trans ev_58.symm
        refine va_iald hx hb hK hP 3 0 rfl rfl (zI.inn hv_53 (by decide)) d_Model_addEdge_276 ?_
        refine lv_topi (fun v_59 ev_59 => ?_)
        obtain rfl : v_55 = v_59 := ev_55.trans ev_59.symm
        refine va_iast hx hb hK hP hD hS 3 0 rfl rfl (zI.inn hv_53 (by decide)) d_Model_addEdge_277 (fun H locs hP hD hS => ?_)
        obtain ⟨f_60, hf_60, gf_60, uf_60, hP, hD⟩ := z_newq_ (Q := qE) 3 hP hD rfl hf_52 (qE_s kv_55 hv_53 hv_53 (by decide) (by omega))
        have hP : va_P G.1 classes [(b20, .inl (G.2 0, 520, .inl b58)), (b23, .inl (G.2 0, 482, .inl b59)), (b28, .inl (G.2 0, 2, .inl b60)), (b29, .inl (G.2 0, 2880, .inl f_60)), (b0, .inr (12, [.int b3, .ref b4, .ref b5, .ref b6, .ref b7, .int b8, .ref b9, .int b10, .int b11, .int b12, .int b13, .ref b14, .ref b15, .ref b16, .int b17, .ref b18, .ref b19, .ref b20, .ref b21, .ref b22, .ref b23, .ref b24, .ref b25, .ref b26, .ref b27, .ref b28, .ref b29, .int x_13, .ref b31, .ref b32, .int b33, .int b34, .int b35, .int b36, .ref b37, .ref b38, .ref b39, .ref b40, .ref b41, .ref b42, .ref b43, .int b44, .ref b45, .ref b46, .int b47, .ref b48, .ref b49, .ref b50, .ref b51, .ref b52, .int b53, .ref b54, .ref b55, .ref b56])), (b4, .inl (G.2 0, 503, .inl b57))] H := hP
        have hD := z_tie hP hD rfl
        exact z_vret hx hb hr hlocks (hP.sub [4, 5, 0, 1, 2, 3] rfl) (hD.sub [4, 5, 0, 1, 2, 3] (by decide) rfl) hS (Nat.le_of_ble_eq_true rfl) (Nat.le_of_ble_eq_true rfl) d_Model_addEdge_278 ⟨x_13, b60, f_60, rfl, rfl, (zI.wk (l' := 0) (h' := 1) hv_24 (by decide)), hb60, hf_60, (by omega), (by have b9 := congrArg Int32.toInt hfx_10; rcases (hfx_15).2 with ⟨_, h6, _⟩ | ⟨h6, _⟩; (exact ⟨x_2, x_9, x_6, x_18, ⟨hfx_3, hfx_10, (by have t9 := hfx_7; rw [t9]; congr 4; omega), hfx_19⟩, yAE_b (e := x_12.toInt.toNat) (u := v_26) (lw := v_31) (hw := v_55) (by omega) (fun j hj => (hfx_15).1 j (by omega)) (by rcases (hfx_15).2 with ⟨_, _, h8⟩ | ⟨h8, _⟩; exact h8; (exfalso; omega)) (by omega) (by rw [uf_60, uf_52, uf_28]) (by have p9 := z_pl hv_25 (by decide); omega) (by have p9 := z_pl hv_29 (by decide); omega) (by have p9 := z_pl hv_53 (by decide); omega) ev_26 ev_27 (by rw [← uf_28]; exact ev_31) (by first | exact Or.inl ⟨by omega, rfl⟩ | exact Or.inr ⟨by omega, rfl⟩) (by rw [← uf_28, ← uf_52]; exact ev_55) (by first | exact Or.inl ⟨by omega, rfl⟩ | exact Or.inr ⟨by omega, rfl⟩)⟩); (exfalso; omega))⟩
      · have _nhc_56 := hc_56
        have ni_61 := (fa_lt _ _).mp (zi_nle hc_56)
        have hv_62 : zI v_55 (-2147483648) 2147483645 := zI.lt_l (zI_all v_55) hv_50 (zi_nle hc_56) (by decide)
        have hv_63 : zI x_18 (-2147483647) 2147483646 := zI.lt_r (zI_all v_55) hv_50 (zi_nle hc_56) (by decide)
        refine lv_iload hx hb d_Model_addEdge_263 (lv_at hl 1 rfl) ?_
        refine lv_goto (tgt := 277) hx hb d_Model_addEdge_265 (by decide) ?_
        refine va_iast hx hb hK hP hD hS 3 0 rfl rfl (zI.inn hv_53 (by decide)) d_Model_addEdge_277 (fun H locs hP hD hS => ?_)
        obtain ⟨f_64, hf_64, gf_64, uf_64, hP, hD⟩ := z_newq_ (Q := qE) 3 hP hD rfl hf_52 (qE_v hv_53 (by decide) ⟨fun _ => ⟨by have _w := hv_63; omega, by have _w := hv_63; omega⟩, fun _ => ⟨by have _w := hv_63; omega, by have _w := hv_63; omega⟩, fun _ => ⟨by have _w := hv_63; omega, by have _w := hv_63; omega⟩⟩)
        have hP : va_P G.1 classes [(b20, .inl (G.2 0, 520, .inl b58)), (b23, .inl (G.2 0, 482, .inl b59)), (b28, .inl (G.2 0, 2, .inl b60)), (b29, .inl (G.2 0, 2880, .inl f_64)), (b0, .inr (12, [.int b3, .ref b4, .ref b5, .ref b6, .ref b7, .int b8, .ref b9, .int b10, .int b11, .int b12, .int b13, .ref b14, .ref b15, .ref b16, .int b17, .ref b18, .ref b19, .ref b20, .ref b21, .ref b22, .ref b23, .ref b24, .ref b25, .ref b26, .ref b27, .ref b28, .ref b29, .int x_13, .ref b31, .ref b32, .int b33, .int b34, .int b35, .int b36, .ref b37, .ref b38, .ref b39, .ref b40, .ref b41, .ref b42, .ref b43, .int b44, .ref b45, .ref b46, .int b47, .ref b48, .ref b49, .ref b50, .ref b51, .ref b52, .int b53, .ref b54, .ref b55, .ref b56])), (b4, .inl (G.2 0, 503, .inl b57))] H := hP
        have hD := z_tie hP hD rfl
        exact z_vret hx hb hr hlocks (hP.sub [4, 5, 0, 1, 2, 3] rfl) (hD.sub [4, 5, 0, 1, 2, 3] (by decide) rfl) hS (Nat.le_of_ble_eq_true rfl) (Nat.le_of_ble_eq_true rfl) d_Model_addEdge_278 ⟨x_13, b60, f_64, rfl, rfl, (zI.wk (l' := 0) (h' := 1) hv_24 (by decide)), hb60, hf_64, (by omega), (by have b9 := congrArg Int32.toInt hfx_10; rcases (hfx_15).2 with ⟨_, h6, _⟩ | ⟨h6, _⟩; (exact ⟨x_2, x_9, x_6, x_18, ⟨hfx_3, hfx_10, (by have t9 := hfx_7; rw [t9]; congr 4; omega), hfx_19⟩, yAE_b (e := x_12.toInt.toNat) (u := v_26) (lw := v_31) (hw := v_55) (by omega) (fun j hj => (hfx_15).1 j (by omega)) (by rcases (hfx_15).2 with ⟨_, _, h8⟩ | ⟨h8, _⟩; exact h8; (exfalso; omega)) (by omega) (by rw [uf_64, uf_52, uf_28]) (by have p9 := z_pl hv_25 (by decide); omega) (by have p9 := z_pl hv_29 (by decide); omega) (by have p9 := z_pl hv_53 (by decide); omega) ev_26 ev_27 (by rw [← uf_28]; exact ev_31) (by first | exact Or.inl ⟨by omega, rfl⟩ | exact Or.inr ⟨by omega, rfl⟩) (by rw [← uf_28, ← uf_52]; exact ev_55) (by first | exact Or.inl ⟨by omega, rfl⟩ | exact Or.inr ⟨by omega, rfl⟩)⟩); (exfalso; omega))⟩
  · have _nhc_22 := hc_22
    have ni_65 := (fa_eq _ _).mp hc_22
    rw [li_0] at ni_65
    have hv_66 : zI x_13 0 0 := zI.eq_l hx_13 zc_0 hc_22
    refine lv_bipush (v := 6) hx hb d_Model_addEdge_65 (by decide) ?_
    refine lv_sipush (v := 240) hx hb d_Model_addEdge_67 (by decide) ?_
    refine lv_iload_n hx hb d_Model_addEdge_70 rfl (lv_at hl 6 rfl) ?_
    refine lv_imul hx hb d_Model_addEdge_71 ?_
    refine z_topi (y := 240) (by decide +kernel) ?_
    refine lv_aload_n hx hb d_Model_addEdge_72 rfl (lv_at hl 5 rfl) ?_
    refine va_get (D := G.1) (ci := 12) (v := .ref b28) (C := R_Model) (T := F_Model) (N := 54) hx hb hts i_Model hown hK hP 4 rfl rfl 25 (by decide) (hts _ q1134) (fun _ h9 => h9) rfl d_Model_addEdge_73 ?_
    refine lv_iload_n hx hb d_Model_addEdge_76 rfl (lv_at hl 6 rfl) ?_
    refine va_iald hx hb hK hP 2 0 rfl rfl (i := 1) (z_in rfl) d_Model_addEdge_77 ?_
    refine lv_topi (fun v_67 ev_67 => ?_)
    have hv_67 : zI v_67 0 240 := (hb60 _).eq ev_67
    have hv_68 : zI v_67 0 239 := ⟨hv_67.1, by rw [ev_67]; exact hem⟩
    refine lv_iadd hx hb d_Model_addEdge_78 ?_
    refine lv_topi (fun v_69 ev_69 => ?_)
    obtain ⟨qv_69, hv_69⟩ := zI_add (l := 240) (h := 479) zc_240 hv_68 ev_69 (by decide)
    rw [li_240] at qv_69
    refine lv_imul hx hb d_Model_addEdge_79 ?_
    refine lv_topi (fun v_70 ev_70 => ?_)
    obtain ⟨qv_70, hv_70⟩ := zI_mul (l := 1440) (h := 2874) zc_6 hv_69 ev_70 (by decide)
    rw [li_6] at qv_70
    refine lv_iconst (v := 1) hx hb d_Model_addEdge_80 (by decide) ?_
    refine lv_isub hx hb d_Model_addEdge_81 ?_
    refine lv_topi (fun v_71 ev_71 => ?_)
    obtain ⟨qv_71, hv_71⟩ := zI_sub (l := 1439) (h := 2873) hv_70 zc_1 ev_71 (by decide)
    rw [li_1] at qv_71
    refine lv_istore (lv' := [(9, .int v_71), (8, .int v_21), (7, .int x_18), (6, .int x_12), (5, .int x_6), (4, .int x_2), (0, .ref b0), (1, .int 1), (2, .int b1), (3, .int b2)]) hx hb d_Model_addEdge_82 hl (by decide) rfl (fun ls hl => ?_)
    suffices key : ∀ (k_140 : Nat) (y_141 : Int32) (y_142 : Nat → Int32) (H : Heap) (locs : List Loc) (ls : Array Slot), (zI y_141 1439 2873) → (zqa qE y_142) → (∀ q : Nat, y_142 q = if (y_141 : Int32).toInt + 6 < (q : Int) ∧ (q : Int) < 6 * (b60 (1 : Int32).toNatClampNeg).toInt + 1446 then b61 (q - 6) else b61 q) → ((v_21 : Int32).toInt - 1 ≤ (y_141 : Int32).toInt) → ((y_141 : Int32).toInt + 6 < 6 * (b60 (1 : Int32).toNatClampNeg).toInt + 1446) → y_141.toInt - (1439) < (k_140 : Int) → va_P G.1 classes [(b20, .inl (G.2 0, 520, .inl b58)), (b23, .inl (G.2 0, 482, .inl b59)), (b28, .inl (G.2 0, 2, .inl b60)), (b29, .inl (G.2 0, 2880, .inl y_142)), (b0, .inr (12, [.int b3, .ref b4, .ref b5, .ref b6, .ref b7, .int b8, .ref b9, .int b10, .int b11, .int b12, .int b13, .ref b14, .ref b15, .ref b16, .int b17, .ref b18, .ref b19, .ref b20, .ref b21, .ref b22, .ref b23, .ref b24, .ref b25, .ref b26, .ref b27, .ref b28, .ref b29, .int x_13, .ref b31, .ref b32, .int b33, .int b34, .int b35, .int b36, .ref b37, .ref b38, .ref b39, .ref b40, .ref b41, .ref b42, .ref b43, .int b44, .ref b45, .ref b46, .int b47, .ref b48, .ref b49, .ref b50, .ref b51, .ref b52, .int b53, .ref b54, .ref b55, .ref b56])), (b4, .inl (G.2 0, 503, .inl b57))] H → va_D A [(b20, .inl (G.2 0, 520, .inl b58)), (b23, .inl (G.2 0, 482, .inl b59)), (b28, .inl (G.2 0, 2, .inl b60)), (b29, .inl (G.2 0, 2880, .inl y_142)), (b0, .inr (12, [.int b3, .ref b4, .ref b5, .ref b6, .ref b7, .int b8, .ref b9, .int b10, .int b11, .int b12, .int b13, .ref b14, .ref b15, .ref b16, .int b17, .ref b18, .ref b19, .ref b20, .ref b21, .ref b22, .ref b23, .ref b24, .ref b25, .ref b26, .ref b27, .ref b28, .ref b29, .int x_13, .ref b31, .ref b32, .int b33, .int b34, .int b35, .int b36, .ref b37, .ref b38, .ref b39, .ref b40, .ref b41, .ref b42, .ref b43, .int b44, .ref b45, .ref b46, .int b47, .ref b48, .ref b49, .ref b50, .ref b51, .ref b52, .int b53, .ref b54, .ref b55, .ref b56])), (b4, .inl (G.2 0, 503, .inl b57))] → va_S A s.heap H locs → lv_has ls 10 [(9, .int y_141), (8, .int v_21), (7, .int x_18), (6, .int x_12), (5, .int x_6), (4, .int x_2), (0, .ref b0), (1, .int 1), (2, .int b1), (3, .int b2)] → W p l e m_s4_Model_addEdge s m ([.ref b0, .int 1, .int b1, .int b2] : List Value).toArray below meth c H locs 0 0 (MQ below (zQ G (fun v w => ∃ (e0 : Int32), ∃ (e1 : Nat → Int32), ∃ (e2 : Nat → Int32), v = none ∧ w = [(b0, .inr (12, [.int b3, .ref b4, .ref b5, .ref b6, .ref b7, .int b8, .ref b9, .int b10, .int b11, .int b12, .int b13, .ref b14, .ref b15, .ref b16, .int b17, .ref b18, .ref b19, .ref b20, .ref b21, .ref b22, .ref b23, .ref b24, .ref b25, .ref b26, .ref b27, .ref b28, .ref b29, .int e0, .ref b31, .ref b32, .int b33, .int b34, .int b35, .int b36, .ref b37, .ref b38, .ref b39, .ref b40, .ref b41, .ref b42, .ref b43, .int b44, .ref b45, .ref b46, .int b47, .ref b48, .ref b49, .ref b50, .ref b51, .ref b52, .int b53, .ref b54, .ref b55, .ref b56])), (b4, .inl (G.2 0, 503, .inl b57)), (b20, .inl (G.2 0, 520, .inl b58)), (b23, .inl (G.2 0, 482, .inl b59)), (b28, .inl (G.2 0, 2, .inl e1)), (b29, .inl (G.2 0, 2880, .inl e2))] ∧ (zI e0 0 1) ∧ (zR e1 0 240) ∧ (zqa qE e2) ∧ ((e1 (1 : Int32).toNatClampNeg).toInt ≤ (b60 (1 : Int32).toNatClampNeg).toInt + 1) ∧ (∃ fr by_ to va : Int32, (fr = b59 (241 + (b58 (260 + 13 * b1.toInt.toNat + b2.toInt.toNat)).toInt.toNat) ∧ by_ = b57 (21 + (12 * b1.toInt.toNat + b2.toInt.toNat)) ∧ to = b59 (241 + (b58 (260 + 13 * b1.toInt.toNat + (b2.toInt.toNat + 1))).toInt.toNat) ∧ va = b57 (261 + (12 * b1.toInt.toNat + b2.toInt.toNat))) ∧ yAE 1440 ((b60 (1 : Int32).toNatClampNeg).toInt).toNat b61 e2 ((e1 (1 : Int32).toNatClampNeg).toInt) fr by_ to va)) A) ([.ref b0, .int 1, .int b1, .int b2] : List Value).toArray s m_s4_Model_addEdge.cells m_s4_Model_addEdge.slots A) (F0 m 84 ls []) by
      exact key 1435 (v_71) (b61) _ _ _ hv_71 hb61 (by intro q; rw [if_neg (by have h9 := ev_67; have h8 : v_67.toInt = (b60 (1 : Int32).toNatClampNeg).toInt := (by rw [h9]); omega)]) (by have h9 := ev_67; have h8 : v_67.toInt = (b60 (1 : Int32).toNatClampNeg).toInt := (by rw [h9]); omega) (by have h9 := ev_67; have h8 : v_67.toInt = (b60 (1 : Int32).toNatClampNeg).toInt := (by rw [h9]); omega) (zm_dni hv_71 (by decide)) hP hD hS (lv_sub hl [0, 1, 2, 3, 4, 5, 6, 7, 8, 9] rfl)
    intro k_140
    induction k_140 with
    | zero =>
      intro y_141 y_142 H locs ls hy_141 hy_142 hli_143 hli_144 hli_145 hmk_140 hP hD hS hl
      exact (zm_dn0 hy_141 hmk_140).elim
    | succ k_140 ihk_140 =>
      intro y_141 y_142 H locs ls hy_141 hy_142 hli_143 hli_144 hli_145 hmk_140 hP hD hS hl
      refine lv_iload hx hb d_Model_addEdge_84 (lv_at hl 0 rfl) ?_
      refine lv_iload hx hb d_Model_addEdge_86 (lv_at hl 1 rfl) ?_
      refine lv_icmp_lt (tgt := 114) hx hb d_Model_addEdge_88 (by decide) (fun hc_146 => ?_) (fun hc_146 => ?_)
      · have _nhc_146 := hc_146
        have ni_147 := (fa_lt _ _).mp hc_146
        refine lv_aload_n hx hb d_Model_addEdge_114 rfl (lv_at hl 6 rfl) ?_
        refine va_get (D := G.1) (ci := 12) (v := .ref b28) (C := R_Model) (T := F_Model) (N := 54) hx hb hts i_Model hown hK hP 4 rfl rfl 25 (by decide) (hts _ q1134) (fun _ h9 => h9) rfl d_Model_addEdge_115 ?_
        refine lv_iload_n hx hb d_Model_addEdge_118 rfl (lv_at hl 7 rfl) ?_
        refine lv_dup2_11 hx hb d_Model_addEdge_119 rfl rfl ?_
        refine va_iald hx hb hK hP 2 0 rfl rfl (i := 1) (z_in rfl) d_Model_addEdge_120 ?_
        refine lv_topi (fun v_148 ev_148 => ?_)
        obtain rfl : v_67 = v_148 := ev_67.trans ev_148.symm
        refine lv_iconst (v := 1) hx hb d_Model_addEdge_121 (by decide) ?_
        refine lv_iadd hx hb d_Model_addEdge_122 ?_
        refine lv_topi (fun v_149 ev_149 => ?_)
        obtain ⟨qv_149, hv_149⟩ := zI_add (l := 1) (h := 240) hv_68 zc_1 ev_149 (by decide)
        rw [li_1] at qv_149
        refine va_iast hx hb hK hP hD hS 2 0 rfl rfl (i := 1) (z_in rfl) d_Model_addEdge_123 (fun H locs hP hD hS => ?_)
        obtain ⟨f_150, hf_150, gf_150, uf_150, hP, hD⟩ := z_newfu 2 hP hD rfl hb60 (zI.wk (l' := 0) (h' := 240) hv_149 (by decide))
        have hP : va_P G.1 classes [(b20, .inl (G.2 0, 520, .inl b58)), (b23, .inl (G.2 0, 482, .inl b59)), (b28, .inl (G.2 0, 2, .inl f_150)), (b29, .inl (G.2 0, 2880, .inl y_142)), (b0, .inr (12, [.int b3, .ref b4, .ref b5, .ref b6, .ref b7, .int b8, .ref b9, .int b10, .int b11, .int b12, .int b13, .ref b14, .ref b15, .ref b16, .int b17, .ref b18, .ref b19, .ref b20, .ref b21, .ref b22, .ref b23, .ref b24, .ref b25, .ref b26, .ref b27, .ref b28, .ref b29, .int x_13, .ref b31, .ref b32, .int b33, .int b34, .int b35, .int b36, .ref b37, .ref b38, .ref b39, .ref b40, .ref b41, .ref b42, .ref b43, .int b44, .ref b45, .ref b46, .int b47, .ref b48, .ref b49, .ref b50, .ref b51, .ref b52, .int b53, .ref b54, .ref b55, .ref b56])), (b4, .inl (G.2 0, 503, .inl b57))] H := hP
        have hD := z_tie hP hD rfl
        refine lv_aload_n hx hb d_Model_addEdge_124 rfl (lv_at hl 6 rfl) ?_
        refine va_get (D := G.1) (ci := 12) (v := .ref b29) (C := R_Model) (T := F_Model) (N := 54) hx hb hts i_Model hown hK hP 4 rfl rfl 26 (by decide) (hts _ q1135) (fun _ h9 => h9) rfl d_Model_addEdge_125 ?_
        refine lv_iload hx hb d_Model_addEdge_128 (lv_at hl 1 rfl) ?_
        refine lv_iload hx hb d_Model_addEdge_130 (lv_at hl 5 rfl) ?_
        refine va_iast hx hb hK hP hD hS 3 0 rfl rfl (zI.inn hv_21 (by decide)) d_Model_addEdge_132 (fun H locs hP hD hS => ?_)
        obtain ⟨f_151, hf_151, gf_151, uf_151, hP, hD⟩ := z_newq_ (Q := qE) 3 hP hD rfl hy_142 (qE_v hv_21 (by decide) ⟨fun _ => ⟨by have _w := hx_2; omega, by have _w := hx_2; omega⟩, fun _ => ⟨by have _w := hx_2; omega, by have _w := hx_2; omega⟩, fun _ => ⟨by have _w := hx_2; omega, by have _w := hx_2; omega⟩⟩)
        have hP : va_P G.1 classes [(b20, .inl (G.2 0, 520, .inl b58)), (b23, .inl (G.2 0, 482, .inl b59)), (b28, .inl (G.2 0, 2, .inl f_150)), (b29, .inl (G.2 0, 2880, .inl f_151)), (b0, .inr (12, [.int b3, .ref b4, .ref b5, .ref b6, .ref b7, .int b8, .ref b9, .int b10, .int b11, .int b12, .int b13, .ref b14, .ref b15, .ref b16, .int b17, .ref b18, .ref b19, .ref b20, .ref b21, .ref b22, .ref b23, .ref b24, .ref b25, .ref b26, .ref b27, .ref b28, .ref b29, .int x_13, .ref b31, .ref b32, .int b33, .int b34, .int b35, .int b36, .ref b37, .ref b38, .ref b39, .ref b40, .ref b41, .ref b42, .ref b43, .int b44, .ref b45, .ref b46, .int b47, .ref b48, .ref b49, .ref b50, .ref b51, .ref b52, .int b53, .ref b54, .ref b55, .ref b56])), (b4, .inl (G.2 0, 503, .inl b57))] H := hP
        have hD := z_tie hP hD rfl
        refine lv_aload_n hx hb d_Model_addEdge_133 rfl (lv_at hl 6 rfl) ?_
        refine va_get (D := G.1) (ci := 12) (v := .ref b29) (C := R_Model) (T := F_Model) (N := 54) hx hb hts i_Model hown hK hP 4 rfl rfl 26 (by decide) (hts _ q1135) (fun _ h9 => h9) rfl d_Model_addEdge_134 ?_
        refine lv_iload hx hb d_Model_addEdge_137 (lv_at hl 1 rfl) ?_
        refine lv_iconst (v := 1) hx hb d_Model_addEdge_139 (by decide) ?_
        refine lv_iadd hx hb d_Model_addEdge_140 ?_
        refine lv_topi (fun v_152 ev_152 => ?_)
        obtain ⟨qv_152, hv_152⟩ := zI_add (l := 1441) (h := 2875) hv_21 zc_1 ev_152 (by decide)
        rw [li_1] at qv_152
        refine lv_aload_n hx hb d_Model_addEdge_141 rfl (lv_at hl 6 rfl) ?_
        refine lv_iload_n hx hb d_Model_addEdge_142 rfl (lv_at hl 8 rfl) ?_
        refine lv_iload_n hx hb d_Model_addEdge_143 rfl (lv_at hl 9 rfl) ?_
        refine z_callV (index := 207) (As := [.int b1, .int b2]) (rest := [.int v_152, .ref b29]) (wr := [(b20, .inl (G.2 0, 520, .inl b58)), (b23, .inl (G.2 0, 482, .inl b59)), (b28, .inl (G.2 0, 2, .inl f_150)), (b29, .inl (G.2 0, 2880, .inl f_151))]) Z (s2_Model_letterAt l G (b0) (b1) (b2) (b3) (b4) (b5) (b6) (b7) (b8) (b9) (b10) (b11) (b12) (b13) (b14) (b15) (b16) (b17) (b18) (b19) (b20) (b21) (b22) (b23) (b24) (b25) (b26) (b27) (b28) (b29) (x_13) (b31) (b32) (b33) (b34) (b35) (b36) (b37) (b38) (b39) (b40) (b41) (b42) (b43) (b44) (b45) (b46) (b47) (b48) (b49) (b50) (b51) (b52) (b53) (b54) (b55) (b56) (b57) hb1 hb2 hb8 hb10 hb11 hb13 hb17 (zI.wk (l' := 0) (h' := 1) hv_66 (by decide)) hb33 hb44 hb47 hb53 hb57) hl.1 q1372 q1374 qs59 q14 q1375 ⟨by decide, by decide, by show _ = some 2; decide +kernel⟩ ⟨Nat.le_of_ble_eq_true rfl, Nat.le_of_ble_eq_true rfl⟩ ⟨Nat.le_of_ble_eq_true rfl, Nat.le_of_ble_eq_true rfl⟩ rfl (Nat.le_of_ble_eq_true rfl) d_Model_addEdge_144 hP hD hS hA 4 12 rfl rfl rfl [4, 5] [0, 1, 2, 3] rfl rfl rfl rfl (by decide) (fun v w1 H locs hw_153 hP hD hS => ?_)
        obtain ⟨x_154, rfl, rfl, hx_154, hfx_155⟩ := hw_153
        have hP : va_P G.1 classes [(b20, .inl (G.2 0, 520, .inl b58)), (b23, .inl (G.2 0, 482, .inl b59)), (b28, .inl (G.2 0, 2, .inl f_150)), (b29, .inl (G.2 0, 2880, .inl f_151)), (b0, .inr (12, [.int b3, .ref b4, .ref b5, .ref b6, .ref b7, .int b8, .ref b9, .int b10, .int b11, .int b12, .int b13, .ref b14, .ref b15, .ref b16, .int b17, .ref b18, .ref b19, .ref b20, .ref b21, .ref b22, .ref b23, .ref b24, .ref b25, .ref b26, .ref b27, .ref b28, .ref b29, .int x_13, .ref b31, .ref b32, .int b33, .int b34, .int b35, .int b36, .ref b37, .ref b38, .ref b39, .ref b40, .ref b41, .ref b42, .ref b43, .int b44, .ref b45, .ref b46, .int b47, .ref b48, .ref b49, .ref b50, .ref b51, .ref b52, .int b53, .ref b54, .ref b55, .ref b56])), (b4, .inl (G.2 0, 503, .inl b57))] H := hP
        have hD := z_tie hP hD rfl
        refine W.widen (k := 0) (n := 0) (Nat.le_of_ble_eq_true rfl) (Nat.le_of_ble_eq_true rfl) ?_
        refine va_iast hx hb hK hP hD hS 3 0 rfl rfl (zI.inn hv_152 (by decide)) d_Model_addEdge_147 (fun H locs hP hD hS => ?_)
        obtain ⟨f_156, hf_156, gf_156, uf_156, hP, hD⟩ := z_newq_ (Q := qE) 3 hP hD rfl hf_151 (qE_v hv_152 (by decide) ⟨fun _ => ⟨by have _w := hx_154; omega, by have _w := hx_154; omega⟩, fun _ => ⟨by have _w := hx_154; omega, by have _w := hx_154; omega⟩, fun _ => ⟨by have _w := hx_154; omega, by have _w := hx_154; omega⟩⟩)
        have hP : va_P G.1 classes [(b20, .inl (G.2 0, 520, .inl b58)), (b23, .inl (G.2 0, 482, .inl b59)), (b28, .inl (G.2 0, 2, .inl f_150)), (b29, .inl (G.2 0, 2880, .inl f_156)), (b0, .inr (12, [.int b3, .ref b4, .ref b5, .ref b6, .ref b7, .int b8, .ref b9, .int b10, .int b11, .int b12, .int b13, .ref b14, .ref b15, .ref b16, .int b17, .ref b18, .ref b19, .ref b20, .ref b21, .ref b22, .ref b23, .ref b24, .ref b25, .ref b26, .ref b27, .ref b28, .ref b29, .int x_13, .ref b31, .ref b32, .int b33, .int b34, .int b35, .int b36, .ref b37, .ref b38, .ref b39, .ref b40, .ref b41, .ref b42, .ref b43, .int b44, .ref b45, .ref b46, .int b47, .ref b48, .ref b49, .ref b50, .ref b51, .ref b52, .int b53, .ref b54, .ref b55, .ref b56])), (b4, .inl (G.2 0, 503, .inl b57))] H := hP
        have hD := z_tie hP hD rfl
        refine lv_aload_n hx hb d_Model_addEdge_148 rfl (lv_at hl 6 rfl) ?_
        refine va_get (D := G.1) (ci := 12) (v := .ref b29) (C := R_Model) (T := F_Model) (N := 54) hx hb hts i_Model hown hK hP 4 rfl rfl 26 (by decide) (hts _ q1135) (fun _ h9 => h9) rfl d_Model_addEdge_149 ?_
        refine lv_iload hx hb d_Model_addEdge_152 (lv_at hl 1 rfl) ?_
        refine lv_iconst (v := 2) hx hb d_Model_addEdge_154 (by decide) ?_
        refine lv_iadd hx hb d_Model_addEdge_155 ?_
        refine lv_topi (fun v_157 ev_157 => ?_)
        obtain ⟨qv_157, hv_157⟩ := zI_add (l := 1442) (h := 2876) hv_21 zc_2 ev_157 (by decide)
        rw [li_2] at qv_157
        refine lv_iload hx hb d_Model_addEdge_156 (lv_at hl 4 rfl) ?_
        refine va_iast hx hb hK hP hD hS 3 0 rfl rfl (zI.inn hv_157 (by decide)) d_Model_addEdge_158 (fun H locs hP hD hS => ?_)
        obtain ⟨f_158, hf_158, gf_158, uf_158, hP, hD⟩ := z_newq_ (Q := qE) 3 hP hD rfl hf_156 (qE_v hv_157 (by decide) ⟨fun _ => ⟨by have _w := hx_6; omega, by have _w := hx_6; omega⟩, fun _ => ⟨by have _w := hx_6; omega, by have _w := hx_6; omega⟩, fun _ => ⟨by have _w := hx_6; omega, by have _w := hx_6; omega⟩⟩)
        have hP : va_P G.1 classes [(b20, .inl (G.2 0, 520, .inl b58)), (b23, .inl (G.2 0, 482, .inl b59)), (b28, .inl (G.2 0, 2, .inl f_150)), (b29, .inl (G.2 0, 2880, .inl f_158)), (b0, .inr (12, [.int b3, .ref b4, .ref b5, .ref b6, .ref b7, .int b8, .ref b9, .int b10, .int b11, .int b12, .int b13, .ref b14, .ref b15, .ref b16, .int b17, .ref b18, .ref b19, .ref b20, .ref b21, .ref b22, .ref b23, .ref b24, .ref b25, .ref b26, .ref b27, .ref b28, .ref b29, .int x_13, .ref b31, .ref b32, .int b33, .int b34, .int b35, .int b36, .ref b37, .ref b38, .ref b39, .ref b40, .ref b41, .ref b42, .ref b43, .int b44, .ref b45, .ref b46, .int b47, .ref b48, .ref b49, .ref b50, .ref b51, .ref b52, .int b53, .ref b54, .ref b55, .ref b56])), (b4, .inl (G.2 0, 503, .inl b57))] H := hP
        have hD := z_tie hP hD rfl
        refine lv_aload_n hx hb d_Model_addEdge_159 rfl (lv_at hl 6 rfl) ?_
        refine va_get (D := G.1) (ci := 12) (v := .ref b29) (C := R_Model) (T := F_Model) (N := 54) hx hb hts i_Model hown hK hP 4 rfl rfl 26 (by decide) (hts _ q1135) (fun _ h9 => h9) rfl d_Model_addEdge_160 ?_
        refine lv_iload hx hb d_Model_addEdge_163 (lv_at hl 1 rfl) ?_
        refine lv_iconst (v := 3) hx hb d_Model_addEdge_165 (by decide) ?_
        refine lv_iadd hx hb d_Model_addEdge_166 ?_
        refine lv_topi (fun v_159 ev_159 => ?_)
        obtain ⟨qv_159, hv_159⟩ := zI_add (l := 1443) (h := 2877) hv_21 zc_3 ev_159 (by decide)
        rw [li_3] at qv_159
        refine lv_iconst (v := 0) hx hb d_Model_addEdge_167 (by decide) ?_
        refine va_iast hx hb hK hP hD hS 3 0 rfl rfl (zI.inn hv_159 (by decide)) d_Model_addEdge_168 (fun H locs hP hD hS => ?_)
        obtain ⟨f_160, hf_160, gf_160, uf_160, hP, hD⟩ := z_newq_ (Q := qE) 3 hP hD rfl hf_158 (qE_v hv_159 (by decide) ⟨fun _ => ⟨by have _w := li_0; omega, by have _w := li_0; omega⟩, fun _ => ⟨by have _w := li_0; omega, by have _w := li_0; omega⟩, fun _ => ⟨by have _w := li_0; omega, by have _w := li_0; omega⟩⟩)
        have hP : va_P G.1 classes [(b20, .inl (G.2 0, 520, .inl b58)), (b23, .inl (G.2 0, 482, .inl b59)), (b28, .inl (G.2 0, 2, .inl f_150)), (b29, .inl (G.2 0, 2880, .inl f_160)), (b0, .inr (12, [.int b3, .ref b4, .ref b5, .ref b6, .ref b7, .int b8, .ref b9, .int b10, .int b11, .int b12, .int b13, .ref b14, .ref b15, .ref b16, .int b17, .ref b18, .ref b19, .ref b20, .ref b21, .ref b22, .ref b23, .ref b24, .ref b25, .ref b26, .ref b27, .ref b28, .ref b29, .int x_13, .ref b31, .ref b32, .int b33, .int b34, .int b35, .int b36, .ref b37, .ref b38, .ref b39, .ref b40, .ref b41, .ref b42, .ref b43, .int b44, .ref b45, .ref b46, .int b47, .ref b48, .ref b49, .ref b50, .ref b51, .ref b52, .int b53, .ref b54, .ref b55, .ref b56])), (b4, .inl (G.2 0, 503, .inl b57))] H := hP
        have hD := z_tie hP hD rfl
        refine lv_aload_n hx hb d_Model_addEdge_169 rfl (lv_at hl 6 rfl) ?_
        refine va_get (D := G.1) (ci := 12) (v := .ref b29) (C := R_Model) (T := F_Model) (N := 54) hx hb hts i_Model hown hK hP 4 rfl rfl 26 (by decide) (hts _ q1135) (fun _ h9 => h9) rfl d_Model_addEdge_170 ?_
        refine lv_iload hx hb d_Model_addEdge_173 (lv_at hl 1 rfl) ?_
        refine lv_iconst (v := 4) hx hb d_Model_addEdge_175 (by decide) ?_
        refine lv_iadd hx hb d_Model_addEdge_176 ?_
        refine lv_topi (fun v_161 ev_161 => ?_)
        obtain ⟨qv_161, hv_161⟩ := zI_add (l := 1444) (h := 2878) hv_21 zc_4 ev_161 (by decide)
        rw [li_4] at qv_161
        refine lv_iload hx hb d_Model_addEdge_177 (lv_at hl 2 rfl) ?_
        refine va_iast hx hb hK hP hD hS 3 0 rfl rfl (zI.inn hv_161 (by decide)) d_Model_addEdge_179 (fun H locs hP hD hS => ?_)
        obtain ⟨f_162, hf_162, gf_162, uf_162, hP, hD⟩ := z_newq_ (Q := qE) 3 hP hD rfl hf_160 (qE_v hv_161 (by decide) ⟨fun _ => ⟨by have _w := (zI_all x_18); omega, by have _w := (zI_all x_18); omega⟩, fun _ => ⟨by have _w := (zI_all x_18); omega, by have _w := (zI_all x_18); omega⟩, fun _ => ⟨by have _w := (zI_all x_18); omega, by have _w := (zI_all x_18); omega⟩⟩)
        have hP : va_P G.1 classes [(b20, .inl (G.2 0, 520, .inl b58)), (b23, .inl (G.2 0, 482, .inl b59)), (b28, .inl (G.2 0, 2, .inl f_150)), (b29, .inl (G.2 0, 2880, .inl f_162)), (b0, .inr (12, [.int b3, .ref b4, .ref b5, .ref b6, .ref b7, .int b8, .ref b9, .int b10, .int b11, .int b12, .int b13, .ref b14, .ref b15, .ref b16, .int b17, .ref b18, .ref b19, .ref b20, .ref b21, .ref b22, .ref b23, .ref b24, .ref b25, .ref b26, .ref b27, .ref b28, .ref b29, .int x_13, .ref b31, .ref b32, .int b33, .int b34, .int b35, .int b36, .ref b37, .ref b38, .ref b39, .ref b40, .ref b41, .ref b42, .ref b43, .int b44, .ref b45, .ref b46, .int b47, .ref b48, .ref b49, .ref b50, .ref b51, .ref b52, .int b53, .ref b54, .ref b55, .ref b56])), (b4, .inl (G.2 0, 503, .inl b57))] H := hP
        have hD := z_tie hP hD rfl
        refine lv_aload_n hx hb d_Model_addEdge_180 rfl (lv_at hl 6 rfl) ?_
        refine va_get (D := G.1) (ci := 12) (v := .ref b29) (C := R_Model) (T := F_Model) (N := 54) hx hb hts i_Model hown hK hP 4 rfl rfl 26 (by decide) (hts _ q1135) (fun _ h9 => h9) rfl d_Model_addEdge_181 ?_
        refine lv_iload hx hb d_Model_addEdge_184 (lv_at hl 1 rfl) ?_
        refine lv_iconst (v := 5) hx hb d_Model_addEdge_186 (by decide) ?_
        refine lv_iadd hx hb d_Model_addEdge_187 ?_
        refine lv_topi (fun v_163 ev_163 => ?_)
        obtain ⟨qv_163, hv_163⟩ := zI_add (l := 1445) (h := 2879) hv_21 zc_5 ev_163 (by decide)
        rw [li_5] at qv_163
        refine lv_iload hx hb d_Model_addEdge_188 (lv_at hl 2 rfl) ?_
        refine va_iast hx hb hK hP hD hS 3 0 rfl rfl (zI.inn hv_163 (by decide)) d_Model_addEdge_190 (fun H locs hP hD hS => ?_)
        obtain ⟨f_164, hf_164, gf_164, uf_164, hP, hD⟩ := z_newq_ (Q := qE) 3 hP hD rfl hf_162 (qE_v hv_163 (by decide) ⟨fun _ => ⟨by have _w := (zI_all x_18); omega, by have _w := (zI_all x_18); omega⟩, fun _ => ⟨by have _w := (zI_all x_18); omega, by have _w := (zI_all x_18); omega⟩, fun _ => ⟨by have _w := (zI_all x_18); omega, by have _w := (zI_all x_18); omega⟩⟩)
        have hP : va_P G.1 classes [(b20, .inl (G.2 0, 520, .inl b58)), (b23, .inl (G.2 0, 482, .inl b59)), (b28, .inl (G.2 0, 2, .inl f_150)), (b29, .inl (G.2 0, 2880, .inl f_164)), (b0, .inr (12, [.int b3, .ref b4, .ref b5, .ref b6, .ref b7, .int b8, .ref b9, .int b10, .int b11, .int b12, .int b13, .ref b14, .ref b15, .ref b16, .int b17, .ref b18, .ref b19, .ref b20, .ref b21, .ref b22, .ref b23, .ref b24, .ref b25, .ref b26, .ref b27, .ref b28, .ref b29, .int x_13, .ref b31, .ref b32, .int b33, .int b34, .int b35, .int b36, .ref b37, .ref b38, .ref b39, .ref b40, .ref b41, .ref b42, .ref b43, .int b44, .ref b45, .ref b46, .int b47, .ref b48, .ref b49, .ref b50, .ref b51, .ref b52, .int b53, .ref b54, .ref b55, .ref b56])), (b4, .inl (G.2 0, 503, .inl b57))] H := hP
        have hD := z_tie hP hD rfl
        refine lv_aload_n hx hb d_Model_addEdge_191 rfl (lv_at hl 6 rfl) ?_
        refine va_get (D := G.1) (ci := 12) (v := .ref b29) (C := R_Model) (T := F_Model) (N := 54) hx hb hts i_Model hown hK hP 4 rfl rfl 26 (by decide) (hts _ q1135) (fun _ h9 => h9) rfl d_Model_addEdge_192 ?_
        refine lv_iload hx hb d_Model_addEdge_195 (lv_at hl 1 rfl) ?_
        refine lv_iconst (v := 3) hx hb d_Model_addEdge_197 (by decide) ?_
        refine lv_iadd hx hb d_Model_addEdge_198 ?_
        refine lv_topi (fun v_165 ev_165 => ?_)
        obtain rfl : v_159 = v_165 := ev_159.trans ev_165.symm
        refine lv_dup2_11 hx hb d_Model_addEdge_199 rfl rfl ?_
        refine va_iald hx hb hK hP 3 0 rfl rfl (zI.inn hv_159 (by decide)) d_Model_addEdge_200 ?_
        refine lv_topi (fun v_166 ev_166 => ?_)
        have kv_166 := zQE.ld hf_164 hv_159 ev_166 (by decide)
        refine lv_iconst (v := 1) hx hb d_Model_addEdge_201 (by decide) ?_
        refine lv_iadd hx hb d_Model_addEdge_202 ?_
        refine lv_topi (fun v_167 ev_167 => ?_)
        refine va_iast hx hb hK hP hD hS 3 0 rfl rfl (zI.inn hv_159 (by decide)) d_Model_addEdge_203 (fun H locs hP hD hS => ?_)
        obtain ⟨f_168, hf_168, gf_168, uf_168, hP, hD⟩ := z_newq_ (Q := qE) 3 hP hD rfl hf_164 (qE_v hv_159 (by decide) ⟨fun _ => ⟨by have _w := (zI_all v_167); omega, by have _w := (zI_all v_167); omega⟩, fun _ => ⟨by have _w := (zI_all v_167); omega, by have _w := (zI_all v_167); omega⟩, fun _ => ⟨by have _w := (zI_all v_167); omega, by have _w := (zI_all v_167); omega⟩⟩)
        have hP : va_P G.1 classes [(b20, .inl (G.2 0, 520, .inl b58)), (b23, .inl (G.2 0, 482, .inl b59)), (b28, .inl (G.2 0, 2, .inl f_150)), (b29, .inl (G.2 0, 2880, .inl f_168)), (b0, .inr (12, [.int b3, .ref b4, .ref b5, .ref b6, .ref b7, .int b8, .ref b9, .int b10, .int b11, .int b12, .int b13, .ref b14, .ref b15, .ref b16, .int b17, .ref b18, .ref b19, .ref b20, .ref b21, .ref b22, .ref b23, .ref b24, .ref b25, .ref b26, .ref b27, .ref b28, .ref b29, .int x_13, .ref b31, .ref b32, .int b33, .int b34, .int b35, .int b36, .ref b37, .ref b38, .ref b39, .ref b40, .ref b41, .ref b42, .ref b43, .int b44, .ref b45, .ref b46, .int b47, .ref b48, .ref b49, .ref b50, .ref b51, .ref b52, .int b53, .ref b54, .ref b55, .ref b56])), (b4, .inl (G.2 0, 503, .inl b57))] H := hP
        have hD := z_tie hP hD rfl
        refine lv_aload_n hx hb d_Model_addEdge_204 rfl (lv_at hl 6 rfl) ?_
        refine va_get (D := G.1) (ci := 12) (v := .ref b29) (C := R_Model) (T := F_Model) (N := 54) hx hb hts i_Model hown hK hP 4 rfl rfl 26 (by decide) (hts _ q1135) (fun _ h9 => h9) rfl d_Model_addEdge_205 ?_
        refine lv_iload hx hb d_Model_addEdge_208 (lv_at hl 1 rfl) ?_
        refine lv_iconst (v := 4) hx hb d_Model_addEdge_210 (by decide) ?_
        refine lv_iadd hx hb d_Model_addEdge_211 ?_
        refine lv_topi (fun v_169 ev_169 => ?_)
        obtain rfl : v_161 = v_169 := ev_161.trans ev_169.symm
        refine lv_iload hx hb d_Model_addEdge_212 (lv_at hl 2 rfl) ?_
        refine lv_aload_n hx hb d_Model_addEdge_214 rfl (lv_at hl 6 rfl) ?_
        refine va_get (D := G.1) (ci := 12) (v := .ref b29) (C := R_Model) (T := F_Model) (N := 54) hx hb hts i_Model hown hK hP 4 rfl rfl 26 (by decide) (hts _ q1135) (fun _ h9 => h9) rfl d_Model_addEdge_215 ?_
        refine lv_iload hx hb d_Model_addEdge_218 (lv_at hl 1 rfl) ?_
        refine lv_iconst (v := 4) hx hb d_Model_addEdge_220 (by decide) ?_
        refine lv_iadd hx hb d_Model_addEdge_221 ?_
        refine lv_topi (fun v_170 ev_170 => ?_)
        obtain rfl : v_161 = v_170 := ev_161.trans ev_170.symm
        refine va_iald hx hb hK hP 3 0 rfl rfl (zI.inn hv_161 (by decide)) d_Model_addEdge_222 ?_
        refine lv_topi (fun v_171 ev_171 => ?_)
        have kv_171 := zQE.ld hf_168 hv_161 ev_171 (by decide)
        refine lv_icmp_ge (tgt := 231) hx hb d_Model_addEdge_223 (by decide) (fun hc_172 => ?_) (fun hc_172 => ?_)
        · have _nhc_172 := hc_172
          have ni_173 := (fa_le _ _).mp hc_172
          refine lv_aload_n hx hb d_Model_addEdge_231 rfl (lv_at hl 6 rfl) ?_
          refine va_get (D := G.1) (ci := 12) (v := .ref b29) (C := R_Model) (T := F_Model) (N := 54) hx hb hts i_Model hown hK hP 4 rfl rfl 26 (by decide) (hts _ q1135) (fun _ h9 => h9) rfl d_Model_addEdge_232 ?_
          refine lv_iload hx hb d_Model_addEdge_235 (lv_at hl 1 rfl) ?_
          refine lv_iconst (v := 4) hx hb d_Model_addEdge_237 (by decide) ?_
          refine lv_iadd hx hb d_Model_addEdge_238 ?_
          refine lv_topi (fun v_174 ev_174 => ?_)
          obtain rfl : v_161 = v_174 := ev_161.trans ev_174.symm
          refine va_iald hx hb hK hP 3 0 rfl rfl (zI.inn hv_161 (by decide)) d_Model_addEdge_239 ?_
          refine lv_topi (fun v_175 ev_175 => ?_)
          obtain rfl : v_171 = v_175 := ev_171.trans ev_175.symm
          refine va_iast hx hb hK hP hD hS 3 0 rfl rfl (zI.inn hv_161 (by decide)) d_Model_addEdge_240 (fun H locs hP hD hS => ?_)
          obtain ⟨f_176, hf_176, gf_176, uf_176, hP, hD⟩ := z_newq_ (Q := qE) 3 hP hD rfl hf_168 (qE_s kv_171 hv_161 hv_161 (by decide) (by omega))
          have hP : va_P G.1 classes [(b20, .inl (G.2 0, 520, .inl b58)), (b23, .inl (G.2 0, 482, .inl b59)), (b28, .inl (G.2 0, 2, .inl f_150)), (b29, .inl (G.2 0, 2880, .inl f_176)), (b0, .inr (12, [.int b3, .ref b4, .ref b5, .ref b6, .ref b7, .int b8, .ref b9, .int b10, .int b11, .int b12, .int b13, .ref b14, .ref b15, .ref b16, .int b17, .ref b18, .ref b19, .ref b20, .ref b21, .ref b22, .ref b23, .ref b24, .ref b25, .ref b26, .ref b27, .ref b28, .ref b29, .int x_13, .ref b31, .ref b32, .int b33, .int b34, .int b35, .int b36, .ref b37, .ref b38, .ref b39, .ref b40, .ref b41, .ref b42, .ref b43, .int b44, .ref b45, .ref b46, .int b47, .ref b48, .ref b49, .ref b50, .ref b51, .ref b52, .int b53, .ref b54, .ref b55, .ref b56])), (b4, .inl (G.2 0, 503, .inl b57))] H := hP
          have hD := z_tie hP hD rfl
          refine lv_aload_n hx hb d_Model_addEdge_241 rfl (lv_at hl 6 rfl) ?_
          refine va_get (D := G.1) (ci := 12) (v := .ref b29) (C := R_Model) (T := F_Model) (N := 54) hx hb hts i_Model hown hK hP 4 rfl rfl 26 (by decide) (hts _ q1135) (fun _ h9 => h9) rfl d_Model_addEdge_242 ?_
          refine lv_iload hx hb d_Model_addEdge_245 (lv_at hl 1 rfl) ?_
          refine lv_iconst (v := 5) hx hb d_Model_addEdge_247 (by decide) ?_
          refine lv_iadd hx hb d_Model_addEdge_248 ?_
          refine lv_topi (fun v_177 ev_177 => ?_)
          obtain rfl : v_163 = v_177 := ev_163.trans ev_177.symm
          refine lv_iload hx hb d_Model_addEdge_249 (lv_at hl 2 rfl) ?_
          refine lv_aload_n hx hb d_Model_addEdge_251 rfl (lv_at hl 6 rfl) ?_
          refine va_get (D := G.1) (ci := 12) (v := .ref b29) (C := R_Model) (T := F_Model) (N := 54) hx hb hts i_Model hown hK hP 4 rfl rfl 26 (by decide) (hts _ q1135) (fun _ h9 => h9) rfl d_Model_addEdge_252 ?_
          refine lv_iload hx hb d_Model_addEdge_255 (lv_at hl 1 rfl) ?_
          refine lv_iconst (v := 5) hx hb d_Model_addEdge_257 (by decide) ?_
          refine lv_iadd hx hb d_Model_addEdge_258 ?_
          refine lv_topi (fun v_178 ev_178 => ?_)
          obtain rfl : v_163 = v_178 := ev_163.trans ev_178.symm
          refine va_iald hx hb hK hP 3 0 rfl rfl (zI.inn hv_163 (by decide)) d_Model_addEdge_259 ?_
          refine lv_topi (fun v_179 ev_179 => ?_)
          have kv_179 := zQE.ld hf_176 hv_163 ev_179 (by decide)
          refine lv_icmp_le (tgt := 268) hx hb d_Model_addEdge_260 (by decide) (fun hc_180 => ?_) (fun hc_180 => ?_)
          · have _nhc_180 := hc_180
            have ni_181 := (fa_le _ _).mp hc_180
            refine lv_aload_n hx hb d_Model_addEdge_268 rfl (lv_at hl 6 rfl) ?_
            refine va_get (D := G.1) (ci := 12) (v := .ref b29) (C := R_Model) (T := F_Model) (N := 54) hx hb hts i_Model hown hK hP 4 rfl rfl 26 (by decide) (hts _ q1135) (fun _ h9 => h9) rfl d_Model_addEdge_269 ?_
            refine lv_iload hx hb d_Model_addEdge_272 (lv_at hl 1 rfl) ?_
            refine lv_iconst (v := 5) hx hb d_Model_addEdge_274 (by decide) ?_
            refine lv_iadd hx hb d_Model_addEdge_275 ?_
            refine lv_topi (fun v_182 ev_182 => ?_)
            obtain rfl : v_163 = v_182 := ev_163.trans ev_182.symm
            refine va_iald hx hb hK hP 3 0 rfl rfl (zI.inn hv_163 (by decide)) d_Model_addEdge_276 ?_
            refine lv_topi (fun v_183 ev_183 => ?_)
            obtain rfl : v_179 = v_183 := ev_179.trans ev_183.symm
            refine va_iast hx hb hK hP hD hS 3 0 rfl rfl (zI.inn hv_163 (by decide)) d_Model_addEdge_277 (fun H locs hP hD hS => ?_)
            obtain ⟨f_184, hf_184, gf_184, uf_184, hP, hD⟩ := z_newq_ (Q := qE) 3 hP hD rfl hf_176 (qE_s kv_179 hv_163 hv_163 (by decide) (by omega))
            have hP : va_P G.1 classes [(b20, .inl (G.2 0, 520, .inl b58)), (b23, .inl (G.2 0, 482, .inl b59)), (b28, .inl (G.2 0, 2, .inl f_150)), (b29, .inl (G.2 0, 2880, .inl f_184)), (b0, .inr (12, [.int b3, .ref b4, .ref b5, .ref b6, .ref b7, .int b8, .ref b9, .int b10, .int b11, .int b12, .int b13, .ref b14, .ref b15, .ref b16, .int b17, .ref b18, .ref b19, .ref b20, .ref b21, .ref b22, .ref b23, .ref b24, .ref b25, .ref b26, .ref b27, .ref b28, .ref b29, .int x_13, .ref b31, .ref b32, .int b33, .int b34, .int b35, .int b36, .ref b37, .ref b38, .ref b39, .ref b40, .ref b41, .ref b42, .ref b43, .int b44, .ref b45, .ref b46, .int b47, .ref b48, .ref b49, .ref b50, .ref b51, .ref b52, .int b53, .ref b54, .ref b55, .ref b56])), (b4, .inl (G.2 0, 503, .inl b57))] H := hP
            have hD := z_tie hP hD rfl
            exact z_vret hx hb hr hlocks (hP.sub [4, 5, 0, 1, 2, 3] rfl) (hD.sub [4, 5, 0, 1, 2, 3] (by decide) rfl) hS (Nat.le_of_ble_eq_true rfl) (Nat.le_of_ble_eq_true rfl) d_Model_addEdge_278 ⟨x_13, f_150, f_184, rfl, rfl, (zI.wk (l' := 0) (h' := 1) hv_66 (by decide)), hf_150, hf_184, (by rw [gf_150, ← ev_67]; omega), (by have b9 := congrArg Int32.toInt hfx_10; exact ⟨x_2, x_9, x_6, x_18, ⟨hfx_3, hfx_10, (by have t9 := hfx_7; rw [t9]; congr 4; omega), hfx_19⟩, yAE_i (e := x_12.toInt.toNat) (E := (b60 (1 : Int32).toNatClampNeg).toInt.toNat) (y := y_142) (f6 := f_164) (u := v_166) (by omega) (fun j hj => (hfx_15).1 j (by omega)) (by rcases (hfx_15).2 with ⟨h8, _⟩ | ⟨_, h8⟩; (exfalso; omega); (rcases h8 with h8 | h8; exact Or.inl (by omega); exact Or.inr h8)) (by rw [gf_150]; have h8 := congrArg Int32.toInt ev_67; omega) (fun q => by rw [hli_143 q]; by_cases h7 : 1440 + 6 * x_12.toInt.toNat + 5 < q ∧ q < 1440 + 6 * (b60 (1 : Int32).toNatClampNeg).toInt.toNat + 6; rw [if_pos h7, if_pos (by omega)]; rw [if_neg h7, if_neg (by omega)]) (by rw [uf_164, uf_162, uf_160, uf_158, uf_156, uf_151]) (by rw [uf_184, uf_176, uf_168]) (by have p9 := z_pl hv_21 (by decide); omega) (by have p9 := z_pl hv_152 (by decide); omega) (by have p9 := z_pl hv_157 (by decide); omega) (by have p9 := z_pl hv_159 (by decide); omega) (by have p9 := z_pl hv_161 (by decide); omega) (by have p9 := z_pl hv_163 (by decide); omega) (by have p9 := z_pl hv_159 (by decide); omega) (by have p9 := z_pl hv_161 (by decide); omega) (by have p9 := z_pl hv_163 (by decide); omega) li_0 ev_166 ev_167 (Or.inr (by rw [← uf_168]; exact ev_171)) (Or.inr (by rw [← uf_168, ← uf_176]; exact ev_179))⟩)⟩
          · have _nhc_180 := hc_180
            have ni_185 := (fa_lt _ _).mp (zi_nle hc_180)
            have hv_186 : zI v_179 (-2147483648) 2147483646 := zI.lt_l (zI_all v_179) (zI_all x_18) (zi_nle hc_180) (by decide)
            have hv_187 : zI x_18 (-2147483647) 2147483647 := zI.lt_r (zI_all v_179) (zI_all x_18) (zi_nle hc_180) (by decide)
            refine lv_iload hx hb d_Model_addEdge_263 (lv_at hl 2 rfl) ?_
            refine lv_goto (tgt := 277) hx hb d_Model_addEdge_265 (by decide) ?_
            refine va_iast hx hb hK hP hD hS 3 0 rfl rfl (zI.inn hv_163 (by decide)) d_Model_addEdge_277 (fun H locs hP hD hS => ?_)
            obtain ⟨f_188, hf_188, gf_188, uf_188, hP, hD⟩ := z_newq_ (Q := qE) 3 hP hD rfl hf_176 (qE_v hv_163 (by decide) ⟨fun _ => ⟨by have _w := hv_187; omega, by have _w := hv_187; omega⟩, fun _ => ⟨by have _w := hv_187; omega, by have _w := hv_187; omega⟩, fun _ => ⟨by have _w := hv_187; omega, by have _w := hv_187; omega⟩⟩)
            have hP : va_P G.1 classes [(b20, .inl (G.2 0, 520, .inl b58)), (b23, .inl (G.2 0, 482, .inl b59)), (b28, .inl (G.2 0, 2, .inl f_150)), (b29, .inl (G.2 0, 2880, .inl f_188)), (b0, .inr (12, [.int b3, .ref b4, .ref b5, .ref b6, .ref b7, .int b8, .ref b9, .int b10, .int b11, .int b12, .int b13, .ref b14, .ref b15, .ref b16, .int b17, .ref b18, .ref b19, .ref b20, .ref b21, .ref b22, .ref b23, .ref b24, .ref b25, .ref b26, .ref b27, .ref b28, .ref b29, .int x_13, .ref b31, .ref b32, .int b33, .int b34, .int b35, .int b36, .ref b37, .ref b38, .ref b39, .ref b40, .ref b41, .ref b42, .ref b43, .int b44, .ref b45, .ref b46, .int b47, .ref b48, .ref b49, .ref b50, .ref b51, .ref b52, .int b53, .ref b54, .ref b55, .ref b56])), (b4, .inl (G.2 0, 503, .inl b57))] H := hP
            have hD := z_tie hP hD rfl
            exact z_vret hx hb hr hlocks (hP.sub [4, 5, 0, 1, 2, 3] rfl) (hD.sub [4, 5, 0, 1, 2, 3] (by decide) rfl) hS (Nat.le_of_ble_eq_true rfl) (Nat.le_of_ble_eq_true rfl) d_Model_addEdge_278 ⟨x_13, f_150, f_188, rfl, rfl, (zI.wk (l' := 0) (h' := 1) hv_66 (by decide)), hf_150, hf_188, (by rw [gf_150, ← ev_67]; omega), (by have b9 := congrArg Int32.toInt hfx_10; exact ⟨x_2, x_9, x_6, x_18, ⟨hfx_3, hfx_10, (by have t9 := hfx_7; rw [t9]; congr 4; omega), hfx_19⟩, yAE_i (e := x_12.toInt.toNat) (E := (b60 (1 : Int32).toNatClampNeg).toInt.toNat) (y := y_142) (f6 := f_164) (u := v_166) (by omega) (fun j hj => (hfx_15).1 j (by omega)) (by rcases (hfx_15).2 with ⟨h8, _⟩ | ⟨_, h8⟩; (exfalso; omega); (rcases h8 with h8 | h8; exact Or.inl (by omega); exact Or.inr h8)) (by rw [gf_150]; have h8 := congrArg Int32.toInt ev_67; omega) (fun q => by rw [hli_143 q]; by_cases h7 : 1440 + 6 * x_12.toInt.toNat + 5 < q ∧ q < 1440 + 6 * (b60 (1 : Int32).toNatClampNeg).toInt.toNat + 6; rw [if_pos h7, if_pos (by omega)]; rw [if_neg h7, if_neg (by omega)]) (by rw [uf_164, uf_162, uf_160, uf_158, uf_156, uf_151]) (by rw [uf_188, uf_176, uf_168]) (by have p9 := z_pl hv_21 (by decide); omega) (by have p9 := z_pl hv_152 (by decide); omega) (by have p9 := z_pl hv_157 (by decide); omega) (by have p9 := z_pl hv_159 (by decide); omega) (by have p9 := z_pl hv_161 (by decide); omega) (by have p9 := z_pl hv_163 (by decide); omega) (by have p9 := z_pl hv_159 (by decide); omega) (by have p9 := z_pl hv_161 (by decide); omega) (by have p9 := z_pl hv_163 (by decide); omega) li_0 ev_166 ev_167 (Or.inr (by rw [← uf_168]; exact ev_171)) (Or.inl rfl)⟩)⟩
        · have _nhc_172 := hc_172
          have ni_189 := (fa_lt _ _).mp (zi_nle hc_172)
          have hv_190 : zI x_18 (-2147483648) 2147483646 := zI.lt_l (zI_all x_18) (zI_all v_171) (zi_nle hc_172) (by decide)
          have hv_191 : zI v_171 (-2147483647) 2147483647 := zI.lt_r (zI_all x_18) (zI_all v_171) (zi_nle hc_172) (by decide)
          refine lv_iload hx hb d_Model_addEdge_226 (lv_at hl 2 rfl) ?_
          refine lv_goto (tgt := 240) hx hb d_Model_addEdge_228 (by decide) ?_
          refine va_iast hx hb hK hP hD hS 3 0 rfl rfl (zI.inn hv_161 (by decide)) d_Model_addEdge_240 (fun H locs hP hD hS => ?_)
          obtain ⟨f_192, hf_192, gf_192, uf_192, hP, hD⟩ := z_newq_ (Q := qE) 3 hP hD rfl hf_168 (qE_v hv_161 (by decide) ⟨fun _ => ⟨by have _w := hv_190; omega, by have _w := hv_190; omega⟩, fun _ => ⟨by have _w := hv_190; omega, by have _w := hv_190; omega⟩, fun _ => ⟨by have _w := hv_190; omega, by have _w := hv_190; omega⟩⟩)
          have hP : va_P G.1 classes [(b20, .inl (G.2 0, 520, .inl b58)), (b23, .inl (G.2 0, 482, .inl b59)), (b28, .inl (G.2 0, 2, .inl f_150)), (b29, .inl (G.2 0, 2880, .inl f_192)), (b0, .inr (12, [.int b3, .ref b4, .ref b5, .ref b6, .ref b7, .int b8, .ref b9, .int b10, .int b11, .int b12, .int b13, .ref b14, .ref b15, .ref b16, .int b17, .ref b18, .ref b19, .ref b20, .ref b21, .ref b22, .ref b23, .ref b24, .ref b25, .ref b26, .ref b27, .ref b28, .ref b29, .int x_13, .ref b31, .ref b32, .int b33, .int b34, .int b35, .int b36, .ref b37, .ref b38, .ref b39, .ref b40, .ref b41, .ref b42, .ref b43, .int b44, .ref b45, .ref b46, .int b47, .ref b48, .ref b49, .ref b50, .ref b51, .ref b52, .int b53, .ref b54, .ref b55, .ref b56])), (b4, .inl (G.2 0, 503, .inl b57))] H := hP
          have hD := z_tie hP hD rfl
          refine lv_aload_n hx hb d_Model_addEdge_241 rfl (lv_at hl 6 rfl) ?_
          refine va_get (D := G.1) (ci := 12) (v := .ref b29) (C := R_Model) (T := F_Model) (N := 54) hx hb hts i_Model hown hK hP 4 rfl rfl 26 (by decide) (hts _ q1135) (fun _ h9 => h9) rfl d_Model_addEdge_242 ?_
          refine lv_iload hx hb d_Model_addEdge_245 (lv_at hl 1 rfl) ?_
          refine lv_iconst (v := 5) hx hb d_Model_addEdge_247 (by decide) ?_
          refine lv_iadd hx hb d_Model_addEdge_248 ?_
          refine lv_topi (fun v_193 ev_193 => ?_)
          obtain rfl : v_163 = v_193 := ev_163.trans ev_193.symm
          refine lv_iload hx hb d_Model_addEdge_249 (lv_at hl 2 rfl) ?_
          refine lv_aload_n hx hb d_Model_addEdge_251 rfl (lv_at hl 6 rfl) ?_
          refine va_get (D := G.1) (ci := 12) (v := .ref b29) (C := R_Model) (T := F_Model) (N := 54) hx hb hts i_Model hown hK hP 4 rfl rfl 26 (by decide) (hts _ q1135) (fun _ h9 => h9) rfl d_Model_addEdge_252 ?_
          refine lv_iload hx hb d_Model_addEdge_255 (lv_at hl 1 rfl) ?_
          refine lv_iconst (v := 5) hx hb d_Model_addEdge_257 (by decide) ?_
          refine lv_iadd hx hb d_Model_addEdge_258 ?_
          refine lv_topi (fun v_194 ev_194 => ?_)
          obtain rfl : v_163 = v_194 := ev_163.trans ev_194.symm
          refine va_iald hx hb hK hP 3 0 rfl rfl (zI.inn hv_163 (by decide)) d_Model_addEdge_259 ?_
          refine lv_topi (fun v_195 ev_195 => ?_)
          have kv_195 := zQE.ld hf_192 hv_163 ev_195 (by decide)
          refine lv_icmp_le (tgt := 268) hx hb d_Model_addEdge_260 (by decide) (fun hc_196 => ?_) (fun hc_196 => ?_)
          · have _nhc_196 := hc_196
            have ni_197 := (fa_le _ _).mp hc_196
            refine lv_aload_n hx hb d_Model_addEdge_268 rfl (lv_at hl 6 rfl) ?_
            refine va_get (D := G.1) (ci := 12) (v := .ref b29) (C := R_Model) (T := F_Model) (N := 54) hx hb hts i_Model hown hK hP 4 rfl rfl 26 (by decide) (hts _ q1135) (fun _ h9 => h9) rfl d_Model_addEdge_269 ?_
            refine lv_iload hx hb d_Model_addEdge_272 (lv_at hl 1 rfl) ?_
            refine lv_iconst (v := 5) hx hb d_Model_addEdge_274 (by decide) ?_
            refine lv_iadd hx hb d_Model_addEdge_275 ?_
            refine lv_topi (fun v_198 ev_198 => ?_)
            obtain rfl : v_163 = v_198 := ev_163.trans ev_198.symm
            refine va_iald hx hb hK hP 3 0 rfl rfl (zI.inn hv_163 (by decide)) d_Model_addEdge_276 ?_
            refine lv_topi (fun v_199 ev_199 => ?_)
            obtain rfl : v_195 = v_199 := ev_195.trans ev_199.symm
            refine va_iast hx hb hK hP hD hS 3 0 rfl rfl (zI.inn hv_163 (by decide)) d_Model_addEdge_277 (fun H locs hP hD hS => ?_)
            obtain ⟨f_200, hf_200, gf_200, uf_200, hP, hD⟩ := z_newq_ (Q := qE) 3 hP hD rfl hf_192 (qE_s kv_195 hv_163 hv_163 (by decide) (by omega))
            have hP : va_P G.1 classes [(b20, .inl (G.2 0, 520, .inl b58)), (b23, .inl (G.2 0, 482, .inl b59)), (b28, .inl (G.2 0, 2, .inl f_150)), (b29, .inl (G.2 0, 2880, .inl f_200)), (b0, .inr (12, [.int b3, .ref b4, .ref b5, .ref b6, .ref b7, .int b8, .ref b9, .int b10, .int b11, .int b12, .int b13, .ref b14, .ref b15, .ref b16, .int b17, .ref b18, .ref b19, .ref b20, .ref b21, .ref b22, .ref b23, .ref b24, .ref b25, .ref b26, .ref b27, .ref b28, .ref b29, .int x_13, .ref b31, .ref b32, .int b33, .int b34, .int b35, .int b36, .ref b37, .ref b38, .ref b39, .ref b40, .ref b41, .ref b42, .ref b43, .int b44, .ref b45, .ref b46, .int b47, .ref b48, .ref b49, .ref b50, .ref b51, .ref b52, .int b53, .ref b54, .ref b55, .ref b56])), (b4, .inl (G.2 0, 503, .inl b57))] H := hP
            have hD := z_tie hP hD rfl
            exact z_vret hx hb hr hlocks (hP.sub [4, 5, 0, 1, 2, 3] rfl) (hD.sub [4, 5, 0, 1, 2, 3] (by decide) rfl) hS (Nat.le_of_ble_eq_true rfl) (Nat.le_of_ble_eq_true rfl) d_Model_addEdge_278 ⟨x_13, f_150, f_200, rfl, rfl, (zI.wk (l' := 0) (h' := 1) hv_66 (by decide)), hf_150, hf_200, (by rw [gf_150, ← ev_67]; omega), (by have b9 := congrArg Int32.toInt hfx_10; exact ⟨x_2, x_9, x_6, x_18, ⟨hfx_3, hfx_10, (by have t9 := hfx_7; rw [t9]; congr 4; omega), hfx_19⟩, yAE_i (e := x_12.toInt.toNat) (E := (b60 (1 : Int32).toNatClampNeg).toInt.toNat) (y := y_142) (f6 := f_164) (u := v_166) (by omega) (fun j hj => (hfx_15).1 j (by omega)) (by rcases (hfx_15).2 with ⟨h8, _⟩ | ⟨_, h8⟩; (exfalso; omega); (rcases h8 with h8 | h8; exact Or.inl (by omega); exact Or.inr h8)) (by rw [gf_150]; have h8 := congrArg Int32.toInt ev_67; omega) (fun q => by rw [hli_143 q]; by_cases h7 : 1440 + 6 * x_12.toInt.toNat + 5 < q ∧ q < 1440 + 6 * (b60 (1 : Int32).toNatClampNeg).toInt.toNat + 6; rw [if_pos h7, if_pos (by omega)]; rw [if_neg h7, if_neg (by omega)]) (by rw [uf_164, uf_162, uf_160, uf_158, uf_156, uf_151]) (by rw [uf_200, uf_192, uf_168]) (by have p9 := z_pl hv_21 (by decide); omega) (by have p9 := z_pl hv_152 (by decide); omega) (by have p9 := z_pl hv_157 (by decide); omega) (by have p9 := z_pl hv_159 (by decide); omega) (by have p9 := z_pl hv_161 (by decide); omega) (by have p9 := z_pl hv_163 (by decide); omega) (by have p9 := z_pl hv_159 (by decide); omega) (by have p9 := z_pl hv_161 (by decide); omega) (by have p9 := z_pl hv_163 (by decide); omega) li_0 ev_166 ev_167 (Or.inl rfl) (Or.inr (by rw [← uf_168, ← uf_192]; exact ev_195))⟩)⟩
          · have _nhc_196 := hc_196
            have ni_201 := (fa_lt _ _).mp (zi_nle hc_196)
            have hv_202 : zI v_195 (-2147483648) 2147483645 := zI.lt_l (zI_all v_195) hv_190 (zi_nle hc_196) (by decide)
            have hv_203 : zI x_18 (-2147483647) 2147483646 := zI.lt_r (zI_all v_195) hv_190 (zi_nle hc_196) (by decide)
            refine lv_iload hx hb d_Model_addEdge_263 (lv_at hl 2 rfl) ?_
            refine lv_goto (tgt := 277) hx hb d_Model_addEdge_265 (by decide) ?_
            refine va_iast hx hb hK hP hD hS 3 0 rfl rfl (zI.inn hv_163 (by decide)) d_Model_addEdge_277 (fun H locs hP hD hS => ?_)
            obtain ⟨f_204, hf_204, gf_204, uf_204, hP, hD⟩ := z_newq_ (Q := qE) 3 hP hD rfl hf_192 (qE_v hv_163 (by decide) ⟨fun _ => ⟨by have _w := hv_203; omega, by have _w := hv_203; omega⟩, fun _ => ⟨by have _w := hv_203; omega, by have _w := hv_203; omega⟩, fun _ => ⟨by have _w := hv_203; omega, by have _w := hv_203; omega⟩⟩)
            have hP : va_P G.1 classes [(b20, .inl (G.2 0, 520, .inl b58)), (b23, .inl (G.2 0, 482, .inl b59)), (b28, .inl (G.2 0, 2, .inl f_150)), (b29, .inl (G.2 0, 2880, .inl f_204)), (b0, .inr (12, [.int b3, .ref b4, .ref b5, .ref b6, .ref b7, .int b8, .ref b9, .int b10, .int b11, .int b12, .int b13, .ref b14, .ref b15, .ref b16, .int b17, .ref b18, .ref b19, .ref b20, .ref b21, .ref b22, .ref b23, .ref b24, .ref b25, .ref b26, .ref b27, .ref b28, .ref b29, .int x_13, .ref b31, .ref b32, .int b33, .int b34, .int b35, .int b36, .ref b37, .ref b38, .ref b39, .ref b40, .ref b41, .ref b42, .ref b43, .int b44, .ref b45, .ref b46, .int b47, .ref b48, .ref b49, .ref b50, .ref b51, .ref b52, .int b53, .ref b54, .ref b55, .ref b56])), (b4, .inl (G.2 0, 503, .inl b57))] H := hP
            have hD := z_tie hP hD rfl
            exact z_vret hx hb hr hlocks (hP.sub [4, 5, 0, 1, 2, 3] rfl) (hD.sub [4, 5, 0, 1, 2, 3] (by decide) rfl) hS (Nat.le_of_ble_eq_true rfl) (Nat.le_of_ble_eq_true rfl) d_Model_addEdge_278 ⟨x_13, f_150, f_204, rfl, rfl, (zI.wk (l' := 0) (h' := 1) hv_66 (by decide)), hf_150, hf_204, (by rw [gf_150, ← ev_67]; omega), (by have b9 := congrArg Int32.toInt hfx_10; exact ⟨x_2, x_9, x_6, x_18, ⟨hfx_3, hfx_10, (by have t9 := hfx_7; rw [t9]; congr 4; omega), hfx_19⟩, yAE_i (e := x_12.toInt.toNat) (E := (b60 (1 : Int32).toNatClampNeg).toInt.toNat) (y := y_142) (f6 := f_164) (u := v_166) (by omega) (fun j hj => (hfx_15).1 j (by omega)) (by rcases (hfx_15).2 with ⟨h8, _⟩ | ⟨_, h8⟩; (exfalso; omega); (rcases h8 with h8 | h8; exact Or.inl (by omega); exact Or.inr h8)) (by rw [gf_150]; have h8 := congrArg Int32.toInt ev_67; omega) (fun q => by rw [hli_143 q]; by_cases h7 : 1440 + 6 * x_12.toInt.toNat + 5 < q ∧ q < 1440 + 6 * (b60 (1 : Int32).toNatClampNeg).toInt.toNat + 6; rw [if_pos h7, if_pos (by omega)]; rw [if_neg h7, if_neg (by omega)]) (by rw [uf_164, uf_162, uf_160, uf_158, uf_156, uf_151]) (by rw [uf_204, uf_192, uf_168]) (by have p9 := z_pl hv_21 (by decide); omega) (by have p9 := z_pl hv_152 (by decide); omega) (by have p9 := z_pl hv_157 (by decide); omega) (by have p9 := z_pl hv_159 (by decide); omega) (by have p9 := z_pl hv_161 (by decide); omega) (by have p9 := z_pl hv_163 (by decide); omega) (by have p9 := z_pl hv_159 (by decide); omega) (by have p9 := z_pl hv_161 (by decide); omega) (by have p9 := z_pl hv_163 (by decide); omega) li_0 ev_166 ev_167 (Or.inl rfl) (Or.inl rfl)⟩)⟩
      · have _nhc_146 := hc_146
        have ni_205 := (fa_le _ _).mp (zi_nlt hc_146)
        have hv_206 : zI v_21 1440 2873 := zI.le_l hv_21 hy_141 (zi_nlt hc_146) (by decide)
        have hv_207 : zI y_141 1440 2873 := zI.le_r hv_21 hy_141 (zi_nlt hc_146) (by decide)
        refine lv_aload_n hx hb d_Model_addEdge_91 rfl (lv_at hl 6 rfl) ?_
        refine va_get (D := G.1) (ci := 12) (v := .ref b29) (C := R_Model) (T := F_Model) (N := 54) hx hb hts i_Model hown hK hP 4 rfl rfl 26 (by decide) (hts _ q1135) (fun _ h9 => h9) rfl d_Model_addEdge_92 ?_
        refine lv_iload hx hb d_Model_addEdge_95 (lv_at hl 0 rfl) ?_
        refine lv_bipush (v := 6) hx hb d_Model_addEdge_97 (by decide) ?_
        refine lv_iadd hx hb d_Model_addEdge_99 ?_
        refine lv_topi (fun v_208 ev_208 => ?_)
        obtain ⟨qv_208, hv_208⟩ := zI_add (l := 1446) (h := 2879) hv_207 zc_6 ev_208 (by decide)
        rw [li_6] at qv_208
        refine lv_aload_n hx hb d_Model_addEdge_100 rfl (lv_at hl 6 rfl) ?_
        refine va_get (D := G.1) (ci := 12) (v := .ref b29) (C := R_Model) (T := F_Model) (N := 54) hx hb hts i_Model hown hK hP 4 rfl rfl 26 (by decide) (hts _ q1135) (fun _ h9 => h9) rfl d_Model_addEdge_101 ?_
        refine lv_iload hx hb d_Model_addEdge_104 (lv_at hl 0 rfl) ?_
        refine va_iald hx hb hK hP 3 0 rfl rfl (zI.inn hv_207 (by decide)) d_Model_addEdge_106 ?_
        refine lv_topi (fun v_209 ev_209 => ?_)
        have kv_209 := zQE.ld hy_142 hv_207 ev_209 (by decide)
        refine va_iast hx hb hK hP hD hS 3 0 rfl rfl (zI.inn hv_208 (by decide)) d_Model_addEdge_107 (fun H locs hP hD hS => ?_)
        obtain ⟨f_210, hf_210, gf_210, uf_210, hP, hD⟩ := z_newq_ (Q := qE) 3 hP hD rfl hy_142 (qE_s kv_209 hv_207 hv_208 (by decide) (by omega))
        have hP : va_P G.1 classes [(b20, .inl (G.2 0, 520, .inl b58)), (b23, .inl (G.2 0, 482, .inl b59)), (b28, .inl (G.2 0, 2, .inl b60)), (b29, .inl (G.2 0, 2880, .inl f_210)), (b0, .inr (12, [.int b3, .ref b4, .ref b5, .ref b6, .ref b7, .int b8, .ref b9, .int b10, .int b11, .int b12, .int b13, .ref b14, .ref b15, .ref b16, .int b17, .ref b18, .ref b19, .ref b20, .ref b21, .ref b22, .ref b23, .ref b24, .ref b25, .ref b26, .ref b27, .ref b28, .ref b29, .int x_13, .ref b31, .ref b32, .int b33, .int b34, .int b35, .int b36, .ref b37, .ref b38, .ref b39, .ref b40, .ref b41, .ref b42, .ref b43, .int b44, .ref b45, .ref b46, .int b47, .ref b48, .ref b49, .ref b50, .ref b51, .ref b52, .int b53, .ref b54, .ref b55, .ref b56])), (b4, .inl (G.2 0, 503, .inl b57))] H := hP
        have hD := z_tie hP hD rfl
        obtain ⟨v_211, ev_211⟩ : ∃ z : Int32, z = y_141 + (-1) := ⟨_, rfl⟩
        obtain ⟨qv_211, hv_211⟩ := zI_add (l := 1439) (h := 2872) hv_207 zc_m1 ev_211 (by decide)
        rw [li_m1] at qv_211
        refine lv_iinc (v := v_211) (lv' := [(9, .int v_211), (8, .int v_21), (7, .int x_18), (6, .int x_12), (5, .int x_6), (4, .int x_2), (0, .ref b0), (1, .int 1), (2, .int b1), (3, .int b2)]) hx hb d_Model_addEdge_108 hl (k := 0) rfl (by rw [ev_211]; rfl) (by decide) rfl (fun ls hl => ?_)
        refine lv_goto (tgt := 84) hx hb d_Model_addEdge_111 (by decide) ?_
        exact ihk_140 (v_211) (f_210) _ _ _ (zI.wk (l' := 1439) (h' := 2873) hv_211 (by decide)) hf_210 (by have p9 := z_pl hv_208 (by decide); have p8 := z_pl hv_207 (by decide); intro q; rw [uf_210, z_at]; by_cases h9 : q = v_208.toNatClampNeg; rw [if_pos h9, ev_209, hli_143, if_neg (by omega), if_pos (by omega)]; congr 1; omega; rw [if_neg h9, hli_143]; by_cases h8 : (y_141.toInt + 6 < (q : Int) ∧ (q : Int) < 6 * (b60 (1 : Int32).toNatClampNeg).toInt + 1446); rw [if_pos h8, if_pos (by omega)]; rw [if_neg h8, if_neg (by omega)]) (by omega) (by have h9 := hli_145; omega) (zm_dn qv_211 hmk_140 (by decide)) hP hD hS (lv_sub hl [0, 1, 2, 3, 4, 5, 6, 7, 8, 9] rfl)
