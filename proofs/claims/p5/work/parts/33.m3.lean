theorem d_Model_pathOf_0 : decode prog_14_method_24_code 0 = .ok (.aload_n 0, 1) := by decide +kernel
theorem d_Model_pathOf_1 : decode prog_14_method_24_code 1 = .ok (.getfield 46, 3) := by decide +kernel
theorem d_Model_pathOf_4 : decode prog_14_method_24_code 4 = .ok (.sipush 260, 3) := by decide +kernel
theorem d_Model_pathOf_7 : decode prog_14_method_24_code 7 = .ok (.iload_n 1, 1) := by decide +kernel
theorem d_Model_pathOf_8 : decode prog_14_method_24_code 8 = .ok (.imul, 1) := by decide +kernel
theorem d_Model_pathOf_9 : decode prog_14_method_24_code 9 = .ok (.bipush 13, 2) := by decide +kernel
theorem d_Model_pathOf_11 : decode prog_14_method_24_code 11 = .ok (.iload_n 2, 1) := by decide +kernel
theorem d_Model_pathOf_12 : decode prog_14_method_24_code 12 = .ok (.imul, 1) := by decide +kernel
theorem d_Model_pathOf_13 : decode prog_14_method_24_code 13 = .ok (.iadd, 1) := by decide +kernel
theorem d_Model_pathOf_14 : decode prog_14_method_24_code 14 = .ok (.iload_n 3, 1) := by decide +kernel
theorem d_Model_pathOf_15 : decode prog_14_method_24_code 15 = .ok (.iadd, 1) := by decide +kernel
theorem d_Model_pathOf_16 : decode prog_14_method_24_code 16 = .ok (.iaload, 1) := by decide +kernel
theorem d_Model_pathOf_17 : decode prog_14_method_24_code 17 = .ok (.ireturn, 1) := by decide +kernel
abbrev m_s1_Model_pathOf : Room := { frames := 0, cells := 0, slots := 0, locals := 0 }
set_option maxHeartbeats 4000000 in
set_option maxRecDepth 100000 in
theorem s1_Model_pathOf (l : Launch) (G : zG) (b0 : Nat) (b1 : Int32) (b2 : Int32) (b3 : Int32) (b4 : Nat) (b5 : Nat) (b6 : Nat) (b7 : Nat) (b8 : Int32) (b9 : Nat) (b10 : Int32) (b11 : Int32) (b12 : Int32) (b13 : Int32) (b14 : Nat) (b15 : Nat) (b16 : Nat) (b17 : Int32) (b18 : Nat) (b19 : Nat) (b20 : Nat) (b21 : Nat) (b22 : Nat) (b23 : Nat) (b24 : Nat) (b25 : Nat) (b26 : Nat) (b27 : Nat) (b28 : Nat) (b29 : Nat) (b30 : Int32) (b31 : Nat) (b32 : Nat) (b33 : Int32) (b34 : Int32) (b35 : Int32) (b36 : Int32) (b37 : Nat) (b38 : Nat) (b39 : Nat) (b40 : Nat) (b41 : Nat) (b42 : Nat) (b43 : Nat) (b44 : Int32) (b45 : Nat) (b46 : Nat) (b47 : Int32) (b48 : Nat) (b49 : Nat) (b50 : Nat) (b51 : Nat) (b52 : Nat) (b53 : Int32) (b54 : Nat) (b55 : Nat) (b56 : Nat) (b57 : Nat → Int32) (hb1 : zI b1 0 19) (hb2 : zI b2 0 12) (hb8 : zI b8 0 8) (hb10 : zI b10 0 240) (hb11 : zI b11 0 240) (hb13 : zI b13 0 1) (hb17 : zI b17 0 12) (hb30 : zI b30 0 1) (hb33 : zI b33 0 1) (hb44 : zI b44 0 1000) (hb47 : zI b47 0 1000) (hb53 : zI b53 0 400) (hb57 : zqa qP b57) : zM l G y_Model_pathOf prog_14_method_24_code 4 (Option.some Jvm.ClassFile.FieldType.int) m_s1_Model_pathOf [.ref b0, .int 0, .int b1, .int b2] [(b0, .inr (12, [.int b3, .ref b4, .ref b5, .ref b6, .ref b7, .int b8, .ref b9, .int b10, .int b11, .int b12, .int b13, .ref b14, .ref b15, .ref b16, .int b17, .ref b18, .ref b19, .ref b20, .ref b21, .ref b22, .ref b23, .ref b24, .ref b25, .ref b26, .ref b27, .ref b28, .ref b29, .int b30, .ref b31, .ref b32, .int b33, .int b34, .int b35, .int b36, .ref b37, .ref b38, .ref b39, .ref b40, .ref b41, .ref b42, .ref b43, .int b44, .ref b45, .ref b46, .int b47, .ref b48, .ref b49, .ref b50, .ref b51, .ref b52, .int b53, .ref b54, .ref b55, .ref b56])), (b20, .inl (G.2 0, 520, .inl b57))] (fun v w => ∃ (e0 : Int32), v = some (.int e0) ∧ w = [(b0, .inr (12, [.int b3, .ref b4, .ref b5, .ref b6, .ref b7, .int b8, .ref b9, .int b10, .int b11, .int b12, .int b13, .ref b14, .ref b15, .ref b16, .int b17, .ref b18, .ref b19, .ref b20, .ref b21, .ref b22, .ref b23, .ref b24, .ref b25, .ref b26, .ref b27, .ref b28, .ref b29, .int b30, .ref b31, .ref b32, .int b33, .int b34, .int b35, .int b36, .ref b37, .ref b38, .ref b39, .ref b40, .ref b41, .ref b42, .ref b43, .int b44, .ref b45, .ref b46, .int b47, .ref b48, .ref b49, .ref b50, .ref b51, .ref b52, .int b53, .ref b54, .ref b55, .ref b56])), (b20, .inl (G.2 0, 520, .inl b57))] ∧ (zI e0 0 240) ∧ (e0 = b57 (0 + 13 * b1.toInt.toNat + b2.toInt.toNat)) ∧ (e0.toInt ≤ 13 * b1.toInt + b2.toInt)) := by
  refine z_start (by decide +kernel) (Nat.le_of_ble_eq_true rfl) ?_
  intro p e s m below meth c A Z hr hnm hA hP hD hS ls hl
  have Z : zC p s m _ meth c prog_14_method_24_code 4 "TraceMachinesModel" G := Z
  obtain ⟨hx, hb, hml, hown, hts, hK, hN, hlocks⟩ := id Z
  have hl : lv_has ls 4 [(0, .ref b0), (1, .int 0), (2, .int b1), (3, .int b2)] := hl
  refine lv_aload_n hx hb d_Model_pathOf_0 rfl (lv_at hl 0 rfl) ?_
  refine va_get (D := G.1) (ci := 12) (v := .ref b20) (C := R_Model) (T := F_Model) (N := 54) hx hb hts i_Model hown hK hP 0 rfl rfl 17 (by decide) (hts _ q1126) (fun _ h9 => h9) rfl d_Model_pathOf_1 ?_
  refine lv_sipush (v := 260) hx hb d_Model_pathOf_4 (by decide) ?_
  refine lv_iload_n hx hb d_Model_pathOf_7 rfl (lv_at hl 1 rfl) ?_
  refine lv_imul hx hb d_Model_pathOf_8 ?_
  refine z_topi (y := 0) (by decide +kernel) ?_
  refine lv_bipush (v := 13) hx hb d_Model_pathOf_9 (by decide) ?_
  refine lv_iload_n hx hb d_Model_pathOf_11 rfl (lv_at hl 2 rfl) ?_
  refine lv_imul hx hb d_Model_pathOf_12 ?_
  refine lv_topi (fun v_1 ev_1 => ?_)
  obtain ⟨qv_1, hv_1⟩ := zI_mul (l := 0) (h := 247) zc_13 hb1 ev_1 (by decide)
  rw [li_13] at qv_1
  refine lv_iadd hx hb d_Model_pathOf_13 ?_
  refine lv_topi (fun v_2 ev_2 => ?_)
  obtain ⟨qv_2, hv_2⟩ := zI_add (l := 0) (h := 247) zc_0 hv_1 ev_2 (by decide)
  rw [li_0] at qv_2
  refine lv_iload_n hx hb d_Model_pathOf_14 rfl (lv_at hl 3 rfl) ?_
  refine lv_iadd hx hb d_Model_pathOf_15 ?_
  refine lv_topi (fun v_3 ev_3 => ?_)
  obtain ⟨qv_3, hv_3⟩ := zI_add (l := 0) (h := 259) hv_2 hb2 ev_3 (by decide)
  refine va_iald hx hb hK hP 1 0 rfl rfl (zI.inn hv_3 (by decide)) d_Model_pathOf_16 ?_
  refine lv_topi (fun v_4 ev_4 => ?_)
  obtain ⟨hv_4, kv_4⟩ := zQP.ld hb57 hv_3 ev_4 (by decide)
  exact z_iret hx hb hr hlocks hP hD hS (Nat.le_of_ble_eq_true rfl) (Nat.le_of_ble_eq_true rfl) d_Model_pathOf_17 ⟨v_4, rfl, rfl, hv_4, (by rw [ev_4, z_plf hv_3 (by decide)]; congr 1; omega), (by omega)⟩
theorem d_Model_stateAt_0 : decode prog_14_method_32_code 0 = .ok (.aload_n 0, 1) := by decide +kernel
theorem d_Model_stateAt_1 : decode prog_14_method_32_code 1 = .ok (.getfield 55, 3) := by decide +kernel
theorem d_Model_stateAt_4 : decode prog_14_method_32_code 4 = .ok (.sipush 241, 3) := by decide +kernel
theorem d_Model_stateAt_7 : decode prog_14_method_32_code 7 = .ok (.iload_n 1, 1) := by decide +kernel
theorem d_Model_stateAt_8 : decode prog_14_method_32_code 8 = .ok (.imul, 1) := by decide +kernel
theorem d_Model_stateAt_9 : decode prog_14_method_32_code 9 = .ok (.aload_n 0, 1) := by decide +kernel
theorem d_Model_stateAt_10 : decode prog_14_method_32_code 10 = .ok (.iload_n 1, 1) := by decide +kernel
theorem d_Model_stateAt_11 : decode prog_14_method_32_code 11 = .ok (.iload_n 2, 1) := by decide +kernel
theorem d_Model_stateAt_12 : decode prog_14_method_32_code 12 = .ok (.iload_n 3, 1) := by decide +kernel
theorem d_Model_stateAt_13 : decode prog_14_method_32_code 13 = .ok (.invokevirtual 211, 3) := by decide +kernel
theorem d_Model_stateAt_16 : decode prog_14_method_32_code 16 = .ok (.iadd, 1) := by decide +kernel
theorem d_Model_stateAt_17 : decode prog_14_method_32_code 17 = .ok (.iaload, 1) := by decide +kernel
theorem d_Model_stateAt_18 : decode prog_14_method_32_code 18 = .ok (.ireturn, 1) := by decide +kernel
abbrev m_s1_Model_stateAt : Room := { frames := 1, cells := 0, slots := 0, locals := 23 }
set_option maxHeartbeats 4000000 in
set_option maxRecDepth 100000 in
theorem s1_Model_stateAt (l : Launch) (G : zG) (b0 : Nat) (b1 : Int32) (b2 : Int32) (b3 : Int32) (b4 : Nat) (b5 : Nat) (b6 : Nat) (b7 : Nat) (b8 : Int32) (b9 : Nat) (b10 : Int32) (b11 : Int32) (b12 : Int32) (b13 : Int32) (b14 : Nat) (b15 : Nat) (b16 : Nat) (b17 : Int32) (b18 : Nat) (b19 : Nat) (b20 : Nat) (b21 : Nat) (b22 : Nat) (b23 : Nat) (b24 : Nat) (b25 : Nat) (b26 : Nat) (b27 : Nat) (b28 : Nat) (b29 : Nat) (b30 : Int32) (b31 : Nat) (b32 : Nat) (b33 : Int32) (b34 : Int32) (b35 : Int32) (b36 : Int32) (b37 : Nat) (b38 : Nat) (b39 : Nat) (b40 : Nat) (b41 : Nat) (b42 : Nat) (b43 : Nat) (b44 : Int32) (b45 : Nat) (b46 : Nat) (b47 : Int32) (b48 : Nat) (b49 : Nat) (b50 : Nat) (b51 : Nat) (b52 : Nat) (b53 : Int32) (b54 : Nat) (b55 : Nat) (b56 : Nat) (b57 : Nat → Int32) (b58 : Nat → Int32) (hb1 : zI b1 0 19) (hb2 : zI b2 0 12) (hb8 : zI b8 0 8) (hb10 : zI b10 0 240) (hb11 : zI b11 0 240) (hb13 : zI b13 0 1) (hb17 : zI b17 0 12) (hb30 : zI b30 0 1) (hb33 : zI b33 0 1) (hb44 : zI b44 0 1000) (hb47 : zI b47 0 1000) (hb53 : zI b53 0 400) (hb57 : zqa qP b57) (hb58 : zR b58 0 240) : zM l G y_Model_stateAt prog_14_method_32_code 4 (Option.some Jvm.ClassFile.FieldType.int) m_s1_Model_stateAt [.ref b0, .int 0, .int b1, .int b2] [(b0, .inr (12, [.int b3, .ref b4, .ref b5, .ref b6, .ref b7, .int b8, .ref b9, .int b10, .int b11, .int b12, .int b13, .ref b14, .ref b15, .ref b16, .int b17, .ref b18, .ref b19, .ref b20, .ref b21, .ref b22, .ref b23, .ref b24, .ref b25, .ref b26, .ref b27, .ref b28, .ref b29, .int b30, .ref b31, .ref b32, .int b33, .int b34, .int b35, .int b36, .ref b37, .ref b38, .ref b39, .ref b40, .ref b41, .ref b42, .ref b43, .int b44, .ref b45, .ref b46, .int b47, .ref b48, .ref b49, .ref b50, .ref b51, .ref b52, .int b53, .ref b54, .ref b55, .ref b56])), (b20, .inl (G.2 0, 520, .inl b57)), (b23, .inl (G.2 0, 482, .inl b58))] (fun v w => ∃ (e0 : Int32), v = some (.int e0) ∧ w = [(b0, .inr (12, [.int b3, .ref b4, .ref b5, .ref b6, .ref b7, .int b8, .ref b9, .int b10, .int b11, .int b12, .int b13, .ref b14, .ref b15, .ref b16, .int b17, .ref b18, .ref b19, .ref b20, .ref b21, .ref b22, .ref b23, .ref b24, .ref b25, .ref b26, .ref b27, .ref b28, .ref b29, .int b30, .ref b31, .ref b32, .int b33, .int b34, .int b35, .int b36, .ref b37, .ref b38, .ref b39, .ref b40, .ref b41, .ref b42, .ref b43, .int b44, .ref b45, .ref b46, .int b47, .ref b48, .ref b49, .ref b50, .ref b51, .ref b52, .int b53, .ref b54, .ref b55, .ref b56])), (b20, .inl (G.2 0, 520, .inl b57)), (b23, .inl (G.2 0, 482, .inl b58))] ∧ (zI e0 0 240) ∧ (e0 = b58 (b57 (13 * b1.toInt.toNat + b2.toInt.toNat)).toNatClampNeg)) := by
  refine z_start (by decide +kernel) (Nat.le_of_ble_eq_true rfl) ?_
  intro p e s m below meth c A Z hr hnm hA hP hD hS ls hl
  have Z : zC p s m _ meth c prog_14_method_32_code 4 "TraceMachinesModel" G := Z
  obtain ⟨hx, hb, hml, hown, hts, hK, hN, hlocks⟩ := id Z
  have hl : lv_has ls 4 [(0, .ref b0), (1, .int 0), (2, .int b1), (3, .int b2)] := hl
  refine lv_aload_n hx hb d_Model_stateAt_0 rfl (lv_at hl 0 rfl) ?_
  refine va_get (D := G.1) (ci := 12) (v := .ref b23) (C := R_Model) (T := F_Model) (N := 54) hx hb hts i_Model hown hK hP 0 rfl rfl 20 (by decide) (hts _ q1129) (fun _ h9 => h9) rfl d_Model_stateAt_1 ?_
  refine lv_sipush (v := 241) hx hb d_Model_stateAt_4 (by decide) ?_
  refine lv_iload_n hx hb d_Model_stateAt_7 rfl (lv_at hl 1 rfl) ?_
  refine lv_imul hx hb d_Model_stateAt_8 ?_
  refine z_topi (y := 0) (by decide +kernel) ?_
  refine lv_aload_n hx hb d_Model_stateAt_9 rfl (lv_at hl 0 rfl) ?_
  refine lv_iload_n hx hb d_Model_stateAt_10 rfl (lv_at hl 1 rfl) ?_
  refine lv_iload_n hx hb d_Model_stateAt_11 rfl (lv_at hl 2 rfl) ?_
  refine lv_iload_n hx hb d_Model_stateAt_12 rfl (lv_at hl 3 rfl) ?_
  refine z_callV (index := 211) (As := [.int 0, .int b1, .int b2]) (rest := [.int 0, .ref b23]) (wr := [(b23, .inl (G.2 0, 482, .inl b58))]) Z (s1_Model_pathOf l G (b0) (b1) (b2) (b3) (b4) (b5) (b6) (b7) (b8) (b9) (b10) (b11) (b12) (b13) (b14) (b15) (b16) (b17) (b18) (b19) (b20) (b21) (b22) (b23) (b24) (b25) (b26) (b27) (b28) (b29) (b30) (b31) (b32) (b33) (b34) (b35) (b36) (b37) (b38) (b39) (b40) (b41) (b42) (b43) (b44) (b45) (b46) (b47) (b48) (b49) (b50) (b51) (b52) (b53) (b54) (b55) (b56) (b57) hb1 hb2 hb8 hb10 hb11 hb13 hb17 hb30 hb33 hb44 hb47 hb53 hb57) hl.1 q1380 q1382 qs61 q14 q1383 ⟨by decide, by decide, by show _ = some 3; decide +kernel⟩ ⟨Nat.le_of_ble_eq_true rfl, Nat.le_of_ble_eq_true rfl⟩ ⟨Nat.le_of_ble_eq_true rfl, Nat.le_of_ble_eq_true rfl⟩ rfl (Nat.le_of_ble_eq_true rfl) d_Model_stateAt_13 hP hD hS hA 0 12 rfl rfl rfl [0, 1] [2] rfl rfl rfl rfl (by decide) (fun v w1 H locs hw_1 hP hD hS => ?_)
  obtain ⟨x_2, rfl, rfl, hx_2, hfx_3, hfx_4⟩ := hw_1
  have hP : va_P G.1 classes [(b23, .inl (G.2 0, 482, .inl b58)), (b0, .inr (12, [.int b3, .ref b4, .ref b5, .ref b6, .ref b7, .int b8, .ref b9, .int b10, .int b11, .int b12, .int b13, .ref b14, .ref b15, .ref b16, .int b17, .ref b18, .ref b19, .ref b20, .ref b21, .ref b22, .ref b23, .ref b24, .ref b25, .ref b26, .ref b27, .ref b28, .ref b29, .int b30, .ref b31, .ref b32, .int b33, .int b34, .int b35, .int b36, .ref b37, .ref b38, .ref b39, .ref b40, .ref b41, .ref b42, .ref b43, .int b44, .ref b45, .ref b46, .int b47, .ref b48, .ref b49, .ref b50, .ref b51, .ref b52, .int b53, .ref b54, .ref b55, .ref b56])), (b20, .inl (G.2 0, 520, .inl b57))] H := hP
  have hD := z_tie hP hD rfl
  refine W.widen (k := 0) (n := 0) (Nat.le_of_ble_eq_true rfl) (Nat.le_of_ble_eq_true rfl) ?_
  refine lv_iadd hx hb d_Model_stateAt_16 ?_
  refine lv_topi (fun v_5 ev_5 => ?_)
  obtain ⟨qv_5, hv_5⟩ := zI_add (l := 0) (h := 240) zc_0 hx_2 ev_5 (by decide)
  rw [li_0] at qv_5
  refine va_iald hx hb hK hP 0 0 rfl rfl (zI.inn hv_5 (by decide)) d_Model_stateAt_17 ?_
  refine lv_topi (fun v_6 ev_6 => ?_)
  have hv_6 : zI v_6 0 240 := (hb58 _).eq ev_6
  exact z_iret hx hb hr hlocks (hP.sub [1, 2, 0] rfl) (hD.sub [1, 2, 0] (by decide) rfl) hS (Nat.le_of_ble_eq_true rfl) (Nat.le_of_ble_eq_true rfl) d_Model_stateAt_18 ⟨v_6, rfl, rfl, hv_6, (by have h9 := hfx_3; have h8 : v_5.toNatClampNeg = x_2.toNatClampNeg := (by have p9 := z_pl hv_5 (by decide); have p8 := z_pl hx_2 (by decide); omega); rw [ev_6, h8, h9]; congr 3; omega)⟩
theorem d_Model_newPrefix_0 : decode prog_14_method_26_code 0 = .ok (.sipush 241, 3) := by decide +kernel
theorem d_Model_newPrefix_3 : decode prog_14_method_26_code 3 = .ok (.iload_n 1, 1) := by decide +kernel
theorem d_Model_newPrefix_4 : decode prog_14_method_26_code 4 = .ok (.imul, 1) := by decide +kernel
theorem d_Model_newPrefix_5 : decode prog_14_method_26_code 5 = .ok (.aload_n 0, 1) := by decide +kernel
theorem d_Model_newPrefix_6 : decode prog_14_method_26_code 6 = .ok (.getfield 40, 3) := by decide +kernel
theorem d_Model_newPrefix_9 : decode prog_14_method_26_code 9 = .ok (.iload_n 1, 1) := by decide +kernel
theorem d_Model_newPrefix_10 : decode prog_14_method_26_code 10 = .ok (.iaload, 1) := by decide +kernel
theorem d_Model_newPrefix_11 : decode prog_14_method_26_code 11 = .ok (.iadd, 1) := by decide +kernel
theorem d_Model_newPrefix_12 : decode prog_14_method_26_code 12 = .ok (.istore_n 2, 1) := by decide +kernel
theorem d_Model_newPrefix_13 : decode prog_14_method_26_code 13 = .ok (.iconst 0, 1) := by decide +kernel
theorem d_Model_newPrefix_14 : decode prog_14_method_26_code 14 = .ok (.istore_n 3, 1) := by decide +kernel
theorem d_Model_newPrefix_15 : decode prog_14_method_26_code 15 = .ok (.iload_n 3, 1) := by decide +kernel
theorem d_Model_newPrefix_16 : decode prog_14_method_26_code 16 = .ok (.bipush 10, 2) := by decide +kernel
theorem d_Model_newPrefix_18 : decode prog_14_method_26_code 18 = .ok (.if_icmp .ge 21, 3) := by decide +kernel
theorem d_Model_newPrefix_21 : decode prog_14_method_26_code 21 = .ok (.aload_n 0, 1) := by decide +kernel
theorem d_Model_newPrefix_22 : decode prog_14_method_26_code 22 = .ok (.getfield 43, 3) := by decide +kernel
theorem d_Model_newPrefix_25 : decode prog_14_method_26_code 25 = .ok (.bipush 10, 2) := by decide +kernel
theorem d_Model_newPrefix_27 : decode prog_14_method_26_code 27 = .ok (.iload_n 2, 1) := by decide +kernel
theorem d_Model_newPrefix_28 : decode prog_14_method_26_code 28 = .ok (.imul, 1) := by decide +kernel
theorem d_Model_newPrefix_29 : decode prog_14_method_26_code 29 = .ok (.iload_n 3, 1) := by decide +kernel
theorem d_Model_newPrefix_30 : decode prog_14_method_26_code 30 = .ok (.iadd, 1) := by decide +kernel
theorem d_Model_newPrefix_31 : decode prog_14_method_26_code 31 = .ok (.iconst (-1), 1) := by decide +kernel
theorem d_Model_newPrefix_32 : decode prog_14_method_26_code 32 = .ok (.iastore, 1) := by decide +kernel
theorem d_Model_newPrefix_33 : decode prog_14_method_26_code 33 = .ok (.iinc 3 1, 3) := by decide +kernel
theorem d_Model_newPrefix_36 : decode prog_14_method_26_code 36 = .ok (.goto (-21), 3) := by decide +kernel
theorem d_Model_newPrefix_39 : decode prog_14_method_26_code 39 = .ok (.aload_n 0, 1) := by decide +kernel
theorem d_Model_newPrefix_40 : decode prog_14_method_26_code 40 = .ok (.getfield 52, 3) := by decide +kernel
theorem d_Model_newPrefix_43 : decode prog_14_method_26_code 43 = .ok (.iload_n 2, 1) := by decide +kernel
theorem d_Model_newPrefix_44 : decode prog_14_method_26_code 44 = .ok (.iconst 0, 1) := by decide +kernel
theorem d_Model_newPrefix_45 : decode prog_14_method_26_code 45 = .ok (.iastore, 1) := by decide +kernel
theorem d_Model_newPrefix_46 : decode prog_14_method_26_code 46 = .ok (.aload_n 0, 1) := by decide +kernel
theorem d_Model_newPrefix_47 : decode prog_14_method_26_code 47 = .ok (.getfield 40, 3) := by decide +kernel
theorem d_Model_newPrefix_50 : decode prog_14_method_26_code 50 = .ok (.iload_n 1, 1) := by decide +kernel
theorem d_Model_newPrefix_51 : decode prog_14_method_26_code 51 = .ok (.dup2, 1) := by decide +kernel
theorem d_Model_newPrefix_52 : decode prog_14_method_26_code 52 = .ok (.iaload, 1) := by decide +kernel
theorem d_Model_newPrefix_53 : decode prog_14_method_26_code 53 = .ok (.iconst 1, 1) := by decide +kernel
theorem d_Model_newPrefix_54 : decode prog_14_method_26_code 54 = .ok (.iadd, 1) := by decide +kernel
theorem d_Model_newPrefix_55 : decode prog_14_method_26_code 55 = .ok (.iastore, 1) := by decide +kernel
theorem d_Model_newPrefix_56 : decode prog_14_method_26_code 56 = .ok (.return_, 1) := by decide +kernel
abbrev m_s1_Model_newPrefix : Room := { frames := 0, cells := 0, slots := 0, locals := 0 }
set_option maxHeartbeats 4000000 in
set_option maxRecDepth 100000 in
theorem s1_Model_newPrefix (l : Launch) (G : zG) (b0 : Nat) (b1 : Int32) (b2 : Nat) (b3 : Nat) (b4 : Nat) (b5 : Nat) (b6 : Int32) (b7 : Nat) (b8 : Int32) (b9 : Int32) (b10 : Int32) (b11 : Int32) (b12 : Nat) (b13 : Nat) (b14 : Nat) (b15 : Int32) (b16 : Nat) (b17 : Nat) (b18 : Nat) (b19 : Nat) (b20 : Nat) (b21 : Nat) (b22 : Nat) (b23 : Nat) (b24 : Nat) (b25 : Nat) (b26 : Nat) (b27 : Nat) (b28 : Int32) (b29 : Nat) (b30 : Nat) (b31 : Int32) (b32 : Int32) (b33 : Int32) (b34 : Int32) (b35 : Nat) (b36 : Nat) (b37 : Nat) (b38 : Nat) (b39 : Nat) (b40 : Nat) (b41 : Nat) (b42 : Int32) (b43 : Nat) (b44 : Nat) (b45 : Int32) (b46 : Nat) (b47 : Nat) (b48 : Nat) (b49 : Nat) (b50 : Nat) (b51 : Int32) (b52 : Nat) (b53 : Nat) (b54 : Nat) (b55 : Nat → Int32) (b56 : Nat → Int32) (b57 : Nat → Int32) (hb6 : zI b6 0 8) (hb8 : zI b8 0 240) (hb9 : zI b9 0 240) (hb11 : zI b11 0 1) (hb15 : zI b15 0 12) (hb28 : zI b28 0 1) (hb31 : zI b31 0 1) (hb42 : zI b42 0 1000) (hb45 : zI b45 0 1000) (hb51 : zI b51 0 400) (hb55 : zR b55 0 241) (hb56 : zR b56 (-1) 240) (hb57 : zqa qC b57) (hnp : (b55 (0 : Int32).toNatClampNeg).toInt ≤ 240) (hlm : zLm b56 0 (10 * (b55 (0 : Int32).toNatClampNeg).toInt) ((b55 (0 : Int32).toNatClampNeg).toInt + 1)) : zM l G y_Model_newPrefix prog_14_method_26_code 4 (Option.none : Option Jvm.ClassFile.FieldType) m_s1_Model_newPrefix [.ref b0, .int 0] [(b0, .inr (12, [.int b1, .ref b2, .ref b3, .ref b4, .ref b5, .int b6, .ref b7, .int b8, .int b9, .int b10, .int b11, .ref b12, .ref b13, .ref b14, .int b15, .ref b16, .ref b17, .ref b18, .ref b19, .ref b20, .ref b21, .ref b22, .ref b23, .ref b24, .ref b25, .ref b26, .ref b27, .int b28, .ref b29, .ref b30, .int b31, .int b32, .int b33, .int b34, .ref b35, .ref b36, .ref b37, .ref b38, .ref b39, .ref b40, .ref b41, .int b42, .ref b43, .ref b44, .int b45, .ref b46, .ref b47, .ref b48, .ref b49, .ref b50, .int b51, .ref b52, .ref b53, .ref b54])), (b16, .inl (G.2 0, 2, .inl b55)), (b17, .inl (G.2 0, 4820, .inl b56)), (b20, .inl (G.2 0, 482, .inl b57))] (fun v w => ∃ (e0 : Nat → Int32), ∃ (e1 : Nat → Int32), ∃ (e2 : Nat → Int32), v = none ∧ w = [(b0, .inr (12, [.int b1, .ref b2, .ref b3, .ref b4, .ref b5, .int b6, .ref b7, .int b8, .int b9, .int b10, .int b11, .ref b12, .ref b13, .ref b14, .int b15, .ref b16, .ref b17, .ref b18, .ref b19, .ref b20, .ref b21, .ref b22, .ref b23, .ref b24, .ref b25, .ref b26, .ref b27, .int b28, .ref b29, .ref b30, .int b31, .int b32, .int b33, .int b34, .ref b35, .ref b36, .ref b37, .ref b38, .ref b39, .ref b40, .ref b41, .int b42, .ref b43, .ref b44, .int b45, .ref b46, .ref b47, .ref b48, .ref b49, .ref b50, .int b51, .ref b52, .ref b53, .ref b54])), (b16, .inl (G.2 0, 2, .inl e0)), (b17, .inl (G.2 0, 4820, .inl e1)), (b20, .inl (G.2 0, 482, .inl e2))] ∧ (zR e0 0 241) ∧ (zR e1 (-1) 240) ∧ (zqa qC e2) ∧ ((e0 (0 : Int32).toNatClampNeg).toInt = (b55 (0 : Int32).toNatClampNeg).toInt + 1) ∧ (zLm e1 0 (10 * (e0 (0 : Int32).toNatClampNeg).toInt) (e0 (0 : Int32).toNatClampNeg).toInt) ∧ (∀ q : Nat, (q : Int) < 0 + 10 * (b55 (0 : Int32).toNatClampNeg).toInt → e1 q = b56 q)) := by
  refine z_start (by decide +kernel) (Nat.le_of_ble_eq_true rfl) ?_
  intro p e s m below meth c A Z hr hnm hA hP hD hS ls hl
  have Z : zC p s m _ meth c prog_14_method_26_code 4 "TraceMachinesModel" G := Z
  obtain ⟨hx, hb, hml, hown, hts, hK, hN, hlocks⟩ := id Z
  have hl : lv_has ls 4 [(0, .ref b0), (1, .int 0)] := hl
  refine lv_sipush (v := 241) hx hb d_Model_newPrefix_0 (by decide) ?_
  refine lv_iload_n hx hb d_Model_newPrefix_3 rfl (lv_at hl 1 rfl) ?_
  refine lv_imul hx hb d_Model_newPrefix_4 ?_
  refine z_topi (y := 0) (by decide +kernel) ?_
  refine lv_aload_n hx hb d_Model_newPrefix_5 rfl (lv_at hl 0 rfl) ?_
  refine va_get (D := G.1) (ci := 12) (v := .ref b16) (C := R_Model) (T := F_Model) (N := 54) hx hb hts i_Model hown hK hP 0 rfl rfl 15 (by decide) (hts _ q1124) (fun _ h9 => h9) rfl d_Model_newPrefix_6 ?_
  refine lv_iload_n hx hb d_Model_newPrefix_9 rfl (lv_at hl 1 rfl) ?_
  refine va_iald hx hb hK hP 1 0 rfl rfl (i := 0) (z_in rfl) d_Model_newPrefix_10 ?_
  refine lv_topi (fun v_1 ev_1 => ?_)
  have hv_1 : zI v_1 0 241 := (hb55 _).eq ev_1
  have hv_2 : zI v_1 0 240 := ⟨hv_1.1, by rw [← ev_1] at hnp; exact hnp⟩
  have hlvv_1 : zLm b56 0 (10 * v_1.toInt) (v_1.toInt + 1) := by rw [ev_1]; exact hlm
  refine lv_iadd hx hb d_Model_newPrefix_11 ?_
  refine lv_topi (fun v_3 ev_3 => ?_)
  obtain ⟨qv_3, hv_3⟩ := zI_add (l := 0) (h := 240) zc_0 hv_2 ev_3 (by decide)
  rw [li_0] at qv_3
  refine lv_istore_n (lv' := [(2, .int v_3), (0, .ref b0), (1, .int 0)]) hx hb d_Model_newPrefix_12 rfl hl (by decide) rfl (fun ls hl => ?_)
  refine lv_iconst (v := 0) hx hb d_Model_newPrefix_13 (by decide) ?_
  refine lv_istore_n (lv' := [(3, .int 0), (2, .int v_3), (0, .ref b0), (1, .int 0)]) hx hb d_Model_newPrefix_14 rfl hl (by decide) rfl (fun ls hl => ?_)
  suffices key : ∀ (k_19 : Nat) (y_20 : Int32) (y_21 : Nat → Int32) (H : Heap) (locs : List Loc) (ls : Array Slot), (zI y_20 0 10) → (zR y_21 (-1) 240) → (∀ q : Nat, (q : Int) < 10 * (v_3 : Int32).toInt → y_21 q = b56 q) → (zLm y_21 0 (10 * (v_3 : Int32).toInt - 0 + (y_20 : Int32).toInt) ((v_3 : Int32).toInt - 0 + 1)) → (10 : Int) - y_20.toInt < (k_19 : Int) → va_P G.1 classes [(b0, .inr (12, [.int b1, .ref b2, .ref b3, .ref b4, .ref b5, .int b6, .ref b7, .int b8, .int b9, .int b10, .int b11, .ref b12, .ref b13, .ref b14, .int b15, .ref b16, .ref b17, .ref b18, .ref b19, .ref b20, .ref b21, .ref b22, .ref b23, .ref b24, .ref b25, .ref b26, .ref b27, .int b28, .ref b29, .ref b30, .int b31, .int b32, .int b33, .int b34, .ref b35, .ref b36, .ref b37, .ref b38, .ref b39, .ref b40, .ref b41, .int b42, .ref b43, .ref b44, .int b45, .ref b46, .ref b47, .ref b48, .ref b49, .ref b50, .int b51, .ref b52, .ref b53, .ref b54])), (b16, .inl (G.2 0, 2, .inl b55)), (b17, .inl (G.2 0, 4820, .inl y_21)), (b20, .inl (G.2 0, 482, .inl b57))] H → va_D A [(b0, .inr (12, [.int b1, .ref b2, .ref b3, .ref b4, .ref b5, .int b6, .ref b7, .int b8, .int b9, .int b10, .int b11, .ref b12, .ref b13, .ref b14, .int b15, .ref b16, .ref b17, .ref b18, .ref b19, .ref b20, .ref b21, .ref b22, .ref b23, .ref b24, .ref b25, .ref b26, .ref b27, .int b28, .ref b29, .ref b30, .int b31, .int b32, .int b33, .int b34, .ref b35, .ref b36, .ref b37, .ref b38, .ref b39, .ref b40, .ref b41, .int b42, .ref b43, .ref b44, .int b45, .ref b46, .ref b47, .ref b48, .ref b49, .ref b50, .int b51, .ref b52, .ref b53, .ref b54])), (b16, .inl (G.2 0, 2, .inl b55)), (b17, .inl (G.2 0, 4820, .inl y_21)), (b20, .inl (G.2 0, 482, .inl b57))] → va_S A s.heap H locs → lv_has ls 4 [(3, .int y_20), (2, .int v_3), (0, .ref b0), (1, .int 0)] → W p l e m_s1_Model_newPrefix s m ([.ref b0, .int 0] : List Value).toArray below meth c H locs 0 0 (MQ below (zQ G (fun v w => ∃ (e0 : Nat → Int32), ∃ (e1 : Nat → Int32), ∃ (e2 : Nat → Int32), v = none ∧ w = [(b0, .inr (12, [.int b1, .ref b2, .ref b3, .ref b4, .ref b5, .int b6, .ref b7, .int b8, .int b9, .int b10, .int b11, .ref b12, .ref b13, .ref b14, .int b15, .ref b16, .ref b17, .ref b18, .ref b19, .ref b20, .ref b21, .ref b22, .ref b23, .ref b24, .ref b25, .ref b26, .ref b27, .int b28, .ref b29, .ref b30, .int b31, .int b32, .int b33, .int b34, .ref b35, .ref b36, .ref b37, .ref b38, .ref b39, .ref b40, .ref b41, .int b42, .ref b43, .ref b44, .int b45, .ref b46, .ref b47, .ref b48, .ref b49, .ref b50, .int b51, .ref b52, .ref b53, .ref b54])), (b16, .inl (G.2 0, 2, .inl e0)), (b17, .inl (G.2 0, 4820, .inl e1)), (b20, .inl (G.2 0, 482, .inl e2))] ∧ (zR e0 0 241) ∧ (zR e1 (-1) 240) ∧ (zqa qC e2) ∧ ((e0 (0 : Int32).toNatClampNeg).toInt = (b55 (0 : Int32).toNatClampNeg).toInt + 1) ∧ (zLm e1 0 (10 * (e0 (0 : Int32).toNatClampNeg).toInt) (e0 (0 : Int32).toNatClampNeg).toInt) ∧ (∀ q : Nat, (q : Int) < 0 + 10 * (b55 (0 : Int32).toNatClampNeg).toInt → e1 q = b56 q)) A) ([.ref b0, .int 0] : List Value).toArray s m_s1_Model_newPrefix.cells m_s1_Model_newPrefix.slots A) (F0 m 15 ls []) by
    exact key 11 (0) (b56) _ _ _ (zI.wk (l' := 0) (h' := 10) zc_0 (by decide)) hb56 (fun _ _ => rfl) (by have _l0 := li_0; intro q h1 h2; have := hlvv_1 q h1 (by omega); omega) (zm_upi (zI.wk (l' := 0) (h' := 10) zc_0 (by decide)) (by decide)) hP hD hS (lv_sub hl [0, 1, 2, 3] rfl)
  intro k_19
  induction k_19 with
  | zero =>
    intro y_20 y_21 H locs ls hy_20 hy_21 hli_22 hli_23 hmk_19 hP hD hS hl
    exact (zm_up0 hy_20 hmk_19).elim
  | succ k_19 ihk_19 =>
    intro y_20 y_21 H locs ls hy_20 hy_21 hli_22 hli_23 hmk_19 hP hD hS hl
    refine lv_iload_n hx hb d_Model_newPrefix_15 rfl (lv_at hl 0 rfl) ?_
    refine lv_bipush (v := 10) hx hb d_Model_newPrefix_16 (by decide) ?_
    refine lv_icmp_ge (tgt := 39) hx hb d_Model_newPrefix_18 (by decide) (fun hc_24 => ?_) (fun hc_24 => ?_)
    · have _nhc_24 := hc_24
      have ni_25 := (fa_le _ _).mp hc_24
      rw [li_10] at ni_25
      have hv_26 : zI y_20 10 10 := zI.le_r zc_10 hy_20 hc_24 (by decide)
      refine lv_aload_n hx hb d_Model_newPrefix_39 rfl (lv_at hl 2 rfl) ?_
      refine va_get (D := G.1) (ci := 12) (v := .ref b20) (C := R_Model) (T := F_Model) (N := 54) hx hb hts i_Model hown hK hP 0 rfl rfl 19 (by decide) (hts _ q1128) (fun _ h9 => h9) rfl d_Model_newPrefix_40 ?_
      refine lv_iload_n hx hb d_Model_newPrefix_43 rfl (lv_at hl 1 rfl) ?_
      refine lv_iconst (v := 0) hx hb d_Model_newPrefix_44 (by decide) ?_
      refine va_iast hx hb hK hP hD hS 3 0 rfl rfl (zI.inn hv_3 (by decide)) d_Model_newPrefix_45 (fun H locs hP hD hS => ?_)
      obtain ⟨f_27, hf_27, gf_27, uf_27, hP, hD⟩ := z_newq_ (Q := qC) 3 hP hD rfl hb57 (qC_v hv_3 (by decide) ⟨⟨by have _w := li_0; have _x := hv_3; omega, by have _w := li_0; have _x := hv_3; omega⟩, by have _w := li_0; have _x := hv_3; omega⟩)
      have hP : va_P G.1 classes [(b0, .inr (12, [.int b1, .ref b2, .ref b3, .ref b4, .ref b5, .int b6, .ref b7, .int b8, .int b9, .int b10, .int b11, .ref b12, .ref b13, .ref b14, .int b15, .ref b16, .ref b17, .ref b18, .ref b19, .ref b20, .ref b21, .ref b22, .ref b23, .ref b24, .ref b25, .ref b26, .ref b27, .int b28, .ref b29, .ref b30, .int b31, .int b32, .int b33, .int b34, .ref b35, .ref b36, .ref b37, .ref b38, .ref b39, .ref b40, .ref b41, .int b42, .ref b43, .ref b44, .int b45, .ref b46, .ref b47, .ref b48, .ref b49, .ref b50, .int b51, .ref b52, .ref b53, .ref b54])), (b16, .inl (G.2 0, 2, .inl b55)), (b17, .inl (G.2 0, 4820, .inl y_21)), (b20, .inl (G.2 0, 482, .inl f_27))] H := hP
      have hD := z_tie hP hD rfl
      refine lv_aload_n hx hb d_Model_newPrefix_46 rfl (lv_at hl 2 rfl) ?_
      refine va_get (D := G.1) (ci := 12) (v := .ref b16) (C := R_Model) (T := F_Model) (N := 54) hx hb hts i_Model hown hK hP 0 rfl rfl 15 (by decide) (hts _ q1124) (fun _ h9 => h9) rfl d_Model_newPrefix_47 ?_
      refine lv_iload_n hx hb d_Model_newPrefix_50 rfl (lv_at hl 3 rfl) ?_
      refine lv_dup2_11 hx hb d_Model_newPrefix_51 rfl rfl ?_
      refine va_iald hx hb hK hP 1 0 rfl rfl (i := 0) (z_in rfl) d_Model_newPrefix_52 ?_
      refine lv_topi (fun v_28 ev_28 => ?_)
      obtain rfl : v_1 = v_28 := ev_1.trans ev_28.symm
      refine lv_iconst (v := 1) hx hb d_Model_newPrefix_53 (by decide) ?_
      refine lv_iadd hx hb d_Model_newPrefix_54 ?_
      refine lv_topi (fun v_29 ev_29 => ?_)
      obtain ⟨qv_29, hv_29⟩ := zI_add (l := 1) (h := 241) hv_2 zc_1 ev_29 (by decide)
      rw [li_1] at qv_29
      refine va_iast hx hb hK hP hD hS 1 0 rfl rfl (i := 0) (z_in rfl) d_Model_newPrefix_55 (fun H locs hP hD hS => ?_)
      obtain ⟨f_30, hf_30, gf_30, uf_30, hP, hD⟩ := z_newfu 1 hP hD rfl hb55 (zI.wk (l' := 0) (h' := 241) hv_29 (by decide))
      have hP : va_P G.1 classes [(b0, .inr (12, [.int b1, .ref b2, .ref b3, .ref b4, .ref b5, .int b6, .ref b7, .int b8, .int b9, .int b10, .int b11, .ref b12, .ref b13, .ref b14, .int b15, .ref b16, .ref b17, .ref b18, .ref b19, .ref b20, .ref b21, .ref b22, .ref b23, .ref b24, .ref b25, .ref b26, .ref b27, .int b28, .ref b29, .ref b30, .int b31, .int b32, .int b33, .int b34, .ref b35, .ref b36, .ref b37, .ref b38, .ref b39, .ref b40, .ref b41, .int b42, .ref b43, .ref b44, .int b45, .ref b46, .ref b47, .ref b48, .ref b49, .ref b50, .int b51, .ref b52, .ref b53, .ref b54])), (b16, .inl (G.2 0, 2, .inl f_30)), (b17, .inl (G.2 0, 4820, .inl y_21)), (b20, .inl (G.2 0, 482, .inl f_27))] H := hP
      have hD := z_tie hP hD rfl
      exact z_vret hx hb hr hlocks hP hD hS (Nat.le_of_ble_eq_true rfl) (Nat.le_of_ble_eq_true rfl) d_Model_newPrefix_56 ⟨f_30, y_21, f_27, rfl, rfl, hf_30, hy_21, hf_27, (by rw [gf_30, qv_29, ev_1]), (by intro q h1 h2; rw [gf_30] at h2 ⊢; have := hli_23 q h1 (by omega); omega), (by intro q hq; exact hli_22 q (by rw [← ev_1] at hq; omega))⟩
    · have _nhc_24 := hc_24
      have ni_31 := (fa_lt _ _).mp (zi_nle hc_24)
      rw [li_10] at ni_31
      have hv_32 : zI y_20 0 9 := zI.lt_l hy_20 zc_10 (zi_nle hc_24) (by decide)
      refine lv_aload_n hx hb d_Model_newPrefix_21 rfl (lv_at hl 2 rfl) ?_
      refine va_get (D := G.1) (ci := 12) (v := .ref b17) (C := R_Model) (T := F_Model) (N := 54) hx hb hts i_Model hown hK hP 0 rfl rfl 16 (by decide) (hts _ q1125) (fun _ h9 => h9) rfl d_Model_newPrefix_22 ?_
      refine lv_bipush (v := 10) hx hb d_Model_newPrefix_25 (by decide) ?_
      refine lv_iload_n hx hb d_Model_newPrefix_27 rfl (lv_at hl 1 rfl) ?_
      refine lv_imul hx hb d_Model_newPrefix_28 ?_
      refine lv_topi (fun v_33 ev_33 => ?_)
      obtain ⟨qv_33, hv_33⟩ := zI_mul (l := 0) (h := 2400) zc_10 hv_3 ev_33 (by decide)
      rw [li_10] at qv_33
      refine lv_iload_n hx hb d_Model_newPrefix_29 rfl (lv_at hl 0 rfl) ?_
      refine lv_iadd hx hb d_Model_newPrefix_30 ?_
      refine lv_topi (fun v_34 ev_34 => ?_)
      obtain ⟨qv_34, hv_34⟩ := zI_add (l := 0) (h := 2409) hv_33 hv_32 ev_34 (by decide)
      refine lv_iconst (v := (-1)) hx hb d_Model_newPrefix_31 (by decide) ?_
      refine va_iast hx hb hK hP hD hS 2 0 rfl rfl (zI.inn hv_34 (by decide)) d_Model_newPrefix_32 (fun H locs hP hD hS => ?_)
      obtain ⟨f_35, hf_35, gf_35, uf_35, hP, hD⟩ := z_newfu 2 hP hD rfl hy_21 (zI.wk (l' := (-1)) (h' := 240) zc_m1 (by decide))
      have hP : va_P G.1 classes [(b0, .inr (12, [.int b1, .ref b2, .ref b3, .ref b4, .ref b5, .int b6, .ref b7, .int b8, .int b9, .int b10, .int b11, .ref b12, .ref b13, .ref b14, .int b15, .ref b16, .ref b17, .ref b18, .ref b19, .ref b20, .ref b21, .ref b22, .ref b23, .ref b24, .ref b25, .ref b26, .ref b27, .int b28, .ref b29, .ref b30, .int b31, .int b32, .int b33, .int b34, .ref b35, .ref b36, .ref b37, .ref b38, .ref b39, .ref b40, .ref b41, .int b42, .ref b43, .ref b44, .int b45, .ref b46, .ref b47, .ref b48, .ref b49, .ref b50, .int b51, .ref b52, .ref b53, .ref b54])), (b16, .inl (G.2 0, 2, .inl b55)), (b17, .inl (G.2 0, 4820, .inl f_35)), (b20, .inl (G.2 0, 482, .inl b57))] H := hP
      have hD := z_tie hP hD rfl
      obtain ⟨v_36, ev_36⟩ : ∃ z : Int32, z = y_20 + 1 := ⟨_, rfl⟩
      obtain ⟨qv_36, hv_36⟩ := zI_add (l := 1) (h := 10) hv_32 zc_1 ev_36 (by decide)
      rw [li_1] at qv_36
      refine lv_iinc (v := v_36) (lv' := [(3, .int v_36), (2, .int v_3), (0, .ref b0), (1, .int 0)]) hx hb d_Model_newPrefix_33 hl (k := 0) rfl (by rw [ev_36]; rfl) (by decide) rfl (fun ls hl => ?_)
      refine lv_goto (tgt := 15) hx hb d_Model_newPrefix_36 (by decide) ?_
      exact ihk_19 (v_36) (f_35) _ _ _ (zI.wk (l' := 0) (h' := 10) hv_36 (by decide)) hf_35 (by have p9 := z_pl hv_34 (by decide); intro q hq; rw [uf_35, z_at, if_neg (by omega)]; exact hli_22 q hq) (by have _l0 := li_m1; have p9 := z_pl hv_34 (by decide); intro q h1 h2; rw [uf_35, z_at]; split; omega; exact hli_23 q h1 (by omega)) (zm_up qv_36 hmk_19 (by decide)) hP hD hS (lv_sub hl [0, 1, 2, 3] rfl)
theorem d_Model_layPrefixes_0 : decode prog_14_method_27_code 0 = .ok (.aload_n 0, 1) := by decide +kernel
theorem d_Model_layPrefixes_1 : decode prog_14_method_27_code 1 = .ok (.getfield 40, 3) := by decide +kernel
theorem d_Model_layPrefixes_4 : decode prog_14_method_27_code 4 = .ok (.iload_n 1, 1) := by decide +kernel
theorem d_Model_layPrefixes_5 : decode prog_14_method_27_code 5 = .ok (.iconst 0, 1) := by decide +kernel
theorem d_Model_layPrefixes_6 : decode prog_14_method_27_code 6 = .ok (.iastore, 1) := by decide +kernel
theorem d_Model_layPrefixes_7 : decode prog_14_method_27_code 7 = .ok (.aload_n 0, 1) := by decide +kernel
theorem d_Model_layPrefixes_8 : decode prog_14_method_27_code 8 = .ok (.iload_n 1, 1) := by decide +kernel
theorem d_Model_layPrefixes_9 : decode prog_14_method_27_code 9 = .ok (.invokevirtual 199, 3) := by decide +kernel
theorem d_Model_layPrefixes_12 : decode prog_14_method_27_code 12 = .ok (.iconst 0, 1) := by decide +kernel
theorem d_Model_layPrefixes_13 : decode prog_14_method_27_code 13 = .ok (.istore_n 3, 1) := by decide +kernel
theorem d_Model_layPrefixes_14 : decode prog_14_method_27_code 14 = .ok (.iload_n 3, 1) := by decide +kernel
theorem d_Model_layPrefixes_15 : decode prog_14_method_27_code 15 = .ok (.aload_n 0, 1) := by decide +kernel
theorem d_Model_layPrefixes_16 : decode prog_14_method_27_code 16 = .ok (.invokevirtual 134, 3) := by decide +kernel
theorem d_Model_layPrefixes_19 : decode prog_14_method_27_code 19 = .ok (.if_icmp .ge 133, 3) := by decide +kernel
theorem d_Model_layPrefixes_22 : decode prog_14_method_27_code 22 = .ok (.iconst 0, 1) := by decide +kernel
theorem d_Model_layPrefixes_23 : decode prog_14_method_27_code 23 = .ok (.istore 4, 2) := by decide +kernel
theorem d_Model_layPrefixes_25 : decode prog_14_method_27_code 25 = .ok (.aload_n 0, 1) := by decide +kernel
theorem d_Model_layPrefixes_26 : decode prog_14_method_27_code 26 = .ok (.getfield 46, 3) := by decide +kernel
theorem d_Model_layPrefixes_29 : decode prog_14_method_27_code 29 = .ok (.sipush 260, 3) := by decide +kernel
theorem d_Model_layPrefixes_32 : decode prog_14_method_27_code 32 = .ok (.iload_n 1, 1) := by decide +kernel
theorem d_Model_layPrefixes_33 : decode prog_14_method_27_code 33 = .ok (.imul, 1) := by decide +kernel
theorem d_Model_layPrefixes_34 : decode prog_14_method_27_code 34 = .ok (.bipush 13, 2) := by decide +kernel
theorem d_Model_layPrefixes_36 : decode prog_14_method_27_code 36 = .ok (.iload_n 3, 1) := by decide +kernel
theorem d_Model_layPrefixes_37 : decode prog_14_method_27_code 37 = .ok (.imul, 1) := by decide +kernel
theorem d_Model_layPrefixes_38 : decode prog_14_method_27_code 38 = .ok (.iadd, 1) := by decide +kernel
theorem d_Model_layPrefixes_39 : decode prog_14_method_27_code 39 = .ok (.iconst 0, 1) := by decide +kernel
theorem d_Model_layPrefixes_40 : decode prog_14_method_27_code 40 = .ok (.iastore, 1) := by decide +kernel
theorem d_Model_layPrefixes_41 : decode prog_14_method_27_code 41 = .ok (.iconst 0, 1) := by decide +kernel
theorem d_Model_layPrefixes_42 : decode prog_14_method_27_code 42 = .ok (.istore 5, 2) := by decide +kernel
theorem d_Model_layPrefixes_44 : decode prog_14_method_27_code 44 = .ok (.iload 5, 2) := by decide +kernel
theorem d_Model_layPrefixes_46 : decode prog_14_method_27_code 46 = .ok (.aload_n 0, 1) := by decide +kernel
theorem d_Model_layPrefixes_47 : decode prog_14_method_27_code 47 = .ok (.iload_n 3, 1) := by decide +kernel
theorem d_Model_layPrefixes_48 : decode prog_14_method_27_code 48 = .ok (.invokevirtual 203, 3) := by decide +kernel
theorem d_Model_layPrefixes_51 : decode prog_14_method_27_code 51 = .ok (.if_icmp .ge 95, 3) := by decide +kernel
theorem d_Model_layPrefixes_54 : decode prog_14_method_27_code 54 = .ok (.iload_n 3, 1) := by decide +kernel
theorem d_Model_layPrefixes_55 : decode prog_14_method_27_code 55 = .ok (.iload_n 2, 1) := by decide +kernel
theorem d_Model_layPrefixes_56 : decode prog_14_method_27_code 56 = .ok (.if_icmp .eq 90, 3) := by decide +kernel
theorem d_Model_layPrefixes_59 : decode prog_14_method_27_code 59 = .ok (.bipush 10, 2) := by decide +kernel
theorem d_Model_layPrefixes_61 : decode prog_14_method_27_code 61 = .ok (.sipush 241, 3) := by decide +kernel
theorem d_Model_layPrefixes_64 : decode prog_14_method_27_code 64 = .ok (.iload_n 1, 1) := by decide +kernel
theorem d_Model_layPrefixes_65 : decode prog_14_method_27_code 65 = .ok (.imul, 1) := by decide +kernel
theorem d_Model_layPrefixes_66 : decode prog_14_method_27_code 66 = .ok (.iload 4, 2) := by decide +kernel
theorem d_Model_layPrefixes_68 : decode prog_14_method_27_code 68 = .ok (.iadd, 1) := by decide +kernel
theorem d_Model_layPrefixes_69 : decode prog_14_method_27_code 69 = .ok (.imul, 1) := by decide +kernel
theorem d_Model_layPrefixes_70 : decode prog_14_method_27_code 70 = .ok (.aload_n 0, 1) := by decide +kernel
theorem d_Model_layPrefixes_71 : decode prog_14_method_27_code 71 = .ok (.iload_n 3, 1) := by decide +kernel
theorem d_Model_layPrefixes_72 : decode prog_14_method_27_code 72 = .ok (.iload 5, 2) := by decide +kernel
theorem d_Model_layPrefixes_74 : decode prog_14_method_27_code 74 = .ok (.invokevirtual 207, 3) := by decide +kernel
theorem d_Model_layPrefixes_77 : decode prog_14_method_27_code 77 = .ok (.iadd, 1) := by decide +kernel
theorem d_Model_layPrefixes_78 : decode prog_14_method_27_code 78 = .ok (.istore 6, 2) := by decide +kernel
theorem d_Model_layPrefixes_80 : decode prog_14_method_27_code 80 = .ok (.aload_n 0, 1) := by decide +kernel
theorem d_Model_layPrefixes_81 : decode prog_14_method_27_code 81 = .ok (.getfield 43, 3) := by decide +kernel
theorem d_Model_layPrefixes_84 : decode prog_14_method_27_code 84 = .ok (.iload 6, 2) := by decide +kernel
theorem d_Model_layPrefixes_86 : decode prog_14_method_27_code 86 = .ok (.iaload, 1) := by decide +kernel
theorem d_Model_layPrefixes_87 : decode prog_14_method_27_code 87 = .ok (.iconst (-1), 1) := by decide +kernel
theorem d_Model_layPrefixes_88 : decode prog_14_method_27_code 88 = .ok (.if_icmp .ne 21, 3) := by decide +kernel
theorem d_Model_layPrefixes_91 : decode prog_14_method_27_code 91 = .ok (.aload_n 0, 1) := by decide +kernel
theorem d_Model_layPrefixes_92 : decode prog_14_method_27_code 92 = .ok (.getfield 43, 3) := by decide +kernel
theorem d_Model_layPrefixes_95 : decode prog_14_method_27_code 95 = .ok (.iload 6, 2) := by decide +kernel
theorem d_Model_layPrefixes_97 : decode prog_14_method_27_code 97 = .ok (.aload_n 0, 1) := by decide +kernel
theorem d_Model_layPrefixes_98 : decode prog_14_method_27_code 98 = .ok (.getfield 40, 3) := by decide +kernel
theorem d_Model_layPrefixes_101 : decode prog_14_method_27_code 101 = .ok (.iload_n 1, 1) := by decide +kernel
theorem d_Model_layPrefixes_102 : decode prog_14_method_27_code 102 = .ok (.iaload, 1) := by decide +kernel
theorem d_Model_layPrefixes_103 : decode prog_14_method_27_code 103 = .ok (.iastore, 1) := by decide +kernel
theorem d_Model_layPrefixes_104 : decode prog_14_method_27_code 104 = .ok (.aload_n 0, 1) := by decide +kernel
theorem d_Model_layPrefixes_105 : decode prog_14_method_27_code 105 = .ok (.iload_n 1, 1) := by decide +kernel
theorem d_Model_layPrefixes_106 : decode prog_14_method_27_code 106 = .ok (.invokevirtual 199, 3) := by decide +kernel
theorem d_Model_layPrefixes_109 : decode prog_14_method_27_code 109 = .ok (.aload_n 0, 1) := by decide +kernel
theorem d_Model_layPrefixes_110 : decode prog_14_method_27_code 110 = .ok (.getfield 43, 3) := by decide +kernel
theorem d_Model_layPrefixes_113 : decode prog_14_method_27_code 113 = .ok (.iload 6, 2) := by decide +kernel
theorem d_Model_layPrefixes_115 : decode prog_14_method_27_code 115 = .ok (.iaload, 1) := by decide +kernel
theorem d_Model_layPrefixes_116 : decode prog_14_method_27_code 116 = .ok (.istore 4, 2) := by decide +kernel
theorem d_Model_layPrefixes_118 : decode prog_14_method_27_code 118 = .ok (.aload_n 0, 1) := by decide +kernel
theorem d_Model_layPrefixes_119 : decode prog_14_method_27_code 119 = .ok (.getfield 46, 3) := by decide +kernel
theorem d_Model_layPrefixes_122 : decode prog_14_method_27_code 122 = .ok (.sipush 260, 3) := by decide +kernel
theorem d_Model_layPrefixes_125 : decode prog_14_method_27_code 125 = .ok (.iload_n 1, 1) := by decide +kernel
theorem d_Model_layPrefixes_126 : decode prog_14_method_27_code 126 = .ok (.imul, 1) := by decide +kernel
theorem d_Model_layPrefixes_127 : decode prog_14_method_27_code 127 = .ok (.bipush 13, 2) := by decide +kernel
theorem d_Model_layPrefixes_129 : decode prog_14_method_27_code 129 = .ok (.iload_n 3, 1) := by decide +kernel
theorem d_Model_layPrefixes_130 : decode prog_14_method_27_code 130 = .ok (.imul, 1) := by decide +kernel
theorem d_Model_layPrefixes_131 : decode prog_14_method_27_code 131 = .ok (.iadd, 1) := by decide +kernel
theorem d_Model_layPrefixes_132 : decode prog_14_method_27_code 132 = .ok (.iload 5, 2) := by decide +kernel
theorem d_Model_layPrefixes_134 : decode prog_14_method_27_code 134 = .ok (.iadd, 1) := by decide +kernel
theorem d_Model_layPrefixes_135 : decode prog_14_method_27_code 135 = .ok (.iconst 1, 1) := by decide +kernel
theorem d_Model_layPrefixes_136 : decode prog_14_method_27_code 136 = .ok (.iadd, 1) := by decide +kernel
theorem d_Model_layPrefixes_137 : decode prog_14_method_27_code 137 = .ok (.iload 4, 2) := by decide +kernel
theorem d_Model_layPrefixes_139 : decode prog_14_method_27_code 139 = .ok (.iastore, 1) := by decide +kernel
theorem d_Model_layPrefixes_140 : decode prog_14_method_27_code 140 = .ok (.iinc 5 1, 3) := by decide +kernel
theorem d_Model_layPrefixes_143 : decode prog_14_method_27_code 143 = .ok (.goto (-99), 3) := by decide +kernel
theorem d_Model_layPrefixes_146 : decode prog_14_method_27_code 146 = .ok (.iinc 3 1, 3) := by decide +kernel
theorem d_Model_layPrefixes_149 : decode prog_14_method_27_code 149 = .ok (.goto (-135), 3) := by decide +kernel
theorem d_Model_layPrefixes_152 : decode prog_14_method_27_code 152 = .ok (.return_, 1) := by decide +kernel
abbrev m_s1_Model_layPrefixes : Room := { frames := 1, cells := 0, slots := 0, locals := 23 }
set_option maxHeartbeats 4000000 in
set_option maxRecDepth 100000 in
theorem s1_Model_layPrefixes (l : Launch) (G : zG) (b0 : Nat) (b1 : Int32) (b2 : Int32) (b3 : Nat) (b4 : Nat) (b5 : Nat) (b6 : Nat) (b7 : Int32) (b8 : Nat) (b9 : Int32) (b10 : Int32) (b11 : Int32) (b12 : Int32) (b13 : Nat) (b14 : Nat) (b15 : Nat) (b16 : Int32) (b17 : Nat) (b18 : Nat) (b19 : Nat) (b20 : Nat) (b21 : Nat) (b22 : Nat) (b23 : Nat) (b24 : Nat) (b25 : Nat) (b26 : Nat) (b27 : Nat) (b28 : Nat) (b29 : Int32) (b30 : Nat) (b31 : Nat) (b32 : Int32) (b33 : Int32) (b34 : Int32) (b35 : Int32) (b36 : Nat) (b37 : Nat) (b38 : Nat) (b39 : Nat) (b40 : Nat) (b41 : Nat) (b42 : Nat) (b43 : Int32) (b44 : Nat) (b45 : Nat) (b46 : Int32) (b47 : Nat) (b48 : Nat) (b49 : Nat) (b50 : Nat) (b51 : Nat) (b52 : Int32) (b53 : Nat) (b54 : Nat) (b55 : Nat) (b56 : Nat → Int32) (b57 : Nat → Int32) (b58 : Nat → Int32) (b59 : Nat → Int32) (b60 : Nat → Int32) (hb1 : zI b1 (-1) 19) (hb7 : zI b7 0 8) (hb9 : zI b9 0 240) (hb10 : zI b10 0 240) (hb12 : zI b12 0 1) (hb16 : zI b16 0 12) (hb29 : zI b29 0 1) (hb32 : zI b32 0 1) (hb43 : zI b43 0 1000) (hb46 : zI b46 0 1000) (hb52 : zI b52 0 400) (hb56 : zW5 b56) (hb57 : zR b57 0 241) (hb58 : zR b58 (-1) 240) (hb59 : zqa qP b59) (hb60 : zqa qC b60) : zM l G y_Model_layPrefixes prog_14_method_27_code 7 (Option.none : Option Jvm.ClassFile.FieldType) m_s1_Model_layPrefixes [.ref b0, .int 0, .int b1] [(b0, .inr (12, [.int b2, .ref b3, .ref b4, .ref b5, .ref b6, .int b7, .ref b8, .int b9, .int b10, .int b11, .int b12, .ref b13, .ref b14, .ref b15, .int b16, .ref b17, .ref b18, .ref b19, .ref b20, .ref b21, .ref b22, .ref b23, .ref b24, .ref b25, .ref b26, .ref b27, .ref b28, .int b29, .ref b30, .ref b31, .int b32, .int b33, .int b34, .int b35, .ref b36, .ref b37, .ref b38, .ref b39, .ref b40, .ref b41, .ref b42, .int b43, .ref b44, .ref b45, .int b46, .ref b47, .ref b48, .ref b49, .ref b50, .ref b51, .int b52, .ref b53, .ref b54, .ref b55])), (b3, .inl (G.2 0, 503, .inl b56)), (b17, .inl (G.2 0, 2, .inl b57)), (b18, .inl (G.2 0, 4820, .inl b58)), (b19, .inl (G.2 0, 520, .inl b59)), (b21, .inl (G.2 0, 482, .inl b60))] (fun v w => ∃ (e0 : Nat → Int32), ∃ (e1 : Nat → Int32), ∃ (e2 : Nat → Int32), ∃ (e3 : Nat → Int32), v = none ∧ w = [(b0, .inr (12, [.int b2, .ref b3, .ref b4, .ref b5, .ref b6, .int b7, .ref b8, .int b9, .int b10, .int b11, .int b12, .ref b13, .ref b14, .ref b15, .int b16, .ref b17, .ref b18, .ref b19, .ref b20, .ref b21, .ref b22, .ref b23, .ref b24, .ref b25, .ref b26, .ref b27, .ref b28, .int b29, .ref b30, .ref b31, .int b32, .int b33, .int b34, .int b35, .ref b36, .ref b37, .ref b38, .ref b39, .ref b40, .ref b41, .ref b42, .int b43, .ref b44, .ref b45, .int b46, .ref b47, .ref b48, .ref b49, .ref b50, .ref b51, .int b52, .ref b53, .ref b54, .ref b55])), (b3, .inl (G.2 0, 503, .inl b56)), (b17, .inl (G.2 0, 2, .inl e0)), (b18, .inl (G.2 0, 4820, .inl e1)), (b19, .inl (G.2 0, 520, .inl e2)), (b21, .inl (G.2 0, 482, .inl e3))] ∧ (zR e0 0 241) ∧ (zR e1 (-1) 240) ∧ (zqa qP e2) ∧ (zqa qC e3) ∧ (zTm ((b56 (0 : Int32).toNatClampNeg).toInt) (b1 : Int32).toInt (e0 (0 : Int32).toNatClampNeg).toInt 0 b56 e2) ∧ (1 ≤ (e0 (0 : Int32).toNatClampNeg).toInt) ∧ (∀ t : Nat, (t : Int) < (b56 (0 : Int32).toNatClampNeg).toInt → (e2 (13 * t)).toInt = 0)) := by
  refine z_start (by decide +kernel) (Nat.le_of_ble_eq_true rfl) ?_
  intro p e s m below meth c A Z hr hnm hA hP hD hS ls hl
  have Z : zC p s m _ meth c prog_14_method_27_code 7 "TraceMachinesModel" G := Z
  obtain ⟨hx, hb, hml, hown, hts, hK, hN, hlocks⟩ := id Z
  have hl : lv_has ls 7 [(0, .ref b0), (1, .int 0), (2, .int b1)] := hl
  refine lv_aload_n hx hb d_Model_layPrefixes_0 rfl (lv_at hl 0 rfl) ?_
  refine va_get (D := G.1) (ci := 12) (v := .ref b17) (C := R_Model) (T := F_Model) (N := 54) hx hb hts i_Model hown hK hP 0 rfl rfl 15 (by decide) (hts _ q1124) (fun _ h9 => h9) rfl d_Model_layPrefixes_1 ?_
  refine lv_iload_n hx hb d_Model_layPrefixes_4 rfl (lv_at hl 1 rfl) ?_
  refine lv_iconst (v := 0) hx hb d_Model_layPrefixes_5 (by decide) ?_
  refine va_iast hx hb hK hP hD hS 2 0 rfl rfl (i := 0) (z_in rfl) d_Model_layPrefixes_6 (fun H locs hP hD hS => ?_)
  obtain ⟨f_1, hf_1, gf_1, uf_1, hP, hD⟩ := z_newfu 2 hP hD rfl hb57 (zI.wk (l' := 0) (h' := 241) zc_0 (by decide))
  have hP : va_P G.1 classes [(b0, .inr (12, [.int b2, .ref b3, .ref b4, .ref b5, .ref b6, .int b7, .ref b8, .int b9, .int b10, .int b11, .int b12, .ref b13, .ref b14, .ref b15, .int b16, .ref b17, .ref b18, .ref b19, .ref b20, .ref b21, .ref b22, .ref b23, .ref b24, .ref b25, .ref b26, .ref b27, .ref b28, .int b29, .ref b30, .ref b31, .int b32, .int b33, .int b34, .int b35, .ref b36, .ref b37, .ref b38, .ref b39, .ref b40, .ref b41, .ref b42, .int b43, .ref b44, .ref b45, .int b46, .ref b47, .ref b48, .ref b49, .ref b50, .ref b51, .int b52, .ref b53, .ref b54, .ref b55])), (b3, .inl (G.2 0, 503, .inl b56)), (b17, .inl (G.2 0, 2, .inl f_1)), (b18, .inl (G.2 0, 4820, .inl b58)), (b19, .inl (G.2 0, 520, .inl b59)), (b21, .inl (G.2 0, 482, .inl b60))] H := hP
  have hD := z_tie hP hD rfl
  refine lv_aload_n hx hb d_Model_layPrefixes_7 rfl (lv_at hl 0 rfl) ?_
  refine lv_iload_n hx hb d_Model_layPrefixes_8 rfl (lv_at hl 1 rfl) ?_
  refine z_callV (index := 199) (As := [.int 0]) (rest := []) (wr := [(b3, .inl (G.2 0, 503, .inl b56)), (b19, .inl (G.2 0, 520, .inl b59))]) Z (s1_Model_newPrefix l G (b0) (b2) (b3) (b4) (b5) (b6) (b7) (b8) (b9) (b10) (b11) (b12) (b13) (b14) (b15) (b16) (b17) (b18) (b19) (b20) (b21) (b22) (b23) (b24) (b25) (b26) (b27) (b28) (b29) (b30) (b31) (b32) (b33) (b34) (b35) (b36) (b37) (b38) (b39) (b40) (b41) (b42) (b43) (b44) (b45) (b46) (b47) (b48) (b49) (b50) (b51) (b52) (b53) (b54) (b55) (f_1) (b58) (b60) hb7 hb9 hb10 hb12 hb16 hb29 hb32 hb43 hb46 hb52 hf_1 hb58 hb60 (by rw [gf_1]; have _l := li_0; omega) (by intro q h1 h2; rw [gf_1] at h2; have _l := li_0; omega)) hl.1 q1368 q1370 qs58 q14 q1371 ⟨by decide, by decide, by show _ = some 1; decide +kernel⟩ ⟨Nat.le_of_ble_eq_true rfl, Nat.le_of_ble_eq_true rfl⟩ ⟨Nat.le_of_ble_eq_true rfl, Nat.le_of_ble_eq_true rfl⟩ rfl (Nat.le_of_ble_eq_true rfl) d_Model_layPrefixes_9 hP hD hS hA 0 12 rfl rfl rfl [0, 2, 3, 5] [1, 4] rfl rfl rfl rfl (by decide) (fun v w1 H locs hw_2 hP hD hS => ?_)
  obtain ⟨f_3, f_4, f_5, rfl, rfl, hf_3, hf_4, hf_5, hfx_6, hfx_7, hfx_8⟩ := hw_2
  have hP : va_P G.1 classes [(b3, .inl (G.2 0, 503, .inl b56)), (b19, .inl (G.2 0, 520, .inl b59)), (b0, .inr (12, [.int b2, .ref b3, .ref b4, .ref b5, .ref b6, .int b7, .ref b8, .int b9, .int b10, .int b11, .int b12, .ref b13, .ref b14, .ref b15, .int b16, .ref b17, .ref b18, .ref b19, .ref b20, .ref b21, .ref b22, .ref b23, .ref b24, .ref b25, .ref b26, .ref b27, .ref b28, .int b29, .ref b30, .ref b31, .int b32, .int b33, .int b34, .int b35, .ref b36, .ref b37, .ref b38, .ref b39, .ref b40, .ref b41, .ref b42, .int b43, .ref b44, .ref b45, .int b46, .ref b47, .ref b48, .ref b49, .ref b50, .ref b51, .int b52, .ref b53, .ref b54, .ref b55])), (b17, .inl (G.2 0, 2, .inl f_3)), (b18, .inl (G.2 0, 4820, .inl f_4)), (b21, .inl (G.2 0, 482, .inl f_5))] H := hP
  have hD := z_tie hP hD rfl
  refine W.widen (k := 0) (n := 0) (Nat.le_of_ble_eq_true rfl) (Nat.le_of_ble_eq_true rfl) ?_
  refine lv_iconst (v := 0) hx hb d_Model_layPrefixes_12 (by decide) ?_
  refine lv_istore_n (lv' := [(3, .int 0), (0, .ref b0), (1, .int 0), (2, .int b1)]) hx hb d_Model_layPrefixes_13 rfl hl (by decide) rfl (fun ls hl => ?_)
  suffices key : ∀ (k_137 : Nat) (y_138 : Int32) (y_139 : Nat → Int32) (y_140 : Nat → Int32) (y_141 : Nat → Int32) (y_142 : Nat → Int32) (H : Heap) (locs : List Loc) (ls : Array Slot), (zI y_138 0 20) → (zR y_139 0 241) → (zR y_140 (-1) 240) → (zqa qP y_141) → (zqa qC y_142) → ((y_139 (0 : Int32).toNatClampNeg).toInt ≤ 12 * (y_138 : Int32).toInt + 1 ∧ 1 ≤ (y_139 (0 : Int32).toNatClampNeg).toInt) → (zLm y_140 0 (10 * (y_139 (0 : Int32).toNatClampNeg).toInt) (y_139 (0 : Int32).toNatClampNeg).toInt) → (zTm ((y_138 : Int32).toInt) (b1 : Int32).toInt (y_139 (0 : Int32).toNatClampNeg).toInt 0 b56 y_141) → (∀ t : Nat, (t : Int) < (y_138 : Int32).toInt → (y_141 (13 * t)).toInt = 0) → (20 : Int) - y_138.toInt < (k_137 : Int) → va_P G.1 classes [(b3, .inl (G.2 0, 503, .inl b56)), (b19, .inl (G.2 0, 520, .inl y_141)), (b0, .inr (12, [.int b2, .ref b3, .ref b4, .ref b5, .ref b6, .int b7, .ref b8, .int b9, .int b10, .int b11, .int b12, .ref b13, .ref b14, .ref b15, .int b16, .ref b17, .ref b18, .ref b19, .ref b20, .ref b21, .ref b22, .ref b23, .ref b24, .ref b25, .ref b26, .ref b27, .ref b28, .int b29, .ref b30, .ref b31, .int b32, .int b33, .int b34, .int b35, .ref b36, .ref b37, .ref b38, .ref b39, .ref b40, .ref b41, .ref b42, .int b43, .ref b44, .ref b45, .int b46, .ref b47, .ref b48, .ref b49, .ref b50, .ref b51, .int b52, .ref b53, .ref b54, .ref b55])), (b17, .inl (G.2 0, 2, .inl y_139)), (b18, .inl (G.2 0, 4820, .inl y_140)), (b21, .inl (G.2 0, 482, .inl y_142))] H → va_D A [(b3, .inl (G.2 0, 503, .inl b56)), (b19, .inl (G.2 0, 520, .inl y_141)), (b0, .inr (12, [.int b2, .ref b3, .ref b4, .ref b5, .ref b6, .int b7, .ref b8, .int b9, .int b10, .int b11, .int b12, .ref b13, .ref b14, .ref b15, .int b16, .ref b17, .ref b18, .ref b19, .ref b20, .ref b21, .ref b22, .ref b23, .ref b24, .ref b25, .ref b26, .ref b27, .ref b28, .int b29, .ref b30, .ref b31, .int b32, .int b33, .int b34, .int b35, .ref b36, .ref b37, .ref b38, .ref b39, .ref b40, .ref b41, .ref b42, .int b43, .ref b44, .ref b45, .int b46, .ref b47, .ref b48, .ref b49, .ref b50, .ref b51, .int b52, .ref b53, .ref b54, .ref b55])), (b17, .inl (G.2 0, 2, .inl y_139)), (b18, .inl (G.2 0, 4820, .inl y_140)), (b21, .inl (G.2 0, 482, .inl y_142))] → va_S A s.heap H locs → lv_has ls 7 [(3, .int y_138), (0, .ref b0), (1, .int 0), (2, .int b1)] → W p l e m_s1_Model_layPrefixes s m ([.ref b0, .int 0, .int b1] : List Value).toArray below meth c H locs 0 0 (MQ below (zQ G (fun v w => ∃ (e0 : Nat → Int32), ∃ (e1 : Nat → Int32), ∃ (e2 : Nat → Int32), ∃ (e3 : Nat → Int32), v = none ∧ w = [(b0, .inr (12, [.int b2, .ref b3, .ref b4, .ref b5, .ref b6, .int b7, .ref b8, .int b9, .int b10, .int b11, .int b12, .ref b13, .ref b14, .ref b15, .int b16, .ref b17, .ref b18, .ref b19, .ref b20, .ref b21, .ref b22, .ref b23, .ref b24, .ref b25, .ref b26, .ref b27, .ref b28, .int b29, .ref b30, .ref b31, .int b32, .int b33, .int b34, .int b35, .ref b36, .ref b37, .ref b38, .ref b39, .ref b40, .ref b41, .ref b42, .int b43, .ref b44, .ref b45, .int b46, .ref b47, .ref b48, .ref b49, .ref b50, .ref b51, .int b52, .ref b53, .ref b54, .ref b55])), (b3, .inl (G.2 0, 503, .inl b56)), (b17, .inl (G.2 0, 2, .inl e0)), (b18, .inl (G.2 0, 4820, .inl e1)), (b19, .inl (G.2 0, 520, .inl e2)), (b21, .inl (G.2 0, 482, .inl e3))] ∧ (zR e0 0 241) ∧ (zR e1 (-1) 240) ∧ (zqa qP e2) ∧ (zqa qC e3) ∧ (zTm ((b56 (0 : Int32).toNatClampNeg).toInt) (b1 : Int32).toInt (e0 (0 : Int32).toNatClampNeg).toInt 0 b56 e2) ∧ (1 ≤ (e0 (0 : Int32).toNatClampNeg).toInt) ∧ (∀ t : Nat, (t : Int) < (b56 (0 : Int32).toNatClampNeg).toInt → (e2 (13 * t)).toInt = 0)) A) ([.ref b0, .int 0, .int b1] : List Value).toArray s m_s1_Model_layPrefixes.cells m_s1_Model_layPrefixes.slots A) (F0 m 14 ls []) by
    exact key 21 (0) (f_3) (f_4) (b59) (f_5) _ _ _ (zI.wk (l' := 0) (h' := 20) zc_0 (by decide)) hf_3 hf_4 hb59 hf_5 (by have h9 := hfx_6; rw [gf_1] at h9; have _l0 := li_0; omega) hfx_7 (by have _l0 := li_0; intro t i h1 h2 h3; omega) (by have _l0 := li_0; intro t ht; omega) (zm_upi (zI.wk (l' := 0) (h' := 20) zc_0 (by decide)) (by decide)) hP hD hS (lv_sub hl [0, 1, 2, 3] rfl)
  intro k_137
  induction k_137 with
  | zero =>
    intro y_138 y_139 y_140 y_141 y_142 H locs ls hy_138 hy_139 hy_140 hy_141 hy_142 hli_143 hli_144 hli_145 hli_146 hmk_137 hP hD hS hl
    exact (zm_up0 hy_138 hmk_137).elim
  | succ k_137 ihk_137 =>
    intro y_138 y_139 y_140 y_141 y_142 H locs ls hy_138 hy_139 hy_140 hy_141 hy_142 hli_143 hli_144 hli_145 hli_146 hmk_137 hP hD hS hl
    refine lv_iload_n hx hb d_Model_layPrefixes_14 rfl (lv_at hl 0 rfl) ?_
    refine lv_aload_n hx hb d_Model_layPrefixes_15 rfl (lv_at hl 1 rfl) ?_
    refine z_callV (index := 134) (As := []) (rest := [.int y_138]) (wr := [(b19, .inl (G.2 0, 520, .inl y_141)), (b17, .inl (G.2 0, 2, .inl y_139)), (b18, .inl (G.2 0, 4820, .inl y_140)), (b21, .inl (G.2 0, 482, .inl y_142))]) Z (s1_Model_many l G (b0) (b2) (b3) (b4) (b5) (b6) (b7) (b8) (b9) (b10) (b11) (b12) (b13) (b14) (b15) (b16) (b17) (b18) (b19) (b20) (b21) (b22) (b23) (b24) (b25) (b26) (b27) (b28) (b29) (b30) (b31) (b32) (b33) (b34) (b35) (b36) (b37) (b38) (b39) (b40) (b41) (b42) (b43) (b44) (b45) (b46) (b47) (b48) (b49) (b50) (b51) (b52) (b53) (b54) (b55) (b56) hb7 hb9 hb10 hb12 hb16 hb29 hb32 hb43 hb46 hb52 hb56) hl.1 q1320 q1322 qs51 q14 q1323 ⟨by decide, by decide, by show _ = some 0; decide +kernel⟩ ⟨Nat.le_of_ble_eq_true rfl, Nat.le_of_ble_eq_true rfl⟩ ⟨Nat.le_of_ble_eq_true rfl, Nat.le_of_ble_eq_true rfl⟩ rfl (Nat.le_of_ble_eq_true rfl) d_Model_layPrefixes_16 hP hD hS hA 2 12 rfl rfl rfl [2, 0] [1, 3, 4, 5] rfl rfl rfl rfl (by decide) (fun v w1 H locs hw_147 hP hD hS => ?_)
    obtain ⟨x_148, rfl, rfl, hx_148, hfx_149⟩ := hw_147
    have hP : va_P G.1 classes [(b19, .inl (G.2 0, 520, .inl y_141)), (b17, .inl (G.2 0, 2, .inl y_139)), (b18, .inl (G.2 0, 4820, .inl y_140)), (b21, .inl (G.2 0, 482, .inl y_142)), (b0, .inr (12, [.int b2, .ref b3, .ref b4, .ref b5, .ref b6, .int b7, .ref b8, .int b9, .int b10, .int b11, .int b12, .ref b13, .ref b14, .ref b15, .int b16, .ref b17, .ref b18, .ref b19, .ref b20, .ref b21, .ref b22, .ref b23, .ref b24, .ref b25, .ref b26, .ref b27, .ref b28, .int b29, .ref b30, .ref b31, .int b32, .int b33, .int b34, .int b35, .ref b36, .ref b37, .ref b38, .ref b39, .ref b40, .ref b41, .ref b42, .int b43, .ref b44, .ref b45, .int b46, .ref b47, .ref b48, .ref b49, .ref b50, .ref b51, .int b52, .ref b53, .ref b54, .ref b55])), (b3, .inl (G.2 0, 503, .inl b56))] H := hP
    have hD := z_tie hP hD rfl
    refine W.widen (k := 0) (n := 0) (Nat.le_of_ble_eq_true rfl) (Nat.le_of_ble_eq_true rfl) ?_
    refine lv_icmp_ge (tgt := 152) hx hb d_Model_layPrefixes_19 (by decide) (fun hc_150 => ?_) (fun hc_150 => ?_)
    · have _nhc_150 := hc_150
      have ni_151 := (fa_le _ _).mp hc_150
      exact z_vret hx hb hr hlocks (hP.sub [4, 5, 1, 2, 0, 3] rfl) (hD.sub [4, 5, 1, 2, 0, 3] (by decide) rfl) hS (Nat.le_of_ble_eq_true rfl) (Nat.le_of_ble_eq_true rfl) d_Model_layPrefixes_152 ⟨y_139, y_140, y_141, y_142, rfl, rfl, hy_139, hy_140, hy_141, hy_142, (by intro t i h1 h2 h3; exact hli_145 t i (by rw [← hfx_149] at h1; omega) h2 h3), (by omega), (by intro t ht; exact hli_146 t (by rw [← hfx_149] at ht; omega))⟩
    · have _nhc_150 := hc_150
      have ni_152 := (fa_lt _ _).mp (zi_nle hc_150)
      have hv_153 : zI y_138 0 19 := zI.lt_l hy_138 hx_148 (zi_nle hc_150) (by decide)
      have hv_154 : zI x_148 1 20 := zI.lt_r hy_138 hx_148 (zi_nle hc_150) (by decide)
      refine lv_iconst (v := 0) hx hb d_Model_layPrefixes_22 (by decide) ?_
      refine lv_istore (lv' := [(4, .int 0), (3, .int y_138), (0, .ref b0), (1, .int 0), (2, .int b1)]) hx hb d_Model_layPrefixes_23 hl (by decide) rfl (fun ls hl => ?_)
      refine lv_aload_n hx hb d_Model_layPrefixes_25 rfl (lv_at hl 2 rfl) ?_
      refine va_get (D := G.1) (ci := 12) (v := .ref b19) (C := R_Model) (T := F_Model) (N := 54) hx hb hts i_Model hown hK hP 4 rfl rfl 17 (by decide) (hts _ q1126) (fun _ h9 => h9) rfl d_Model_layPrefixes_26 ?_
      refine lv_sipush (v := 260) hx hb d_Model_layPrefixes_29 (by decide) ?_
      refine lv_iload_n hx hb d_Model_layPrefixes_32 rfl (lv_at hl 3 rfl) ?_
      refine lv_imul hx hb d_Model_layPrefixes_33 ?_
      refine z_topi (y := 0) (by decide +kernel) ?_
      refine lv_bipush (v := 13) hx hb d_Model_layPrefixes_34 (by decide) ?_
      refine lv_iload_n hx hb d_Model_layPrefixes_36 rfl (lv_at hl 1 rfl) ?_
      refine lv_imul hx hb d_Model_layPrefixes_37 ?_
      refine lv_topi (fun v_155 ev_155 => ?_)
      obtain ⟨qv_155, hv_155⟩ := zI_mul (l := 0) (h := 247) zc_13 hv_153 ev_155 (by decide)
      rw [li_13] at qv_155
      refine lv_iadd hx hb d_Model_layPrefixes_38 ?_
      refine lv_topi (fun v_156 ev_156 => ?_)
      obtain ⟨qv_156, hv_156⟩ := zI_add (l := 0) (h := 247) zc_0 hv_155 ev_156 (by decide)
      rw [li_0] at qv_156
      refine lv_iconst (v := 0) hx hb d_Model_layPrefixes_39 (by decide) ?_
      refine va_iast hx hb hK hP hD hS 0 0 rfl rfl (zI.inn hv_156 (by decide)) d_Model_layPrefixes_40 (fun H locs hP hD hS => ?_)
      obtain ⟨f_157, hf_157, gf_157, uf_157, hP, hD⟩ := z_newq_ (Q := qP) 0 hP hD rfl hy_141 (qP_v hv_156 (by decide) ⟨⟨by have _w := li_0; have _x := hv_156; omega, by have _w := li_0; have _x := hv_156; omega⟩, by have _w := li_0; have _x := hv_156; omega⟩)
      have hP : va_P G.1 classes [(b19, .inl (G.2 0, 520, .inl f_157)), (b17, .inl (G.2 0, 2, .inl y_139)), (b18, .inl (G.2 0, 4820, .inl y_140)), (b21, .inl (G.2 0, 482, .inl y_142)), (b0, .inr (12, [.int b2, .ref b3, .ref b4, .ref b5, .ref b6, .int b7, .ref b8, .int b9, .int b10, .int b11, .int b12, .ref b13, .ref b14, .ref b15, .int b16, .ref b17, .ref b18, .ref b19, .ref b20, .ref b21, .ref b22, .ref b23, .ref b24, .ref b25, .ref b26, .ref b27, .ref b28, .int b29, .ref b30, .ref b31, .int b32, .int b33, .int b34, .int b35, .ref b36, .ref b37, .ref b38, .ref b39, .ref b40, .ref b41, .ref b42, .int b43, .ref b44, .ref b45, .int b46, .ref b47, .ref b48, .ref b49, .ref b50, .ref b51, .int b52, .ref b53, .ref b54, .ref b55])), (b3, .inl (G.2 0, 503, .inl b56))] H := hP
      have hD := z_tie hP hD rfl
      refine lv_iconst (v := 0) hx hb d_Model_layPrefixes_41 (by decide) ?_
      refine lv_istore (lv' := [(5, .int 0), (4, .int 0), (3, .int y_138), (0, .ref b0), (1, .int 0), (2, .int b1)]) hx hb d_Model_layPrefixes_42 hl (by decide) rfl (fun ls hl => ?_)
      suffices key : ∀ (k_214 : Nat) (y_215 : Int32) (y_216 : Int32) (y_217 : Nat → Int32) (y_218 : Nat → Int32) (y_219 : Nat → Int32) (y_220 : Nat → Int32) (H : Heap) (locs : List Loc) (ls : Array Slot), (zI y_215 0 12) → (zI y_216 0 240) → (zR y_217 0 241) → (zR y_218 (-1) 240) → (zqa qP y_219) → (zqa qC y_220) → ((y_217 (0 : Int32).toNatClampNeg).toInt ≤ 12 * (y_138 : Int32).toInt + 1 + (y_215 : Int32).toInt ∧ 1 ≤ (y_217 (0 : Int32).toNatClampNeg).toInt) → ((y_216 : Int32).toInt < (y_217 (0 : Int32).toNatClampNeg).toInt) → (zLm y_218 0 (10 * (y_217 (0 : Int32).toNatClampNeg).toInt) (y_217 (0 : Int32).toNatClampNeg).toInt) → (zTm ((y_138 : Int32).toInt) (b1 : Int32).toInt (y_217 (0 : Int32).toNatClampNeg).toInt 0 b56 y_219) → (∀ i : Nat, (i : Int) ≤ (y_215 : Int32).toInt → (y_219 (0 + 13 * (y_138 : Int32).toInt.toNat + i)).toInt < (y_217 (0 : Int32).toNatClampNeg).toInt) → (∀ t : Nat, (t : Int) ≤ (y_138 : Int32).toInt → (y_219 (13 * t)).toInt = 0) → (12 : Int) - y_215.toInt < (k_214 : Int) → va_P G.1 classes [(b19, .inl (G.2 0, 520, .inl y_219)), (b17, .inl (G.2 0, 2, .inl y_217)), (b18, .inl (G.2 0, 4820, .inl y_218)), (b21, .inl (G.2 0, 482, .inl y_220)), (b0, .inr (12, [.int b2, .ref b3, .ref b4, .ref b5, .ref b6, .int b7, .ref b8, .int b9, .int b10, .int b11, .int b12, .ref b13, .ref b14, .ref b15, .int b16, .ref b17, .ref b18, .ref b19, .ref b20, .ref b21, .ref b22, .ref b23, .ref b24, .ref b25, .ref b26, .ref b27, .ref b28, .int b29, .ref b30, .ref b31, .int b32, .int b33, .int b34, .int b35, .ref b36, .ref b37, .ref b38, .ref b39, .ref b40, .ref b41, .ref b42, .int b43, .ref b44, .ref b45, .int b46, .ref b47, .ref b48, .ref b49, .ref b50, .ref b51, .int b52, .ref b53, .ref b54, .ref b55])), (b3, .inl (G.2 0, 503, .inl b56))] H → va_D A [(b19, .inl (G.2 0, 520, .inl y_219)), (b17, .inl (G.2 0, 2, .inl y_217)), (b18, .inl (G.2 0, 4820, .inl y_218)), (b21, .inl (G.2 0, 482, .inl y_220)), (b0, .inr (12, [.int b2, .ref b3, .ref b4, .ref b5, .ref b6, .int b7, .ref b8, .int b9, .int b10, .int b11, .int b12, .ref b13, .ref b14, .ref b15, .int b16, .ref b17, .ref b18, .ref b19, .ref b20, .ref b21, .ref b22, .ref b23, .ref b24, .ref b25, .ref b26, .ref b27, .ref b28, .int b29, .ref b30, .ref b31, .int b32, .int b33, .int b34, .int b35, .ref b36, .ref b37, .ref b38, .ref b39, .ref b40, .ref b41, .ref b42, .int b43, .ref b44, .ref b45, .int b46, .ref b47, .ref b48, .ref b49, .ref b50, .ref b51, .int b52, .ref b53, .ref b54, .ref b55])), (b3, .inl (G.2 0, 503, .inl b56))] → va_S A s.heap H locs → lv_has ls 7 [(5, .int y_215), (4, .int y_216), (3, .int y_138), (0, .ref b0), (1, .int 0), (2, .int b1)] → W p l e m_s1_Model_layPrefixes s m ([.ref b0, .int 0, .int b1] : List Value).toArray below meth c H locs 0 0 (MQ below (zQ G (fun v w => ∃ (e0 : Nat → Int32), ∃ (e1 : Nat → Int32), ∃ (e2 : Nat → Int32), ∃ (e3 : Nat → Int32), v = none ∧ w = [(b0, .inr (12, [.int b2, .ref b3, .ref b4, .ref b5, .ref b6, .int b7, .ref b8, .int b9, .int b10, .int b11, .int b12, .ref b13, .ref b14, .ref b15, .int b16, .ref b17, .ref b18, .ref b19, .ref b20, .ref b21, .ref b22, .ref b23, .ref b24, .ref b25, .ref b26, .ref b27, .ref b28, .int b29, .ref b30, .ref b31, .int b32, .int b33, .int b34, .int b35, .ref b36, .ref b37, .ref b38, .ref b39, .ref b40, .ref b41, .ref b42, .int b43, .ref b44, .ref b45, .int b46, .ref b47, .ref b48, .ref b49, .ref b50, .ref b51, .int b52, .ref b53, .ref b54, .ref b55])), (b3, .inl (G.2 0, 503, .inl b56)), (b17, .inl (G.2 0, 2, .inl e0)), (b18, .inl (G.2 0, 4820, .inl e1)), (b19, .inl (G.2 0, 520, .inl e2)), (b21, .inl (G.2 0, 482, .inl e3))] ∧ (zR e0 0 241) ∧ (zR e1 (-1) 240) ∧ (zqa qP e2) ∧ (zqa qC e3) ∧ (zTm ((b56 (0 : Int32).toNatClampNeg).toInt) (b1 : Int32).toInt (e0 (0 : Int32).toNatClampNeg).toInt 0 b56 e2) ∧ (1 ≤ (e0 (0 : Int32).toNatClampNeg).toInt) ∧ (∀ t : Nat, (t : Int) < (b56 (0 : Int32).toNatClampNeg).toInt → (e2 (13 * t)).toInt = 0)) A) ([.ref b0, .int 0, .int b1] : List Value).toArray s m_s1_Model_layPrefixes.cells m_s1_Model_layPrefixes.slots A) (F0 m 44 ls []) by
        exact key 13 (0) (0) (y_139) (y_140) (f_157) (y_142) _ _ _ (zI.wk (l' := 0) (h' := 12) zc_0 (by decide)) (zI.wk (l' := 0) (h' := 240) zc_0 (by decide)) hy_139 hy_140 hf_157 hy_142 (by have _l0 := li_0; omega) (by have _l0 := li_0; omega) hli_144 (by have _l0 := li_0; have _l1 := li_1; have p9 := z_pl hv_156 (by decide); intro t i h1 h2 h3; rw [uf_157, z_at]; split; omega; have := hli_145 t i h1 h2 h3; omega) (by have _l0 := li_0; have _l1 := li_1; have p9 := z_pl hv_156 (by decide); intro i hi; rw [uf_157, z_at]; split; omega; omega) (by have _l0 := li_0; have p9 := z_pl hv_156 (by decide); intro t ht; rw [uf_157, z_at]; split; exact li_0; exact hli_146 t (by omega)) (zm_upi (zI.wk (l' := 0) (h' := 12) zc_0 (by decide)) (by decide)) hP hD hS (lv_sub hl [0, 1, 2, 3, 4, 5] rfl)
      intro k_214
      induction k_214 with
      | zero =>
        intro y_215 y_216 y_217 y_218 y_219 y_220 H locs ls hy_215 hy_216 hy_217 hy_218 hy_219 hy_220 hli_221 hli_222 hli_223 hli_224 hli_225 hli_226 hmk_214 hP hD hS hl
        exact (zm_up0 hy_215 hmk_214).elim
      | succ k_214 ihk_214 =>
        intro y_215 y_216 y_217 y_218 y_219 y_220 H locs ls hy_215 hy_216 hy_217 hy_218 hy_219 hy_220 hli_221 hli_222 hli_223 hli_224 hli_225 hli_226 hmk_214 hP hD hS hl
        refine lv_iload hx hb d_Model_layPrefixes_44 (lv_at hl 0 rfl) ?_
        refine lv_aload_n hx hb d_Model_layPrefixes_46 rfl (lv_at hl 3 rfl) ?_
        refine lv_iload_n hx hb d_Model_layPrefixes_47 rfl (lv_at hl 2 rfl) ?_
        refine z_callV (index := 203) (As := [.int y_138]) (rest := [.int y_215]) (wr := [(b19, .inl (G.2 0, 520, .inl y_219)), (b17, .inl (G.2 0, 2, .inl y_217)), (b18, .inl (G.2 0, 4820, .inl y_218)), (b21, .inl (G.2 0, 482, .inl y_220))]) Z (s1_Model_calls l G (b0) (y_138) (b2) (b3) (b4) (b5) (b6) (b7) (b8) (b9) (b10) (b11) (b12) (b13) (b14) (b15) (b16) (b17) (b18) (b19) (b20) (b21) (b22) (b23) (b24) (b25) (b26) (b27) (b28) (b29) (b30) (b31) (b32) (b33) (b34) (b35) (b36) (b37) (b38) (b39) (b40) (b41) (b42) (b43) (b44) (b45) (b46) (b47) (b48) (b49) (b50) (b51) (b52) (b53) (b54) (b55) (b56) hv_153 hb7 hb9 hb10 hb12 hb16 hb29 hb32 hb43 hb46 hb52 hb56) hl.1 q1352 q1354 qs54 q14 q1355 ⟨by decide, by decide, by show _ = some 1; decide +kernel⟩ ⟨Nat.le_of_ble_eq_true rfl, Nat.le_of_ble_eq_true rfl⟩ ⟨Nat.le_of_ble_eq_true rfl, Nat.le_of_ble_eq_true rfl⟩ rfl (Nat.le_of_ble_eq_true rfl) d_Model_layPrefixes_48 hP hD hS hA 4 12 rfl rfl rfl [4, 5] [0, 1, 2, 3] rfl rfl rfl rfl (by decide) (fun v w1 H locs hw_227 hP hD hS => ?_)
        obtain ⟨x_228, rfl, rfl, hx_228, hfx_229⟩ := hw_227
        have hP : va_P G.1 classes [(b19, .inl (G.2 0, 520, .inl y_219)), (b17, .inl (G.2 0, 2, .inl y_217)), (b18, .inl (G.2 0, 4820, .inl y_218)), (b21, .inl (G.2 0, 482, .inl y_220)), (b0, .inr (12, [.int b2, .ref b3, .ref b4, .ref b5, .ref b6, .int b7, .ref b8, .int b9, .int b10, .int b11, .int b12, .ref b13, .ref b14, .ref b15, .int b16, .ref b17, .ref b18, .ref b19, .ref b20, .ref b21, .ref b22, .ref b23, .ref b24, .ref b25, .ref b26, .ref b27, .ref b28, .int b29, .ref b30, .ref b31, .int b32, .int b33, .int b34, .int b35, .ref b36, .ref b37, .ref b38, .ref b39, .ref b40, .ref b41, .ref b42, .int b43, .ref b44, .ref b45, .int b46, .ref b47, .ref b48, .ref b49, .ref b50, .ref b51, .int b52, .ref b53, .ref b54, .ref b55])), (b3, .inl (G.2 0, 503, .inl b56))] H := hP
        have hD := z_tie hP hD rfl
        refine W.widen (k := 0) (n := 0) (Nat.le_of_ble_eq_true rfl) (Nat.le_of_ble_eq_true rfl) ?_
        refine lv_icmp_ge (tgt := 146) hx hb d_Model_layPrefixes_51 (by decide) (fun hc_230 => ?_) (fun hc_230 => ?_)
        · have _nhc_230 := hc_230
          have ni_231 := (fa_le _ _).mp hc_230
          obtain ⟨v_232, ev_232⟩ : ∃ z : Int32, z = y_138 + 1 := ⟨_, rfl⟩
          obtain ⟨qv_232, hv_232⟩ := zI_add (l := 1) (h := 20) hv_153 zc_1 ev_232 (by decide)
          rw [li_1] at qv_232
          refine lv_iinc (v := v_232) (lv' := [(3, .int v_232), (5, .int y_215), (4, .int y_216), (0, .ref b0), (1, .int 0), (2, .int b1)]) hx hb d_Model_layPrefixes_146 hl (k := 2) rfl (by rw [ev_232]; rfl) (by decide) rfl (fun ls hl => ?_)
          refine lv_goto (tgt := 14) hx hb d_Model_layPrefixes_149 (by decide) ?_
          exact ihk_137 (v_232) (y_217) (y_218) (y_219) (y_220) _ _ _ (zI.wk (l' := 0) (h' := 20) hv_232 (by decide)) hy_217 hy_218 hy_219 hy_220 (by have := hli_221; omega) hli_223 (by intro t i h1 h2 h3; rcases Decidable.em ((t : Int) < y_138.toInt) with h4 | h4; exact hli_224 t i h4 h2 h3; obtain rfl : t = y_138.toInt.toNat := (by omega); first | (exfalso; omega) | (rw [← hfx_229] at h3; exact hli_225 i (by omega))) (by intro t ht; exact hli_226 t (by omega)) (zm_up qv_232 hmk_137 (by decide)) (hP.sub [5, 0, 4, 1, 2, 3] rfl) (hD.sub [5, 0, 4, 1, 2, 3] (by decide) rfl) hS (lv_sub hl [0, 3, 4, 5] rfl)
        · have _nhc_230 := hc_230
          have ni_233 := (fa_lt _ _).mp (zi_nle hc_230)
          have hv_234 : zI y_215 0 11 := zI.lt_l hy_215 hx_228 (zi_nle hc_230) (by decide)
          have hv_235 : zI x_228 1 12 := zI.lt_r hy_215 hx_228 (zi_nle hc_230) (by decide)
          refine lv_iload_n hx hb d_Model_layPrefixes_54 rfl (lv_at hl 2 rfl) ?_
          refine lv_iload_n hx hb d_Model_layPrefixes_55 rfl (lv_at hl 5 rfl) ?_
          refine lv_icmp_eq (tgt := 146) hx hb d_Model_layPrefixes_56 (by decide) (fun hc_236 => ?_) (fun hc_236 => ?_)
          · have _nhc_236 := hc_236
            have ni_237 := (fa_eq _ _).mp hc_236
            have hv_238 : zI b1 0 19 := zI.eq_l hb1 hv_153 hc_236.symm
            obtain ⟨v_239, ev_239⟩ : ∃ z : Int32, z = y_138 + 1 := ⟨_, rfl⟩
            obtain ⟨qv_239, hv_239⟩ := zI_add (l := 1) (h := 20) hv_153 zc_1 ev_239 (by decide)
            rw [li_1] at qv_239
            refine lv_iinc (v := v_239) (lv' := [(3, .int v_239), (5, .int y_215), (4, .int y_216), (0, .ref b0), (1, .int 0), (2, .int b1)]) hx hb d_Model_layPrefixes_146 hl (k := 2) rfl (by rw [ev_239]; rfl) (by decide) rfl (fun ls hl => ?_)
            refine lv_goto (tgt := 14) hx hb d_Model_layPrefixes_149 (by decide) ?_
            exact ihk_137 (v_239) (y_217) (y_218) (y_219) (y_220) _ _ _ (zI.wk (l' := 0) (h' := 20) hv_239 (by decide)) hy_217 hy_218 hy_219 hy_220 (by have := hli_221; omega) hli_223 (by intro t i h1 h2 h3; rcases Decidable.em ((t : Int) < y_138.toInt) with h4 | h4; exact hli_224 t i h4 h2 h3; obtain rfl : t = y_138.toInt.toNat := (by omega); first | (exfalso; omega) | (rw [← hfx_229] at h3; exact hli_225 i (by omega))) (by intro t ht; exact hli_226 t (by omega)) (zm_up qv_239 hmk_137 (by decide)) (hP.sub [5, 0, 4, 1, 2, 3] rfl) (hD.sub [5, 0, 4, 1, 2, 3] (by decide) rfl) hS (lv_sub hl [0, 3, 4, 5] rfl)
          · have _nhc_236 := hc_236
            have ni_240 : ¬ (y_138 : Int32).toInt = (b1 : Int32).toInt := fun z => hc_236 ((fa_eq _ _).mpr z)
            refine lv_bipush (v := 10) hx hb d_Model_layPrefixes_59 (by decide) ?_
            refine lv_sipush (v := 241) hx hb d_Model_layPrefixes_61 (by decide) ?_
            refine lv_iload_n hx hb d_Model_layPrefixes_64 rfl (lv_at hl 4 rfl) ?_
            refine lv_imul hx hb d_Model_layPrefixes_65 ?_
            refine z_topi (y := 0) (by decide +kernel) ?_
            refine lv_iload hx hb d_Model_layPrefixes_66 (lv_at hl 1 rfl) ?_
            refine lv_iadd hx hb d_Model_layPrefixes_68 ?_
            refine lv_topi (fun v_241 ev_241 => ?_)
            obtain ⟨qv_241, hv_241⟩ := zI_add (l := 0) (h := 240) zc_0 hy_216 ev_241 (by decide)
            rw [li_0] at qv_241
            refine lv_imul hx hb d_Model_layPrefixes_69 ?_
            refine lv_topi (fun v_242 ev_242 => ?_)
            obtain ⟨qv_242, hv_242⟩ := zI_mul (l := 0) (h := 2400) zc_10 hv_241 ev_242 (by decide)
            rw [li_10] at qv_242
            refine lv_aload_n hx hb d_Model_layPrefixes_70 rfl (lv_at hl 3 rfl) ?_
            refine lv_iload_n hx hb d_Model_layPrefixes_71 rfl (lv_at hl 2 rfl) ?_
            refine lv_iload hx hb d_Model_layPrefixes_72 (lv_at hl 0 rfl) ?_
            refine z_callV (index := 207) (As := [.int y_138, .int y_215]) (rest := [.int v_242]) (wr := [(b19, .inl (G.2 0, 520, .inl y_219)), (b17, .inl (G.2 0, 2, .inl y_217)), (b18, .inl (G.2 0, 4820, .inl y_218)), (b21, .inl (G.2 0, 482, .inl y_220))]) Z (s1_Model_letterAt l G (b0) (y_138) (y_215) (b2) (b3) (b4) (b5) (b6) (b7) (b8) (b9) (b10) (b11) (b12) (b13) (b14) (b15) (b16) (b17) (b18) (b19) (b20) (b21) (b22) (b23) (b24) (b25) (b26) (b27) (b28) (b29) (b30) (b31) (b32) (b33) (b34) (b35) (b36) (b37) (b38) (b39) (b40) (b41) (b42) (b43) (b44) (b45) (b46) (b47) (b48) (b49) (b50) (b51) (b52) (b53) (b54) (b55) (b56) hv_153 hv_234 hb7 hb9 hb10 hb12 hb16 hb29 hb32 hb43 hb46 hb52 hb56) hl.1 q1372 q1374 qs59 q14 q1375 ⟨by decide, by decide, by show _ = some 2; decide +kernel⟩ ⟨Nat.le_of_ble_eq_true rfl, Nat.le_of_ble_eq_true rfl⟩ ⟨Nat.le_of_ble_eq_true rfl, Nat.le_of_ble_eq_true rfl⟩ rfl (Nat.le_of_ble_eq_true rfl) d_Model_layPrefixes_74 hP hD hS hA 4 12 rfl rfl rfl [4, 5] [0, 1, 2, 3] rfl rfl rfl rfl (by decide) (fun v w1 H locs hw_243 hP hD hS => ?_)
            obtain ⟨x_244, rfl, rfl, hx_244⟩ := hw_243
            have hP : va_P G.1 classes [(b19, .inl (G.2 0, 520, .inl y_219)), (b17, .inl (G.2 0, 2, .inl y_217)), (b18, .inl (G.2 0, 4820, .inl y_218)), (b21, .inl (G.2 0, 482, .inl y_220)), (b0, .inr (12, [.int b2, .ref b3, .ref b4, .ref b5, .ref b6, .int b7, .ref b8, .int b9, .int b10, .int b11, .int b12, .ref b13, .ref b14, .ref b15, .int b16, .ref b17, .ref b18, .ref b19, .ref b20, .ref b21, .ref b22, .ref b23, .ref b24, .ref b25, .ref b26, .ref b27, .ref b28, .int b29, .ref b30, .ref b31, .int b32, .int b33, .int b34, .int b35, .ref b36, .ref b37, .ref b38, .ref b39, .ref b40, .ref b41, .ref b42, .int b43, .ref b44, .ref b45, .int b46, .ref b47, .ref b48, .ref b49, .ref b50, .ref b51, .int b52, .ref b53, .ref b54, .ref b55])), (b3, .inl (G.2 0, 503, .inl b56))] H := hP
            have hD := z_tie hP hD rfl
            refine W.widen (k := 0) (n := 0) (Nat.le_of_ble_eq_true rfl) (Nat.le_of_ble_eq_true rfl) ?_
            refine lv_iadd hx hb d_Model_layPrefixes_77 ?_
            refine lv_topi (fun v_245 ev_245 => ?_)
            obtain ⟨qv_245, hv_245⟩ := zI_add (l := 0) (h := 2409) hv_242 hx_244 ev_245 (by decide)
            refine lv_istore (lv' := [(6, .int v_245), (5, .int y_215), (4, .int y_216), (3, .int y_138), (0, .ref b0), (1, .int 0), (2, .int b1)]) hx hb d_Model_layPrefixes_78 hl (by decide) rfl (fun ls hl => ?_)
            refine lv_aload_n hx hb d_Model_layPrefixes_80 rfl (lv_at hl 4 rfl) ?_
            refine va_get (D := G.1) (ci := 12) (v := .ref b18) (C := R_Model) (T := F_Model) (N := 54) hx hb hts i_Model hown hK hP 4 rfl rfl 16 (by decide) (hts _ q1125) (fun _ h9 => h9) rfl d_Model_layPrefixes_81 ?_
            refine lv_iload hx hb d_Model_layPrefixes_84 (lv_at hl 0 rfl) ?_
            refine va_iald hx hb hK hP 2 0 rfl rfl (zI.inn hv_245 (by decide)) d_Model_layPrefixes_86 ?_
            refine lv_topi (fun v_246 ev_246 => ?_)
            have hv_246 : zI v_246 (-1) 240 := (hy_218 _).eq ev_246
            refine lv_iconst (v := (-1)) hx hb d_Model_layPrefixes_87 (by decide) ?_
            refine lv_icmp_ne (tgt := 109) hx hb d_Model_layPrefixes_88 (by decide) (fun hc_247 => ?_) (fun hc_247 => ?_)
            · have _nhc_247 := hc_247
              have ni_248 : ¬ (v_246 : Int32).toInt = ((-1) : Int32).toInt := fun z => hc_247 ((fa_eq _ _).mpr z)
              simp only [li_m1] at ni_248
              have hv_249 : zI v_246 0 240 := zI.ne_lo hv_246 zc_m1 hc_247 (by decide)
              refine lv_aload_n hx hb d_Model_layPrefixes_109 rfl (lv_at hl 4 rfl) ?_
              refine va_get (D := G.1) (ci := 12) (v := .ref b18) (C := R_Model) (T := F_Model) (N := 54) hx hb hts i_Model hown hK hP 4 rfl rfl 16 (by decide) (hts _ q1125) (fun _ h9 => h9) rfl d_Model_layPrefixes_110 ?_
              refine lv_iload hx hb d_Model_layPrefixes_113 (lv_at hl 0 rfl) ?_
              refine va_iald hx hb hK hP 2 0 rfl rfl (zI.inn hv_245 (by decide)) d_Model_layPrefixes_115 ?_
              refine lv_topi (fun v_250 ev_250 => ?_)
              obtain rfl : v_246 = v_250 := ev_246.trans ev_250.symm
              have hp4v_246 : v_246.toInt < (y_217 (0 : Int32).toNatClampNeg).toInt := by have p9 := z_pl hv_245 (by decide); rw [ev_246]; exact hli_223 _ (by omega) (by omega)
              refine lv_istore (lv' := [(4, .int v_246), (6, .int v_245), (5, .int y_215), (3, .int y_138), (0, .ref b0), (1, .int 0), (2, .int b1)]) hx hb d_Model_layPrefixes_116 hl (by decide) rfl (fun ls hl => ?_)
              refine lv_aload_n hx hb d_Model_layPrefixes_118 rfl (lv_at hl 4 rfl) ?_
              refine va_get (D := G.1) (ci := 12) (v := .ref b19) (C := R_Model) (T := F_Model) (N := 54) hx hb hts i_Model hown hK hP 4 rfl rfl 17 (by decide) (hts _ q1126) (fun _ h9 => h9) rfl d_Model_layPrefixes_119 ?_
              refine lv_sipush (v := 260) hx hb d_Model_layPrefixes_122 (by decide) ?_
              refine lv_iload_n hx hb d_Model_layPrefixes_125 rfl (lv_at hl 5 rfl) ?_
              refine lv_imul hx hb d_Model_layPrefixes_126 ?_
              refine z_topi (y := 0) (by decide +kernel) ?_
              refine lv_bipush (v := 13) hx hb d_Model_layPrefixes_127 (by decide) ?_
              refine lv_iload_n hx hb d_Model_layPrefixes_129 rfl (lv_at hl 3 rfl) ?_
              refine lv_imul hx hb d_Model_layPrefixes_130 ?_
              refine lv_topi (fun v_251 ev_251 => ?_)
              obtain rfl : v_155 = v_251 := ev_155.trans ev_251.symm
              refine lv_iadd hx hb d_Model_layPrefixes_131 ?_
              refine lv_topi (fun v_252 ev_252 => ?_)
              obtain rfl : v_156 = v_252 := ev_156.trans ev_252.symm
              refine lv_iload hx hb d_Model_layPrefixes_132 (lv_at hl 2 rfl) ?_
              refine lv_iadd hx hb d_Model_layPrefixes_134 ?_
              refine lv_topi (fun v_253 ev_253 => ?_)
              obtain ⟨qv_253, hv_253⟩ := zI_add (l := 0) (h := 258) hv_156 hv_234 ev_253 (by decide)
              refine lv_iconst (v := 1) hx hb d_Model_layPrefixes_135 (by decide) ?_
              refine lv_iadd hx hb d_Model_layPrefixes_136 ?_
              refine lv_topi (fun v_254 ev_254 => ?_)
              obtain ⟨qv_254, hv_254⟩ := zI_add (l := 1) (h := 259) hv_253 zc_1 ev_254 (by decide)
              rw [li_1] at qv_254
              refine lv_iload hx hb d_Model_layPrefixes_137 (lv_at hl 0 rfl) ?_
              refine va_iast hx hb hK hP hD hS 0 0 rfl rfl (zI.inn hv_254 (by decide)) d_Model_layPrefixes_139 (fun H locs hP hD hS => ?_)
              obtain ⟨f_255, hf_255, gf_255, uf_255, hP, hD⟩ := z_newq_ (Q := qP) 0 hP hD rfl hy_219 (qP_v hv_254 (by decide) ⟨⟨by have _w := hv_249; have _x := hv_254; omega, by have _w := hv_249; have _x := hv_254; omega⟩, by have _w := hv_249; have _x := hv_254; omega⟩)
              have hP : va_P G.1 classes [(b19, .inl (G.2 0, 520, .inl f_255)), (b17, .inl (G.2 0, 2, .inl y_217)), (b18, .inl (G.2 0, 4820, .inl y_218)), (b21, .inl (G.2 0, 482, .inl y_220)), (b0, .inr (12, [.int b2, .ref b3, .ref b4, .ref b5, .ref b6, .int b7, .ref b8, .int b9, .int b10, .int b11, .int b12, .ref b13, .ref b14, .ref b15, .int b16, .ref b17, .ref b18, .ref b19, .ref b20, .ref b21, .ref b22, .ref b23, .ref b24, .ref b25, .ref b26, .ref b27, .ref b28, .int b29, .ref b30, .ref b31, .int b32, .int b33, .int b34, .int b35, .ref b36, .ref b37, .ref b38, .ref b39, .ref b40, .ref b41, .ref b42, .int b43, .ref b44, .ref b45, .int b46, .ref b47, .ref b48, .ref b49, .ref b50, .ref b51, .int b52, .ref b53, .ref b54, .ref b55])), (b3, .inl (G.2 0, 503, .inl b56))] H := hP
              have hD := z_tie hP hD rfl
              obtain ⟨v_256, ev_256⟩ : ∃ z : Int32, z = y_215 + 1 := ⟨_, rfl⟩
              obtain ⟨qv_256, hv_256⟩ := zI_add (l := 1) (h := 12) hv_234 zc_1 ev_256 (by decide)
              rw [li_1] at qv_256
              refine lv_iinc (v := v_256) (lv' := [(5, .int v_256), (4, .int v_246), (6, .int v_245), (3, .int y_138), (0, .ref b0), (1, .int 0), (2, .int b1)]) hx hb d_Model_layPrefixes_140 hl (k := 2) rfl (by rw [ev_256]; rfl) (by decide) rfl (fun ls hl => ?_)
              refine lv_goto (tgt := 44) hx hb d_Model_layPrefixes_143 (by decide) ?_
              exact ihk_214 (v_256) (v_246) (y_217) (y_218) (f_255) (y_220) _ _ _ (zI.wk (l' := 0) (h' := 12) hv_256 (by decide)) hv_249 hy_217 hy_218 hf_255 hy_220 (by omega) (by omega) hli_223 (by have _l0 := li_0; have _l1 := li_1; have p9 := z_pl hv_254 (by decide); intro t i h1 h2 h3; rw [uf_255, z_at]; split; omega; have := hli_224 t i h1 h2 h3; omega) (by have _l0 := li_0; have _l1 := li_1; have p9 := z_pl hv_254 (by decide); intro i hi; rw [uf_255, z_at]; split; omega; have := hli_225 i (by omega); omega) (by have _l0 := li_0; have _l1 := li_1; have p9 := z_pl hv_254 (by decide); intro t ht; rw [uf_255, z_at, if_neg (by omega)]; exact hli_226 t ht) (zm_up qv_256 hmk_214 (by decide)) hP hD hS (lv_sub hl [0, 1, 3, 4, 5, 6] rfl)
            · have _nhc_247 := hc_247
              have ni_257 := (fa_eq _ _).mp hc_247
              rw [li_m1] at ni_257
              have hv_258 : zI v_246 (-1) (-1) := zI.eq_l hv_246 zc_m1 hc_247
              refine lv_aload_n hx hb d_Model_layPrefixes_91 rfl (lv_at hl 4 rfl) ?_
              refine va_get (D := G.1) (ci := 12) (v := .ref b18) (C := R_Model) (T := F_Model) (N := 54) hx hb hts i_Model hown hK hP 4 rfl rfl 16 (by decide) (hts _ q1125) (fun _ h9 => h9) rfl d_Model_layPrefixes_92 ?_
              refine lv_iload hx hb d_Model_layPrefixes_95 (lv_at hl 0 rfl) ?_
              refine lv_aload_n hx hb d_Model_layPrefixes_97 rfl (lv_at hl 4 rfl) ?_
              refine va_get (D := G.1) (ci := 12) (v := .ref b17) (C := R_Model) (T := F_Model) (N := 54) hx hb hts i_Model hown hK hP 4 rfl rfl 15 (by decide) (hts _ q1124) (fun _ h9 => h9) rfl d_Model_layPrefixes_98 ?_
              refine lv_iload_n hx hb d_Model_layPrefixes_101 rfl (lv_at hl 5 rfl) ?_
              refine va_iald hx hb hK hP 1 0 rfl rfl (i := 0) (z_in rfl) d_Model_layPrefixes_102 ?_
              refine lv_topi (fun v_259 ev_259 => ?_)
              have hv_259 : zI v_259 0 241 := (hy_217 _).eq ev_259
              have hv_260 : zI v_259 0 240 := ⟨hv_259.1, by rw [ev_259]; omega⟩
              refine va_iast hx hb hK hP hD hS 2 0 rfl rfl (zI.inn hv_245 (by decide)) d_Model_layPrefixes_103 (fun H locs hP hD hS => ?_)
              obtain ⟨f_261, hf_261, gf_261, uf_261, hP, hD⟩ := z_newfu 2 hP hD rfl hy_218 (zI.wk (l' := (-1)) (h' := 240) hv_260 (by decide))
              have hP : va_P G.1 classes [(b19, .inl (G.2 0, 520, .inl y_219)), (b17, .inl (G.2 0, 2, .inl y_217)), (b18, .inl (G.2 0, 4820, .inl f_261)), (b21, .inl (G.2 0, 482, .inl y_220)), (b0, .inr (12, [.int b2, .ref b3, .ref b4, .ref b5, .ref b6, .int b7, .ref b8, .int b9, .int b10, .int b11, .int b12, .ref b13, .ref b14, .ref b15, .int b16, .ref b17, .ref b18, .ref b19, .ref b20, .ref b21, .ref b22, .ref b23, .ref b24, .ref b25, .ref b26, .ref b27, .ref b28, .int b29, .ref b30, .ref b31, .int b32, .int b33, .int b34, .int b35, .ref b36, .ref b37, .ref b38, .ref b39, .ref b40, .ref b41, .ref b42, .int b43, .ref b44, .ref b45, .int b46, .ref b47, .ref b48, .ref b49, .ref b50, .ref b51, .int b52, .ref b53, .ref b54, .ref b55])), (b3, .inl (G.2 0, 503, .inl b56))] H := hP
              have hD := z_tie hP hD rfl
              refine lv_aload_n hx hb d_Model_layPrefixes_104 rfl (lv_at hl 4 rfl) ?_
              refine lv_iload_n hx hb d_Model_layPrefixes_105 rfl (lv_at hl 5 rfl) ?_
              refine z_callV (index := 199) (As := [.int 0]) (rest := []) (wr := [(b19, .inl (G.2 0, 520, .inl y_219)), (b3, .inl (G.2 0, 503, .inl b56))]) Z (s1_Model_newPrefix l G (b0) (b2) (b3) (b4) (b5) (b6) (b7) (b8) (b9) (b10) (b11) (b12) (b13) (b14) (b15) (b16) (b17) (b18) (b19) (b20) (b21) (b22) (b23) (b24) (b25) (b26) (b27) (b28) (b29) (b30) (b31) (b32) (b33) (b34) (b35) (b36) (b37) (b38) (b39) (b40) (b41) (b42) (b43) (b44) (b45) (b46) (b47) (b48) (b49) (b50) (b51) (b52) (b53) (b54) (b55) (y_217) (f_261) (y_220) hb7 hb9 hb10 hb12 hb16 hb29 hb32 hb43 hb46 hb52 hy_217 hf_261 hy_220 (by omega) (by intro q h1 h2; rw [uf_261, z_at]; split; (rw [ev_259]; omega); have := hli_223 q h1 h2; omega)) hl.1 q1368 q1370 qs58 q14 q1371 ⟨by decide, by decide, by show _ = some 1; decide +kernel⟩ ⟨Nat.le_of_ble_eq_true rfl, Nat.le_of_ble_eq_true rfl⟩ ⟨Nat.le_of_ble_eq_true rfl, Nat.le_of_ble_eq_true rfl⟩ rfl (Nat.le_of_ble_eq_true rfl) d_Model_layPrefixes_106 hP hD hS hA 4 12 rfl rfl rfl [4, 1, 2, 3] [0, 5] rfl rfl rfl rfl (by decide) (fun v w1 H locs hw_262 hP hD hS => ?_)
              obtain ⟨f_263, f_264, f_265, rfl, rfl, hf_263, hf_264, hf_265, hfx_266, hfx_267, hfx_268⟩ := hw_262
              have hP : va_P G.1 classes [(b19, .inl (G.2 0, 520, .inl y_219)), (b3, .inl (G.2 0, 503, .inl b56)), (b0, .inr (12, [.int b2, .ref b3, .ref b4, .ref b5, .ref b6, .int b7, .ref b8, .int b9, .int b10, .int b11, .int b12, .ref b13, .ref b14, .ref b15, .int b16, .ref b17, .ref b18, .ref b19, .ref b20, .ref b21, .ref b22, .ref b23, .ref b24, .ref b25, .ref b26, .ref b27, .ref b28, .int b29, .ref b30, .ref b31, .int b32, .int b33, .int b34, .int b35, .ref b36, .ref b37, .ref b38, .ref b39, .ref b40, .ref b41, .ref b42, .int b43, .ref b44, .ref b45, .int b46, .ref b47, .ref b48, .ref b49, .ref b50, .ref b51, .int b52, .ref b53, .ref b54, .ref b55])), (b17, .inl (G.2 0, 2, .inl f_263)), (b18, .inl (G.2 0, 4820, .inl f_264)), (b21, .inl (G.2 0, 482, .inl f_265))] H := hP
              have hD := z_tie hP hD rfl
              refine W.widen (k := 0) (n := 0) (Nat.le_of_ble_eq_true rfl) (Nat.le_of_ble_eq_true rfl) ?_
              refine lv_aload_n hx hb d_Model_layPrefixes_109 rfl (lv_at hl 4 rfl) ?_
              refine va_get (D := G.1) (ci := 12) (v := .ref b18) (C := R_Model) (T := F_Model) (N := 54) hx hb hts i_Model hown hK hP 2 rfl rfl 16 (by decide) (hts _ q1125) (fun _ h9 => h9) rfl d_Model_layPrefixes_110 ?_
              refine lv_iload hx hb d_Model_layPrefixes_113 (lv_at hl 0 rfl) ?_
              refine va_iald hx hb hK hP 4 0 rfl rfl (zI.inn hv_245 (by decide)) d_Model_layPrefixes_115 ?_
              refine lv_topi (fun v_269 ev_269 => ?_)
              have hv_269 : zI v_269 (-1) 240 := (hf_264 _).eq ev_269
              have hwv_269 : v_269 = v_259 := ev_269.trans ((hfx_268 _ (by have p9 := z_pl hv_245 (by decide); rw [← ev_259]; have := hli_222; rw [← ev_259] at this; omega)).trans gf_261)
              have hv_270 : zI v_269 0 240 := zI.eq hv_260 hwv_269
              have hp4v_269 : v_269.toInt < (f_263 (0 : Int32).toNatClampNeg).toInt := by rw [hwv_269, ev_259]; omega
              refine lv_istore (lv' := [(4, .int v_269), (6, .int v_245), (5, .int y_215), (3, .int y_138), (0, .ref b0), (1, .int 0), (2, .int b1)]) hx hb d_Model_layPrefixes_116 hl (by decide) rfl (fun ls hl => ?_)
              refine lv_aload_n hx hb d_Model_layPrefixes_118 rfl (lv_at hl 4 rfl) ?_
              refine va_get (D := G.1) (ci := 12) (v := .ref b19) (C := R_Model) (T := F_Model) (N := 54) hx hb hts i_Model hown hK hP 2 rfl rfl 17 (by decide) (hts _ q1126) (fun _ h9 => h9) rfl d_Model_layPrefixes_119 ?_
              refine lv_sipush (v := 260) hx hb d_Model_layPrefixes_122 (by decide) ?_
              refine lv_iload_n hx hb d_Model_layPrefixes_125 rfl (lv_at hl 5 rfl) ?_
              refine lv_imul hx hb d_Model_layPrefixes_126 ?_
              refine z_topi (y := 0) (by decide +kernel) ?_
              refine lv_bipush (v := 13) hx hb d_Model_layPrefixes_127 (by decide) ?_
              refine lv_iload_n hx hb d_Model_layPrefixes_129 rfl (lv_at hl 3 rfl) ?_
              refine lv_imul hx hb d_Model_layPrefixes_130 ?_
              refine lv_topi (fun v_271 ev_271 => ?_)
              obtain rfl : v_155 = v_271 := ev_155.trans ev_271.symm
              refine lv_iadd hx hb d_Model_layPrefixes_131 ?_
              refine lv_topi (fun v_272 ev_272 => ?_)
              obtain rfl : v_156 = v_272 := ev_156.trans ev_272.symm
              refine lv_iload hx hb d_Model_layPrefixes_132 (lv_at hl 2 rfl) ?_
              refine lv_iadd hx hb d_Model_layPrefixes_134 ?_
              refine lv_topi (fun v_273 ev_273 => ?_)
              obtain ⟨qv_273, hv_273⟩ := zI_add (l := 0) (h := 258) hv_156 hv_234 ev_273 (by decide)
              refine lv_iconst (v := 1) hx hb d_Model_layPrefixes_135 (by decide) ?_
              refine lv_iadd hx hb d_Model_layPrefixes_136 ?_
              refine lv_topi (fun v_274 ev_274 => ?_)
              obtain ⟨qv_274, hv_274⟩ := zI_add (l := 1) (h := 259) hv_273 zc_1 ev_274 (by decide)
              rw [li_1] at qv_274
              refine lv_iload hx hb d_Model_layPrefixes_137 (lv_at hl 0 rfl) ?_
              refine va_iast hx hb hK hP hD hS 0 0 rfl rfl (zI.inn hv_274 (by decide)) d_Model_layPrefixes_139 (fun H locs hP hD hS => ?_)
              obtain ⟨f_275, hf_275, gf_275, uf_275, hP, hD⟩ := z_newq_ (Q := qP) 0 hP hD rfl hy_219 (qP_v hv_274 (by decide) ⟨⟨by have _w := hv_270; have _x := hv_274; omega, by have _w := hv_270; have _x := hv_274; omega⟩, by have _w := hv_270; have _x := hv_274; omega⟩)
              have hP : va_P G.1 classes [(b19, .inl (G.2 0, 520, .inl f_275)), (b3, .inl (G.2 0, 503, .inl b56)), (b0, .inr (12, [.int b2, .ref b3, .ref b4, .ref b5, .ref b6, .int b7, .ref b8, .int b9, .int b10, .int b11, .int b12, .ref b13, .ref b14, .ref b15, .int b16, .ref b17, .ref b18, .ref b19, .ref b20, .ref b21, .ref b22, .ref b23, .ref b24, .ref b25, .ref b26, .ref b27, .ref b28, .int b29, .ref b30, .ref b31, .int b32, .int b33, .int b34, .int b35, .ref b36, .ref b37, .ref b38, .ref b39, .ref b40, .ref b41, .ref b42, .int b43, .ref b44, .ref b45, .int b46, .ref b47, .ref b48, .ref b49, .ref b50, .ref b51, .int b52, .ref b53, .ref b54, .ref b55])), (b17, .inl (G.2 0, 2, .inl f_263)), (b18, .inl (G.2 0, 4820, .inl f_264)), (b21, .inl (G.2 0, 482, .inl f_265))] H := hP
              have hD := z_tie hP hD rfl
              obtain ⟨v_276, ev_276⟩ : ∃ z : Int32, z = y_215 + 1 := ⟨_, rfl⟩
              obtain ⟨qv_276, hv_276⟩ := zI_add (l := 1) (h := 12) hv_234 zc_1 ev_276 (by decide)
              rw [li_1] at qv_276
              refine lv_iinc (v := v_276) (lv' := [(5, .int v_276), (4, .int v_269), (6, .int v_245), (3, .int y_138), (0, .ref b0), (1, .int 0), (2, .int b1)]) hx hb d_Model_layPrefixes_140 hl (k := 2) rfl (by rw [ev_276]; rfl) (by decide) rfl (fun ls hl => ?_)
              refine lv_goto (tgt := 44) hx hb d_Model_layPrefixes_143 (by decide) ?_
              exact ihk_214 (v_276) (v_269) (f_263) (f_264) (f_275) (f_265) _ _ _ (zI.wk (l' := 0) (h' := 12) hv_276 (by decide)) hv_270 hf_263 hf_264 hf_275 hf_265 (by omega) (by omega) hfx_267 (by have _l0 := li_0; have _l1 := li_1; have p9 := z_pl hv_274 (by decide); intro t i h1 h2 h3; rw [uf_275, z_at]; split; omega; have := hli_224 t i h1 h2 h3; omega) (by have _l0 := li_0; have _l1 := li_1; have p9 := z_pl hv_274 (by decide); intro i hi; rw [uf_275, z_at]; split; omega; have := hli_225 i (by omega); omega) (by have _l0 := li_0; have _l1 := li_1; have p9 := z_pl hv_274 (by decide); intro t ht; rw [uf_275, z_at, if_neg (by omega)]; exact hli_226 t ht) (zm_up qv_276 hmk_214 (by decide)) (hP.sub [0, 3, 4, 5, 2, 1] rfl) (hD.sub [0, 3, 4, 5, 2, 1] (by decide) rfl) hS (lv_sub hl [0, 1, 3, 4, 5, 6] rfl)
theorem zc_260 : zI 260 260 260 := ⟨by decide +kernel, by decide +kernel⟩
theorem li_260 : (260 : Int32).toInt = 260 := by decide +kernel
abbrev m_s2_Model_pathOf : Room := { frames := 0, cells := 0, slots := 0, locals := 0 }
set_option maxHeartbeats 4000000 in
set_option maxRecDepth 100000 in
theorem s2_Model_pathOf (l : Launch) (G : zG) (b0 : Nat) (b1 : Int32) (b2 : Int32) (b3 : Int32) (b4 : Nat) (b5 : Nat) (b6 : Nat) (b7 : Nat) (b8 : Int32) (b9 : Nat) (b10 : Int32) (b11 : Int32) (b12 : Int32) (b13 : Int32) (b14 : Nat) (b15 : Nat) (b16 : Nat) (b17 : Int32) (b18 : Nat) (b19 : Nat) (b20 : Nat) (b21 : Nat) (b22 : Nat) (b23 : Nat) (b24 : Nat) (b25 : Nat) (b26 : Nat) (b27 : Nat) (b28 : Nat) (b29 : Nat) (b30 : Int32) (b31 : Nat) (b32 : Nat) (b33 : Int32) (b34 : Int32) (b35 : Int32) (b36 : Int32) (b37 : Nat) (b38 : Nat) (b39 : Nat) (b40 : Nat) (b41 : Nat) (b42 : Nat) (b43 : Nat) (b44 : Int32) (b45 : Nat) (b46 : Nat) (b47 : Int32) (b48 : Nat) (b49 : Nat) (b50 : Nat) (b51 : Nat) (b52 : Nat) (b53 : Int32) (b54 : Nat) (b55 : Nat) (b56 : Nat) (b57 : Nat → Int32) (hb1 : zI b1 0 19) (hb2 : zI b2 0 12) (hb8 : zI b8 0 8) (hb10 : zI b10 0 240) (hb11 : zI b11 0 240) (hb13 : zI b13 0 1) (hb17 : zI b17 0 12) (hb30 : zI b30 0 1) (hb33 : zI b33 0 1) (hb44 : zI b44 0 1000) (hb47 : zI b47 0 1000) (hb53 : zI b53 0 400) (hb57 : zqa qP b57) : zM l G y_Model_pathOf prog_14_method_24_code 4 (Option.some Jvm.ClassFile.FieldType.int) m_s2_Model_pathOf [.ref b0, .int 1, .int b1, .int b2] [(b0, .inr (12, [.int b3, .ref b4, .ref b5, .ref b6, .ref b7, .int b8, .ref b9, .int b10, .int b11, .int b12, .int b13, .ref b14, .ref b15, .ref b16, .int b17, .ref b18, .ref b19, .ref b20, .ref b21, .ref b22, .ref b23, .ref b24, .ref b25, .ref b26, .ref b27, .ref b28, .ref b29, .int b30, .ref b31, .ref b32, .int b33, .int b34, .int b35, .int b36, .ref b37, .ref b38, .ref b39, .ref b40, .ref b41, .ref b42, .ref b43, .int b44, .ref b45, .ref b46, .int b47, .ref b48, .ref b49, .ref b50, .ref b51, .ref b52, .int b53, .ref b54, .ref b55, .ref b56])), (b20, .inl (G.2 0, 520, .inl b57))] (fun v w => ∃ (e0 : Int32), v = some (.int e0) ∧ w = [(b0, .inr (12, [.int b3, .ref b4, .ref b5, .ref b6, .ref b7, .int b8, .ref b9, .int b10, .int b11, .int b12, .int b13, .ref b14, .ref b15, .ref b16, .int b17, .ref b18, .ref b19, .ref b20, .ref b21, .ref b22, .ref b23, .ref b24, .ref b25, .ref b26, .ref b27, .ref b28, .ref b29, .int b30, .ref b31, .ref b32, .int b33, .int b34, .int b35, .int b36, .ref b37, .ref b38, .ref b39, .ref b40, .ref b41, .ref b42, .ref b43, .int b44, .ref b45, .ref b46, .int b47, .ref b48, .ref b49, .ref b50, .ref b51, .ref b52, .int b53, .ref b54, .ref b55, .ref b56])), (b20, .inl (G.2 0, 520, .inl b57))] ∧ (zI e0 0 240) ∧ (e0 = b57 (260 + 13 * b1.toInt.toNat + b2.toInt.toNat)) ∧ (e0.toInt ≤ 13 * b1.toInt + b2.toInt)) := by
  refine z_start (by decide +kernel) (Nat.le_of_ble_eq_true rfl) ?_
  intro p e s m below meth c A Z hr hnm hA hP hD hS ls hl
  have Z : zC p s m _ meth c prog_14_method_24_code 4 "TraceMachinesModel" G := Z
  obtain ⟨hx, hb, hml, hown, hts, hK, hN, hlocks⟩ := id Z
  have hl : lv_has ls 4 [(0, .ref b0), (1, .int 1), (2, .int b1), (3, .int b2)] := hl
  refine lv_aload_n hx hb d_Model_pathOf_0 rfl (lv_at hl 0 rfl) ?_
  refine va_get (D := G.1) (ci := 12) (v := .ref b20) (C := R_Model) (T := F_Model) (N := 54) hx hb hts i_Model hown hK hP 0 rfl rfl 17 (by decide) (hts _ q1126) (fun _ h9 => h9) rfl d_Model_pathOf_1 ?_
  refine lv_sipush (v := 260) hx hb d_Model_pathOf_4 (by decide) ?_
  refine lv_iload_n hx hb d_Model_pathOf_7 rfl (lv_at hl 1 rfl) ?_
  refine lv_imul hx hb d_Model_pathOf_8 ?_
  refine z_topi (y := 260) (by decide +kernel) ?_
  refine lv_bipush (v := 13) hx hb d_Model_pathOf_9 (by decide) ?_
  refine lv_iload_n hx hb d_Model_pathOf_11 rfl (lv_at hl 2 rfl) ?_
  refine lv_imul hx hb d_Model_pathOf_12 ?_
  refine lv_topi (fun v_1 ev_1 => ?_)
  obtain ⟨qv_1, hv_1⟩ := zI_mul (l := 0) (h := 247) zc_13 hb1 ev_1 (by decide)
  rw [li_13] at qv_1
  refine lv_iadd hx hb d_Model_pathOf_13 ?_
  refine lv_topi (fun v_2 ev_2 => ?_)
  obtain ⟨qv_2, hv_2⟩ := zI_add (l := 260) (h := 507) zc_260 hv_1 ev_2 (by decide)
  rw [li_260] at qv_2
  refine lv_iload_n hx hb d_Model_pathOf_14 rfl (lv_at hl 3 rfl) ?_
  refine lv_iadd hx hb d_Model_pathOf_15 ?_
  refine lv_topi (fun v_3 ev_3 => ?_)
  obtain ⟨qv_3, hv_3⟩ := zI_add (l := 260) (h := 519) hv_2 hb2 ev_3 (by decide)
  refine va_iald hx hb hK hP 1 0 rfl rfl (zI.inn hv_3 (by decide)) d_Model_pathOf_16 ?_
  refine lv_topi (fun v_4 ev_4 => ?_)
  obtain ⟨hv_4, kv_4⟩ := zQP.ld hb57 hv_3 ev_4 (by decide)
  exact z_iret hx hb hr hlocks hP hD hS (Nat.le_of_ble_eq_true rfl) (Nat.le_of_ble_eq_true rfl) d_Model_pathOf_17 ⟨v_4, rfl, rfl, hv_4, (by rw [ev_4, z_plf hv_3 (by decide)]; congr 1; omega), (by omega)⟩
theorem zc_241 : zI 241 241 241 := ⟨by decide +kernel, by decide +kernel⟩
theorem li_241 : (241 : Int32).toInt = 241 := by decide +kernel
abbrev m_s2_Model_stateAt : Room := { frames := 1, cells := 0, slots := 0, locals := 23 }
set_option maxHeartbeats 4000000 in
set_option maxRecDepth 100000 in
theorem s2_Model_stateAt (l : Launch) (G : zG) (b0 : Nat) (b1 : Int32) (b2 : Int32) (b3 : Int32) (b4 : Nat) (b5 : Nat) (b6 : Nat) (b7 : Nat) (b8 : Int32) (b9 : Nat) (b10 : Int32) (b11 : Int32) (b12 : Int32) (b13 : Int32) (b14 : Nat) (b15 : Nat) (b16 : Nat) (b17 : Int32) (b18 : Nat) (b19 : Nat) (b20 : Nat) (b21 : Nat) (b22 : Nat) (b23 : Nat) (b24 : Nat) (b25 : Nat) (b26 : Nat) (b27 : Nat) (b28 : Nat) (b29 : Nat) (b30 : Int32) (b31 : Nat) (b32 : Nat) (b33 : Int32) (b34 : Int32) (b35 : Int32) (b36 : Int32) (b37 : Nat) (b38 : Nat) (b39 : Nat) (b40 : Nat) (b41 : Nat) (b42 : Nat) (b43 : Nat) (b44 : Int32) (b45 : Nat) (b46 : Nat) (b47 : Int32) (b48 : Nat) (b49 : Nat) (b50 : Nat) (b51 : Nat) (b52 : Nat) (b53 : Int32) (b54 : Nat) (b55 : Nat) (b56 : Nat) (b57 : Nat → Int32) (b58 : Nat → Int32) (hb1 : zI b1 0 19) (hb2 : zI b2 0 12) (hb8 : zI b8 0 8) (hb10 : zI b10 0 240) (hb11 : zI b11 0 240) (hb13 : zI b13 0 1) (hb17 : zI b17 0 12) (hb30 : zI b30 0 1) (hb33 : zI b33 0 1) (hb44 : zI b44 0 1000) (hb47 : zI b47 0 1000) (hb53 : zI b53 0 400) (hb57 : zqa qP b57) (hb58 : zR b58 0 240) : zM l G y_Model_stateAt prog_14_method_32_code 4 (Option.some Jvm.ClassFile.FieldType.int) m_s2_Model_stateAt [.ref b0, .int 1, .int b1, .int b2] [(b0, .inr (12, [.int b3, .ref b4, .ref b5, .ref b6, .ref b7, .int b8, .ref b9, .int b10, .int b11, .int b12, .int b13, .ref b14, .ref b15, .ref b16, .int b17, .ref b18, .ref b19, .ref b20, .ref b21, .ref b22, .ref b23, .ref b24, .ref b25, .ref b26, .ref b27, .ref b28, .ref b29, .int b30, .ref b31, .ref b32, .int b33, .int b34, .int b35, .int b36, .ref b37, .ref b38, .ref b39, .ref b40, .ref b41, .ref b42, .ref b43, .int b44, .ref b45, .ref b46, .int b47, .ref b48, .ref b49, .ref b50, .ref b51, .ref b52, .int b53, .ref b54, .ref b55, .ref b56])), (b20, .inl (G.2 0, 520, .inl b57)), (b23, .inl (G.2 0, 482, .inl b58))] (fun v w => ∃ (e0 : Int32), v = some (.int e0) ∧ w = [(b0, .inr (12, [.int b3, .ref b4, .ref b5, .ref b6, .ref b7, .int b8, .ref b9, .int b10, .int b11, .int b12, .int b13, .ref b14, .ref b15, .ref b16, .int b17, .ref b18, .ref b19, .ref b20, .ref b21, .ref b22, .ref b23, .ref b24, .ref b25, .ref b26, .ref b27, .ref b28, .ref b29, .int b30, .ref b31, .ref b32, .int b33, .int b34, .int b35, .int b36, .ref b37, .ref b38, .ref b39, .ref b40, .ref b41, .ref b42, .ref b43, .int b44, .ref b45, .ref b46, .int b47, .ref b48, .ref b49, .ref b50, .ref b51, .ref b52, .int b53, .ref b54, .ref b55, .ref b56])), (b20, .inl (G.2 0, 520, .inl b57)), (b23, .inl (G.2 0, 482, .inl b58))] ∧ (zI e0 0 240)) := by
  refine z_start (by decide +kernel) (Nat.le_of_ble_eq_true rfl) ?_
  intro p e s m below meth c A Z hr hnm hA hP hD hS ls hl
  have Z : zC p s m _ meth c prog_14_method_32_code 4 "TraceMachinesModel" G := Z
  obtain ⟨hx, hb, hml, hown, hts, hK, hN, hlocks⟩ := id Z
  have hl : lv_has ls 4 [(0, .ref b0), (1, .int 1), (2, .int b1), (3, .int b2)] := hl
  refine lv_aload_n hx hb d_Model_stateAt_0 rfl (lv_at hl 0 rfl) ?_
  refine va_get (D := G.1) (ci := 12) (v := .ref b23) (C := R_Model) (T := F_Model) (N := 54) hx hb hts i_Model hown hK hP 0 rfl rfl 20 (by decide) (hts _ q1129) (fun _ h9 => h9) rfl d_Model_stateAt_1 ?_
  refine lv_sipush (v := 241) hx hb d_Model_stateAt_4 (by decide) ?_
  refine lv_iload_n hx hb d_Model_stateAt_7 rfl (lv_at hl 1 rfl) ?_
  refine lv_imul hx hb d_Model_stateAt_8 ?_
  refine z_topi (y := 241) (by decide +kernel) ?_
  refine lv_aload_n hx hb d_Model_stateAt_9 rfl (lv_at hl 0 rfl) ?_
  refine lv_iload_n hx hb d_Model_stateAt_10 rfl (lv_at hl 1 rfl) ?_
  refine lv_iload_n hx hb d_Model_stateAt_11 rfl (lv_at hl 2 rfl) ?_
  refine lv_iload_n hx hb d_Model_stateAt_12 rfl (lv_at hl 3 rfl) ?_
  refine z_callV (index := 211) (As := [.int 1, .int b1, .int b2]) (rest := [.int 241, .ref b23]) (wr := [(b23, .inl (G.2 0, 482, .inl b58))]) Z (s2_Model_pathOf l G (b0) (b1) (b2) (b3) (b4) (b5) (b6) (b7) (b8) (b9) (b10) (b11) (b12) (b13) (b14) (b15) (b16) (b17) (b18) (b19) (b20) (b21) (b22) (b23) (b24) (b25) (b26) (b27) (b28) (b29) (b30) (b31) (b32) (b33) (b34) (b35) (b36) (b37) (b38) (b39) (b40) (b41) (b42) (b43) (b44) (b45) (b46) (b47) (b48) (b49) (b50) (b51) (b52) (b53) (b54) (b55) (b56) (b57) hb1 hb2 hb8 hb10 hb11 hb13 hb17 hb30 hb33 hb44 hb47 hb53 hb57) hl.1 q1380 q1382 qs61 q14 q1383 ⟨by decide, by decide, by show _ = some 3; decide +kernel⟩ ⟨Nat.le_of_ble_eq_true rfl, Nat.le_of_ble_eq_true rfl⟩ ⟨Nat.le_of_ble_eq_true rfl, Nat.le_of_ble_eq_true rfl⟩ rfl (Nat.le_of_ble_eq_true rfl) d_Model_stateAt_13 hP hD hS hA 0 12 rfl rfl rfl [0, 1] [2] rfl rfl rfl rfl (by decide) (fun v w1 H locs hw_1 hP hD hS => ?_)
  obtain ⟨x_2, rfl, rfl, hx_2, hfx_3, hfx_4⟩ := hw_1
  have hP : va_P G.1 classes [(b23, .inl (G.2 0, 482, .inl b58)), (b0, .inr (12, [.int b3, .ref b4, .ref b5, .ref b6, .ref b7, .int b8, .ref b9, .int b10, .int b11, .int b12, .int b13, .ref b14, .ref b15, .ref b16, .int b17, .ref b18, .ref b19, .ref b20, .ref b21, .ref b22, .ref b23, .ref b24, .ref b25, .ref b26, .ref b27, .ref b28, .ref b29, .int b30, .ref b31, .ref b32, .int b33, .int b34, .int b35, .int b36, .ref b37, .ref b38, .ref b39, .ref b40, .ref b41, .ref b42, .ref b43, .int b44, .ref b45, .ref b46, .int b47, .ref b48, .ref b49, .ref b50, .ref b51, .ref b52, .int b53, .ref b54, .ref b55, .ref b56])), (b20, .inl (G.2 0, 520, .inl b57))] H := hP
  have hD := z_tie hP hD rfl
  refine W.widen (k := 0) (n := 0) (Nat.le_of_ble_eq_true rfl) (Nat.le_of_ble_eq_true rfl) ?_
  refine lv_iadd hx hb d_Model_stateAt_16 ?_
  refine lv_topi (fun v_5 ev_5 => ?_)
  obtain ⟨qv_5, hv_5⟩ := zI_add (l := 241) (h := 481) zc_241 hx_2 ev_5 (by decide)
  rw [li_241] at qv_5
  refine va_iald hx hb hK hP 0 0 rfl rfl (zI.inn hv_5 (by decide)) d_Model_stateAt_17 ?_
  refine lv_topi (fun v_6 ev_6 => ?_)
  have hv_6 : zI v_6 0 240 := (hb58 _).eq ev_6
  exact z_iret hx hb hr hlocks (hP.sub [1, 2, 0] rfl) (hD.sub [1, 2, 0] (by decide) rfl) hS (Nat.le_of_ble_eq_true rfl) (Nat.le_of_ble_eq_true rfl) d_Model_stateAt_18 ⟨v_6, rfl, rfl, hv_6⟩
abbrev m_s2_Model_newPrefix : Room := { frames := 0, cells := 0, slots := 0, locals := 0 }
set_option maxHeartbeats 4000000 in
set_option maxRecDepth 100000 in
theorem s2_Model_newPrefix (l : Launch) (G : zG) (b0 : Nat) (b1 : Int32) (b2 : Nat) (b3 : Nat) (b4 : Nat) (b5 : Nat) (b6 : Int32) (b7 : Nat) (b8 : Int32) (b9 : Int32) (b10 : Int32) (b11 : Int32) (b12 : Nat) (b13 : Nat) (b14 : Nat) (b15 : Int32) (b16 : Nat) (b17 : Nat) (b18 : Nat) (b19 : Nat) (b20 : Nat) (b21 : Nat) (b22 : Nat) (b23 : Nat) (b24 : Nat) (b25 : Nat) (b26 : Nat) (b27 : Nat) (b28 : Int32) (b29 : Nat) (b30 : Nat) (b31 : Int32) (b32 : Int32) (b33 : Int32) (b34 : Int32) (b35 : Nat) (b36 : Nat) (b37 : Nat) (b38 : Nat) (b39 : Nat) (b40 : Nat) (b41 : Nat) (b42 : Int32) (b43 : Nat) (b44 : Nat) (b45 : Int32) (b46 : Nat) (b47 : Nat) (b48 : Nat) (b49 : Nat) (b50 : Nat) (b51 : Int32) (b52 : Nat) (b53 : Nat) (b54 : Nat) (b55 : Nat → Int32) (b56 : Nat → Int32) (b57 : Nat → Int32) (hb6 : zI b6 0 8) (hb8 : zI b8 0 240) (hb9 : zI b9 0 240) (hb11 : zI b11 0 1) (hb15 : zI b15 0 12) (hb28 : zI b28 0 1) (hb31 : zI b31 0 1) (hb42 : zI b42 0 1000) (hb45 : zI b45 0 1000) (hb51 : zI b51 0 400) (hb55 : zR b55 0 241) (hb56 : zR b56 (-1) 240) (hb57 : zqa qC b57) (hnp : (b55 (1 : Int32).toNatClampNeg).toInt ≤ 240) (hlm : zLm b56 2410 (10 * (b55 (1 : Int32).toNatClampNeg).toInt) ((b55 (1 : Int32).toNatClampNeg).toInt + 1)) : zM l G y_Model_newPrefix prog_14_method_26_code 4 (Option.none : Option Jvm.ClassFile.FieldType) m_s2_Model_newPrefix [.ref b0, .int 1] [(b0, .inr (12, [.int b1, .ref b2, .ref b3, .ref b4, .ref b5, .int b6, .ref b7, .int b8, .int b9, .int b10, .int b11, .ref b12, .ref b13, .ref b14, .int b15, .ref b16, .ref b17, .ref b18, .ref b19, .ref b20, .ref b21, .ref b22, .ref b23, .ref b24, .ref b25, .ref b26, .ref b27, .int b28, .ref b29, .ref b30, .int b31, .int b32, .int b33, .int b34, .ref b35, .ref b36, .ref b37, .ref b38, .ref b39, .ref b40, .ref b41, .int b42, .ref b43, .ref b44, .int b45, .ref b46, .ref b47, .ref b48, .ref b49, .ref b50, .int b51, .ref b52, .ref b53, .ref b54])), (b16, .inl (G.2 0, 2, .inl b55)), (b17, .inl (G.2 0, 4820, .inl b56)), (b20, .inl (G.2 0, 482, .inl b57))] (fun v w => ∃ (e0 : Nat → Int32), ∃ (e1 : Nat → Int32), ∃ (e2 : Nat → Int32), v = none ∧ w = [(b0, .inr (12, [.int b1, .ref b2, .ref b3, .ref b4, .ref b5, .int b6, .ref b7, .int b8, .int b9, .int b10, .int b11, .ref b12, .ref b13, .ref b14, .int b15, .ref b16, .ref b17, .ref b18, .ref b19, .ref b20, .ref b21, .ref b22, .ref b23, .ref b24, .ref b25, .ref b26, .ref b27, .int b28, .ref b29, .ref b30, .int b31, .int b32, .int b33, .int b34, .ref b35, .ref b36, .ref b37, .ref b38, .ref b39, .ref b40, .ref b41, .int b42, .ref b43, .ref b44, .int b45, .ref b46, .ref b47, .ref b48, .ref b49, .ref b50, .int b51, .ref b52, .ref b53, .ref b54])), (b16, .inl (G.2 0, 2, .inl e0)), (b17, .inl (G.2 0, 4820, .inl e1)), (b20, .inl (G.2 0, 482, .inl e2))] ∧ (zR e0 0 241) ∧ (zR e1 (-1) 240) ∧ (zqa qC e2) ∧ ((e0 (1 : Int32).toNatClampNeg).toInt = (b55 (1 : Int32).toNatClampNeg).toInt + 1) ∧ (zLm e1 2410 (10 * (e0 (1 : Int32).toNatClampNeg).toInt) (e0 (1 : Int32).toNatClampNeg).toInt) ∧ (∀ q : Nat, (q : Int) < 2410 + 10 * (b55 (1 : Int32).toNatClampNeg).toInt → e1 q = b56 q)) := by
  refine z_start (by decide +kernel) (Nat.le_of_ble_eq_true rfl) ?_
  intro p e s m below meth c A Z hr hnm hA hP hD hS ls hl
  have Z : zC p s m _ meth c prog_14_method_26_code 4 "TraceMachinesModel" G := Z
  obtain ⟨hx, hb, hml, hown, hts, hK, hN, hlocks⟩ := id Z
  have hl : lv_has ls 4 [(0, .ref b0), (1, .int 1)] := hl
  refine lv_sipush (v := 241) hx hb d_Model_newPrefix_0 (by decide) ?_
  refine lv_iload_n hx hb d_Model_newPrefix_3 rfl (lv_at hl 1 rfl) ?_
  refine lv_imul hx hb d_Model_newPrefix_4 ?_
  refine z_topi (y := 241) (by decide +kernel) ?_
  refine lv_aload_n hx hb d_Model_newPrefix_5 rfl (lv_at hl 0 rfl) ?_
  refine va_get (D := G.1) (ci := 12) (v := .ref b16) (C := R_Model) (T := F_Model) (N := 54) hx hb hts i_Model hown hK hP 0 rfl rfl 15 (by decide) (hts _ q1124) (fun _ h9 => h9) rfl d_Model_newPrefix_6 ?_
  refine lv_iload_n hx hb d_Model_newPrefix_9 rfl (lv_at hl 1 rfl) ?_
  refine va_iald hx hb hK hP 1 0 rfl rfl (i := 1) (z_in rfl) d_Model_newPrefix_10 ?_
  refine lv_topi (fun v_1 ev_1 => ?_)
  have hv_1 : zI v_1 0 241 := (hb55 _).eq ev_1
  have hv_2 : zI v_1 0 240 := ⟨hv_1.1, by rw [← ev_1] at hnp; exact hnp⟩
  have hlvv_1 : zLm b56 2410 (10 * v_1.toInt) (v_1.toInt + 1) := by rw [ev_1]; exact hlm
  refine lv_iadd hx hb d_Model_newPrefix_11 ?_
  refine lv_topi (fun v_3 ev_3 => ?_)
  obtain ⟨qv_3, hv_3⟩ := zI_add (l := 241) (h := 481) zc_241 hv_2 ev_3 (by decide)
  rw [li_241] at qv_3
  refine lv_istore_n (lv' := [(2, .int v_3), (0, .ref b0), (1, .int 1)]) hx hb d_Model_newPrefix_12 rfl hl (by decide) rfl (fun ls hl => ?_)
  refine lv_iconst (v := 0) hx hb d_Model_newPrefix_13 (by decide) ?_
  refine lv_istore_n (lv' := [(3, .int 0), (2, .int v_3), (0, .ref b0), (1, .int 1)]) hx hb d_Model_newPrefix_14 rfl hl (by decide) rfl (fun ls hl => ?_)
  suffices key : ∀ (k_19 : Nat) (y_20 : Int32) (y_21 : Nat → Int32) (H : Heap) (locs : List Loc) (ls : Array Slot), (zI y_20 0 10) → (zR y_21 (-1) 240) → (∀ q : Nat, (q : Int) < 10 * (v_3 : Int32).toInt → y_21 q = b56 q) → (zLm y_21 2410 (10 * (v_3 : Int32).toInt - 2410 + (y_20 : Int32).toInt) ((v_3 : Int32).toInt - 241 + 1)) → (10 : Int) - y_20.toInt < (k_19 : Int) → va_P G.1 classes [(b0, .inr (12, [.int b1, .ref b2, .ref b3, .ref b4, .ref b5, .int b6, .ref b7, .int b8, .int b9, .int b10, .int b11, .ref b12, .ref b13, .ref b14, .int b15, .ref b16, .ref b17, .ref b18, .ref b19, .ref b20, .ref b21, .ref b22, .ref b23, .ref b24, .ref b25, .ref b26, .ref b27, .int b28, .ref b29, .ref b30, .int b31, .int b32, .int b33, .int b34, .ref b35, .ref b36, .ref b37, .ref b38, .ref b39, .ref b40, .ref b41, .int b42, .ref b43, .ref b44, .int b45, .ref b46, .ref b47, .ref b48, .ref b49, .ref b50, .int b51, .ref b52, .ref b53, .ref b54])), (b16, .inl (G.2 0, 2, .inl b55)), (b17, .inl (G.2 0, 4820, .inl y_21)), (b20, .inl (G.2 0, 482, .inl b57))] H → va_D A [(b0, .inr (12, [.int b1, .ref b2, .ref b3, .ref b4, .ref b5, .int b6, .ref b7, .int b8, .int b9, .int b10, .int b11, .ref b12, .ref b13, .ref b14, .int b15, .ref b16, .ref b17, .ref b18, .ref b19, .ref b20, .ref b21, .ref b22, .ref b23, .ref b24, .ref b25, .ref b26, .ref b27, .int b28, .ref b29, .ref b30, .int b31, .int b32, .int b33, .int b34, .ref b35, .ref b36, .ref b37, .ref b38, .ref b39, .ref b40, .ref b41, .int b42, .ref b43, .ref b44, .int b45, .ref b46, .ref b47, .ref b48, .ref b49, .ref b50, .int b51, .ref b52, .ref b53, .ref b54])), (b16, .inl (G.2 0, 2, .inl b55)), (b17, .inl (G.2 0, 4820, .inl y_21)), (b20, .inl (G.2 0, 482, .inl b57))] → va_S A s.heap H locs → lv_has ls 4 [(3, .int y_20), (2, .int v_3), (0, .ref b0), (1, .int 1)] → W p l e m_s2_Model_newPrefix s m ([.ref b0, .int 1] : List Value).toArray below meth c H locs 0 0 (MQ below (zQ G (fun v w => ∃ (e0 : Nat → Int32), ∃ (e1 : Nat → Int32), ∃ (e2 : Nat → Int32), v = none ∧ w = [(b0, .inr (12, [.int b1, .ref b2, .ref b3, .ref b4, .ref b5, .int b6, .ref b7, .int b8, .int b9, .int b10, .int b11, .ref b12, .ref b13, .ref b14, .int b15, .ref b16, .ref b17, .ref b18, .ref b19, .ref b20, .ref b21, .ref b22, .ref b23, .ref b24, .ref b25, .ref b26, .ref b27, .int b28, .ref b29, .ref b30, .int b31, .int b32, .int b33, .int b34, .ref b35, .ref b36, .ref b37, .ref b38, .ref b39, .ref b40, .ref b41, .int b42, .ref b43, .ref b44, .int b45, .ref b46, .ref b47, .ref b48, .ref b49, .ref b50, .int b51, .ref b52, .ref b53, .ref b54])), (b16, .inl (G.2 0, 2, .inl e0)), (b17, .inl (G.2 0, 4820, .inl e1)), (b20, .inl (G.2 0, 482, .inl e2))] ∧ (zR e0 0 241) ∧ (zR e1 (-1) 240) ∧ (zqa qC e2) ∧ ((e0 (1 : Int32).toNatClampNeg).toInt = (b55 (1 : Int32).toNatClampNeg).toInt + 1) ∧ (zLm e1 2410 (10 * (e0 (1 : Int32).toNatClampNeg).toInt) (e0 (1 : Int32).toNatClampNeg).toInt) ∧ (∀ q : Nat, (q : Int) < 2410 + 10 * (b55 (1 : Int32).toNatClampNeg).toInt → e1 q = b56 q)) A) ([.ref b0, .int 1] : List Value).toArray s m_s2_Model_newPrefix.cells m_s2_Model_newPrefix.slots A) (F0 m 15 ls []) by
    exact key 11 (0) (b56) _ _ _ (zI.wk (l' := 0) (h' := 10) zc_0 (by decide)) hb56 (fun _ _ => rfl) (by have _l0 := li_0; intro q h1 h2; have := hlvv_1 q h1 (by omega); omega) (zm_upi (zI.wk (l' := 0) (h' := 10) zc_0 (by decide)) (by decide)) hP hD hS (lv_sub hl [0, 1, 2, 3] rfl)
  intro k_19
  induction k_19 with
  | zero =>
    intro y_20 y_21 H locs ls hy_20 hy_21 hli_22 hli_23 hmk_19 hP hD hS hl
    exact (zm_up0 hy_20 hmk_19).elim
  | succ k_19 ihk_19 =>
    intro y_20 y_21 H locs ls hy_20 hy_21 hli_22 hli_23 hmk_19 hP hD hS hl
    refine lv_iload_n hx hb d_Model_newPrefix_15 rfl (lv_at hl 0 rfl) ?_
    refine lv_bipush (v := 10) hx hb d_Model_newPrefix_16 (by decide) ?_
    refine lv_icmp_ge (tgt := 39) hx hb d_Model_newPrefix_18 (by decide) (fun hc_24 => ?_) (fun hc_24 => ?_)
    · have _nhc_24 := hc_24
      have ni_25 := (fa_le _ _).mp hc_24
      rw [li_10] at ni_25
      have hv_26 : zI y_20 10 10 := zI.le_r zc_10 hy_20 hc_24 (by decide)
      refine lv_aload_n hx hb d_Model_newPrefix_39 rfl (lv_at hl 2 rfl) ?_
      refine va_get (D := G.1) (ci := 12) (v := .ref b20) (C := R_Model) (T := F_Model) (N := 54) hx hb hts i_Model hown hK hP 0 rfl rfl 19 (by decide) (hts _ q1128) (fun _ h9 => h9) rfl d_Model_newPrefix_40 ?_
      refine lv_iload_n hx hb d_Model_newPrefix_43 rfl (lv_at hl 1 rfl) ?_
      refine lv_iconst (v := 0) hx hb d_Model_newPrefix_44 (by decide) ?_
      refine va_iast hx hb hK hP hD hS 3 0 rfl rfl (zI.inn hv_3 (by decide)) d_Model_newPrefix_45 (fun H locs hP hD hS => ?_)
      obtain ⟨f_27, hf_27, gf_27, uf_27, hP, hD⟩ := z_newq_ (Q := qC) 3 hP hD rfl hb57 (qC_v hv_3 (by decide) ⟨⟨by have _w := li_0; have _x := hv_3; omega, by have _w := li_0; have _x := hv_3; omega⟩, by have _w := li_0; have _x := hv_3; omega⟩)
      have hP : va_P G.1 classes [(b0, .inr (12, [.int b1, .ref b2, .ref b3, .ref b4, .ref b5, .int b6, .ref b7, .int b8, .int b9, .int b10, .int b11, .ref b12, .ref b13, .ref b14, .int b15, .ref b16, .ref b17, .ref b18, .ref b19, .ref b20, .ref b21, .ref b22, .ref b23, .ref b24, .ref b25, .ref b26, .ref b27, .int b28, .ref b29, .ref b30, .int b31, .int b32, .int b33, .int b34, .ref b35, .ref b36, .ref b37, .ref b38, .ref b39, .ref b40, .ref b41, .int b42, .ref b43, .ref b44, .int b45, .ref b46, .ref b47, .ref b48, .ref b49, .ref b50, .int b51, .ref b52, .ref b53, .ref b54])), (b16, .inl (G.2 0, 2, .inl b55)), (b17, .inl (G.2 0, 4820, .inl y_21)), (b20, .inl (G.2 0, 482, .inl f_27))] H := hP
      have hD := z_tie hP hD rfl
      refine lv_aload_n hx hb d_Model_newPrefix_46 rfl (lv_at hl 2 rfl) ?_
      refine va_get (D := G.1) (ci := 12) (v := .ref b16) (C := R_Model) (T := F_Model) (N := 54) hx hb hts i_Model hown hK hP 0 rfl rfl 15 (by decide) (hts _ q1124) (fun _ h9 => h9) rfl d_Model_newPrefix_47 ?_
      refine lv_iload_n hx hb d_Model_newPrefix_50 rfl (lv_at hl 3 rfl) ?_
      refine lv_dup2_11 hx hb d_Model_newPrefix_51 rfl rfl ?_
      refine va_iald hx hb hK hP 1 0 rfl rfl (i := 1) (z_in rfl) d_Model_newPrefix_52 ?_
      refine lv_topi (fun v_28 ev_28 => ?_)
      obtain rfl : v_1 = v_28 := ev_1.trans ev_28.symm
      refine lv_iconst (v := 1) hx hb d_Model_newPrefix_53 (by decide) ?_
      refine lv_iadd hx hb d_Model_newPrefix_54 ?_
      refine lv_topi (fun v_29 ev_29 => ?_)
      obtain ⟨qv_29, hv_29⟩ := zI_add (l := 1) (h := 241) hv_2 zc_1 ev_29 (by decide)
      rw [li_1] at qv_29
      refine va_iast hx hb hK hP hD hS 1 0 rfl rfl (i := 1) (z_in rfl) d_Model_newPrefix_55 (fun H locs hP hD hS => ?_)
      obtain ⟨f_30, hf_30, gf_30, uf_30, hP, hD⟩ := z_newfu 1 hP hD rfl hb55 (zI.wk (l' := 0) (h' := 241) hv_29 (by decide))
      have hP : va_P G.1 classes [(b0, .inr (12, [.int b1, .ref b2, .ref b3, .ref b4, .ref b5, .int b6, .ref b7, .int b8, .int b9, .int b10, .int b11, .ref b12, .ref b13, .ref b14, .int b15, .ref b16, .ref b17, .ref b18, .ref b19, .ref b20, .ref b21, .ref b22, .ref b23, .ref b24, .ref b25, .ref b26, .ref b27, .int b28, .ref b29, .ref b30, .int b31, .int b32, .int b33, .int b34, .ref b35, .ref b36, .ref b37, .ref b38, .ref b39, .ref b40, .ref b41, .int b42, .ref b43, .ref b44, .int b45, .ref b46, .ref b47, .ref b48, .ref b49, .ref b50, .int b51, .ref b52, .ref b53, .ref b54])), (b16, .inl (G.2 0, 2, .inl f_30)), (b17, .inl (G.2 0, 4820, .inl y_21)), (b20, .inl (G.2 0, 482, .inl f_27))] H := hP
      have hD := z_tie hP hD rfl
      exact z_vret hx hb hr hlocks hP hD hS (Nat.le_of_ble_eq_true rfl) (Nat.le_of_ble_eq_true rfl) d_Model_newPrefix_56 ⟨f_30, y_21, f_27, rfl, rfl, hf_30, hy_21, hf_27, (by rw [gf_30, qv_29, ev_1]), (by intro q h1 h2; rw [gf_30] at h2 ⊢; have := hli_23 q h1 (by omega); omega), (by intro q hq; exact hli_22 q (by rw [← ev_1] at hq; omega))⟩
    · have _nhc_24 := hc_24
      have ni_31 := (fa_lt _ _).mp (zi_nle hc_24)
      rw [li_10] at ni_31
      have hv_32 : zI y_20 0 9 := zI.lt_l hy_20 zc_10 (zi_nle hc_24) (by decide)
      refine lv_aload_n hx hb d_Model_newPrefix_21 rfl (lv_at hl 2 rfl) ?_
      refine va_get (D := G.1) (ci := 12) (v := .ref b17) (C := R_Model) (T := F_Model) (N := 54) hx hb hts i_Model hown hK hP 0 rfl rfl 16 (by decide) (hts _ q1125) (fun _ h9 => h9) rfl d_Model_newPrefix_22 ?_
      refine lv_bipush (v := 10) hx hb d_Model_newPrefix_25 (by decide) ?_
      refine lv_iload_n hx hb d_Model_newPrefix_27 rfl (lv_at hl 1 rfl) ?_
      refine lv_imul hx hb d_Model_newPrefix_28 ?_
      refine lv_topi (fun v_33 ev_33 => ?_)
      obtain ⟨qv_33, hv_33⟩ := zI_mul (l := 2410) (h := 4810) zc_10 hv_3 ev_33 (by decide)
      rw [li_10] at qv_33
      refine lv_iload_n hx hb d_Model_newPrefix_29 rfl (lv_at hl 0 rfl) ?_
      refine lv_iadd hx hb d_Model_newPrefix_30 ?_
      refine lv_topi (fun v_34 ev_34 => ?_)
      obtain ⟨qv_34, hv_34⟩ := zI_add (l := 2410) (h := 4819) hv_33 hv_32 ev_34 (by decide)
      refine lv_iconst (v := (-1)) hx hb d_Model_newPrefix_31 (by decide) ?_
      refine va_iast hx hb hK hP hD hS 2 0 rfl rfl (zI.inn hv_34 (by decide)) d_Model_newPrefix_32 (fun H locs hP hD hS => ?_)
      obtain ⟨f_35, hf_35, gf_35, uf_35, hP, hD⟩ := z_newfu 2 hP hD rfl hy_21 (zI.wk (l' := (-1)) (h' := 240) zc_m1 (by decide))
      have hP : va_P G.1 classes [(b0, .inr (12, [.int b1, .ref b2, .ref b3, .ref b4, .ref b5, .int b6, .ref b7, .int b8, .int b9, .int b10, .int b11, .ref b12, .ref b13, .ref b14, .int b15, .ref b16, .ref b17, .ref b18, .ref b19, .ref b20, .ref b21, .ref b22, .ref b23, .ref b24, .ref b25, .ref b26, .ref b27, .int b28, .ref b29, .ref b30, .int b31, .int b32, .int b33, .int b34, .ref b35, .ref b36, .ref b37, .ref b38, .ref b39, .ref b40, .ref b41, .int b42, .ref b43, .ref b44, .int b45, .ref b46, .ref b47, .ref b48, .ref b49, .ref b50, .int b51, .ref b52, .ref b53, .ref b54])), (b16, .inl (G.2 0, 2, .inl b55)), (b17, .inl (G.2 0, 4820, .inl f_35)), (b20, .inl (G.2 0, 482, .inl b57))] H := hP
      have hD := z_tie hP hD rfl
      obtain ⟨v_36, ev_36⟩ : ∃ z : Int32, z = y_20 + 1 := ⟨_, rfl⟩
      obtain ⟨qv_36, hv_36⟩ := zI_add (l := 1) (h := 10) hv_32 zc_1 ev_36 (by decide)
      rw [li_1] at qv_36
      refine lv_iinc (v := v_36) (lv' := [(3, .int v_36), (2, .int v_3), (0, .ref b0), (1, .int 1)]) hx hb d_Model_newPrefix_33 hl (k := 0) rfl (by rw [ev_36]; rfl) (by decide) rfl (fun ls hl => ?_)
      refine lv_goto (tgt := 15) hx hb d_Model_newPrefix_36 (by decide) ?_
      exact ihk_19 (v_36) (f_35) _ _ _ (zI.wk (l' := 0) (h' := 10) hv_36 (by decide)) hf_35 (by have p9 := z_pl hv_34 (by decide); intro q hq; rw [uf_35, z_at, if_neg (by omega)]; exact hli_22 q hq) (by have _l0 := li_m1; have p9 := z_pl hv_34 (by decide); intro q h1 h2; rw [uf_35, z_at]; split; omega; exact hli_23 q h1 (by omega)) (zm_up qv_36 hmk_19 (by decide)) hP hD hS (lv_sub hl [0, 1, 2, 3] rfl)
theorem zc_2410 : zI 2410 2410 2410 := ⟨by decide +kernel, by decide +kernel⟩
theorem li_2410 : (2410 : Int32).toInt = 2410 := by decide +kernel
abbrev m_s2_Model_layPrefixes : Room := { frames := 1, cells := 0, slots := 0, locals := 23 }
set_option maxHeartbeats 4000000 in
set_option maxRecDepth 100000 in
theorem s2_Model_layPrefixes (l : Launch) (G : zG) (b0 : Nat) (b1 : Int32) (b2 : Int32) (b3 : Nat) (b4 : Nat) (b5 : Nat) (b6 : Nat) (b7 : Int32) (b8 : Nat) (b9 : Int32) (b10 : Int32) (b11 : Int32) (b12 : Int32) (b13 : Nat) (b14 : Nat) (b15 : Nat) (b16 : Int32) (b17 : Nat) (b18 : Nat) (b19 : Nat) (b20 : Nat) (b21 : Nat) (b22 : Nat) (b23 : Nat) (b24 : Nat) (b25 : Nat) (b26 : Nat) (b27 : Nat) (b28 : Nat) (b29 : Int32) (b30 : Nat) (b31 : Nat) (b32 : Int32) (b33 : Int32) (b34 : Int32) (b35 : Int32) (b36 : Nat) (b37 : Nat) (b38 : Nat) (b39 : Nat) (b40 : Nat) (b41 : Nat) (b42 : Nat) (b43 : Int32) (b44 : Nat) (b45 : Nat) (b46 : Int32) (b47 : Nat) (b48 : Nat) (b49 : Nat) (b50 : Nat) (b51 : Nat) (b52 : Int32) (b53 : Nat) (b54 : Nat) (b55 : Nat) (b56 : Nat → Int32) (b57 : Nat → Int32) (b58 : Nat → Int32) (b59 : Nat → Int32) (b60 : Nat → Int32) (hb1 : zI b1 (-1) 19) (hb7 : zI b7 0 8) (hb9 : zI b9 0 240) (hb10 : zI b10 0 240) (hb12 : zI b12 0 1) (hb16 : zI b16 0 12) (hb29 : zI b29 0 1) (hb32 : zI b32 0 1) (hb43 : zI b43 0 1000) (hb46 : zI b46 0 1000) (hb52 : zI b52 0 400) (hb56 : zW5 b56) (hb57 : zR b57 0 241) (hb58 : zR b58 (-1) 240) (hb59 : zqa qP b59) (hb60 : zqa qC b60) : zM l G y_Model_layPrefixes prog_14_method_27_code 7 (Option.none : Option Jvm.ClassFile.FieldType) m_s2_Model_layPrefixes [.ref b0, .int 1, .int b1] [(b0, .inr (12, [.int b2, .ref b3, .ref b4, .ref b5, .ref b6, .int b7, .ref b8, .int b9, .int b10, .int b11, .int b12, .ref b13, .ref b14, .ref b15, .int b16, .ref b17, .ref b18, .ref b19, .ref b20, .ref b21, .ref b22, .ref b23, .ref b24, .ref b25, .ref b26, .ref b27, .ref b28, .int b29, .ref b30, .ref b31, .int b32, .int b33, .int b34, .int b35, .ref b36, .ref b37, .ref b38, .ref b39, .ref b40, .ref b41, .ref b42, .int b43, .ref b44, .ref b45, .int b46, .ref b47, .ref b48, .ref b49, .ref b50, .ref b51, .int b52, .ref b53, .ref b54, .ref b55])), (b3, .inl (G.2 0, 503, .inl b56)), (b17, .inl (G.2 0, 2, .inl b57)), (b18, .inl (G.2 0, 4820, .inl b58)), (b19, .inl (G.2 0, 520, .inl b59)), (b21, .inl (G.2 0, 482, .inl b60))] (fun v w => ∃ (e0 : Nat → Int32), ∃ (e1 : Nat → Int32), ∃ (e2 : Nat → Int32), ∃ (e3 : Nat → Int32), v = none ∧ w = [(b0, .inr (12, [.int b2, .ref b3, .ref b4, .ref b5, .ref b6, .int b7, .ref b8, .int b9, .int b10, .int b11, .int b12, .ref b13, .ref b14, .ref b15, .int b16, .ref b17, .ref b18, .ref b19, .ref b20, .ref b21, .ref b22, .ref b23, .ref b24, .ref b25, .ref b26, .ref b27, .ref b28, .int b29, .ref b30, .ref b31, .int b32, .int b33, .int b34, .int b35, .ref b36, .ref b37, .ref b38, .ref b39, .ref b40, .ref b41, .ref b42, .int b43, .ref b44, .ref b45, .int b46, .ref b47, .ref b48, .ref b49, .ref b50, .ref b51, .int b52, .ref b53, .ref b54, .ref b55])), (b3, .inl (G.2 0, 503, .inl b56)), (b17, .inl (G.2 0, 2, .inl e0)), (b18, .inl (G.2 0, 4820, .inl e1)), (b19, .inl (G.2 0, 520, .inl e2)), (b21, .inl (G.2 0, 482, .inl e3))] ∧ (zR e0 0 241) ∧ (zR e1 (-1) 240) ∧ (zqa qP e2) ∧ (zqa qC e3) ∧ (zTm ((b56 (0 : Int32).toNatClampNeg).toInt) (b1 : Int32).toInt (e0 (1 : Int32).toNatClampNeg).toInt 260 b56 e2) ∧ (1 ≤ (e0 (1 : Int32).toNatClampNeg).toInt)) := by
  refine z_start (by decide +kernel) (Nat.le_of_ble_eq_true rfl) ?_
  intro p e s m below meth c A Z hr hnm hA hP hD hS ls hl
  have Z : zC p s m _ meth c prog_14_method_27_code 7 "TraceMachinesModel" G := Z
  obtain ⟨hx, hb, hml, hown, hts, hK, hN, hlocks⟩ := id Z
  have hl : lv_has ls 7 [(0, .ref b0), (1, .int 1), (2, .int b1)] := hl
  refine lv_aload_n hx hb d_Model_layPrefixes_0 rfl (lv_at hl 0 rfl) ?_
  refine va_get (D := G.1) (ci := 12) (v := .ref b17) (C := R_Model) (T := F_Model) (N := 54) hx hb hts i_Model hown hK hP 0 rfl rfl 15 (by decide) (hts _ q1124) (fun _ h9 => h9) rfl d_Model_layPrefixes_1 ?_
  refine lv_iload_n hx hb d_Model_layPrefixes_4 rfl (lv_at hl 1 rfl) ?_
  refine lv_iconst (v := 0) hx hb d_Model_layPrefixes_5 (by decide) ?_
  refine va_iast hx hb hK hP hD hS 2 0 rfl rfl (i := 1) (z_in rfl) d_Model_layPrefixes_6 (fun H locs hP hD hS => ?_)
  obtain ⟨f_1, hf_1, gf_1, uf_1, hP, hD⟩ := z_newfu 2 hP hD rfl hb57 (zI.wk (l' := 0) (h' := 241) zc_0 (by decide))
  have hP : va_P G.1 classes [(b0, .inr (12, [.int b2, .ref b3, .ref b4, .ref b5, .ref b6, .int b7, .ref b8, .int b9, .int b10, .int b11, .int b12, .ref b13, .ref b14, .ref b15, .int b16, .ref b17, .ref b18, .ref b19, .ref b20, .ref b21, .ref b22, .ref b23, .ref b24, .ref b25, .ref b26, .ref b27, .ref b28, .int b29, .ref b30, .ref b31, .int b32, .int b33, .int b34, .int b35, .ref b36, .ref b37, .ref b38, .ref b39, .ref b40, .ref b41, .ref b42, .int b43, .ref b44, .ref b45, .int b46, .ref b47, .ref b48, .ref b49, .ref b50, .ref b51, .int b52, .ref b53, .ref b54, .ref b55])), (b3, .inl (G.2 0, 503, .inl b56)), (b17, .inl (G.2 0, 2, .inl f_1)), (b18, .inl (G.2 0, 4820, .inl b58)), (b19, .inl (G.2 0, 520, .inl b59)), (b21, .inl (G.2 0, 482, .inl b60))] H := hP
  have hD := z_tie hP hD rfl
  refine lv_aload_n hx hb d_Model_layPrefixes_7 rfl (lv_at hl 0 rfl) ?_
  refine lv_iload_n hx hb d_Model_layPrefixes_8 rfl (lv_at hl 1 rfl) ?_
  refine z_callV (index := 199) (As := [.int 1]) (rest := []) (wr := [(b3, .inl (G.2 0, 503, .inl b56)), (b19, .inl (G.2 0, 520, .inl b59))]) Z (s2_Model_newPrefix l G (b0) (b2) (b3) (b4) (b5) (b6) (b7) (b8) (b9) (b10) (b11) (b12) (b13) (b14) (b15) (b16) (b17) (b18) (b19) (b20) (b21) (b22) (b23) (b24) (b25) (b26) (b27) (b28) (b29) (b30) (b31) (b32) (b33) (b34) (b35) (b36) (b37) (b38) (b39) (b40) (b41) (b42) (b43) (b44) (b45) (b46) (b47) (b48) (b49) (b50) (b51) (b52) (b53) (b54) (b55) (f_1) (b58) (b60) hb7 hb9 hb10 hb12 hb16 hb29 hb32 hb43 hb46 hb52 hf_1 hb58 hb60 (by rw [gf_1]; have _l := li_0; omega) (by intro q h1 h2; rw [gf_1] at h2; have _l := li_0; omega)) hl.1 q1368 q1370 qs58 q14 q1371 ⟨by decide, by decide, by show _ = some 1; decide +kernel⟩ ⟨Nat.le_of_ble_eq_true rfl, Nat.le_of_ble_eq_true rfl⟩ ⟨Nat.le_of_ble_eq_true rfl, Nat.le_of_ble_eq_true rfl⟩ rfl (Nat.le_of_ble_eq_true rfl) d_Model_layPrefixes_9 hP hD hS hA 0 12 rfl rfl rfl [0, 2, 3, 5] [1, 4] rfl rfl rfl rfl (by decide) (fun v w1 H locs hw_2 hP hD hS => ?_)
  obtain ⟨f_3, f_4, f_5, rfl, rfl, hf_3, hf_4, hf_5, hfx_6, hfx_7, hfx_8⟩ := hw_2
  have hP : va_P G.1 classes [(b3, .inl (G.2 0, 503, .inl b56)), (b19, .inl (G.2 0, 520, .inl b59)), (b0, .inr (12, [.int b2, .ref b3, .ref b4, .ref b5, .ref b6, .int b7, .ref b8, .int b9, .int b10, .int b11, .int b12, .ref b13, .ref b14, .ref b15, .int b16, .ref b17, .ref b18, .ref b19, .ref b20, .ref b21, .ref b22, .ref b23, .ref b24, .ref b25, .ref b26, .ref b27, .ref b28, .int b29, .ref b30, .ref b31, .int b32, .int b33, .int b34, .int b35, .ref b36, .ref b37, .ref b38, .ref b39, .ref b40, .ref b41, .ref b42, .int b43, .ref b44, .ref b45, .int b46, .ref b47, .ref b48, .ref b49, .ref b50, .ref b51, .int b52, .ref b53, .ref b54, .ref b55])), (b17, .inl (G.2 0, 2, .inl f_3)), (b18, .inl (G.2 0, 4820, .inl f_4)), (b21, .inl (G.2 0, 482, .inl f_5))] H := hP
  have hD := z_tie hP hD rfl
  refine W.widen (k := 0) (n := 0) (Nat.le_of_ble_eq_true rfl) (Nat.le_of_ble_eq_true rfl) ?_
  refine lv_iconst (v := 0) hx hb d_Model_layPrefixes_12 (by decide) ?_
  refine lv_istore_n (lv' := [(3, .int 0), (0, .ref b0), (1, .int 1), (2, .int b1)]) hx hb d_Model_layPrefixes_13 rfl hl (by decide) rfl (fun ls hl => ?_)
  suffices key : ∀ (k_137 : Nat) (y_138 : Int32) (y_139 : Nat → Int32) (y_140 : Nat → Int32) (y_141 : Nat → Int32) (y_142 : Nat → Int32) (H : Heap) (locs : List Loc) (ls : Array Slot), (zI y_138 0 20) → (zR y_139 0 241) → (zR y_140 (-1) 240) → (zqa qP y_141) → (zqa qC y_142) → ((y_139 (1 : Int32).toNatClampNeg).toInt ≤ 12 * (y_138 : Int32).toInt + 1 ∧ 1 ≤ (y_139 (1 : Int32).toNatClampNeg).toInt) → (zLm y_140 2410 (10 * (y_139 (1 : Int32).toNatClampNeg).toInt) (y_139 (1 : Int32).toNatClampNeg).toInt) → (zTm ((y_138 : Int32).toInt) (b1 : Int32).toInt (y_139 (1 : Int32).toNatClampNeg).toInt 260 b56 y_141) → (True) → (20 : Int) - y_138.toInt < (k_137 : Int) → va_P G.1 classes [(b3, .inl (G.2 0, 503, .inl b56)), (b19, .inl (G.2 0, 520, .inl y_141)), (b0, .inr (12, [.int b2, .ref b3, .ref b4, .ref b5, .ref b6, .int b7, .ref b8, .int b9, .int b10, .int b11, .int b12, .ref b13, .ref b14, .ref b15, .int b16, .ref b17, .ref b18, .ref b19, .ref b20, .ref b21, .ref b22, .ref b23, .ref b24, .ref b25, .ref b26, .ref b27, .ref b28, .int b29, .ref b30, .ref b31, .int b32, .int b33, .int b34, .int b35, .ref b36, .ref b37, .ref b38, .ref b39, .ref b40, .ref b41, .ref b42, .int b43, .ref b44, .ref b45, .int b46, .ref b47, .ref b48, .ref b49, .ref b50, .ref b51, .int b52, .ref b53, .ref b54, .ref b55])), (b17, .inl (G.2 0, 2, .inl y_139)), (b18, .inl (G.2 0, 4820, .inl y_140)), (b21, .inl (G.2 0, 482, .inl y_142))] H → va_D A [(b3, .inl (G.2 0, 503, .inl b56)), (b19, .inl (G.2 0, 520, .inl y_141)), (b0, .inr (12, [.int b2, .ref b3, .ref b4, .ref b5, .ref b6, .int b7, .ref b8, .int b9, .int b10, .int b11, .int b12, .ref b13, .ref b14, .ref b15, .int b16, .ref b17, .ref b18, .ref b19, .ref b20, .ref b21, .ref b22, .ref b23, .ref b24, .ref b25, .ref b26, .ref b27, .ref b28, .int b29, .ref b30, .ref b31, .int b32, .int b33, .int b34, .int b35, .ref b36, .ref b37, .ref b38, .ref b39, .ref b40, .ref b41, .ref b42, .int b43, .ref b44, .ref b45, .int b46, .ref b47, .ref b48, .ref b49, .ref b50, .ref b51, .int b52, .ref b53, .ref b54, .ref b55])), (b17, .inl (G.2 0, 2, .inl y_139)), (b18, .inl (G.2 0, 4820, .inl y_140)), (b21, .inl (G.2 0, 482, .inl y_142))] → va_S A s.heap H locs → lv_has ls 7 [(3, .int y_138), (0, .ref b0), (1, .int 1), (2, .int b1)] → W p l e m_s2_Model_layPrefixes s m ([.ref b0, .int 1, .int b1] : List Value).toArray below meth c H locs 0 0 (MQ below (zQ G (fun v w => ∃ (e0 : Nat → Int32), ∃ (e1 : Nat → Int32), ∃ (e2 : Nat → Int32), ∃ (e3 : Nat → Int32), v = none ∧ w = [(b0, .inr (12, [.int b2, .ref b3, .ref b4, .ref b5, .ref b6, .int b7, .ref b8, .int b9, .int b10, .int b11, .int b12, .ref b13, .ref b14, .ref b15, .int b16, .ref b17, .ref b18, .ref b19, .ref b20, .ref b21, .ref b22, .ref b23, .ref b24, .ref b25, .ref b26, .ref b27, .ref b28, .int b29, .ref b30, .ref b31, .int b32, .int b33, .int b34, .int b35, .ref b36, .ref b37, .ref b38, .ref b39, .ref b40, .ref b41, .ref b42, .int b43, .ref b44, .ref b45, .int b46, .ref b47, .ref b48, .ref b49, .ref b50, .ref b51, .int b52, .ref b53, .ref b54, .ref b55])), (b3, .inl (G.2 0, 503, .inl b56)), (b17, .inl (G.2 0, 2, .inl e0)), (b18, .inl (G.2 0, 4820, .inl e1)), (b19, .inl (G.2 0, 520, .inl e2)), (b21, .inl (G.2 0, 482, .inl e3))] ∧ (zR e0 0 241) ∧ (zR e1 (-1) 240) ∧ (zqa qP e2) ∧ (zqa qC e3) ∧ (zTm ((b56 (0 : Int32).toNatClampNeg).toInt) (b1 : Int32).toInt (e0 (1 : Int32).toNatClampNeg).toInt 260 b56 e2) ∧ (1 ≤ (e0 (1 : Int32).toNatClampNeg).toInt)) A) ([.ref b0, .int 1, .int b1] : List Value).toArray s m_s2_Model_layPrefixes.cells m_s2_Model_layPrefixes.slots A) (F0 m 14 ls []) by
    exact key 21 (0) (f_3) (f_4) (b59) (f_5) _ _ _ (zI.wk (l' := 0) (h' := 20) zc_0 (by decide)) hf_3 hf_4 hb59 hf_5 (by have h9 := hfx_6; rw [gf_1] at h9; have _l0 := li_0; omega) hfx_7 (by have _l0 := li_0; intro t i h1 h2 h3; omega) trivial (zm_upi (zI.wk (l' := 0) (h' := 20) zc_0 (by decide)) (by decide)) hP hD hS (lv_sub hl [0, 1, 2, 3] rfl)
  intro k_137
  induction k_137 with
  | zero =>
    intro y_138 y_139 y_140 y_141 y_142 H locs ls hy_138 hy_139 hy_140 hy_141 hy_142 hli_143 hli_144 hli_145 hli_146 hmk_137 hP hD hS hl
    exact (zm_up0 hy_138 hmk_137).elim
  | succ k_137 ihk_137 =>
    intro y_138 y_139 y_140 y_141 y_142 H locs ls hy_138 hy_139 hy_140 hy_141 hy_142 hli_143 hli_144 hli_145 hli_146 hmk_137 hP hD hS hl
    refine lv_iload_n hx hb d_Model_layPrefixes_14 rfl (lv_at hl 0 rfl) ?_
    refine lv_aload_n hx hb d_Model_layPrefixes_15 rfl (lv_at hl 1 rfl) ?_
    refine z_callV (index := 134) (As := []) (rest := [.int y_138]) (wr := [(b19, .inl (G.2 0, 520, .inl y_141)), (b17, .inl (G.2 0, 2, .inl y_139)), (b18, .inl (G.2 0, 4820, .inl y_140)), (b21, .inl (G.2 0, 482, .inl y_142))]) Z (s1_Model_many l G (b0) (b2) (b3) (b4) (b5) (b6) (b7) (b8) (b9) (b10) (b11) (b12) (b13) (b14) (b15) (b16) (b17) (b18) (b19) (b20) (b21) (b22) (b23) (b24) (b25) (b26) (b27) (b28) (b29) (b30) (b31) (b32) (b33) (b34) (b35) (b36) (b37) (b38) (b39) (b40) (b41) (b42) (b43) (b44) (b45) (b46) (b47) (b48) (b49) (b50) (b51) (b52) (b53) (b54) (b55) (b56) hb7 hb9 hb10 hb12 hb16 hb29 hb32 hb43 hb46 hb52 hb56) hl.1 q1320 q1322 qs51 q14 q1323 ⟨by decide, by decide, by show _ = some 0; decide +kernel⟩ ⟨Nat.le_of_ble_eq_true rfl, Nat.le_of_ble_eq_true rfl⟩ ⟨Nat.le_of_ble_eq_true rfl, Nat.le_of_ble_eq_true rfl⟩ rfl (Nat.le_of_ble_eq_true rfl) d_Model_layPrefixes_16 hP hD hS hA 2 12 rfl rfl rfl [2, 0] [1, 3, 4, 5] rfl rfl rfl rfl (by decide) (fun v w1 H locs hw_147 hP hD hS => ?_)
    obtain ⟨x_148, rfl, rfl, hx_148, hfx_149⟩ := hw_147
    have hP : va_P G.1 classes [(b19, .inl (G.2 0, 520, .inl y_141)), (b17, .inl (G.2 0, 2, .inl y_139)), (b18, .inl (G.2 0, 4820, .inl y_140)), (b21, .inl (G.2 0, 482, .inl y_142)), (b0, .inr (12, [.int b2, .ref b3, .ref b4, .ref b5, .ref b6, .int b7, .ref b8, .int b9, .int b10, .int b11, .int b12, .ref b13, .ref b14, .ref b15, .int b16, .ref b17, .ref b18, .ref b19, .ref b20, .ref b21, .ref b22, .ref b23, .ref b24, .ref b25, .ref b26, .ref b27, .ref b28, .int b29, .ref b30, .ref b31, .int b32, .int b33, .int b34, .int b35, .ref b36, .ref b37, .ref b38, .ref b39, .ref b40, .ref b41, .ref b42, .int b43, .ref b44, .ref b45, .int b46, .ref b47, .ref b48, .ref b49, .ref b50, .ref b51, .int b52, .ref b53, .ref b54, .ref b55])), (b3, .inl (G.2 0, 503, .inl b56))] H := hP
    have hD := z_tie hP hD rfl
    refine W.widen (k := 0) (n := 0) (Nat.le_of_ble_eq_true rfl) (Nat.le_of_ble_eq_true rfl) ?_
    refine lv_icmp_ge (tgt := 152) hx hb d_Model_layPrefixes_19 (by decide) (fun hc_150 => ?_) (fun hc_150 => ?_)
    · have _nhc_150 := hc_150
      have ni_151 := (fa_le _ _).mp hc_150
      exact z_vret hx hb hr hlocks (hP.sub [4, 5, 1, 2, 0, 3] rfl) (hD.sub [4, 5, 1, 2, 0, 3] (by decide) rfl) hS (Nat.le_of_ble_eq_true rfl) (Nat.le_of_ble_eq_true rfl) d_Model_layPrefixes_152 ⟨y_139, y_140, y_141, y_142, rfl, rfl, hy_139, hy_140, hy_141, hy_142, (by intro t i h1 h2 h3; exact hli_145 t i (by rw [← hfx_149] at h1; omega) h2 h3), (by omega)⟩
    · have _nhc_150 := hc_150
      have ni_152 := (fa_lt _ _).mp (zi_nle hc_150)
      have hv_153 : zI y_138 0 19 := zI.lt_l hy_138 hx_148 (zi_nle hc_150) (by decide)
      have hv_154 : zI x_148 1 20 := zI.lt_r hy_138 hx_148 (zi_nle hc_150) (by decide)
      refine lv_iconst (v := 0) hx hb d_Model_layPrefixes_22 (by decide) ?_
      refine lv_istore (lv' := [(4, .int 0), (3, .int y_138), (0, .ref b0), (1, .int 1), (2, .int b1)]) hx hb d_Model_layPrefixes_23 hl (by decide) rfl (fun ls hl => ?_)
      refine lv_aload_n hx hb d_Model_layPrefixes_25 rfl (lv_at hl 2 rfl) ?_
      refine va_get (D := G.1) (ci := 12) (v := .ref b19) (C := R_Model) (T := F_Model) (N := 54) hx hb hts i_Model hown hK hP 4 rfl rfl 17 (by decide) (hts _ q1126) (fun _ h9 => h9) rfl d_Model_layPrefixes_26 ?_
      refine lv_sipush (v := 260) hx hb d_Model_layPrefixes_29 (by decide) ?_
      refine lv_iload_n hx hb d_Model_layPrefixes_32 rfl (lv_at hl 3 rfl) ?_
      refine lv_imul hx hb d_Model_layPrefixes_33 ?_
      refine z_topi (y := 260) (by decide +kernel) ?_
      refine lv_bipush (v := 13) hx hb d_Model_layPrefixes_34 (by decide) ?_
      refine lv_iload_n hx hb d_Model_layPrefixes_36 rfl (lv_at hl 1 rfl) ?_
      refine lv_imul hx hb d_Model_layPrefixes_37 ?_
      refine lv_topi (fun v_155 ev_155 => ?_)
      obtain ⟨qv_155, hv_155⟩ := zI_mul (l := 0) (h := 247) zc_13 hv_153 ev_155 (by decide)
      rw [li_13] at qv_155
      refine lv_iadd hx hb d_Model_layPrefixes_38 ?_
      refine lv_topi (fun v_156 ev_156 => ?_)
      obtain ⟨qv_156, hv_156⟩ := zI_add (l := 260) (h := 507) zc_260 hv_155 ev_156 (by decide)
      rw [li_260] at qv_156
      refine lv_iconst (v := 0) hx hb d_Model_layPrefixes_39 (by decide) ?_
      refine va_iast hx hb hK hP hD hS 0 0 rfl rfl (zI.inn hv_156 (by decide)) d_Model_layPrefixes_40 (fun H locs hP hD hS => ?_)
      obtain ⟨f_157, hf_157, gf_157, uf_157, hP, hD⟩ := z_newq_ (Q := qP) 0 hP hD rfl hy_141 (qP_v hv_156 (by decide) ⟨⟨by have _w := li_0; have _x := hv_156; omega, by have _w := li_0; have _x := hv_156; omega⟩, by have _w := li_0; have _x := hv_156; omega⟩)
      have hP : va_P G.1 classes [(b19, .inl (G.2 0, 520, .inl f_157)), (b17, .inl (G.2 0, 2, .inl y_139)), (b18, .inl (G.2 0, 4820, .inl y_140)), (b21, .inl (G.2 0, 482, .inl y_142)), (b0, .inr (12, [.int b2, .ref b3, .ref b4, .ref b5, .ref b6, .int b7, .ref b8, .int b9, .int b10, .int b11, .int b12, .ref b13, .ref b14, .ref b15, .int b16, .ref b17, .ref b18, .ref b19, .ref b20, .ref b21, .ref b22, .ref b23, .ref b24, .ref b25, .ref b26, .ref b27, .ref b28, .int b29, .ref b30, .ref b31, .int b32, .int b33, .int b34, .int b35, .ref b36, .ref b37, .ref b38, .ref b39, .ref b40, .ref b41, .ref b42, .int b43, .ref b44, .ref b45, .int b46, .ref b47, .ref b48, .ref b49, .ref b50, .ref b51, .int b52, .ref b53, .ref b54, .ref b55])), (b3, .inl (G.2 0, 503, .inl b56))] H := hP
      have hD := z_tie hP hD rfl
      refine lv_iconst (v := 0) hx hb d_Model_layPrefixes_41 (by decide) ?_
      refine lv_istore (lv' := [(5, .int 0), (4, .int 0), (3, .int y_138), (0, .ref b0), (1, .int 1), (2, .int b1)]) hx hb d_Model_layPrefixes_42 hl (by decide) rfl (fun ls hl => ?_)
      suffices key : ∀ (k_214 : Nat) (y_215 : Int32) (y_216 : Int32) (y_217 : Nat → Int32) (y_218 : Nat → Int32) (y_219 : Nat → Int32) (y_220 : Nat → Int32) (H : Heap) (locs : List Loc) (ls : Array Slot), (zI y_215 0 12) → (zI y_216 0 240) → (zR y_217 0 241) → (zR y_218 (-1) 240) → (zqa qP y_219) → (zqa qC y_220) → ((y_217 (1 : Int32).toNatClampNeg).toInt ≤ 12 * (y_138 : Int32).toInt + 1 + (y_215 : Int32).toInt ∧ 1 ≤ (y_217 (1 : Int32).toNatClampNeg).toInt) → ((y_216 : Int32).toInt < (y_217 (1 : Int32).toNatClampNeg).toInt) → (zLm y_218 2410 (10 * (y_217 (1 : Int32).toNatClampNeg).toInt) (y_217 (1 : Int32).toNatClampNeg).toInt) → (zTm ((y_138 : Int32).toInt) (b1 : Int32).toInt (y_217 (1 : Int32).toNatClampNeg).toInt 260 b56 y_219) → (∀ i : Nat, (i : Int) ≤ (y_215 : Int32).toInt → (y_219 (260 + 13 * (y_138 : Int32).toInt.toNat + i)).toInt < (y_217 (1 : Int32).toNatClampNeg).toInt) → (True) → (12 : Int) - y_215.toInt < (k_214 : Int) → va_P G.1 classes [(b19, .inl (G.2 0, 520, .inl y_219)), (b17, .inl (G.2 0, 2, .inl y_217)), (b18, .inl (G.2 0, 4820, .inl y_218)), (b21, .inl (G.2 0, 482, .inl y_220)), (b0, .inr (12, [.int b2, .ref b3, .ref b4, .ref b5, .ref b6, .int b7, .ref b8, .int b9, .int b10, .int b11, .int b12, .ref b13, .ref b14, .ref b15, .int b16, .ref b17, .ref b18, .ref b19, .ref b20, .ref b21, .ref b22, .ref b23, .ref b24, .ref b25, .ref b26, .ref b27, .ref b28, .int b29, .ref b30, .ref b31, .int b32, .int b33, .int b34, .int b35, .ref b36, .ref b37, .ref b38, .ref b39, .ref b40, .ref b41, .ref b42, .int b43, .ref b44, .ref b45, .int b46, .ref b47, .ref b48, .ref b49, .ref b50, .ref b51, .int b52, .ref b53, .ref b54, .ref b55])), (b3, .inl (G.2 0, 503, .inl b56))] H → va_D A [(b19, .inl (G.2 0, 520, .inl y_219)), (b17, .inl (G.2 0, 2, .inl y_217)), (b18, .inl (G.2 0, 4820, .inl y_218)), (b21, .inl (G.2 0, 482, .inl y_220)), (b0, .inr (12, [.int b2, .ref b3, .ref b4, .ref b5, .ref b6, .int b7, .ref b8, .int b9, .int b10, .int b11, .int b12, .ref b13, .ref b14, .ref b15, .int b16, .ref b17, .ref b18, .ref b19, .ref b20, .ref b21, .ref b22, .ref b23, .ref b24, .ref b25, .ref b26, .ref b27, .ref b28, .int b29, .ref b30, .ref b31, .int b32, .int b33, .int b34, .int b35, .ref b36, .ref b37, .ref b38, .ref b39, .ref b40, .ref b41, .ref b42, .int b43, .ref b44, .ref b45, .int b46, .ref b47, .ref b48, .ref b49, .ref b50, .ref b51, .int b52, .ref b53, .ref b54, .ref b55])), (b3, .inl (G.2 0, 503, .inl b56))] → va_S A s.heap H locs → lv_has ls 7 [(5, .int y_215), (4, .int y_216), (3, .int y_138), (0, .ref b0), (1, .int 1), (2, .int b1)] → W p l e m_s2_Model_layPrefixes s m ([.ref b0, .int 1, .int b1] : List Value).toArray below meth c H locs 0 0 (MQ below (zQ G (fun v w => ∃ (e0 : Nat → Int32), ∃ (e1 : Nat → Int32), ∃ (e2 : Nat → Int32), ∃ (e3 : Nat → Int32), v = none ∧ w = [(b0, .inr (12, [.int b2, .ref b3, .ref b4, .ref b5, .ref b6, .int b7, .ref b8, .int b9, .int b10, .int b11, .int b12, .ref b13, .ref b14, .ref b15, .int b16, .ref b17, .ref b18, .ref b19, .ref b20, .ref b21, .ref b22, .ref b23, .ref b24, .ref b25, .ref b26, .ref b27, .ref b28, .int b29, .ref b30, .ref b31, .int b32, .int b33, .int b34, .int b35, .ref b36, .ref b37, .ref b38, .ref b39, .ref b40, .ref b41, .ref b42, .int b43, .ref b44, .ref b45, .int b46, .ref b47, .ref b48, .ref b49, .ref b50, .ref b51, .int b52, .ref b53, .ref b54, .ref b55])), (b3, .inl (G.2 0, 503, .inl b56)), (b17, .inl (G.2 0, 2, .inl e0)), (b18, .inl (G.2 0, 4820, .inl e1)), (b19, .inl (G.2 0, 520, .inl e2)), (b21, .inl (G.2 0, 482, .inl e3))] ∧ (zR e0 0 241) ∧ (zR e1 (-1) 240) ∧ (zqa qP e2) ∧ (zqa qC e3) ∧ (zTm ((b56 (0 : Int32).toNatClampNeg).toInt) (b1 : Int32).toInt (e0 (1 : Int32).toNatClampNeg).toInt 260 b56 e2) ∧ (1 ≤ (e0 (1 : Int32).toNatClampNeg).toInt)) A) ([.ref b0, .int 1, .int b1] : List Value).toArray s m_s2_Model_layPrefixes.cells m_s2_Model_layPrefixes.slots A) (F0 m 44 ls []) by
        exact key 13 (0) (0) (y_139) (y_140) (f_157) (y_142) _ _ _ (zI.wk (l' := 0) (h' := 12) zc_0 (by decide)) (zI.wk (l' := 0) (h' := 240) zc_0 (by decide)) hy_139 hy_140 hf_157 hy_142 (by have _l0 := li_0; omega) (by have _l0 := li_0; omega) hli_144 (by have _l0 := li_0; have _l1 := li_1; have p9 := z_pl hv_156 (by decide); intro t i h1 h2 h3; rw [uf_157, z_at]; split; omega; have := hli_145 t i h1 h2 h3; omega) (by have _l0 := li_0; have _l1 := li_1; have p9 := z_pl hv_156 (by decide); intro i hi; rw [uf_157, z_at]; split; omega; omega) trivial (zm_upi (zI.wk (l' := 0) (h' := 12) zc_0 (by decide)) (by decide)) hP hD hS (lv_sub hl [0, 1, 2, 3, 4, 5] rfl)
      intro k_214
      induction k_214 with
      | zero =>
        intro y_215 y_216 y_217 y_218 y_219 y_220 H locs ls hy_215 hy_216 hy_217 hy_218 hy_219 hy_220 hli_221 hli_222 hli_223 hli_224 hli_225 hli_226 hmk_214 hP hD hS hl
        exact (zm_up0 hy_215 hmk_214).elim
      | succ k_214 ihk_214 =>
        intro y_215 y_216 y_217 y_218 y_219 y_220 H locs ls hy_215 hy_216 hy_217 hy_218 hy_219 hy_220 hli_221 hli_222 hli_223 hli_224 hli_225 hli_226 hmk_214 hP hD hS hl
        refine lv_iload hx hb d_Model_layPrefixes_44 (lv_at hl 0 rfl) ?_
        refine lv_aload_n hx hb d_Model_layPrefixes_46 rfl (lv_at hl 3 rfl) ?_
        refine lv_iload_n hx hb d_Model_layPrefixes_47 rfl (lv_at hl 2 rfl) ?_
        refine z_callV (index := 203) (As := [.int y_138]) (rest := [.int y_215]) (wr := [(b19, .inl (G.2 0, 520, .inl y_219)), (b17, .inl (G.2 0, 2, .inl y_217)), (b18, .inl (G.2 0, 4820, .inl y_218)), (b21, .inl (G.2 0, 482, .inl y_220))]) Z (s1_Model_calls l G (b0) (y_138) (b2) (b3) (b4) (b5) (b6) (b7) (b8) (b9) (b10) (b11) (b12) (b13) (b14) (b15) (b16) (b17) (b18) (b19) (b20) (b21) (b22) (b23) (b24) (b25) (b26) (b27) (b28) (b29) (b30) (b31) (b32) (b33) (b34) (b35) (b36) (b37) (b38) (b39) (b40) (b41) (b42) (b43) (b44) (b45) (b46) (b47) (b48) (b49) (b50) (b51) (b52) (b53) (b54) (b55) (b56) hv_153 hb7 hb9 hb10 hb12 hb16 hb29 hb32 hb43 hb46 hb52 hb56) hl.1 q1352 q1354 qs54 q14 q1355 ⟨by decide, by decide, by show _ = some 1; decide +kernel⟩ ⟨Nat.le_of_ble_eq_true rfl, Nat.le_of_ble_eq_true rfl⟩ ⟨Nat.le_of_ble_eq_true rfl, Nat.le_of_ble_eq_true rfl⟩ rfl (Nat.le_of_ble_eq_true rfl) d_Model_layPrefixes_48 hP hD hS hA 4 12 rfl rfl rfl [4, 5] [0, 1, 2, 3] rfl rfl rfl rfl (by decide) (fun v w1 H locs hw_227 hP hD hS => ?_)
        obtain ⟨x_228, rfl, rfl, hx_228, hfx_229⟩ := hw_227
        have hP : va_P G.1 classes [(b19, .inl (G.2 0, 520, .inl y_219)), (b17, .inl (G.2 0, 2, .inl y_217)), (b18, .inl (G.2 0, 4820, .inl y_218)), (b21, .inl (G.2 0, 482, .inl y_220)), (b0, .inr (12, [.int b2, .ref b3, .ref b4, .ref b5, .ref b6, .int b7, .ref b8, .int b9, .int b10, .int b11, .int b12, .ref b13, .ref b14, .ref b15, .int b16, .ref b17, .ref b18, .ref b19, .ref b20, .ref b21, .ref b22, .ref b23, .ref b24, .ref b25, .ref b26, .ref b27, .ref b28, .int b29, .ref b30, .ref b31, .int b32, .int b33, .int b34, .int b35, .ref b36, .ref b37, .ref b38, .ref b39, .ref b40, .ref b41, .ref b42, .int b43, .ref b44, .ref b45, .int b46, .ref b47, .ref b48, .ref b49, .ref b50, .ref b51, .int b52, .ref b53, .ref b54, .ref b55])), (b3, .inl (G.2 0, 503, .inl b56))] H := hP
        have hD := z_tie hP hD rfl
        refine W.widen (k := 0) (n := 0) (Nat.le_of_ble_eq_true rfl) (Nat.le_of_ble_eq_true rfl) ?_
        refine lv_icmp_ge (tgt := 146) hx hb d_Model_layPrefixes_51 (by decide) (fun hc_230 => ?_) (fun hc_230 => ?_)
        · have _nhc_230 := hc_230
          have ni_231 := (fa_le _ _).mp hc_230
          obtain ⟨v_232, ev_232⟩ : ∃ z : Int32, z = y_138 + 1 := ⟨_, rfl⟩
          obtain ⟨qv_232, hv_232⟩ := zI_add (l := 1) (h := 20) hv_153 zc_1 ev_232 (by decide)
          rw [li_1] at qv_232
          refine lv_iinc (v := v_232) (lv' := [(3, .int v_232), (5, .int y_215), (4, .int y_216), (0, .ref b0), (1, .int 1), (2, .int b1)]) hx hb d_Model_layPrefixes_146 hl (k := 2) rfl (by rw [ev_232]; rfl) (by decide) rfl (fun ls hl => ?_)
          refine lv_goto (tgt := 14) hx hb d_Model_layPrefixes_149 (by decide) ?_
          exact ihk_137 (v_232) (y_217) (y_218) (y_219) (y_220) _ _ _ (zI.wk (l' := 0) (h' := 20) hv_232 (by decide)) hy_217 hy_218 hy_219 hy_220 (by have := hli_221; omega) hli_223 (by intro t i h1 h2 h3; rcases Decidable.em ((t : Int) < y_138.toInt) with h4 | h4; exact hli_224 t i h4 h2 h3; obtain rfl : t = y_138.toInt.toNat := (by omega); first | (exfalso; omega) | (rw [← hfx_229] at h3; exact hli_225 i (by omega))) trivial (zm_up qv_232 hmk_137 (by decide)) (hP.sub [5, 0, 4, 1, 2, 3] rfl) (hD.sub [5, 0, 4, 1, 2, 3] (by decide) rfl) hS (lv_sub hl [0, 3, 4, 5] rfl)
        · have _nhc_230 := hc_230
          have ni_233 := (fa_lt _ _).mp (zi_nle hc_230)
          have hv_234 : zI y_215 0 11 := zI.lt_l hy_215 hx_228 (zi_nle hc_230) (by decide)
          have hv_235 : zI x_228 1 12 := zI.lt_r hy_215 hx_228 (zi_nle hc_230) (by decide)
          refine lv_iload_n hx hb d_Model_layPrefixes_54 rfl (lv_at hl 2 rfl) ?_
          refine lv_iload_n hx hb d_Model_layPrefixes_55 rfl (lv_at hl 5 rfl) ?_
          refine lv_icmp_eq (tgt := 146) hx hb d_Model_layPrefixes_56 (by decide) (fun hc_236 => ?_) (fun hc_236 => ?_)
          · have _nhc_236 := hc_236
            have ni_237 := (fa_eq _ _).mp hc_236
            have hv_238 : zI b1 0 19 := zI.eq_l hb1 hv_153 hc_236.symm
            obtain ⟨v_239, ev_239⟩ : ∃ z : Int32, z = y_138 + 1 := ⟨_, rfl⟩
            obtain ⟨qv_239, hv_239⟩ := zI_add (l := 1) (h := 20) hv_153 zc_1 ev_239 (by decide)
            rw [li_1] at qv_239
            refine lv_iinc (v := v_239) (lv' := [(3, .int v_239), (5, .int y_215), (4, .int y_216), (0, .ref b0), (1, .int 1), (2, .int b1)]) hx hb d_Model_layPrefixes_146 hl (k := 2) rfl (by rw [ev_239]; rfl) (by decide) rfl (fun ls hl => ?_)
            refine lv_goto (tgt := 14) hx hb d_Model_layPrefixes_149 (by decide) ?_
            exact ihk_137 (v_239) (y_217) (y_218) (y_219) (y_220) _ _ _ (zI.wk (l' := 0) (h' := 20) hv_239 (by decide)) hy_217 hy_218 hy_219 hy_220 (by have := hli_221; omega) hli_223 (by intro t i h1 h2 h3; rcases Decidable.em ((t : Int) < y_138.toInt) with h4 | h4; exact hli_224 t i h4 h2 h3; obtain rfl : t = y_138.toInt.toNat := (by omega); first | (exfalso; omega) | (rw [← hfx_229] at h3; exact hli_225 i (by omega))) trivial (zm_up qv_239 hmk_137 (by decide)) (hP.sub [5, 0, 4, 1, 2, 3] rfl) (hD.sub [5, 0, 4, 1, 2, 3] (by decide) rfl) hS (lv_sub hl [0, 3, 4, 5] rfl)
          · have _nhc_236 := hc_236
            have ni_240 : ¬ (y_138 : Int32).toInt = (b1 : Int32).toInt := fun z => hc_236 ((fa_eq _ _).mpr z)
            refine lv_bipush (v := 10) hx hb d_Model_layPrefixes_59 (by decide) ?_
            refine lv_sipush (v := 241) hx hb d_Model_layPrefixes_61 (by decide) ?_
            refine lv_iload_n hx hb d_Model_layPrefixes_64 rfl (lv_at hl 4 rfl) ?_
            refine lv_imul hx hb d_Model_layPrefixes_65 ?_
            refine z_topi (y := 241) (by decide +kernel) ?_
            refine lv_iload hx hb d_Model_layPrefixes_66 (lv_at hl 1 rfl) ?_
            refine lv_iadd hx hb d_Model_layPrefixes_68 ?_
            refine lv_topi (fun v_241 ev_241 => ?_)
            obtain ⟨qv_241, hv_241⟩ := zI_add (l := 241) (h := 481) zc_241 hy_216 ev_241 (by decide)
            rw [li_241] at qv_241
            refine lv_imul hx hb d_Model_layPrefixes_69 ?_
            refine lv_topi (fun v_242 ev_242 => ?_)
            obtain ⟨qv_242, hv_242⟩ := zI_mul (l := 2410) (h := 4810) zc_10 hv_241 ev_242 (by decide)
            rw [li_10] at qv_242
            refine lv_aload_n hx hb d_Model_layPrefixes_70 rfl (lv_at hl 3 rfl) ?_
            refine lv_iload_n hx hb d_Model_layPrefixes_71 rfl (lv_at hl 2 rfl) ?_
            refine lv_iload hx hb d_Model_layPrefixes_72 (lv_at hl 0 rfl) ?_
            refine z_callV (index := 207) (As := [.int y_138, .int y_215]) (rest := [.int v_242]) (wr := [(b19, .inl (G.2 0, 520, .inl y_219)), (b17, .inl (G.2 0, 2, .inl y_217)), (b18, .inl (G.2 0, 4820, .inl y_218)), (b21, .inl (G.2 0, 482, .inl y_220))]) Z (s1_Model_letterAt l G (b0) (y_138) (y_215) (b2) (b3) (b4) (b5) (b6) (b7) (b8) (b9) (b10) (b11) (b12) (b13) (b14) (b15) (b16) (b17) (b18) (b19) (b20) (b21) (b22) (b23) (b24) (b25) (b26) (b27) (b28) (b29) (b30) (b31) (b32) (b33) (b34) (b35) (b36) (b37) (b38) (b39) (b40) (b41) (b42) (b43) (b44) (b45) (b46) (b47) (b48) (b49) (b50) (b51) (b52) (b53) (b54) (b55) (b56) hv_153 hv_234 hb7 hb9 hb10 hb12 hb16 hb29 hb32 hb43 hb46 hb52 hb56) hl.1 q1372 q1374 qs59 q14 q1375 ⟨by decide, by decide, by show _ = some 2; decide +kernel⟩ ⟨Nat.le_of_ble_eq_true rfl, Nat.le_of_ble_eq_true rfl⟩ ⟨Nat.le_of_ble_eq_true rfl, Nat.le_of_ble_eq_true rfl⟩ rfl (Nat.le_of_ble_eq_true rfl) d_Model_layPrefixes_74 hP hD hS hA 4 12 rfl rfl rfl [4, 5] [0, 1, 2, 3] rfl rfl rfl rfl (by decide) (fun v w1 H locs hw_243 hP hD hS => ?_)
            obtain ⟨x_244, rfl, rfl, hx_244⟩ := hw_243
            have hP : va_P G.1 classes [(b19, .inl (G.2 0, 520, .inl y_219)), (b17, .inl (G.2 0, 2, .inl y_217)), (b18, .inl (G.2 0, 4820, .inl y_218)), (b21, .inl (G.2 0, 482, .inl y_220)), (b0, .inr (12, [.int b2, .ref b3, .ref b4, .ref b5, .ref b6, .int b7, .ref b8, .int b9, .int b10, .int b11, .int b12, .ref b13, .ref b14, .ref b15, .int b16, .ref b17, .ref b18, .ref b19, .ref b20, .ref b21, .ref b22, .ref b23, .ref b24, .ref b25, .ref b26, .ref b27, .ref b28, .int b29, .ref b30, .ref b31, .int b32, .int b33, .int b34, .int b35, .ref b36, .ref b37, .ref b38, .ref b39, .ref b40, .ref b41, .ref b42, .int b43, .ref b44, .ref b45, .int b46, .ref b47, .ref b48, .ref b49, .ref b50, .ref b51, .int b52, .ref b53, .ref b54, .ref b55])), (b3, .inl (G.2 0, 503, .inl b56))] H := hP
            have hD := z_tie hP hD rfl
            refine W.widen (k := 0) (n := 0) (Nat.le_of_ble_eq_true rfl) (Nat.le_of_ble_eq_true rfl) ?_
            refine lv_iadd hx hb d_Model_layPrefixes_77 ?_
            refine lv_topi (fun v_245 ev_245 => ?_)
            obtain ⟨qv_245, hv_245⟩ := zI_add (l := 2410) (h := 4819) hv_242 hx_244 ev_245 (by decide)
            refine lv_istore (lv' := [(6, .int v_245), (5, .int y_215), (4, .int y_216), (3, .int y_138), (0, .ref b0), (1, .int 1), (2, .int b1)]) hx hb d_Model_layPrefixes_78 hl (by decide) rfl (fun ls hl => ?_)
            refine lv_aload_n hx hb d_Model_layPrefixes_80 rfl (lv_at hl 4 rfl) ?_
            refine va_get (D := G.1) (ci := 12) (v := .ref b18) (C := R_Model) (T := F_Model) (N := 54) hx hb hts i_Model hown hK hP 4 rfl rfl 16 (by decide) (hts _ q1125) (fun _ h9 => h9) rfl d_Model_layPrefixes_81 ?_
            refine lv_iload hx hb d_Model_layPrefixes_84 (lv_at hl 0 rfl) ?_
            refine va_iald hx hb hK hP 2 0 rfl rfl (zI.inn hv_245 (by decide)) d_Model_layPrefixes_86 ?_
            refine lv_topi (fun v_246 ev_246 => ?_)
            have hv_246 : zI v_246 (-1) 240 := (hy_218 _).eq ev_246
            refine lv_iconst (v := (-1)) hx hb d_Model_layPrefixes_87 (by decide) ?_
            refine lv_icmp_ne (tgt := 109) hx hb d_Model_layPrefixes_88 (by decide) (fun hc_247 => ?_) (fun hc_247 => ?_)
            · have _nhc_247 := hc_247
              have ni_248 : ¬ (v_246 : Int32).toInt = ((-1) : Int32).toInt := fun z => hc_247 ((fa_eq _ _).mpr z)
              simp only [li_m1] at ni_248
              have hv_249 : zI v_246 0 240 := zI.ne_lo hv_246 zc_m1 hc_247 (by decide)
              refine lv_aload_n hx hb d_Model_layPrefixes_109 rfl (lv_at hl 4 rfl) ?_
              refine va_get (D := G.1) (ci := 12) (v := .ref b18) (C := R_Model) (T := F_Model) (N := 54) hx hb hts i_Model hown hK hP 4 rfl rfl 16 (by decide) (hts _ q1125) (fun _ h9 => h9) rfl d_Model_layPrefixes_110 ?_
              refine lv_iload hx hb d_Model_layPrefixes_113 (lv_at hl 0 rfl) ?_
              refine va_iald hx hb hK hP 2 0 rfl rfl (zI.inn hv_245 (by decide)) d_Model_layPrefixes_115 ?_
              refine lv_topi (fun v_250 ev_250 => ?_)
              obtain rfl : v_246 = v_250 := ev_246.trans ev_250.symm
              have hp4v_246 : v_246.toInt < (y_217 (1 : Int32).toNatClampNeg).toInt := by have p9 := z_pl hv_245 (by decide); rw [ev_246]; exact hli_223 _ (by omega) (by omega)
              refine lv_istore (lv' := [(4, .int v_246), (6, .int v_245), (5, .int y_215), (3, .int y_138), (0, .ref b0), (1, .int 1), (2, .int b1)]) hx hb d_Model_layPrefixes_116 hl (by decide) rfl (fun ls hl => ?_)
              refine lv_aload_n hx hb d_Model_layPrefixes_118 rfl (lv_at hl 4 rfl) ?_
              refine va_get (D := G.1) (ci := 12) (v := .ref b19) (C := R_Model) (T := F_Model) (N := 54) hx hb hts i_Model hown hK hP 4 rfl rfl 17 (by decide) (hts _ q1126) (fun _ h9 => h9) rfl d_Model_layPrefixes_119 ?_
              refine lv_sipush (v := 260) hx hb d_Model_layPrefixes_122 (by decide) ?_
              refine lv_iload_n hx hb d_Model_layPrefixes_125 rfl (lv_at hl 5 rfl) ?_
              refine lv_imul hx hb d_Model_layPrefixes_126 ?_
              refine z_topi (y := 260) (by decide +kernel) ?_
              refine lv_bipush (v := 13) hx hb d_Model_layPrefixes_127 (by decide) ?_
              refine lv_iload_n hx hb d_Model_layPrefixes_129 rfl (lv_at hl 3 rfl) ?_
              refine lv_imul hx hb d_Model_layPrefixes_130 ?_
              refine lv_topi (fun v_251 ev_251 => ?_)
              obtain rfl : v_155 = v_251 := ev_155.trans ev_251.symm
              refine lv_iadd hx hb d_Model_layPrefixes_131 ?_
              refine lv_topi (fun v_252 ev_252 => ?_)
              obtain rfl : v_156 = v_252 := ev_156.trans ev_252.symm
              refine lv_iload hx hb d_Model_layPrefixes_132 (lv_at hl 2 rfl) ?_
              refine lv_iadd hx hb d_Model_layPrefixes_134 ?_
              refine lv_topi (fun v_253 ev_253 => ?_)
              obtain ⟨qv_253, hv_253⟩ := zI_add (l := 260) (h := 518) hv_156 hv_234 ev_253 (by decide)
              refine lv_iconst (v := 1) hx hb d_Model_layPrefixes_135 (by decide) ?_
              refine lv_iadd hx hb d_Model_layPrefixes_136 ?_
              refine lv_topi (fun v_254 ev_254 => ?_)
              obtain ⟨qv_254, hv_254⟩ := zI_add (l := 261) (h := 519) hv_253 zc_1 ev_254 (by decide)
              rw [li_1] at qv_254
              refine lv_iload hx hb d_Model_layPrefixes_137 (lv_at hl 0 rfl) ?_
              refine va_iast hx hb hK hP hD hS 0 0 rfl rfl (zI.inn hv_254 (by decide)) d_Model_layPrefixes_139 (fun H locs hP hD hS => ?_)
              obtain ⟨f_255, hf_255, gf_255, uf_255, hP, hD⟩ := z_newq_ (Q := qP) 0 hP hD rfl hy_219 (qP_v hv_254 (by decide) ⟨⟨by have _w := hv_249; have _x := hv_254; omega, by have _w := hv_249; have _x := hv_254; omega⟩, by have _w := hv_249; have _x := hv_254; omega⟩)
              have hP : va_P G.1 classes [(b19, .inl (G.2 0, 520, .inl f_255)), (b17, .inl (G.2 0, 2, .inl y_217)), (b18, .inl (G.2 0, 4820, .inl y_218)), (b21, .inl (G.2 0, 482, .inl y_220)), (b0, .inr (12, [.int b2, .ref b3, .ref b4, .ref b5, .ref b6, .int b7, .ref b8, .int b9, .int b10, .int b11, .int b12, .ref b13, .ref b14, .ref b15, .int b16, .ref b17, .ref b18, .ref b19, .ref b20, .ref b21, .ref b22, .ref b23, .ref b24, .ref b25, .ref b26, .ref b27, .ref b28, .int b29, .ref b30, .ref b31, .int b32, .int b33, .int b34, .int b35, .ref b36, .ref b37, .ref b38, .ref b39, .ref b40, .ref b41, .ref b42, .int b43, .ref b44, .ref b45, .int b46, .ref b47, .ref b48, .ref b49, .ref b50, .ref b51, .int b52, .ref b53, .ref b54, .ref b55])), (b3, .inl (G.2 0, 503, .inl b56))] H := hP
              have hD := z_tie hP hD rfl
              obtain ⟨v_256, ev_256⟩ : ∃ z : Int32, z = y_215 + 1 := ⟨_, rfl⟩
              obtain ⟨qv_256, hv_256⟩ := zI_add (l := 1) (h := 12) hv_234 zc_1 ev_256 (by decide)
              rw [li_1] at qv_256
              refine lv_iinc (v := v_256) (lv' := [(5, .int v_256), (4, .int v_246), (6, .int v_245), (3, .int y_138), (0, .ref b0), (1, .int 1), (2, .int b1)]) hx hb d_Model_layPrefixes_140 hl (k := 2) rfl (by rw [ev_256]; rfl) (by decide) rfl (fun ls hl => ?_)
              refine lv_goto (tgt := 44) hx hb d_Model_layPrefixes_143 (by decide) ?_
              exact ihk_214 (v_256) (v_246) (y_217) (y_218) (f_255) (y_220) _ _ _ (zI.wk (l' := 0) (h' := 12) hv_256 (by decide)) hv_249 hy_217 hy_218 hf_255 hy_220 (by omega) (by omega) hli_223 (by have _l0 := li_0; have _l1 := li_1; have p9 := z_pl hv_254 (by decide); intro t i h1 h2 h3; rw [uf_255, z_at]; split; omega; have := hli_224 t i h1 h2 h3; omega) (by have _l0 := li_0; have _l1 := li_1; have p9 := z_pl hv_254 (by decide); intro i hi; rw [uf_255, z_at]; split; omega; have := hli_225 i (by omega); omega) trivial (zm_up qv_256 hmk_214 (by decide)) hP hD hS (lv_sub hl [0, 1, 3, 4, 5, 6] rfl)
            · have _nhc_247 := hc_247
              have ni_257 := (fa_eq _ _).mp hc_247
              rw [li_m1] at ni_257
              have hv_258 : zI v_246 (-1) (-1) := zI.eq_l hv_246 zc_m1 hc_247
              refine lv_aload_n hx hb d_Model_layPrefixes_91 rfl (lv_at hl 4 rfl) ?_
              refine va_get (D := G.1) (ci := 12) (v := .ref b18) (C := R_Model) (T := F_Model) (N := 54) hx hb hts i_Model hown hK hP 4 rfl rfl 16 (by decide) (hts _ q1125) (fun _ h9 => h9) rfl d_Model_layPrefixes_92 ?_
              refine lv_iload hx hb d_Model_layPrefixes_95 (lv_at hl 0 rfl) ?_
              refine lv_aload_n hx hb d_Model_layPrefixes_97 rfl (lv_at hl 4 rfl) ?_
              refine va_get (D := G.1) (ci := 12) (v := .ref b17) (C := R_Model) (T := F_Model) (N := 54) hx hb hts i_Model hown hK hP 4 rfl rfl 15 (by decide) (hts _ q1124) (fun _ h9 => h9) rfl d_Model_layPrefixes_98 ?_
              refine lv_iload_n hx hb d_Model_layPrefixes_101 rfl (lv_at hl 5 rfl) ?_
              refine va_iald hx hb hK hP 1 0 rfl rfl (i := 1) (z_in rfl) d_Model_layPrefixes_102 ?_
              refine lv_topi (fun v_259 ev_259 => ?_)
              have hv_259 : zI v_259 0 241 := (hy_217 _).eq ev_259
              have hv_260 : zI v_259 0 240 := ⟨hv_259.1, by rw [ev_259]; omega⟩
              refine va_iast hx hb hK hP hD hS 2 0 rfl rfl (zI.inn hv_245 (by decide)) d_Model_layPrefixes_103 (fun H locs hP hD hS => ?_)
              obtain ⟨f_261, hf_261, gf_261, uf_261, hP, hD⟩ := z_newfu 2 hP hD rfl hy_218 (zI.wk (l' := (-1)) (h' := 240) hv_260 (by decide))
              have hP : va_P G.1 classes [(b19, .inl (G.2 0, 520, .inl y_219)), (b17, .inl (G.2 0, 2, .inl y_217)), (b18, .inl (G.2 0, 4820, .inl f_261)), (b21, .inl (G.2 0, 482, .inl y_220)), (b0, .inr (12, [.int b2, .ref b3, .ref b4, .ref b5, .ref b6, .int b7, .ref b8, .int b9, .int b10, .int b11, .int b12, .ref b13, .ref b14, .ref b15, .int b16, .ref b17, .ref b18, .ref b19, .ref b20, .ref b21, .ref b22, .ref b23, .ref b24, .ref b25, .ref b26, .ref b27, .ref b28, .int b29, .ref b30, .ref b31, .int b32, .int b33, .int b34, .int b35, .ref b36, .ref b37, .ref b38, .ref b39, .ref b40, .ref b41, .ref b42, .int b43, .ref b44, .ref b45, .int b46, .ref b47, .ref b48, .ref b49, .ref b50, .ref b51, .int b52, .ref b53, .ref b54, .ref b55])), (b3, .inl (G.2 0, 503, .inl b56))] H := hP
              have hD := z_tie hP hD rfl
              refine lv_aload_n hx hb d_Model_layPrefixes_104 rfl (lv_at hl 4 rfl) ?_
              refine lv_iload_n hx hb d_Model_layPrefixes_105 rfl (lv_at hl 5 rfl) ?_
              refine z_callV (index := 199) (As := [.int 1]) (rest := []) (wr := [(b19, .inl (G.2 0, 520, .inl y_219)), (b3, .inl (G.2 0, 503, .inl b56))]) Z (s2_Model_newPrefix l G (b0) (b2) (b3) (b4) (b5) (b6) (b7) (b8) (b9) (b10) (b11) (b12) (b13) (b14) (b15) (b16) (b17) (b18) (b19) (b20) (b21) (b22) (b23) (b24) (b25) (b26) (b27) (b28) (b29) (b30) (b31) (b32) (b33) (b34) (b35) (b36) (b37) (b38) (b39) (b40) (b41) (b42) (b43) (b44) (b45) (b46) (b47) (b48) (b49) (b50) (b51) (b52) (b53) (b54) (b55) (y_217) (f_261) (y_220) hb7 hb9 hb10 hb12 hb16 hb29 hb32 hb43 hb46 hb52 hy_217 hf_261 hy_220 (by omega) (by intro q h1 h2; rw [uf_261, z_at]; split; (rw [ev_259]; omega); have := hli_223 q h1 h2; omega)) hl.1 q1368 q1370 qs58 q14 q1371 ⟨by decide, by decide, by show _ = some 1; decide +kernel⟩ ⟨Nat.le_of_ble_eq_true rfl, Nat.le_of_ble_eq_true rfl⟩ ⟨Nat.le_of_ble_eq_true rfl, Nat.le_of_ble_eq_true rfl⟩ rfl (Nat.le_of_ble_eq_true rfl) d_Model_layPrefixes_106 hP hD hS hA 4 12 rfl rfl rfl [4, 1, 2, 3] [0, 5] rfl rfl rfl rfl (by decide) (fun v w1 H locs hw_262 hP hD hS => ?_)
              obtain ⟨f_263, f_264, f_265, rfl, rfl, hf_263, hf_264, hf_265, hfx_266, hfx_267, hfx_268⟩ := hw_262
              have hP : va_P G.1 classes [(b19, .inl (G.2 0, 520, .inl y_219)), (b3, .inl (G.2 0, 503, .inl b56)), (b0, .inr (12, [.int b2, .ref b3, .ref b4, .ref b5, .ref b6, .int b7, .ref b8, .int b9, .int b10, .int b11, .int b12, .ref b13, .ref b14, .ref b15, .int b16, .ref b17, .ref b18, .ref b19, .ref b20, .ref b21, .ref b22, .ref b23, .ref b24, .ref b25, .ref b26, .ref b27, .ref b28, .int b29, .ref b30, .ref b31, .int b32, .int b33, .int b34, .int b35, .ref b36, .ref b37, .ref b38, .ref b39, .ref b40, .ref b41, .ref b42, .int b43, .ref b44, .ref b45, .int b46, .ref b47, .ref b48, .ref b49, .ref b50, .ref b51, .int b52, .ref b53, .ref b54, .ref b55])), (b17, .inl (G.2 0, 2, .inl f_263)), (b18, .inl (G.2 0, 4820, .inl f_264)), (b21, .inl (G.2 0, 482, .inl f_265))] H := hP
              have hD := z_tie hP hD rfl
              refine W.widen (k := 0) (n := 0) (Nat.le_of_ble_eq_true rfl) (Nat.le_of_ble_eq_true rfl) ?_
              refine lv_aload_n hx hb d_Model_layPrefixes_109 rfl (lv_at hl 4 rfl) ?_
              refine va_get (D := G.1) (ci := 12) (v := .ref b18) (C := R_Model) (T := F_Model) (N := 54) hx hb hts i_Model hown hK hP 2 rfl rfl 16 (by decide) (hts _ q1125) (fun _ h9 => h9) rfl d_Model_layPrefixes_110 ?_
              refine lv_iload hx hb d_Model_layPrefixes_113 (lv_at hl 0 rfl) ?_
              refine va_iald hx hb hK hP 4 0 rfl rfl (zI.inn hv_245 (by decide)) d_Model_layPrefixes_115 ?_
              refine lv_topi (fun v_269 ev_269 => ?_)
              have hv_269 : zI v_269 (-1) 240 := (hf_264 _).eq ev_269
              have hwv_269 : v_269 = v_259 := ev_269.trans ((hfx_268 _ (by have p9 := z_pl hv_245 (by decide); rw [← ev_259]; have := hli_222; rw [← ev_259] at this; omega)).trans gf_261)
              have hv_270 : zI v_269 0 240 := zI.eq hv_260 hwv_269
              have hp4v_269 : v_269.toInt < (f_263 (1 : Int32).toNatClampNeg).toInt := by rw [hwv_269, ev_259]; omega
              refine lv_istore (lv' := [(4, .int v_269), (6, .int v_245), (5, .int y_215), (3, .int y_138), (0, .ref b0), (1, .int 1), (2, .int b1)]) hx hb d_Model_layPrefixes_116 hl (by decide) rfl (fun ls hl => ?_)
              refine lv_aload_n hx hb d_Model_layPrefixes_118 rfl (lv_at hl 4 rfl) ?_
              refine va_get (D := G.1) (ci := 12) (v := .ref b19) (C := R_Model) (T := F_Model) (N := 54) hx hb hts i_Model hown hK hP 2 rfl rfl 17 (by decide) (hts _ q1126) (fun _ h9 => h9) rfl d_Model_layPrefixes_119 ?_
              refine lv_sipush (v := 260) hx hb d_Model_layPrefixes_122 (by decide) ?_
              refine lv_iload_n hx hb d_Model_layPrefixes_125 rfl (lv_at hl 5 rfl) ?_
              refine lv_imul hx hb d_Model_layPrefixes_126 ?_
              refine z_topi (y := 260) (by decide +kernel) ?_
              refine lv_bipush (v := 13) hx hb d_Model_layPrefixes_127 (by decide) ?_
              refine lv_iload_n hx hb d_Model_layPrefixes_129 rfl (lv_at hl 3 rfl) ?_
              refine lv_imul hx hb d_Model_layPrefixes_130 ?_
              refine lv_topi (fun v_271 ev_271 => ?_)
              obtain rfl : v_155 = v_271 := ev_155.trans ev_271.symm
              refine lv_iadd hx hb d_Model_layPrefixes_131 ?_
              refine lv_topi (fun v_272 ev_272 => ?_)
              obtain rfl : v_156 = v_272 := ev_156.trans ev_272.symm
              refine lv_iload hx hb d_Model_layPrefixes_132 (lv_at hl 2 rfl) ?_
              refine lv_iadd hx hb d_Model_layPrefixes_134 ?_
              refine lv_topi (fun v_273 ev_273 => ?_)
              obtain ⟨qv_273, hv_273⟩ := zI_add (l := 260) (h := 518) hv_156 hv_234 ev_273 (by decide)
              refine lv_iconst (v := 1) hx hb d_Model_layPrefixes_135 (by decide) ?_
              refine lv_iadd hx hb d_Model_layPrefixes_136 ?_
              refine lv_topi (fun v_274 ev_274 => ?_)
              obtain ⟨qv_274, hv_274⟩ := zI_add (l := 261) (h := 519) hv_273 zc_1 ev_274 (by decide)
              rw [li_1] at qv_274
              refine lv_iload hx hb d_Model_layPrefixes_137 (lv_at hl 0 rfl) ?_
              refine va_iast hx hb hK hP hD hS 0 0 rfl rfl (zI.inn hv_274 (by decide)) d_Model_layPrefixes_139 (fun H locs hP hD hS => ?_)
              obtain ⟨f_275, hf_275, gf_275, uf_275, hP, hD⟩ := z_newq_ (Q := qP) 0 hP hD rfl hy_219 (qP_v hv_274 (by decide) ⟨⟨by have _w := hv_270; have _x := hv_274; omega, by have _w := hv_270; have _x := hv_274; omega⟩, by have _w := hv_270; have _x := hv_274; omega⟩)
              have hP : va_P G.1 classes [(b19, .inl (G.2 0, 520, .inl f_275)), (b3, .inl (G.2 0, 503, .inl b56)), (b0, .inr (12, [.int b2, .ref b3, .ref b4, .ref b5, .ref b6, .int b7, .ref b8, .int b9, .int b10, .int b11, .int b12, .ref b13, .ref b14, .ref b15, .int b16, .ref b17, .ref b18, .ref b19, .ref b20, .ref b21, .ref b22, .ref b23, .ref b24, .ref b25, .ref b26, .ref b27, .ref b28, .int b29, .ref b30, .ref b31, .int b32, .int b33, .int b34, .int b35, .ref b36, .ref b37, .ref b38, .ref b39, .ref b40, .ref b41, .ref b42, .int b43, .ref b44, .ref b45, .int b46, .ref b47, .ref b48, .ref b49, .ref b50, .ref b51, .int b52, .ref b53, .ref b54, .ref b55])), (b17, .inl (G.2 0, 2, .inl f_263)), (b18, .inl (G.2 0, 4820, .inl f_264)), (b21, .inl (G.2 0, 482, .inl f_265))] H := hP
              have hD := z_tie hP hD rfl
              obtain ⟨v_276, ev_276⟩ : ∃ z : Int32, z = y_215 + 1 := ⟨_, rfl⟩
              obtain ⟨qv_276, hv_276⟩ := zI_add (l := 1) (h := 12) hv_234 zc_1 ev_276 (by decide)
              rw [li_1] at qv_276
              refine lv_iinc (v := v_276) (lv' := [(5, .int v_276), (4, .int v_269), (6, .int v_245), (3, .int y_138), (0, .ref b0), (1, .int 1), (2, .int b1)]) hx hb d_Model_layPrefixes_140 hl (k := 2) rfl (by rw [ev_276]; rfl) (by decide) rfl (fun ls hl => ?_)
              refine lv_goto (tgt := 44) hx hb d_Model_layPrefixes_143 (by decide) ?_
              exact ihk_214 (v_276) (v_269) (f_263) (f_264) (f_275) (f_265) _ _ _ (zI.wk (l' := 0) (h' := 12) hv_276 (by decide)) hv_270 hf_263 hf_264 hf_275 hf_265 (by omega) (by omega) hfx_267 (by have _l0 := li_0; have _l1 := li_1; have p9 := z_pl hv_274 (by decide); intro t i h1 h2 h3; rw [uf_275, z_at]; split; omega; have := hli_224 t i h1 h2 h3; omega) (by have _l0 := li_0; have _l1 := li_1; have p9 := z_pl hv_274 (by decide); intro i hi; rw [uf_275, z_at]; split; omega; have := hli_225 i (by omega); omega) trivial (zm_up qv_276 hmk_214 (by decide)) (hP.sub [0, 3, 4, 5, 2, 1] rfl) (hD.sub [0, 3, 4, 5, 2, 1] (by decide) rfl) hS (lv_sub hl [0, 1, 3, 4, 5, 6] rfl)
theorem d_Model_areAlike_0 : decode prog_14_method_30_code 0 = .ok (.aload_n 0, 1) := by decide +kernel
theorem d_Model_areAlike_1 : decode prog_14_method_30_code 1 = .ok (.getfield 52, 3) := by decide +kernel
theorem d_Model_areAlike_4 : decode prog_14_method_30_code 4 = .ok (.iload_n 1, 1) := by decide +kernel
theorem d_Model_areAlike_5 : decode prog_14_method_30_code 5 = .ok (.iaload, 1) := by decide +kernel
theorem d_Model_areAlike_6 : decode prog_14_method_30_code 6 = .ok (.aload_n 0, 1) := by decide +kernel
theorem d_Model_areAlike_7 : decode prog_14_method_30_code 7 = .ok (.getfield 52, 3) := by decide +kernel
theorem d_Model_areAlike_10 : decode prog_14_method_30_code 10 = .ok (.iload_n 2, 1) := by decide +kernel
theorem d_Model_areAlike_11 : decode prog_14_method_30_code 11 = .ok (.iaload, 1) := by decide +kernel
theorem d_Model_areAlike_12 : decode prog_14_method_30_code 12 = .ok (.if_icmp .ne 7, 3) := by decide +kernel
theorem d_Model_areAlike_15 : decode prog_14_method_30_code 15 = .ok (.iconst 1, 1) := by decide +kernel
theorem d_Model_areAlike_16 : decode prog_14_method_30_code 16 = .ok (.goto 4, 3) := by decide +kernel
theorem d_Model_areAlike_19 : decode prog_14_method_30_code 19 = .ok (.iconst 0, 1) := by decide +kernel
theorem d_Model_areAlike_20 : decode prog_14_method_30_code 20 = .ok (.istore_n 3, 1) := by decide +kernel
theorem d_Model_areAlike_21 : decode prog_14_method_30_code 21 = .ok (.iconst 0, 1) := by decide +kernel
theorem d_Model_areAlike_22 : decode prog_14_method_30_code 22 = .ok (.istore 4, 2) := by decide +kernel
theorem d_Model_areAlike_24 : decode prog_14_method_30_code 24 = .ok (.iload_n 3, 1) := by decide +kernel
theorem d_Model_areAlike_25 : decode prog_14_method_30_code 25 = .ok (.ifCond .eq 53, 3) := by decide +kernel
theorem d_Model_areAlike_28 : decode prog_14_method_30_code 28 = .ok (.iload 4, 2) := by decide +kernel
theorem d_Model_areAlike_30 : decode prog_14_method_30_code 30 = .ok (.aload_n 0, 1) := by decide +kernel
theorem d_Model_areAlike_31 : decode prog_14_method_30_code 31 = .ok (.getfield 52, 3) := by decide +kernel
theorem d_Model_areAlike_34 : decode prog_14_method_30_code 34 = .ok (.iload_n 1, 1) := by decide +kernel
theorem d_Model_areAlike_35 : decode prog_14_method_30_code 35 = .ok (.iaload, 1) := by decide +kernel
theorem d_Model_areAlike_36 : decode prog_14_method_30_code 36 = .ok (.if_icmp .ge 42, 3) := by decide +kernel
theorem d_Model_areAlike_39 : decode prog_14_method_30_code 39 = .ok (.aload_n 0, 1) := by decide +kernel
theorem d_Model_areAlike_40 : decode prog_14_method_30_code 40 = .ok (.getfield 49, 3) := by decide +kernel
theorem d_Model_areAlike_43 : decode prog_14_method_30_code 43 = .ok (.bipush 20, 2) := by decide +kernel
theorem d_Model_areAlike_45 : decode prog_14_method_30_code 45 = .ok (.iload_n 1, 1) := by decide +kernel
theorem d_Model_areAlike_46 : decode prog_14_method_30_code 46 = .ok (.imul, 1) := by decide +kernel
theorem d_Model_areAlike_47 : decode prog_14_method_30_code 47 = .ok (.iload 4, 2) := by decide +kernel
theorem d_Model_areAlike_49 : decode prog_14_method_30_code 49 = .ok (.iadd, 1) := by decide +kernel
theorem d_Model_areAlike_50 : decode prog_14_method_30_code 50 = .ok (.iaload, 1) := by decide +kernel
theorem d_Model_areAlike_51 : decode prog_14_method_30_code 51 = .ok (.aload_n 0, 1) := by decide +kernel
theorem d_Model_areAlike_52 : decode prog_14_method_30_code 52 = .ok (.getfield 49, 3) := by decide +kernel
theorem d_Model_areAlike_55 : decode prog_14_method_30_code 55 = .ok (.bipush 20, 2) := by decide +kernel
theorem d_Model_areAlike_57 : decode prog_14_method_30_code 57 = .ok (.iload_n 2, 1) := by decide +kernel
theorem d_Model_areAlike_58 : decode prog_14_method_30_code 58 = .ok (.imul, 1) := by decide +kernel
theorem d_Model_areAlike_59 : decode prog_14_method_30_code 59 = .ok (.iload 4, 2) := by decide +kernel
theorem d_Model_areAlike_61 : decode prog_14_method_30_code 61 = .ok (.iadd, 1) := by decide +kernel
theorem d_Model_areAlike_62 : decode prog_14_method_30_code 62 = .ok (.iaload, 1) := by decide +kernel
theorem d_Model_areAlike_63 : decode prog_14_method_30_code 63 = .ok (.if_icmp .ne 7, 3) := by decide +kernel
theorem d_Model_areAlike_66 : decode prog_14_method_30_code 66 = .ok (.iconst 1, 1) := by decide +kernel
theorem d_Model_areAlike_67 : decode prog_14_method_30_code 67 = .ok (.goto 4, 3) := by decide +kernel
theorem d_Model_areAlike_70 : decode prog_14_method_30_code 70 = .ok (.iconst 0, 1) := by decide +kernel
theorem d_Model_areAlike_71 : decode prog_14_method_30_code 71 = .ok (.istore_n 3, 1) := by decide +kernel
theorem d_Model_areAlike_72 : decode prog_14_method_30_code 72 = .ok (.iinc 4 1, 3) := by decide +kernel
theorem d_Model_areAlike_75 : decode prog_14_method_30_code 75 = .ok (.goto (-51), 3) := by decide +kernel
theorem d_Model_areAlike_78 : decode prog_14_method_30_code 78 = .ok (.iload_n 3, 1) := by decide +kernel
theorem d_Model_areAlike_79 : decode prog_14_method_30_code 79 = .ok (.ireturn, 1) := by decide +kernel
abbrev m_s1_Model_areAlike : Room := { frames := 0, cells := 0, slots := 0, locals := 0 }
set_option maxHeartbeats 4000000 in
set_option maxRecDepth 100000 in
theorem s1_Model_areAlike (l : Launch) (G : zG) (b0 : Nat) (b1 : Int32) (b2 : Int32) (b3 : Int32) (b4 : Nat) (b5 : Nat) (b6 : Nat) (b7 : Nat) (b8 : Int32) (b9 : Nat) (b10 : Int32) (b11 : Int32) (b12 : Int32) (b13 : Int32) (b14 : Nat) (b15 : Nat) (b16 : Nat) (b17 : Int32) (b18 : Nat) (b19 : Nat) (b20 : Nat) (b21 : Nat) (b22 : Nat) (b23 : Nat) (b24 : Nat) (b25 : Nat) (b26 : Nat) (b27 : Nat) (b28 : Nat) (b29 : Nat) (b30 : Int32) (b31 : Nat) (b32 : Nat) (b33 : Int32) (b34 : Int32) (b35 : Int32) (b36 : Int32) (b37 : Nat) (b38 : Nat) (b39 : Nat) (b40 : Nat) (b41 : Nat) (b42 : Nat) (b43 : Nat) (b44 : Int32) (b45 : Nat) (b46 : Nat) (b47 : Int32) (b48 : Nat) (b49 : Nat) (b50 : Nat) (b51 : Nat) (b52 : Nat) (b53 : Int32) (b54 : Nat) (b55 : Nat) (b56 : Nat) (b57 : Nat → Int32) (b58 : Nat → Int32) (hb1 : zI b1 0 481) (hb2 : zI b2 0 481) (hb8 : zI b8 0 8) (hb10 : zI b10 0 240) (hb11 : zI b11 0 240) (hb13 : zI b13 0 1) (hb17 : zI b17 0 12) (hb30 : zI b30 0 1) (hb33 : zI b33 0 1) (hb44 : zI b44 0 1000) (hb47 : zI b47 0 1000) (hb53 : zI b53 0 400) (hb58 : zqa qC b58) : zM l G y_Model_areAlike prog_14_method_30_code 5 (Option.some Jvm.ClassFile.FieldType.boolean) m_s1_Model_areAlike [.ref b0, .int b1, .int b2] [(b0, .inr (12, [.int b3, .ref b4, .ref b5, .ref b6, .ref b7, .int b8, .ref b9, .int b10, .int b11, .int b12, .int b13, .ref b14, .ref b15, .ref b16, .int b17, .ref b18, .ref b19, .ref b20, .ref b21, .ref b22, .ref b23, .ref b24, .ref b25, .ref b26, .ref b27, .ref b28, .ref b29, .int b30, .ref b31, .ref b32, .int b33, .int b34, .int b35, .int b36, .ref b37, .ref b38, .ref b39, .ref b40, .ref b41, .ref b42, .ref b43, .int b44, .ref b45, .ref b46, .int b47, .ref b48, .ref b49, .ref b50, .ref b51, .ref b52, .int b53, .ref b54, .ref b55, .ref b56])), (b21, .inl (G.2 0, 9640, .inl b57)), (b22, .inl (G.2 0, 482, .inl b58))] (fun v w => ∃ (e0 : Int32), v = some (.int e0) ∧ w = [(b0, .inr (12, [.int b3, .ref b4, .ref b5, .ref b6, .ref b7, .int b8, .ref b9, .int b10, .int b11, .int b12, .int b13, .ref b14, .ref b15, .ref b16, .int b17, .ref b18, .ref b19, .ref b20, .ref b21, .ref b22, .ref b23, .ref b24, .ref b25, .ref b26, .ref b27, .ref b28, .ref b29, .int b30, .ref b31, .ref b32, .int b33, .int b34, .int b35, .int b36, .ref b37, .ref b38, .ref b39, .ref b40, .ref b41, .ref b42, .ref b43, .int b44, .ref b45, .ref b46, .int b47, .ref b48, .ref b49, .ref b50, .ref b51, .ref b52, .int b53, .ref b54, .ref b55, .ref b56])), (b21, .inl (G.2 0, 9640, .inl b57)), (b22, .inl (G.2 0, 482, .inl b58))] ∧ (zI e0 0 1)) := by
  refine z_start (by decide +kernel) (Nat.le_of_ble_eq_true rfl) ?_
  intro p e s m below meth c A Z hr hnm hA hP hD hS ls hl
  have Z : zC p s m _ meth c prog_14_method_30_code 5 "TraceMachinesModel" G := Z
  obtain ⟨hx, hb, hml, hown, hts, hK, hN, hlocks⟩ := id Z
  have hl : lv_has ls 5 [(0, .ref b0), (1, .int b1), (2, .int b2)] := hl
  refine lv_aload_n hx hb d_Model_areAlike_0 rfl (lv_at hl 0 rfl) ?_
  refine va_get (D := G.1) (ci := 12) (v := .ref b22) (C := R_Model) (T := F_Model) (N := 54) hx hb hts i_Model hown hK hP 0 rfl rfl 19 (by decide) (hts _ q1128) (fun _ h9 => h9) rfl d_Model_areAlike_1 ?_
  refine lv_iload_n hx hb d_Model_areAlike_4 rfl (lv_at hl 1 rfl) ?_
  refine va_iald hx hb hK hP 2 0 rfl rfl (zI.inn hb1 (by decide)) d_Model_areAlike_5 ?_
  refine lv_topi (fun v_1 ev_1 => ?_)
  obtain ⟨hv_1, kv_1⟩ := zQC.ld hb58 hb1 ev_1 (by decide)
  refine lv_aload_n hx hb d_Model_areAlike_6 rfl (lv_at hl 0 rfl) ?_
  refine va_get (D := G.1) (ci := 12) (v := .ref b22) (C := R_Model) (T := F_Model) (N := 54) hx hb hts i_Model hown hK hP 0 rfl rfl 19 (by decide) (hts _ q1128) (fun _ h9 => h9) rfl d_Model_areAlike_7 ?_
  refine lv_iload_n hx hb d_Model_areAlike_10 rfl (lv_at hl 2 rfl) ?_
  refine va_iald hx hb hK hP 2 0 rfl rfl (zI.inn hb2 (by decide)) d_Model_areAlike_11 ?_
  refine lv_topi (fun v_2 ev_2 => ?_)
  obtain ⟨hv_2, kv_2⟩ := zQC.ld hb58 hb2 ev_2 (by decide)
  refine lv_icmp_ne (tgt := 19) hx hb d_Model_areAlike_12 (by decide) (fun hc_3 => ?_) (fun hc_3 => ?_)
  · have _nhc_3 := hc_3
    have ni_4 : ¬ (v_1 : Int32).toInt = (v_2 : Int32).toInt := fun z => hc_3 ((fa_eq _ _).mpr z)
    refine lv_iconst (v := 0) hx hb d_Model_areAlike_19 (by decide) ?_
    refine lv_istore_n (lv' := [(3, .int 0), (0, .ref b0), (1, .int b1), (2, .int b2)]) hx hb d_Model_areAlike_20 rfl hl (by decide) rfl (fun ls hl => ?_)
    refine lv_iconst (v := 0) hx hb d_Model_areAlike_21 (by decide) ?_
    refine lv_istore (lv' := [(4, .int 0), (3, .int 0), (0, .ref b0), (1, .int b1), (2, .int b2)]) hx hb d_Model_areAlike_22 hl (by decide) rfl (fun ls hl => ?_)
    suffices key : ∀ (k_32 : Nat) (y_33 : Int32) (y_34 : Int32) (H : Heap) (locs : List Loc) (ls : Array Slot), (zI y_33 0 260) → (zI y_34 0 1) → ((y_34 : Int32).toInt = 0 ∨ b58 b1.toNatClampNeg = b58 b2.toNatClampNeg) → (260 : Int) - y_33.toInt < (k_32 : Int) → va_P G.1 classes [(b0, .inr (12, [.int b3, .ref b4, .ref b5, .ref b6, .ref b7, .int b8, .ref b9, .int b10, .int b11, .int b12, .int b13, .ref b14, .ref b15, .ref b16, .int b17, .ref b18, .ref b19, .ref b20, .ref b21, .ref b22, .ref b23, .ref b24, .ref b25, .ref b26, .ref b27, .ref b28, .ref b29, .int b30, .ref b31, .ref b32, .int b33, .int b34, .int b35, .int b36, .ref b37, .ref b38, .ref b39, .ref b40, .ref b41, .ref b42, .ref b43, .int b44, .ref b45, .ref b46, .int b47, .ref b48, .ref b49, .ref b50, .ref b51, .ref b52, .int b53, .ref b54, .ref b55, .ref b56])), (b21, .inl (G.2 0, 9640, .inl b57)), (b22, .inl (G.2 0, 482, .inl b58))] H → va_D A [(b0, .inr (12, [.int b3, .ref b4, .ref b5, .ref b6, .ref b7, .int b8, .ref b9, .int b10, .int b11, .int b12, .int b13, .ref b14, .ref b15, .ref b16, .int b17, .ref b18, .ref b19, .ref b20, .ref b21, .ref b22, .ref b23, .ref b24, .ref b25, .ref b26, .ref b27, .ref b28, .ref b29, .int b30, .ref b31, .ref b32, .int b33, .int b34, .int b35, .int b36, .ref b37, .ref b38, .ref b39, .ref b40, .ref b41, .ref b42, .ref b43, .int b44, .ref b45, .ref b46, .int b47, .ref b48, .ref b49, .ref b50, .ref b51, .ref b52, .int b53, .ref b54, .ref b55, .ref b56])), (b21, .inl (G.2 0, 9640, .inl b57)), (b22, .inl (G.2 0, 482, .inl b58))] → va_S A s.heap H locs → lv_has ls 5 [(4, .int y_33), (3, .int y_34), (0, .ref b0), (1, .int b1), (2, .int b2)] → W p l e m_s1_Model_areAlike s m ([.ref b0, .int b1, .int b2] : List Value).toArray below meth c H locs 0 0 (MQ below (zQ G (fun v w => ∃ (e0 : Int32), v = some (.int e0) ∧ w = [(b0, .inr (12, [.int b3, .ref b4, .ref b5, .ref b6, .ref b7, .int b8, .ref b9, .int b10, .int b11, .int b12, .int b13, .ref b14, .ref b15, .ref b16, .int b17, .ref b18, .ref b19, .ref b20, .ref b21, .ref b22, .ref b23, .ref b24, .ref b25, .ref b26, .ref b27, .ref b28, .ref b29, .int b30, .ref b31, .ref b32, .int b33, .int b34, .int b35, .int b36, .ref b37, .ref b38, .ref b39, .ref b40, .ref b41, .ref b42, .ref b43, .int b44, .ref b45, .ref b46, .int b47, .ref b48, .ref b49, .ref b50, .ref b51, .ref b52, .int b53, .ref b54, .ref b55, .ref b56])), (b21, .inl (G.2 0, 9640, .inl b57)), (b22, .inl (G.2 0, 482, .inl b58))] ∧ (zI e0 0 1)) A) ([.ref b0, .int b1, .int b2] : List Value).toArray s m_s1_Model_areAlike.cells m_s1_Model_areAlike.slots A) (F0 m 24 ls []) by
      exact key 261 (0) (0) _ _ _ (zI.wk (l' := 0) (h' := 260) zc_0 (by decide)) (zI.wk (l' := 0) (h' := 1) zc_0 (by decide)) (Or.inl li_0) (zm_upi (zI.wk (l' := 0) (h' := 260) zc_0 (by decide)) (by decide)) hP hD hS (lv_sub hl [0, 1, 2, 3, 4] rfl)
    intro k_32
    induction k_32 with
    | zero =>
      intro y_33 y_34 H locs ls hy_33 hy_34 hli_35 hmk_32 hP hD hS hl
      exact (zm_up0 hy_33 hmk_32).elim
    | succ k_32 ihk_32 =>
      intro y_33 y_34 H locs ls hy_33 hy_34 hli_35 hmk_32 hP hD hS hl
      refine lv_iload_n hx hb d_Model_areAlike_24 rfl (lv_at hl 1 rfl) ?_
      refine lv_if_eq (tgt := 78) hx hb d_Model_areAlike_25 (by decide) (fun hc_36 => ?_) (fun hc_36 => ?_)
      · have _nhc_36 := hc_36
        have ni_37 := (fa_eq _ _).mp hc_36
        rw [li_0] at ni_37
        have hv_38 : zI y_34 0 0 := zI.eq_l hy_34 zc_0 hc_36
        refine lv_iload_n hx hb d_Model_areAlike_78 rfl (lv_at hl 1 rfl) ?_
        exact z_zret hx hb hr hlocks (zi_nb (zI.wk (l' := 0) (h' := 1) hv_38 (by decide))) hP hD hS (Nat.le_of_ble_eq_true rfl) (Nat.le_of_ble_eq_true rfl) d_Model_areAlike_79 ⟨y_34, rfl, rfl, (zI.wk (l' := 0) (h' := 1) hv_38 (by decide))⟩
      · have _nhc_36 := hc_36
        have ni_39 : ¬ (y_34 : Int32).toInt = (0 : Int32).toInt := fun z => hc_36 ((fa_eq _ _).mpr z)
        simp only [li_0] at ni_39
        have hv_40 : zI y_34 1 1 := zI.ne_lo hy_34 zc_0 hc_36 (by decide)
        refine lv_iload hx hb d_Model_areAlike_28 (lv_at hl 0 rfl) ?_
        refine lv_aload_n hx hb d_Model_areAlike_30 rfl (lv_at hl 2 rfl) ?_
        refine va_get (D := G.1) (ci := 12) (v := .ref b22) (C := R_Model) (T := F_Model) (N := 54) hx hb hts i_Model hown hK hP 0 rfl rfl 19 (by decide) (hts _ q1128) (fun _ h9 => h9) rfl d_Model_areAlike_31 ?_
        refine lv_iload_n hx hb d_Model_areAlike_34 rfl (lv_at hl 3 rfl) ?_
        refine va_iald hx hb hK hP 2 0 rfl rfl (zI.inn hb1 (by decide)) d_Model_areAlike_35 ?_
        refine lv_topi (fun v_41 ev_41 => ?_)
        obtain rfl : v_1 = v_41 := ev_1.trans ev_41.symm
        refine lv_icmp_ge (tgt := 78) hx hb d_Model_areAlike_36 (by decide) (fun hc_42 => ?_) (fun hc_42 => ?_)
        · have _nhc_42 := hc_42
          have ni_43 := (fa_le _ _).mp hc_42
          refine lv_iload_n hx hb d_Model_areAlike_78 rfl (lv_at hl 1 rfl) ?_
          exact z_zret hx hb hr hlocks (zi_nb (zI.wk (l' := 0) (h' := 1) hv_40 (by decide))) hP hD hS (Nat.le_of_ble_eq_true rfl) (Nat.le_of_ble_eq_true rfl) d_Model_areAlike_79 ⟨y_34, rfl, rfl, (zI.wk (l' := 0) (h' := 1) hv_40 (by decide))⟩
        · have _nhc_42 := hc_42
          have ni_44 := (fa_lt _ _).mp (zi_nle hc_42)
          have hv_45 : zI y_33 0 259 := zI.lt_l hy_33 hv_1 (zi_nle hc_42) (by decide)
          have hv_46 : zI v_1 1 260 := zI.lt_r hy_33 hv_1 (zi_nle hc_42) (by decide)
          refine lv_aload_n hx hb d_Model_areAlike_39 rfl (lv_at hl 2 rfl) ?_
          refine va_get (D := G.1) (ci := 12) (v := .ref b21) (C := R_Model) (T := F_Model) (N := 54) hx hb hts i_Model hown hK hP 0 rfl rfl 18 (by decide) (hts _ q1127) (fun _ h9 => h9) rfl d_Model_areAlike_40 ?_
          refine lv_bipush (v := 20) hx hb d_Model_areAlike_43 (by decide) ?_
          refine lv_iload_n hx hb d_Model_areAlike_45 rfl (lv_at hl 3 rfl) ?_
          refine lv_imul hx hb d_Model_areAlike_46 ?_
          refine lv_topi (fun v_47 ev_47 => ?_)
          obtain ⟨qv_47, hv_47⟩ := zI_mul (l := 0) (h := 9620) zc_20 hb1 ev_47 (by decide)
          rw [li_20] at qv_47
          refine lv_iload hx hb d_Model_areAlike_47 (lv_at hl 0 rfl) ?_
          refine lv_iadd hx hb d_Model_areAlike_49 ?_
          refine lv_topi (fun v_48 ev_48 => ?_)
          obtain ⟨qv_48, hv_48⟩ := zI_add (l := 0) (h := 9879) hv_47 hv_45 ev_48 (by decide)
          have hv_49 : zI v_48 0 9639 := ⟨by omega, by omega⟩
          refine va_iald hx hb hK hP 1 0 rfl rfl (zI.inn hv_49 (by decide)) d_Model_areAlike_50 ?_
          refine lv_topi (fun v_50 ev_50 => ?_)
          refine lv_aload_n hx hb d_Model_areAlike_51 rfl (lv_at hl 2 rfl) ?_
          refine va_get (D := G.1) (ci := 12) (v := .ref b21) (C := R_Model) (T := F_Model) (N := 54) hx hb hts i_Model hown hK hP 0 rfl rfl 18 (by decide) (hts _ q1127) (fun _ h9 => h9) rfl d_Model_areAlike_52 ?_
          refine lv_bipush (v := 20) hx hb d_Model_areAlike_55 (by decide) ?_
          refine lv_iload_n hx hb d_Model_areAlike_57 rfl (lv_at hl 4 rfl) ?_
          refine lv_imul hx hb d_Model_areAlike_58 ?_
          refine lv_topi (fun v_51 ev_51 => ?_)
          obtain ⟨qv_51, hv_51⟩ := zI_mul (l := 0) (h := 9620) zc_20 hb2 ev_51 (by decide)
          rw [li_20] at qv_51
          refine lv_iload hx hb d_Model_areAlike_59 (lv_at hl 0 rfl) ?_
          refine lv_iadd hx hb d_Model_areAlike_61 ?_
          refine lv_topi (fun v_52 ev_52 => ?_)
          obtain ⟨qv_52, hv_52⟩ := zI_add (l := 0) (h := 9879) hv_51 hv_45 ev_52 (by decide)
          have _wx_53 : v_1.toInt = v_2.toInt := by rcases hli_35 with h9 | h9; exact absurd h9 (by omega); rw [ev_1, ev_2, h9]
          have hv_54 : zI v_52 0 9639 := ⟨by omega, by omega⟩
          refine va_iald hx hb hK hP 1 0 rfl rfl (zI.inn hv_54 (by decide)) d_Model_areAlike_62 ?_
          refine lv_topi (fun v_55 ev_55 => ?_)
          refine lv_icmp_ne (tgt := 70) hx hb d_Model_areAlike_63 (by decide) (fun hc_56 => ?_) (fun hc_56 => ?_)
          · have _nhc_56 := hc_56
            have ni_57 : ¬ (v_50 : Int32).toInt = (v_55 : Int32).toInt := fun z => hc_56 ((fa_eq _ _).mpr z)
            refine lv_iconst (v := 0) hx hb d_Model_areAlike_70 (by decide) ?_
            refine lv_istore_n (lv' := [(3, .int 0), (4, .int y_33), (0, .ref b0), (1, .int b1), (2, .int b2)]) hx hb d_Model_areAlike_71 rfl hl (by decide) rfl (fun ls hl => ?_)
            obtain ⟨v_58, ev_58⟩ : ∃ z : Int32, z = y_33 + 1 := ⟨_, rfl⟩
            obtain ⟨qv_58, hv_58⟩ := zI_add (l := 1) (h := 260) hv_45 zc_1 ev_58 (by decide)
            rw [li_1] at qv_58
            refine lv_iinc (v := v_58) (lv' := [(4, .int v_58), (3, .int 0), (0, .ref b0), (1, .int b1), (2, .int b2)]) hx hb d_Model_areAlike_72 hl (k := 1) rfl (by rw [ev_58]; rfl) (by decide) rfl (fun ls hl => ?_)
            refine lv_goto (tgt := 24) hx hb d_Model_areAlike_75 (by decide) ?_
            exact ihk_32 (v_58) (0) _ _ _ (zI.wk (l' := 0) (h' := 260) hv_58 (by decide)) (zI.wk (l' := 0) (h' := 1) zc_0 (by decide)) (Or.inr (by rcases hli_35 with h9 | h9; exact absurd h9 (by omega); exact h9)) (zm_up qv_58 hmk_32 (by decide)) hP hD hS (lv_sub hl [0, 1, 2, 3, 4] rfl)
          · have _nhc_56 := hc_56
            have ni_59 := (fa_eq _ _).mp hc_56
            refine lv_iconst (v := 1) hx hb d_Model_areAlike_66 (by decide) ?_
            refine lv_goto (tgt := 71) hx hb d_Model_areAlike_67 (by decide) ?_
            refine lv_istore_n (lv' := [(3, .int 1), (4, .int y_33), (0, .ref b0), (1, .int b1), (2, .int b2)]) hx hb d_Model_areAlike_71 rfl hl (by decide) rfl (fun ls hl => ?_)
            obtain ⟨v_60, ev_60⟩ : ∃ z : Int32, z = y_33 + 1 := ⟨_, rfl⟩
            obtain ⟨qv_60, hv_60⟩ := zI_add (l := 1) (h := 260) hv_45 zc_1 ev_60 (by decide)
            rw [li_1] at qv_60
            refine lv_iinc (v := v_60) (lv' := [(4, .int v_60), (3, .int 1), (0, .ref b0), (1, .int b1), (2, .int b2)]) hx hb d_Model_areAlike_72 hl (k := 1) rfl (by rw [ev_60]; rfl) (by decide) rfl (fun ls hl => ?_)
            refine lv_goto (tgt := 24) hx hb d_Model_areAlike_75 (by decide) ?_
            exact ihk_32 (v_60) (1) _ _ _ (zI.wk (l' := 0) (h' := 260) hv_60 (by decide)) (zI.wk (l' := 0) (h' := 1) zc_1 (by decide)) (Or.inr (by rcases hli_35 with h9 | h9; exact absurd h9 (by omega); exact h9)) (zm_up qv_60 hmk_32 (by decide)) hP hD hS (lv_sub hl [0, 1, 2, 3, 4] rfl)
  · have _nhc_3 := hc_3
    have ni_61 := (fa_eq _ _).mp hc_3
    refine lv_iconst (v := 1) hx hb d_Model_areAlike_15 (by decide) ?_
    refine lv_goto (tgt := 20) hx hb d_Model_areAlike_16 (by decide) ?_
    refine lv_istore_n (lv' := [(3, .int 1), (0, .ref b0), (1, .int b1), (2, .int b2)]) hx hb d_Model_areAlike_20 rfl hl (by decide) rfl (fun ls hl => ?_)
    refine lv_iconst (v := 0) hx hb d_Model_areAlike_21 (by decide) ?_
    refine lv_istore (lv' := [(4, .int 0), (3, .int 1), (0, .ref b0), (1, .int b1), (2, .int b2)]) hx hb d_Model_areAlike_22 hl (by decide) rfl (fun ls hl => ?_)
    suffices key : ∀ (k_89 : Nat) (y_90 : Int32) (y_91 : Int32) (H : Heap) (locs : List Loc) (ls : Array Slot), (zI y_90 0 260) → (zI y_91 0 1) → ((y_91 : Int32).toInt = 0 ∨ b58 b1.toNatClampNeg = b58 b2.toNatClampNeg) → (260 : Int) - y_90.toInt < (k_89 : Int) → va_P G.1 classes [(b0, .inr (12, [.int b3, .ref b4, .ref b5, .ref b6, .ref b7, .int b8, .ref b9, .int b10, .int b11, .int b12, .int b13, .ref b14, .ref b15, .ref b16, .int b17, .ref b18, .ref b19, .ref b20, .ref b21, .ref b22, .ref b23, .ref b24, .ref b25, .ref b26, .ref b27, .ref b28, .ref b29, .int b30, .ref b31, .ref b32, .int b33, .int b34, .int b35, .int b36, .ref b37, .ref b38, .ref b39, .ref b40, .ref b41, .ref b42, .ref b43, .int b44, .ref b45, .ref b46, .int b47, .ref b48, .ref b49, .ref b50, .ref b51, .ref b52, .int b53, .ref b54, .ref b55, .ref b56])), (b21, .inl (G.2 0, 9640, .inl b57)), (b22, .inl (G.2 0, 482, .inl b58))] H → va_D A [(b0, .inr (12, [.int b3, .ref b4, .ref b5, .ref b6, .ref b7, .int b8, .ref b9, .int b10, .int b11, .int b12, .int b13, .ref b14, .ref b15, .ref b16, .int b17, .ref b18, .ref b19, .ref b20, .ref b21, .ref b22, .ref b23, .ref b24, .ref b25, .ref b26, .ref b27, .ref b28, .ref b29, .int b30, .ref b31, .ref b32, .int b33, .int b34, .int b35, .int b36, .ref b37, .ref b38, .ref b39, .ref b40, .ref b41, .ref b42, .ref b43, .int b44, .ref b45, .ref b46, .int b47, .ref b48, .ref b49, .ref b50, .ref b51, .ref b52, .int b53, .ref b54, .ref b55, .ref b56])), (b21, .inl (G.2 0, 9640, .inl b57)), (b22, .inl (G.2 0, 482, .inl b58))] → va_S A s.heap H locs → lv_has ls 5 [(4, .int y_90), (3, .int y_91), (0, .ref b0), (1, .int b1), (2, .int b2)] → W p l e m_s1_Model_areAlike s m ([.ref b0, .int b1, .int b2] : List Value).toArray below meth c H locs 0 0 (MQ below (zQ G (fun v w => ∃ (e0 : Int32), v = some (.int e0) ∧ w = [(b0, .inr (12, [.int b3, .ref b4, .ref b5, .ref b6, .ref b7, .int b8, .ref b9, .int b10, .int b11, .int b12, .int b13, .ref b14, .ref b15, .ref b16, .int b17, .ref b18, .ref b19, .ref b20, .ref b21, .ref b22, .ref b23, .ref b24, .ref b25, .ref b26, .ref b27, .ref b28, .ref b29, .int b30, .ref b31, .ref b32, .int b33, .int b34, .int b35, .int b36, .ref b37, .ref b38, .ref b39, .ref b40, .ref b41, .ref b42, .ref b43, .int b44, .ref b45, .ref b46, .int b47, .ref b48, .ref b49, .ref b50, .ref b51, .ref b52, .int b53, .ref b54, .ref b55, .ref b56])), (b21, .inl (G.2 0, 9640, .inl b57)), (b22, .inl (G.2 0, 482, .inl b58))] ∧ (zI e0 0 1)) A) ([.ref b0, .int b1, .int b2] : List Value).toArray s m_s1_Model_areAlike.cells m_s1_Model_areAlike.slots A) (F0 m 24 ls []) by
      exact key 261 (0) (1) _ _ _ (zI.wk (l' := 0) (h' := 260) zc_0 (by decide)) (zI.wk (l' := 0) (h' := 1) zc_1 (by decide)) (Or.inr (ev_1.symm.trans (((fa_eq _ _).mpr (by omega)).trans ev_2))) (zm_upi (zI.wk (l' := 0) (h' := 260) zc_0 (by decide)) (by decide)) hP hD hS (lv_sub hl [0, 1, 2, 3, 4] rfl)
    intro k_89
    induction k_89 with
    | zero =>
      intro y_90 y_91 H locs ls hy_90 hy_91 hli_92 hmk_89 hP hD hS hl
      exact (zm_up0 hy_90 hmk_89).elim
    | succ k_89 ihk_89 =>
      intro y_90 y_91 H locs ls hy_90 hy_91 hli_92 hmk_89 hP hD hS hl
      refine lv_iload_n hx hb d_Model_areAlike_24 rfl (lv_at hl 1 rfl) ?_
      refine lv_if_eq (tgt := 78) hx hb d_Model_areAlike_25 (by decide) (fun hc_93 => ?_) (fun hc_93 => ?_)
      · have _nhc_93 := hc_93
        have ni_94 := (fa_eq _ _).mp hc_93
        rw [li_0] at ni_94
        have hv_95 : zI y_91 0 0 := zI.eq_l hy_91 zc_0 hc_93
        refine lv_iload_n hx hb d_Model_areAlike_78 rfl (lv_at hl 1 rfl) ?_
        exact z_zret hx hb hr hlocks (zi_nb (zI.wk (l' := 0) (h' := 1) hv_95 (by decide))) hP hD hS (Nat.le_of_ble_eq_true rfl) (Nat.le_of_ble_eq_true rfl) d_Model_areAlike_79 ⟨y_91, rfl, rfl, (zI.wk (l' := 0) (h' := 1) hv_95 (by decide))⟩
      · have _nhc_93 := hc_93
        have ni_96 : ¬ (y_91 : Int32).toInt = (0 : Int32).toInt := fun z => hc_93 ((fa_eq _ _).mpr z)
        simp only [li_0] at ni_96
        have hv_97 : zI y_91 1 1 := zI.ne_lo hy_91 zc_0 hc_93 (by decide)
        refine lv_iload hx hb d_Model_areAlike_28 (lv_at hl 0 rfl) ?_
        refine lv_aload_n hx hb d_Model_areAlike_30 rfl (lv_at hl 2 rfl) ?_
        refine va_get (D := G.1) (ci := 12) (v := .ref b22) (C := R_Model) (T := F_Model) (N := 54) hx hb hts i_Model hown hK hP 0 rfl rfl 19 (by decide) (hts _ q1128) (fun _ h9 => h9) rfl d_Model_areAlike_31 ?_
        refine lv_iload_n hx hb d_Model_areAlike_34 rfl (lv_at hl 3 rfl) ?_
        refine va_iald hx hb hK hP 2 0 rfl rfl (zI.inn hb1 (by decide)) d_Model_areAlike_35 ?_
        refine lv_topi (fun v_98 ev_98 => ?_)
        obtain rfl : v_1 = v_98 := ev_1.trans ev_98.symm
        refine lv_icmp_ge (tgt := 78) hx hb d_Model_areAlike_36 (by decide) (fun hc_99 => ?_) (fun hc_99 => ?_)
        · have _nhc_99 := hc_99
          have ni_100 := (fa_le _ _).mp hc_99
          refine lv_iload_n hx hb d_Model_areAlike_78 rfl (lv_at hl 1 rfl) ?_
          exact z_zret hx hb hr hlocks (zi_nb (zI.wk (l' := 0) (h' := 1) hv_97 (by decide))) hP hD hS (Nat.le_of_ble_eq_true rfl) (Nat.le_of_ble_eq_true rfl) d_Model_areAlike_79 ⟨y_91, rfl, rfl, (zI.wk (l' := 0) (h' := 1) hv_97 (by decide))⟩
        · have _nhc_99 := hc_99
          have ni_101 := (fa_lt _ _).mp (zi_nle hc_99)
          have hv_102 : zI y_90 0 259 := zI.lt_l hy_90 hv_1 (zi_nle hc_99) (by decide)
          have hv_103 : zI v_1 1 260 := zI.lt_r hy_90 hv_1 (zi_nle hc_99) (by decide)
          refine lv_aload_n hx hb d_Model_areAlike_39 rfl (lv_at hl 2 rfl) ?_
          refine va_get (D := G.1) (ci := 12) (v := .ref b21) (C := R_Model) (T := F_Model) (N := 54) hx hb hts i_Model hown hK hP 0 rfl rfl 18 (by decide) (hts _ q1127) (fun _ h9 => h9) rfl d_Model_areAlike_40 ?_
          refine lv_bipush (v := 20) hx hb d_Model_areAlike_43 (by decide) ?_
          refine lv_iload_n hx hb d_Model_areAlike_45 rfl (lv_at hl 3 rfl) ?_
          refine lv_imul hx hb d_Model_areAlike_46 ?_
          refine lv_topi (fun v_104 ev_104 => ?_)
          obtain ⟨qv_104, hv_104⟩ := zI_mul (l := 0) (h := 9620) zc_20 hb1 ev_104 (by decide)
          rw [li_20] at qv_104
          refine lv_iload hx hb d_Model_areAlike_47 (lv_at hl 0 rfl) ?_
          refine lv_iadd hx hb d_Model_areAlike_49 ?_
          refine lv_topi (fun v_105 ev_105 => ?_)
          obtain ⟨qv_105, hv_105⟩ := zI_add (l := 0) (h := 9879) hv_104 hv_102 ev_105 (by decide)
          have hv_106 : zI v_105 0 9639 := ⟨by omega, by omega⟩
          refine va_iald hx hb hK hP 1 0 rfl rfl (zI.inn hv_106 (by decide)) d_Model_areAlike_50 ?_
          refine lv_topi (fun v_107 ev_107 => ?_)
          refine lv_aload_n hx hb d_Model_areAlike_51 rfl (lv_at hl 2 rfl) ?_
          refine va_get (D := G.1) (ci := 12) (v := .ref b21) (C := R_Model) (T := F_Model) (N := 54) hx hb hts i_Model hown hK hP 0 rfl rfl 18 (by decide) (hts _ q1127) (fun _ h9 => h9) rfl d_Model_areAlike_52 ?_
          refine lv_bipush (v := 20) hx hb d_Model_areAlike_55 (by decide) ?_
          refine lv_iload_n hx hb d_Model_areAlike_57 rfl (lv_at hl 4 rfl) ?_
          refine lv_imul hx hb d_Model_areAlike_58 ?_
          refine lv_topi (fun v_108 ev_108 => ?_)
          obtain ⟨qv_108, hv_108⟩ := zI_mul (l := 0) (h := 9620) zc_20 hb2 ev_108 (by decide)
          rw [li_20] at qv_108
          refine lv_iload hx hb d_Model_areAlike_59 (lv_at hl 0 rfl) ?_
          refine lv_iadd hx hb d_Model_areAlike_61 ?_
          refine lv_topi (fun v_109 ev_109 => ?_)
          obtain ⟨qv_109, hv_109⟩ := zI_add (l := 0) (h := 9879) hv_108 hv_102 ev_109 (by decide)
          have _wx_110 : v_1.toInt = v_2.toInt := by rcases hli_92 with h9 | h9; exact absurd h9 (by omega); rw [ev_1, ev_2, h9]
          have hv_111 : zI v_109 0 9639 := ⟨by omega, by omega⟩
          refine va_iald hx hb hK hP 1 0 rfl rfl (zI.inn hv_111 (by decide)) d_Model_areAlike_62 ?_
          refine lv_topi (fun v_112 ev_112 => ?_)
          refine lv_icmp_ne (tgt := 70) hx hb d_Model_areAlike_63 (by decide) (fun hc_113 => ?_) (fun hc_113 => ?_)
          · have _nhc_113 := hc_113
            have ni_114 : ¬ (v_107 : Int32).toInt = (v_112 : Int32).toInt := fun z => hc_113 ((fa_eq _ _).mpr z)
            refine lv_iconst (v := 0) hx hb d_Model_areAlike_70 (by decide) ?_
            refine lv_istore_n (lv' := [(3, .int 0), (4, .int y_90), (0, .ref b0), (1, .int b1), (2, .int b2)]) hx hb d_Model_areAlike_71 rfl hl (by decide) rfl (fun ls hl => ?_)
            obtain ⟨v_115, ev_115⟩ : ∃ z : Int32, z = y_90 + 1 := ⟨_, rfl⟩
            obtain ⟨qv_115, hv_115⟩ := zI_add (l := 1) (h := 260) hv_102 zc_1 ev_115 (by decide)
            rw [li_1] at qv_115
            refine lv_iinc (v := v_115) (lv' := [(4, .int v_115), (3, .int 0), (0, .ref b0), (1, .int b1), (2, .int b2)]) hx hb d_Model_areAlike_72 hl (k := 1) rfl (by rw [ev_115]; rfl) (by decide) rfl (fun ls hl => ?_)
            refine lv_goto (tgt := 24) hx hb d_Model_areAlike_75 (by decide) ?_
            exact ihk_89 (v_115) (0) _ _ _ (zI.wk (l' := 0) (h' := 260) hv_115 (by decide)) (zI.wk (l' := 0) (h' := 1) zc_0 (by decide)) (Or.inr (by rcases hli_92 with h9 | h9; exact absurd h9 (by omega); exact h9)) (zm_up qv_115 hmk_89 (by decide)) hP hD hS (lv_sub hl [0, 1, 2, 3, 4] rfl)
          · have _nhc_113 := hc_113
            have ni_116 := (fa_eq _ _).mp hc_113
            refine lv_iconst (v := 1) hx hb d_Model_areAlike_66 (by decide) ?_
            refine lv_goto (tgt := 71) hx hb d_Model_areAlike_67 (by decide) ?_
            refine lv_istore_n (lv' := [(3, .int 1), (4, .int y_90), (0, .ref b0), (1, .int b1), (2, .int b2)]) hx hb d_Model_areAlike_71 rfl hl (by decide) rfl (fun ls hl => ?_)
            obtain ⟨v_117, ev_117⟩ : ∃ z : Int32, z = y_90 + 1 := ⟨_, rfl⟩
            obtain ⟨qv_117, hv_117⟩ := zI_add (l := 1) (h := 260) hv_102 zc_1 ev_117 (by decide)
            rw [li_1] at qv_117
            refine lv_iinc (v := v_117) (lv' := [(4, .int v_117), (3, .int 1), (0, .ref b0), (1, .int b1), (2, .int b2)]) hx hb d_Model_areAlike_72 hl (k := 1) rfl (by rw [ev_117]; rfl) (by decide) rfl (fun ls hl => ?_)
            refine lv_goto (tgt := 24) hx hb d_Model_areAlike_75 (by decide) ?_
            exact ihk_89 (v_117) (1) _ _ _ (zI.wk (l' := 0) (h' := 260) hv_117 (by decide)) (zI.wk (l' := 0) (h' := 1) zc_1 (by decide)) (Or.inr (by rcases hli_92 with h9 | h9; exact absurd h9 (by omega); exact h9)) (zm_up qv_117 hmk_89 (by decide)) hP hD hS (lv_sub hl [0, 1, 2, 3, 4] rfl)
theorem d_Model_addFollow_0 : decode prog_14_method_28_code 0 = .ok (.bipush 20, 2) := by decide +kernel
theorem d_Model_addFollow_2 : decode prog_14_method_28_code 2 = .ok (.iload_n 1, 1) := by decide +kernel
theorem d_Model_addFollow_3 : decode prog_14_method_28_code 3 = .ok (.imul, 1) := by decide +kernel
theorem d_Model_addFollow_4 : decode prog_14_method_28_code 4 = .ok (.istore_n 3, 1) := by decide +kernel
theorem d_Model_addFollow_5 : decode prog_14_method_28_code 5 = .ok (.aload_n 0, 1) := by decide +kernel
theorem d_Model_addFollow_6 : decode prog_14_method_28_code 6 = .ok (.getfield 52, 3) := by decide +kernel
theorem d_Model_addFollow_9 : decode prog_14_method_28_code 9 = .ok (.iload_n 1, 1) := by decide +kernel
theorem d_Model_addFollow_10 : decode prog_14_method_28_code 10 = .ok (.iaload, 1) := by decide +kernel
theorem d_Model_addFollow_11 : decode prog_14_method_28_code 11 = .ok (.istore 4, 2) := by decide +kernel
theorem d_Model_addFollow_13 : decode prog_14_method_28_code 13 = .ok (.iload 4, 2) := by decide +kernel
theorem d_Model_addFollow_15 : decode prog_14_method_28_code 15 = .ok (.ifCond .le 24, 3) := by decide +kernel
theorem d_Model_addFollow_18 : decode prog_14_method_28_code 18 = .ok (.aload_n 0, 1) := by decide +kernel
theorem d_Model_addFollow_19 : decode prog_14_method_28_code 19 = .ok (.getfield 49, 3) := by decide +kernel
theorem d_Model_addFollow_22 : decode prog_14_method_28_code 22 = .ok (.iload_n 3, 1) := by decide +kernel
theorem d_Model_addFollow_23 : decode prog_14_method_28_code 23 = .ok (.iload 4, 2) := by decide +kernel
theorem d_Model_addFollow_25 : decode prog_14_method_28_code 25 = .ok (.iadd, 1) := by decide +kernel
theorem d_Model_addFollow_26 : decode prog_14_method_28_code 26 = .ok (.iconst 1, 1) := by decide +kernel
theorem d_Model_addFollow_27 : decode prog_14_method_28_code 27 = .ok (.isub, 1) := by decide +kernel
theorem d_Model_addFollow_28 : decode prog_14_method_28_code 28 = .ok (.iaload, 1) := by decide +kernel
theorem d_Model_addFollow_29 : decode prog_14_method_28_code 29 = .ok (.iload_n 2, 1) := by decide +kernel
theorem d_Model_addFollow_30 : decode prog_14_method_28_code 30 = .ok (.if_icmp .le 9, 3) := by decide +kernel
theorem d_Model_addFollow_33 : decode prog_14_method_28_code 33 = .ok (.iinc 4 (-1), 3) := by decide +kernel
theorem d_Model_addFollow_36 : decode prog_14_method_28_code 36 = .ok (.goto (-23), 3) := by decide +kernel
theorem d_Model_addFollow_39 : decode prog_14_method_28_code 39 = .ok (.iload 4, 2) := by decide +kernel
theorem d_Model_addFollow_41 : decode prog_14_method_28_code 41 = .ok (.ifCond .le 19, 3) := by decide +kernel
theorem d_Model_addFollow_44 : decode prog_14_method_28_code 44 = .ok (.aload_n 0, 1) := by decide +kernel
theorem d_Model_addFollow_45 : decode prog_14_method_28_code 45 = .ok (.getfield 49, 3) := by decide +kernel
theorem d_Model_addFollow_48 : decode prog_14_method_28_code 48 = .ok (.iload_n 3, 1) := by decide +kernel
theorem d_Model_addFollow_49 : decode prog_14_method_28_code 49 = .ok (.iload 4, 2) := by decide +kernel
theorem d_Model_addFollow_51 : decode prog_14_method_28_code 51 = .ok (.iadd, 1) := by decide +kernel
theorem d_Model_addFollow_52 : decode prog_14_method_28_code 52 = .ok (.iconst 1, 1) := by decide +kernel
theorem d_Model_addFollow_53 : decode prog_14_method_28_code 53 = .ok (.isub, 1) := by decide +kernel
theorem d_Model_addFollow_54 : decode prog_14_method_28_code 54 = .ok (.iaload, 1) := by decide +kernel
theorem d_Model_addFollow_55 : decode prog_14_method_28_code 55 = .ok (.iload_n 2, 1) := by decide +kernel
theorem d_Model_addFollow_56 : decode prog_14_method_28_code 56 = .ok (.if_icmp .ne 4, 3) := by decide +kernel
theorem d_Model_addFollow_59 : decode prog_14_method_28_code 59 = .ok (.return_, 1) := by decide +kernel
theorem d_Model_addFollow_60 : decode prog_14_method_28_code 60 = .ok (.aload_n 0, 1) := by decide +kernel
theorem d_Model_addFollow_61 : decode prog_14_method_28_code 61 = .ok (.getfield 52, 3) := by decide +kernel
theorem d_Model_addFollow_64 : decode prog_14_method_28_code 64 = .ok (.iload_n 1, 1) := by decide +kernel
theorem d_Model_addFollow_65 : decode prog_14_method_28_code 65 = .ok (.iaload, 1) := by decide +kernel
theorem d_Model_addFollow_66 : decode prog_14_method_28_code 66 = .ok (.istore 5, 2) := by decide +kernel
theorem d_Model_addFollow_68 : decode prog_14_method_28_code 68 = .ok (.iload 5, 2) := by decide +kernel
theorem d_Model_addFollow_70 : decode prog_14_method_28_code 70 = .ok (.iload 4, 2) := by decide +kernel
theorem d_Model_addFollow_72 : decode prog_14_method_28_code 72 = .ok (.if_icmp .le 29, 3) := by decide +kernel
theorem d_Model_addFollow_75 : decode prog_14_method_28_code 75 = .ok (.aload_n 0, 1) := by decide +kernel
theorem d_Model_addFollow_76 : decode prog_14_method_28_code 76 = .ok (.getfield 49, 3) := by decide +kernel
theorem d_Model_addFollow_79 : decode prog_14_method_28_code 79 = .ok (.iload_n 3, 1) := by decide +kernel
theorem d_Model_addFollow_80 : decode prog_14_method_28_code 80 = .ok (.iload 5, 2) := by decide +kernel
theorem d_Model_addFollow_82 : decode prog_14_method_28_code 82 = .ok (.iadd, 1) := by decide +kernel
theorem d_Model_addFollow_83 : decode prog_14_method_28_code 83 = .ok (.aload_n 0, 1) := by decide +kernel
theorem d_Model_addFollow_84 : decode prog_14_method_28_code 84 = .ok (.getfield 49, 3) := by decide +kernel
theorem d_Model_addFollow_87 : decode prog_14_method_28_code 87 = .ok (.iload_n 3, 1) := by decide +kernel
theorem d_Model_addFollow_88 : decode prog_14_method_28_code 88 = .ok (.iload 5, 2) := by decide +kernel
theorem d_Model_addFollow_90 : decode prog_14_method_28_code 90 = .ok (.iadd, 1) := by decide +kernel
theorem d_Model_addFollow_91 : decode prog_14_method_28_code 91 = .ok (.iconst 1, 1) := by decide +kernel
theorem d_Model_addFollow_92 : decode prog_14_method_28_code 92 = .ok (.isub, 1) := by decide +kernel
theorem d_Model_addFollow_93 : decode prog_14_method_28_code 93 = .ok (.iaload, 1) := by decide +kernel
theorem d_Model_addFollow_94 : decode prog_14_method_28_code 94 = .ok (.iastore, 1) := by decide +kernel
theorem d_Model_addFollow_95 : decode prog_14_method_28_code 95 = .ok (.iinc 5 (-1), 3) := by decide +kernel
theorem d_Model_addFollow_98 : decode prog_14_method_28_code 98 = .ok (.goto (-30), 3) := by decide +kernel
theorem d_Model_addFollow_101 : decode prog_14_method_28_code 101 = .ok (.aload_n 0, 1) := by decide +kernel
theorem d_Model_addFollow_102 : decode prog_14_method_28_code 102 = .ok (.getfield 49, 3) := by decide +kernel
theorem d_Model_addFollow_105 : decode prog_14_method_28_code 105 = .ok (.iload_n 3, 1) := by decide +kernel
theorem d_Model_addFollow_106 : decode prog_14_method_28_code 106 = .ok (.iload 4, 2) := by decide +kernel
theorem d_Model_addFollow_108 : decode prog_14_method_28_code 108 = .ok (.iadd, 1) := by decide +kernel
theorem d_Model_addFollow_109 : decode prog_14_method_28_code 109 = .ok (.iload_n 2, 1) := by decide +kernel
theorem d_Model_addFollow_110 : decode prog_14_method_28_code 110 = .ok (.iastore, 1) := by decide +kernel
theorem d_Model_addFollow_111 : decode prog_14_method_28_code 111 = .ok (.aload_n 0, 1) := by decide +kernel
theorem d_Model_addFollow_112 : decode prog_14_method_28_code 112 = .ok (.getfield 52, 3) := by decide +kernel
theorem d_Model_addFollow_115 : decode prog_14_method_28_code 115 = .ok (.iload_n 1, 1) := by decide +kernel
theorem d_Model_addFollow_116 : decode prog_14_method_28_code 116 = .ok (.dup2, 1) := by decide +kernel
theorem d_Model_addFollow_117 : decode prog_14_method_28_code 117 = .ok (.iaload, 1) := by decide +kernel
theorem d_Model_addFollow_118 : decode prog_14_method_28_code 118 = .ok (.iconst 1, 1) := by decide +kernel
theorem d_Model_addFollow_119 : decode prog_14_method_28_code 119 = .ok (.iadd, 1) := by decide +kernel
theorem d_Model_addFollow_120 : decode prog_14_method_28_code 120 = .ok (.iastore, 1) := by decide +kernel
theorem d_Model_addFollow_121 : decode prog_14_method_28_code 121 = .ok (.return_, 1) := by decide +kernel
abbrev m_s1_Model_addFollow : Room := { frames := 0, cells := 0, slots := 0, locals := 0 }
set_option maxHeartbeats 4000000 in
set_option maxRecDepth 100000 in
theorem s1_Model_addFollow (l : Launch) (G : zG) (b0 : Nat) (b1 : Int32) (b2 : Int32) (b3 : Int32) (b4 : Nat) (b5 : Nat) (b6 : Nat) (b7 : Nat) (b8 : Int32) (b9 : Nat) (b10 : Int32) (b11 : Int32) (b12 : Int32) (b13 : Int32) (b14 : Nat) (b15 : Nat) (b16 : Nat) (b17 : Int32) (b18 : Nat) (b19 : Nat) (b20 : Nat) (b21 : Nat) (b22 : Nat) (b23 : Nat) (b24 : Nat) (b25 : Nat) (b26 : Nat) (b27 : Nat) (b28 : Nat) (b29 : Nat) (b30 : Int32) (b31 : Nat) (b32 : Nat) (b33 : Int32) (b34 : Int32) (b35 : Int32) (b36 : Int32) (b37 : Nat) (b38 : Nat) (b39 : Nat) (b40 : Nat) (b41 : Nat) (b42 : Nat) (b43 : Nat) (b44 : Int32) (b45 : Nat) (b46 : Nat) (b47 : Int32) (b48 : Nat) (b49 : Nat) (b50 : Nat) (b51 : Nat) (b52 : Nat) (b53 : Int32) (b54 : Nat) (b55 : Nat) (b56 : Nat) (b57 : Nat → Int32) (b58 : Nat → Int32) (hb1 : zI b1 0 481) (hb8 : zI b8 0 8) (hb10 : zI b10 0 240) (hb11 : zI b11 0 240) (hb13 : zI b13 0 1) (hb17 : zI b17 0 12) (hb30 : zI b30 0 1) (hb33 : zI b33 0 1) (hb44 : zI b44 0 1000) (hb47 : zI b47 0 1000) (hb53 : zI b53 0 400) (hb58 : zqa qC b58) (hins : (b58 b1.toNatClampNeg).toInt + b1.toInt % 241 ≤ 259) : zM l G y_Model_addFollow prog_14_method_28_code 6 (Option.none : Option Jvm.ClassFile.FieldType) m_s1_Model_addFollow [.ref b0, .int b1, .int b2] [(b0, .inr (12, [.int b3, .ref b4, .ref b5, .ref b6, .ref b7, .int b8, .ref b9, .int b10, .int b11, .int b12, .int b13, .ref b14, .ref b15, .ref b16, .int b17, .ref b18, .ref b19, .ref b20, .ref b21, .ref b22, .ref b23, .ref b24, .ref b25, .ref b26, .ref b27, .ref b28, .ref b29, .int b30, .ref b31, .ref b32, .int b33, .int b34, .int b35, .int b36, .ref b37, .ref b38, .ref b39, .ref b40, .ref b41, .ref b42, .ref b43, .int b44, .ref b45, .ref b46, .int b47, .ref b48, .ref b49, .ref b50, .ref b51, .ref b52, .int b53, .ref b54, .ref b55, .ref b56])), (b21, .inl (G.2 0, 9640, .inl b57)), (b22, .inl (G.2 0, 482, .inl b58))] (fun v w => ∃ (e0 : Nat → Int32), ∃ (e1 : Nat → Int32), v = none ∧ w = [(b0, .inr (12, [.int b3, .ref b4, .ref b5, .ref b6, .ref b7, .int b8, .ref b9, .int b10, .int b11, .int b12, .int b13, .ref b14, .ref b15, .ref b16, .int b17, .ref b18, .ref b19, .ref b20, .ref b21, .ref b22, .ref b23, .ref b24, .ref b25, .ref b26, .ref b27, .ref b28, .ref b29, .int b30, .ref b31, .ref b32, .int b33, .int b34, .int b35, .int b36, .ref b37, .ref b38, .ref b39, .ref b40, .ref b41, .ref b42, .ref b43, .int b44, .ref b45, .ref b46, .int b47, .ref b48, .ref b49, .ref b50, .ref b51, .ref b52, .int b53, .ref b54, .ref b55, .ref b56])), (b21, .inl (G.2 0, 9640, .inl e0)), (b22, .inl (G.2 0, 482, .inl e1))] ∧ (zqa qC e1) ∧ (∀ q : Nat, (e1 q).toInt = (b58 q).toInt ∨ q = b1.toNatClampNeg ∧ (e1 q).toInt = (b58 q).toInt + 1)) := by
  refine z_start (by decide +kernel) (Nat.le_of_ble_eq_true rfl) ?_
  intro p e s m below meth c A Z hr hnm hA hP hD hS ls hl
  have Z : zC p s m _ meth c prog_14_method_28_code 6 "TraceMachinesModel" G := Z
  obtain ⟨hx, hb, hml, hown, hts, hK, hN, hlocks⟩ := id Z
  have hl : lv_has ls 6 [(0, .ref b0), (1, .int b1), (2, .int b2)] := hl
  refine lv_bipush (v := 20) hx hb d_Model_addFollow_0 (by decide) ?_
  refine lv_iload_n hx hb d_Model_addFollow_2 rfl (lv_at hl 1 rfl) ?_
  refine lv_imul hx hb d_Model_addFollow_3 ?_
  refine lv_topi (fun v_1 ev_1 => ?_)
  obtain ⟨qv_1, hv_1⟩ := zI_mul (l := 0) (h := 9620) zc_20 hb1 ev_1 (by decide)
  rw [li_20] at qv_1
  refine lv_istore_n (lv' := [(3, .int v_1), (0, .ref b0), (1, .int b1), (2, .int b2)]) hx hb d_Model_addFollow_4 rfl hl (by decide) rfl (fun ls hl => ?_)
  refine lv_aload_n hx hb d_Model_addFollow_5 rfl (lv_at hl 1 rfl) ?_
  refine va_get (D := G.1) (ci := 12) (v := .ref b22) (C := R_Model) (T := F_Model) (N := 54) hx hb hts i_Model hown hK hP 0 rfl rfl 19 (by decide) (hts _ q1128) (fun _ h9 => h9) rfl d_Model_addFollow_6 ?_
  refine lv_iload_n hx hb d_Model_addFollow_9 rfl (lv_at hl 2 rfl) ?_
  refine va_iald hx hb hK hP 2 0 rfl rfl (zI.inn hb1 (by decide)) d_Model_addFollow_10 ?_
  refine lv_topi (fun v_2 ev_2 => ?_)
  obtain ⟨hv_2, kv_2⟩ := zQC.ld hb58 hb1 ev_2 (by decide)
  have hinv_2 : v_2.toInt + b1.toInt % 241 ≤ 259 := by rw [ev_2]; exact hins
  refine lv_istore (lv' := [(4, .int v_2), (3, .int v_1), (0, .ref b0), (1, .int b1), (2, .int b2)]) hx hb d_Model_addFollow_11 hl (by decide) rfl (fun ls hl => ?_)
  suffices key : ∀ (k_109 : Nat) (y_110 : Int32) (H : Heap) (locs : List Loc) (ls : Array Slot), (zI y_110 0 260) → ((y_110 : Int32).toInt ≤ (b58 b1.toNatClampNeg).toInt) → y_110.toInt - (0) < (k_109 : Int) → va_P G.1 classes [(b0, .inr (12, [.int b3, .ref b4, .ref b5, .ref b6, .ref b7, .int b8, .ref b9, .int b10, .int b11, .int b12, .int b13, .ref b14, .ref b15, .ref b16, .int b17, .ref b18, .ref b19, .ref b20, .ref b21, .ref b22, .ref b23, .ref b24, .ref b25, .ref b26, .ref b27, .ref b28, .ref b29, .int b30, .ref b31, .ref b32, .int b33, .int b34, .int b35, .int b36, .ref b37, .ref b38, .ref b39, .ref b40, .ref b41, .ref b42, .ref b43, .int b44, .ref b45, .ref b46, .int b47, .ref b48, .ref b49, .ref b50, .ref b51, .ref b52, .int b53, .ref b54, .ref b55, .ref b56])), (b21, .inl (G.2 0, 9640, .inl b57)), (b22, .inl (G.2 0, 482, .inl b58))] H → va_D A [(b0, .inr (12, [.int b3, .ref b4, .ref b5, .ref b6, .ref b7, .int b8, .ref b9, .int b10, .int b11, .int b12, .int b13, .ref b14, .ref b15, .ref b16, .int b17, .ref b18, .ref b19, .ref b20, .ref b21, .ref b22, .ref b23, .ref b24, .ref b25, .ref b26, .ref b27, .ref b28, .ref b29, .int b30, .ref b31, .ref b32, .int b33, .int b34, .int b35, .int b36, .ref b37, .ref b38, .ref b39, .ref b40, .ref b41, .ref b42, .ref b43, .int b44, .ref b45, .ref b46, .int b47, .ref b48, .ref b49, .ref b50, .ref b51, .ref b52, .int b53, .ref b54, .ref b55, .ref b56])), (b21, .inl (G.2 0, 9640, .inl b57)), (b22, .inl (G.2 0, 482, .inl b58))] → va_S A s.heap H locs → lv_has ls 6 [(4, .int y_110), (3, .int v_1), (0, .ref b0), (1, .int b1), (2, .int b2)] → W p l e m_s1_Model_addFollow s m ([.ref b0, .int b1, .int b2] : List Value).toArray below meth c H locs 0 0 (MQ below (zQ G (fun v w => ∃ (e0 : Nat → Int32), ∃ (e1 : Nat → Int32), v = none ∧ w = [(b0, .inr (12, [.int b3, .ref b4, .ref b5, .ref b6, .ref b7, .int b8, .ref b9, .int b10, .int b11, .int b12, .int b13, .ref b14, .ref b15, .ref b16, .int b17, .ref b18, .ref b19, .ref b20, .ref b21, .ref b22, .ref b23, .ref b24, .ref b25, .ref b26, .ref b27, .ref b28, .ref b29, .int b30, .ref b31, .ref b32, .int b33, .int b34, .int b35, .int b36, .ref b37, .ref b38, .ref b39, .ref b40, .ref b41, .ref b42, .ref b43, .int b44, .ref b45, .ref b46, .int b47, .ref b48, .ref b49, .ref b50, .ref b51, .ref b52, .int b53, .ref b54, .ref b55, .ref b56])), (b21, .inl (G.2 0, 9640, .inl e0)), (b22, .inl (G.2 0, 482, .inl e1))] ∧ (zqa qC e1) ∧ (∀ q : Nat, (e1 q).toInt = (b58 q).toInt ∨ q = b1.toNatClampNeg ∧ (e1 q).toInt = (b58 q).toInt + 1)) A) ([.ref b0, .int b1, .int b2] : List Value).toArray s m_s1_Model_addFollow.cells m_s1_Model_addFollow.slots A) (F0 m 13 ls []) by
    exact key 261 (v_2) _ _ _ hv_2 (by rw [← ev_2]; omega) (zm_dni hv_2 (by decide)) hP hD hS (lv_sub hl [0, 1, 2, 3, 4] rfl)
  intro k_109
  induction k_109 with
  | zero =>
    intro y_110 H locs ls hy_110 hli_111 hmk_109 hP hD hS hl
    exact (zm_dn0 hy_110 hmk_109).elim
  | succ k_109 ihk_109 =>
    intro y_110 H locs ls hy_110 hli_111 hmk_109 hP hD hS hl
    refine lv_iload hx hb d_Model_addFollow_13 (lv_at hl 0 rfl) ?_
    refine lv_if_le (tgt := 39) hx hb d_Model_addFollow_15 (by decide) (fun hc_112 => ?_) (fun hc_112 => ?_)
    · have _nhc_112 := hc_112
      have ni_113 := (fa_le _ _).mp hc_112
      rw [li_0] at ni_113
      have hv_114 : zI y_110 0 0 := zI.le_l hy_110 zc_0 hc_112 (by decide)
      refine lv_iload hx hb d_Model_addFollow_39 (lv_at hl 0 rfl) ?_
      refine lv_if_le (tgt := 60) hx hb d_Model_addFollow_41 (by decide) (fun _ => ?_) (fun hc => zI.no_lt zc_0 hv_114 (zi_nle hc) (by decide))
      refine lv_aload_n hx hb d_Model_addFollow_60 rfl (lv_at hl 2 rfl) ?_
      refine va_get (D := G.1) (ci := 12) (v := .ref b22) (C := R_Model) (T := F_Model) (N := 54) hx hb hts i_Model hown hK hP 0 rfl rfl 19 (by decide) (hts _ q1128) (fun _ h9 => h9) rfl d_Model_addFollow_61 ?_
      refine lv_iload_n hx hb d_Model_addFollow_64 rfl (lv_at hl 3 rfl) ?_
      refine va_iald hx hb hK hP 2 0 rfl rfl (zI.inn hb1 (by decide)) d_Model_addFollow_65 ?_
      refine lv_topi (fun v_115 ev_115 => ?_)
      obtain rfl : v_2 = v_115 := ev_2.trans ev_115.symm
      refine lv_istore (lv' := [(5, .int v_2), (4, .int y_110), (3, .int v_1), (0, .ref b0), (1, .int b1), (2, .int b2)]) hx hb d_Model_addFollow_66 hl (by decide) rfl (fun ls hl => ?_)
      suffices key : ∀ (k_136 : Nat) (y_137 : Int32) (y_138 : Nat → Int32) (H : Heap) (locs : List Loc) (ls : Array Slot), (zI y_137 0 260) → ((y_137 : Int32).toInt ≤ (b58 b1.toNatClampNeg).toInt) → y_137.toInt - (0) < (k_136 : Int) → va_P G.1 classes [(b0, .inr (12, [.int b3, .ref b4, .ref b5, .ref b6, .ref b7, .int b8, .ref b9, .int b10, .int b11, .int b12, .int b13, .ref b14, .ref b15, .ref b16, .int b17, .ref b18, .ref b19, .ref b20, .ref b21, .ref b22, .ref b23, .ref b24, .ref b25, .ref b26, .ref b27, .ref b28, .ref b29, .int b30, .ref b31, .ref b32, .int b33, .int b34, .int b35, .int b36, .ref b37, .ref b38, .ref b39, .ref b40, .ref b41, .ref b42, .ref b43, .int b44, .ref b45, .ref b46, .int b47, .ref b48, .ref b49, .ref b50, .ref b51, .ref b52, .int b53, .ref b54, .ref b55, .ref b56])), (b21, .inl (G.2 0, 9640, .inl y_138)), (b22, .inl (G.2 0, 482, .inl b58))] H → va_D A [(b0, .inr (12, [.int b3, .ref b4, .ref b5, .ref b6, .ref b7, .int b8, .ref b9, .int b10, .int b11, .int b12, .int b13, .ref b14, .ref b15, .ref b16, .int b17, .ref b18, .ref b19, .ref b20, .ref b21, .ref b22, .ref b23, .ref b24, .ref b25, .ref b26, .ref b27, .ref b28, .ref b29, .int b30, .ref b31, .ref b32, .int b33, .int b34, .int b35, .int b36, .ref b37, .ref b38, .ref b39, .ref b40, .ref b41, .ref b42, .ref b43, .int b44, .ref b45, .ref b46, .int b47, .ref b48, .ref b49, .ref b50, .ref b51, .ref b52, .int b53, .ref b54, .ref b55, .ref b56])), (b21, .inl (G.2 0, 9640, .inl y_138)), (b22, .inl (G.2 0, 482, .inl b58))] → va_S A s.heap H locs → lv_has ls 6 [(5, .int y_137), (4, .int y_110), (3, .int v_1), (0, .ref b0), (1, .int b1), (2, .int b2)] → W p l e m_s1_Model_addFollow s m ([.ref b0, .int b1, .int b2] : List Value).toArray below meth c H locs 0 0 (MQ below (zQ G (fun v w => ∃ (e0 : Nat → Int32), ∃ (e1 : Nat → Int32), v = none ∧ w = [(b0, .inr (12, [.int b3, .ref b4, .ref b5, .ref b6, .ref b7, .int b8, .ref b9, .int b10, .int b11, .int b12, .int b13, .ref b14, .ref b15, .ref b16, .int b17, .ref b18, .ref b19, .ref b20, .ref b21, .ref b22, .ref b23, .ref b24, .ref b25, .ref b26, .ref b27, .ref b28, .ref b29, .int b30, .ref b31, .ref b32, .int b33, .int b34, .int b35, .int b36, .ref b37, .ref b38, .ref b39, .ref b40, .ref b41, .ref b42, .ref b43, .int b44, .ref b45, .ref b46, .int b47, .ref b48, .ref b49, .ref b50, .ref b51, .ref b52, .int b53, .ref b54, .ref b55, .ref b56])), (b21, .inl (G.2 0, 9640, .inl e0)), (b22, .inl (G.2 0, 482, .inl e1))] ∧ (zqa qC e1) ∧ (∀ q : Nat, (e1 q).toInt = (b58 q).toInt ∨ q = b1.toNatClampNeg ∧ (e1 q).toInt = (b58 q).toInt + 1)) A) ([.ref b0, .int b1, .int b2] : List Value).toArray s m_s1_Model_addFollow.cells m_s1_Model_addFollow.slots A) (F0 m 68 ls []) by
        exact key 261 (v_2) (b57) _ _ _ hv_2 (by rw [← ev_2]; omega) (zm_dni hv_2 (by decide)) hP hD hS (lv_sub hl [0, 1, 2, 3, 4, 5] rfl)
      intro k_136
      induction k_136 with
      | zero =>
        intro y_137 y_138 H locs ls hy_137 hli_139 hmk_136 hP hD hS hl
        exact (zm_dn0 hy_137 hmk_136).elim
      | succ k_136 ihk_136 =>
        intro y_137 y_138 H locs ls hy_137 hli_139 hmk_136 hP hD hS hl
        refine lv_iload hx hb d_Model_addFollow_68 (lv_at hl 0 rfl) ?_
        refine lv_iload hx hb d_Model_addFollow_70 (lv_at hl 1 rfl) ?_
        refine lv_icmp_le (tgt := 101) hx hb d_Model_addFollow_72 (by decide) (fun hc_140 => ?_) (fun hc_140 => ?_)
        · have _nhc_140 := hc_140
          have ni_141 := (fa_le _ _).mp hc_140
          have hv_142 : zI y_137 0 0 := zI.le_l hy_137 hv_114 hc_140 (by decide)
          refine lv_aload_n hx hb d_Model_addFollow_101 rfl (lv_at hl 3 rfl) ?_
          refine va_get (D := G.1) (ci := 12) (v := .ref b21) (C := R_Model) (T := F_Model) (N := 54) hx hb hts i_Model hown hK hP 0 rfl rfl 18 (by decide) (hts _ q1127) (fun _ h9 => h9) rfl d_Model_addFollow_102 ?_
          refine lv_iload_n hx hb d_Model_addFollow_105 rfl (lv_at hl 2 rfl) ?_
          refine lv_iload hx hb d_Model_addFollow_106 (lv_at hl 1 rfl) ?_
          refine lv_iadd hx hb d_Model_addFollow_108 ?_
          refine lv_topi (fun v_143 ev_143 => ?_)
          obtain ⟨qv_143, hv_143⟩ := zI_add (l := 0) (h := 9620) hv_1 hv_114 ev_143 (by decide)
          refine lv_iload_n hx hb d_Model_addFollow_109 rfl (lv_at hl 5 rfl) ?_
          refine va_iast hx hb hK hP hD hS 1 0 rfl rfl (zI.inn hv_143 (by decide)) d_Model_addFollow_110 (fun H locs hP hD hS => ?_)
          obtain ⟨f_144, gf_144, uf_144, hP, hD⟩ := z_newFu 1 hP hD rfl
          have hP : va_P G.1 classes [(b0, .inr (12, [.int b3, .ref b4, .ref b5, .ref b6, .ref b7, .int b8, .ref b9, .int b10, .int b11, .int b12, .int b13, .ref b14, .ref b15, .ref b16, .int b17, .ref b18, .ref b19, .ref b20, .ref b21, .ref b22, .ref b23, .ref b24, .ref b25, .ref b26, .ref b27, .ref b28, .ref b29, .int b30, .ref b31, .ref b32, .int b33, .int b34, .int b35, .int b36, .ref b37, .ref b38, .ref b39, .ref b40, .ref b41, .ref b42, .ref b43, .int b44, .ref b45, .ref b46, .int b47, .ref b48, .ref b49, .ref b50, .ref b51, .ref b52, .int b53, .ref b54, .ref b55, .ref b56])), (b21, .inl (G.2 0, 9640, .inl f_144)), (b22, .inl (G.2 0, 482, .inl b58))] H := hP
          have hD := z_tie hP hD rfl
          refine lv_aload_n hx hb d_Model_addFollow_111 rfl (lv_at hl 3 rfl) ?_
          refine va_get (D := G.1) (ci := 12) (v := .ref b22) (C := R_Model) (T := F_Model) (N := 54) hx hb hts i_Model hown hK hP 0 rfl rfl 19 (by decide) (hts _ q1128) (fun _ h9 => h9) rfl d_Model_addFollow_112 ?_
          refine lv_iload_n hx hb d_Model_addFollow_115 rfl (lv_at hl 4 rfl) ?_
          refine lv_dup2_11 hx hb d_Model_addFollow_116 rfl rfl ?_
          refine va_iald hx hb hK hP 2 0 rfl rfl (zI.inn hb1 (by decide)) d_Model_addFollow_117 ?_
          refine lv_topi (fun v_145 ev_145 => ?_)
          obtain rfl : v_2 = v_145 := ev_2.trans ev_145.symm
          refine lv_iconst (v := 1) hx hb d_Model_addFollow_118 (by decide) ?_
          refine lv_iadd hx hb d_Model_addFollow_119 ?_
          refine lv_topi (fun v_146 ev_146 => ?_)
          obtain ⟨qv_146, hv_146⟩ := zI_add (l := 1) (h := 261) hv_2 zc_1 ev_146 (by decide)
          rw [li_1] at qv_146
          refine va_iast hx hb hK hP hD hS 2 0 rfl rfl (zI.inn hb1 (by decide)) d_Model_addFollow_120 (fun H locs hP hD hS => ?_)
          obtain ⟨f_147, hf_147, gf_147, uf_147, hP, hD⟩ := z_newq_ (Q := qC) 2 hP hD rfl hb58 (qC_v hb1 (by decide) ⟨⟨by have _w := hv_146; have _x := hb1; omega, by have _w := hv_146; have _x := hb1; omega⟩, by have _w := hv_146; have _x := hb1; omega⟩)
          have hP : va_P G.1 classes [(b0, .inr (12, [.int b3, .ref b4, .ref b5, .ref b6, .ref b7, .int b8, .ref b9, .int b10, .int b11, .int b12, .int b13, .ref b14, .ref b15, .ref b16, .int b17, .ref b18, .ref b19, .ref b20, .ref b21, .ref b22, .ref b23, .ref b24, .ref b25, .ref b26, .ref b27, .ref b28, .ref b29, .int b30, .ref b31, .ref b32, .int b33, .int b34, .int b35, .int b36, .ref b37, .ref b38, .ref b39, .ref b40, .ref b41, .ref b42, .ref b43, .int b44, .ref b45, .ref b46, .int b47, .ref b48, .ref b49, .ref b50, .ref b51, .ref b52, .int b53, .ref b54, .ref b55, .ref b56])), (b21, .inl (G.2 0, 9640, .inl f_144)), (b22, .inl (G.2 0, 482, .inl f_147))] H := hP
          have hD := z_tie hP hD rfl
          exact z_vret hx hb hr hlocks hP hD hS (Nat.le_of_ble_eq_true rfl) (Nat.le_of_ble_eq_true rfl) d_Model_addFollow_121 ⟨f_144, f_147, rfl, rfl, hf_147, (by intro q; rw [uf_147, z_at]; split; rename_i h; right; refine ⟨h, ?_⟩; rw [h, ← ev_2]; omega; left; rfl)⟩
        · have _nhc_140 := hc_140
          have ni_148 := (fa_lt _ _).mp (zi_nle hc_140)
          have hv_149 : zI y_137 1 260 := zI.lt_r hv_114 hy_137 (zi_nle hc_140) (by decide)
          refine lv_aload_n hx hb d_Model_addFollow_75 rfl (lv_at hl 3 rfl) ?_
          refine va_get (D := G.1) (ci := 12) (v := .ref b21) (C := R_Model) (T := F_Model) (N := 54) hx hb hts i_Model hown hK hP 0 rfl rfl 18 (by decide) (hts _ q1127) (fun _ h9 => h9) rfl d_Model_addFollow_76 ?_
          refine lv_iload_n hx hb d_Model_addFollow_79 rfl (lv_at hl 2 rfl) ?_
          refine lv_iload hx hb d_Model_addFollow_80 (lv_at hl 0 rfl) ?_
          refine lv_iadd hx hb d_Model_addFollow_82 ?_
          refine lv_topi (fun v_150 ev_150 => ?_)
          obtain ⟨qv_150, hv_150⟩ := zI_add (l := 1) (h := 9880) hv_1 hv_149 ev_150 (by decide)
          refine lv_aload_n hx hb d_Model_addFollow_83 rfl (lv_at hl 3 rfl) ?_
          refine va_get (D := G.1) (ci := 12) (v := .ref b21) (C := R_Model) (T := F_Model) (N := 54) hx hb hts i_Model hown hK hP 0 rfl rfl 18 (by decide) (hts _ q1127) (fun _ h9 => h9) rfl d_Model_addFollow_84 ?_
          refine lv_iload_n hx hb d_Model_addFollow_87 rfl (lv_at hl 2 rfl) ?_
          refine lv_iload hx hb d_Model_addFollow_88 (lv_at hl 0 rfl) ?_
          refine lv_iadd hx hb d_Model_addFollow_90 ?_
          refine lv_topi (fun v_151 ev_151 => ?_)
          obtain rfl : v_150 = v_151 := ev_150.trans ev_151.symm
          refine lv_iconst (v := 1) hx hb d_Model_addFollow_91 (by decide) ?_
          refine lv_isub hx hb d_Model_addFollow_92 ?_
          refine lv_topi (fun v_152 ev_152 => ?_)
          obtain ⟨qv_152, hv_152⟩ := zI_sub (l := 0) (h := 9879) hv_150 zc_1 ev_152 (by decide)
          rw [li_1] at qv_152
          have hv_153 : zI v_152 0 9639 := ⟨by omega, by omega⟩
          refine va_iald hx hb hK hP 1 0 rfl rfl (zI.inn hv_153 (by decide)) d_Model_addFollow_93 ?_
          refine lv_topi (fun v_154 ev_154 => ?_)
          have hv_155 : zI v_150 0 9639 := ⟨by omega, by omega⟩
          refine va_iast hx hb hK hP hD hS 1 0 rfl rfl (zI.inn hv_155 (by decide)) d_Model_addFollow_94 (fun H locs hP hD hS => ?_)
          obtain ⟨f_156, gf_156, uf_156, hP, hD⟩ := z_newFu 1 hP hD rfl
          have hP : va_P G.1 classes [(b0, .inr (12, [.int b3, .ref b4, .ref b5, .ref b6, .ref b7, .int b8, .ref b9, .int b10, .int b11, .int b12, .int b13, .ref b14, .ref b15, .ref b16, .int b17, .ref b18, .ref b19, .ref b20, .ref b21, .ref b22, .ref b23, .ref b24, .ref b25, .ref b26, .ref b27, .ref b28, .ref b29, .int b30, .ref b31, .ref b32, .int b33, .int b34, .int b35, .int b36, .ref b37, .ref b38, .ref b39, .ref b40, .ref b41, .ref b42, .ref b43, .int b44, .ref b45, .ref b46, .int b47, .ref b48, .ref b49, .ref b50, .ref b51, .ref b52, .int b53, .ref b54, .ref b55, .ref b56])), (b21, .inl (G.2 0, 9640, .inl f_156)), (b22, .inl (G.2 0, 482, .inl b58))] H := hP
          have hD := z_tie hP hD rfl
          obtain ⟨v_157, ev_157⟩ : ∃ z : Int32, z = y_137 + (-1) := ⟨_, rfl⟩
          obtain ⟨qv_157, hv_157⟩ := zI_add (l := 0) (h := 259) hv_149 zc_m1 ev_157 (by decide)
          rw [li_m1] at qv_157
          refine lv_iinc (v := v_157) (lv' := [(5, .int v_157), (4, .int y_110), (3, .int v_1), (0, .ref b0), (1, .int b1), (2, .int b2)]) hx hb d_Model_addFollow_95 hl (k := 0) rfl (by rw [ev_157]; rfl) (by decide) rfl (fun ls hl => ?_)
          refine lv_goto (tgt := 68) hx hb d_Model_addFollow_98 (by decide) ?_
          exact ihk_136 (v_157) (f_156) _ _ _ (zI.wk (l' := 0) (h' := 260) hv_157 (by decide)) (by omega) (zm_dn qv_157 hmk_136 (by decide)) hP hD hS (lv_sub hl [0, 1, 2, 3, 4, 5] rfl)
    · have _nhc_112 := hc_112
      have ni_158 := (fa_lt _ _).mp (zi_nle hc_112)
      rw [li_0] at ni_158
      have hv_159 : zI y_110 1 260 := zI.lt_r zc_0 hy_110 (zi_nle hc_112) (by decide)
      refine lv_aload_n hx hb d_Model_addFollow_18 rfl (lv_at hl 2 rfl) ?_
      refine va_get (D := G.1) (ci := 12) (v := .ref b21) (C := R_Model) (T := F_Model) (N := 54) hx hb hts i_Model hown hK hP 0 rfl rfl 18 (by decide) (hts _ q1127) (fun _ h9 => h9) rfl d_Model_addFollow_19 ?_
      refine lv_iload_n hx hb d_Model_addFollow_22 rfl (lv_at hl 1 rfl) ?_
      refine lv_iload hx hb d_Model_addFollow_23 (lv_at hl 0 rfl) ?_
      refine lv_iadd hx hb d_Model_addFollow_25 ?_
      refine lv_topi (fun v_160 ev_160 => ?_)
      obtain ⟨qv_160, hv_160⟩ := zI_add (l := 1) (h := 9880) hv_1 hv_159 ev_160 (by decide)
      refine lv_iconst (v := 1) hx hb d_Model_addFollow_26 (by decide) ?_
      refine lv_isub hx hb d_Model_addFollow_27 ?_
      refine lv_topi (fun v_161 ev_161 => ?_)
      obtain ⟨qv_161, hv_161⟩ := zI_sub (l := 0) (h := 9879) hv_160 zc_1 ev_161 (by decide)
      rw [li_1] at qv_161
      have hv_162 : zI v_161 0 9639 := ⟨by omega, by omega⟩
      refine va_iald hx hb hK hP 1 0 rfl rfl (zI.inn hv_162 (by decide)) d_Model_addFollow_28 ?_
      refine lv_topi (fun v_163 ev_163 => ?_)
      refine lv_iload_n hx hb d_Model_addFollow_29 rfl (lv_at hl 4 rfl) ?_
      refine lv_icmp_le (tgt := 39) hx hb d_Model_addFollow_30 (by decide) (fun hc_164 => ?_) (fun hc_164 => ?_)
      · have _nhc_164 := hc_164
        have ni_165 := (fa_le _ _).mp hc_164
        refine lv_iload hx hb d_Model_addFollow_39 (lv_at hl 0 rfl) ?_
        refine lv_if_le (tgt := 60) hx hb d_Model_addFollow_41 (by decide) (fun hc => zI.no_le hv_159 zc_0 hc (by decide)) (fun _ => ?_)
        refine lv_aload_n hx hb d_Model_addFollow_44 rfl (lv_at hl 2 rfl) ?_
        refine va_get (D := G.1) (ci := 12) (v := .ref b21) (C := R_Model) (T := F_Model) (N := 54) hx hb hts i_Model hown hK hP 0 rfl rfl 18 (by decide) (hts _ q1127) (fun _ h9 => h9) rfl d_Model_addFollow_45 ?_
        refine lv_iload_n hx hb d_Model_addFollow_48 rfl (lv_at hl 1 rfl) ?_
        refine lv_iload hx hb d_Model_addFollow_49 (lv_at hl 0 rfl) ?_
        refine lv_iadd hx hb d_Model_addFollow_51 ?_
        refine lv_topi (fun v_166 ev_166 => ?_)
        obtain rfl : v_160 = v_166 := ev_160.trans ev_166.symm
        refine lv_iconst (v := 1) hx hb d_Model_addFollow_52 (by decide) ?_
        refine lv_isub hx hb d_Model_addFollow_53 ?_
        refine lv_topi (fun v_167 ev_167 => ?_)
        obtain rfl : v_161 = v_167 := ev_161.trans ev_167.symm
        refine va_iald hx hb hK hP 1 0 rfl rfl (zI.inn hv_162 (by decide)) d_Model_addFollow_54 ?_
        refine lv_topi (fun v_168 ev_168 => ?_)
        obtain rfl : v_163 = v_168 := ev_163.trans ev_168.symm
        refine lv_iload_n hx hb d_Model_addFollow_55 rfl (lv_at hl 4 rfl) ?_
        refine lv_icmp_ne (tgt := 60) hx hb d_Model_addFollow_56 (by decide) (fun hc_169 => ?_) (fun hc_169 => ?_)
        · have _nhc_169 := hc_169
          have ni_170 : ¬ (v_163 : Int32).toInt = (b2 : Int32).toInt := fun z => hc_169 ((fa_eq _ _).mpr z)
          refine lv_aload_n hx hb d_Model_addFollow_60 rfl (lv_at hl 2 rfl) ?_
          refine va_get (D := G.1) (ci := 12) (v := .ref b22) (C := R_Model) (T := F_Model) (N := 54) hx hb hts i_Model hown hK hP 0 rfl rfl 19 (by decide) (hts _ q1128) (fun _ h9 => h9) rfl d_Model_addFollow_61 ?_
          refine lv_iload_n hx hb d_Model_addFollow_64 rfl (lv_at hl 3 rfl) ?_
          refine va_iald hx hb hK hP 2 0 rfl rfl (zI.inn hb1 (by decide)) d_Model_addFollow_65 ?_
          refine lv_topi (fun v_171 ev_171 => ?_)
          obtain rfl : v_2 = v_171 := ev_2.trans ev_171.symm
          refine lv_istore (lv' := [(5, .int v_2), (4, .int y_110), (3, .int v_1), (0, .ref b0), (1, .int b1), (2, .int b2)]) hx hb d_Model_addFollow_66 hl (by decide) rfl (fun ls hl => ?_)
          suffices key : ∀ (k_193 : Nat) (y_194 : Int32) (y_195 : Nat → Int32) (H : Heap) (locs : List Loc) (ls : Array Slot), (zI y_194 0 260) → ((y_194 : Int32).toInt ≤ (b58 b1.toNatClampNeg).toInt) → y_194.toInt - (0) < (k_193 : Int) → va_P G.1 classes [(b0, .inr (12, [.int b3, .ref b4, .ref b5, .ref b6, .ref b7, .int b8, .ref b9, .int b10, .int b11, .int b12, .int b13, .ref b14, .ref b15, .ref b16, .int b17, .ref b18, .ref b19, .ref b20, .ref b21, .ref b22, .ref b23, .ref b24, .ref b25, .ref b26, .ref b27, .ref b28, .ref b29, .int b30, .ref b31, .ref b32, .int b33, .int b34, .int b35, .int b36, .ref b37, .ref b38, .ref b39, .ref b40, .ref b41, .ref b42, .ref b43, .int b44, .ref b45, .ref b46, .int b47, .ref b48, .ref b49, .ref b50, .ref b51, .ref b52, .int b53, .ref b54, .ref b55, .ref b56])), (b21, .inl (G.2 0, 9640, .inl y_195)), (b22, .inl (G.2 0, 482, .inl b58))] H → va_D A [(b0, .inr (12, [.int b3, .ref b4, .ref b5, .ref b6, .ref b7, .int b8, .ref b9, .int b10, .int b11, .int b12, .int b13, .ref b14, .ref b15, .ref b16, .int b17, .ref b18, .ref b19, .ref b20, .ref b21, .ref b22, .ref b23, .ref b24, .ref b25, .ref b26, .ref b27, .ref b28, .ref b29, .int b30, .ref b31, .ref b32, .int b33, .int b34, .int b35, .int b36, .ref b37, .ref b38, .ref b39, .ref b40, .ref b41, .ref b42, .ref b43, .int b44, .ref b45, .ref b46, .int b47, .ref b48, .ref b49, .ref b50, .ref b51, .ref b52, .int b53, .ref b54, .ref b55, .ref b56])), (b21, .inl (G.2 0, 9640, .inl y_195)), (b22, .inl (G.2 0, 482, .inl b58))] → va_S A s.heap H locs → lv_has ls 6 [(5, .int y_194), (4, .int y_110), (3, .int v_1), (0, .ref b0), (1, .int b1), (2, .int b2)] → W p l e m_s1_Model_addFollow s m ([.ref b0, .int b1, .int b2] : List Value).toArray below meth c H locs 0 0 (MQ below (zQ G (fun v w => ∃ (e0 : Nat → Int32), ∃ (e1 : Nat → Int32), v = none ∧ w = [(b0, .inr (12, [.int b3, .ref b4, .ref b5, .ref b6, .ref b7, .int b8, .ref b9, .int b10, .int b11, .int b12, .int b13, .ref b14, .ref b15, .ref b16, .int b17, .ref b18, .ref b19, .ref b20, .ref b21, .ref b22, .ref b23, .ref b24, .ref b25, .ref b26, .ref b27, .ref b28, .ref b29, .int b30, .ref b31, .ref b32, .int b33, .int b34, .int b35, .int b36, .ref b37, .ref b38, .ref b39, .ref b40, .ref b41, .ref b42, .ref b43, .int b44, .ref b45, .ref b46, .int b47, .ref b48, .ref b49, .ref b50, .ref b51, .ref b52, .int b53, .ref b54, .ref b55, .ref b56])), (b21, .inl (G.2 0, 9640, .inl e0)), (b22, .inl (G.2 0, 482, .inl e1))] ∧ (zqa qC e1) ∧ (∀ q : Nat, (e1 q).toInt = (b58 q).toInt ∨ q = b1.toNatClampNeg ∧ (e1 q).toInt = (b58 q).toInt + 1)) A) ([.ref b0, .int b1, .int b2] : List Value).toArray s m_s1_Model_addFollow.cells m_s1_Model_addFollow.slots A) (F0 m 68 ls []) by
            exact key 261 (v_2) (b57) _ _ _ hv_2 (by rw [← ev_2]; omega) (zm_dni hv_2 (by decide)) hP hD hS (lv_sub hl [0, 1, 2, 3, 4, 5] rfl)
          intro k_193
          induction k_193 with
          | zero =>
            intro y_194 y_195 H locs ls hy_194 hli_196 hmk_193 hP hD hS hl
            exact (zm_dn0 hy_194 hmk_193).elim
          | succ k_193 ihk_193 =>
            intro y_194 y_195 H locs ls hy_194 hli_196 hmk_193 hP hD hS hl
            refine lv_iload hx hb d_Model_addFollow_68 (lv_at hl 0 rfl) ?_
            refine lv_iload hx hb d_Model_addFollow_70 (lv_at hl 1 rfl) ?_
            refine lv_icmp_le (tgt := 101) hx hb d_Model_addFollow_72 (by decide) (fun hc_197 => ?_) (fun hc_197 => ?_)
            · have _nhc_197 := hc_197
              have ni_198 := (fa_le _ _).mp hc_197
              refine lv_aload_n hx hb d_Model_addFollow_101 rfl (lv_at hl 3 rfl) ?_
              refine va_get (D := G.1) (ci := 12) (v := .ref b21) (C := R_Model) (T := F_Model) (N := 54) hx hb hts i_Model hown hK hP 0 rfl rfl 18 (by decide) (hts _ q1127) (fun _ h9 => h9) rfl d_Model_addFollow_102 ?_
              refine lv_iload_n hx hb d_Model_addFollow_105 rfl (lv_at hl 2 rfl) ?_
              refine lv_iload hx hb d_Model_addFollow_106 (lv_at hl 1 rfl) ?_
              refine lv_iadd hx hb d_Model_addFollow_108 ?_
              refine lv_topi (fun v_199 ev_199 => ?_)
              obtain rfl : v_160 = v_199 := ev_160.trans ev_199.symm
              refine lv_iload_n hx hb d_Model_addFollow_109 rfl (lv_at hl 5 rfl) ?_
              have hv_200 : zI v_160 0 9639 := ⟨by omega, by omega⟩
              refine va_iast hx hb hK hP hD hS 1 0 rfl rfl (zI.inn hv_200 (by decide)) d_Model_addFollow_110 (fun H locs hP hD hS => ?_)
              obtain ⟨f_201, gf_201, uf_201, hP, hD⟩ := z_newFu 1 hP hD rfl
              have hP : va_P G.1 classes [(b0, .inr (12, [.int b3, .ref b4, .ref b5, .ref b6, .ref b7, .int b8, .ref b9, .int b10, .int b11, .int b12, .int b13, .ref b14, .ref b15, .ref b16, .int b17, .ref b18, .ref b19, .ref b20, .ref b21, .ref b22, .ref b23, .ref b24, .ref b25, .ref b26, .ref b27, .ref b28, .ref b29, .int b30, .ref b31, .ref b32, .int b33, .int b34, .int b35, .int b36, .ref b37, .ref b38, .ref b39, .ref b40, .ref b41, .ref b42, .ref b43, .int b44, .ref b45, .ref b46, .int b47, .ref b48, .ref b49, .ref b50, .ref b51, .ref b52, .int b53, .ref b54, .ref b55, .ref b56])), (b21, .inl (G.2 0, 9640, .inl f_201)), (b22, .inl (G.2 0, 482, .inl b58))] H := hP
              have hD := z_tie hP hD rfl
              refine lv_aload_n hx hb d_Model_addFollow_111 rfl (lv_at hl 3 rfl) ?_
              refine va_get (D := G.1) (ci := 12) (v := .ref b22) (C := R_Model) (T := F_Model) (N := 54) hx hb hts i_Model hown hK hP 0 rfl rfl 19 (by decide) (hts _ q1128) (fun _ h9 => h9) rfl d_Model_addFollow_112 ?_
              refine lv_iload_n hx hb d_Model_addFollow_115 rfl (lv_at hl 4 rfl) ?_
              refine lv_dup2_11 hx hb d_Model_addFollow_116 rfl rfl ?_
              refine va_iald hx hb hK hP 2 0 rfl rfl (zI.inn hb1 (by decide)) d_Model_addFollow_117 ?_
              refine lv_topi (fun v_202 ev_202 => ?_)
              obtain rfl : v_2 = v_202 := ev_2.trans ev_202.symm
              refine lv_iconst (v := 1) hx hb d_Model_addFollow_118 (by decide) ?_
              refine lv_iadd hx hb d_Model_addFollow_119 ?_
              refine lv_topi (fun v_203 ev_203 => ?_)
              obtain ⟨qv_203, hv_203⟩ := zI_add (l := 1) (h := 261) hv_2 zc_1 ev_203 (by decide)
              rw [li_1] at qv_203
              refine va_iast hx hb hK hP hD hS 2 0 rfl rfl (zI.inn hb1 (by decide)) d_Model_addFollow_120 (fun H locs hP hD hS => ?_)
              obtain ⟨f_204, hf_204, gf_204, uf_204, hP, hD⟩ := z_newq_ (Q := qC) 2 hP hD rfl hb58 (qC_v hb1 (by decide) ⟨⟨by have _w := hv_203; have _x := hb1; omega, by have _w := hv_203; have _x := hb1; omega⟩, by have _w := hv_203; have _x := hb1; omega⟩)
              have hP : va_P G.1 classes [(b0, .inr (12, [.int b3, .ref b4, .ref b5, .ref b6, .ref b7, .int b8, .ref b9, .int b10, .int b11, .int b12, .int b13, .ref b14, .ref b15, .ref b16, .int b17, .ref b18, .ref b19, .ref b20, .ref b21, .ref b22, .ref b23, .ref b24, .ref b25, .ref b26, .ref b27, .ref b28, .ref b29, .int b30, .ref b31, .ref b32, .int b33, .int b34, .int b35, .int b36, .ref b37, .ref b38, .ref b39, .ref b40, .ref b41, .ref b42, .ref b43, .int b44, .ref b45, .ref b46, .int b47, .ref b48, .ref b49, .ref b50, .ref b51, .ref b52, .int b53, .ref b54, .ref b55, .ref b56])), (b21, .inl (G.2 0, 9640, .inl f_201)), (b22, .inl (G.2 0, 482, .inl f_204))] H := hP
              have hD := z_tie hP hD rfl
              exact z_vret hx hb hr hlocks hP hD hS (Nat.le_of_ble_eq_true rfl) (Nat.le_of_ble_eq_true rfl) d_Model_addFollow_121 ⟨f_201, f_204, rfl, rfl, hf_204, (by intro q; rw [uf_204, z_at]; split; rename_i h; right; refine ⟨h, ?_⟩; rw [h, ← ev_2]; omega; left; rfl)⟩
            · have _nhc_197 := hc_197
              have ni_205 := (fa_lt _ _).mp (zi_nle hc_197)
              have hv_206 : zI y_110 1 259 := zI.lt_l hv_159 hy_194 (zi_nle hc_197) (by decide)
              have hv_207 : zI y_194 2 260 := zI.lt_r hv_159 hy_194 (zi_nle hc_197) (by decide)
              refine lv_aload_n hx hb d_Model_addFollow_75 rfl (lv_at hl 3 rfl) ?_
              refine va_get (D := G.1) (ci := 12) (v := .ref b21) (C := R_Model) (T := F_Model) (N := 54) hx hb hts i_Model hown hK hP 0 rfl rfl 18 (by decide) (hts _ q1127) (fun _ h9 => h9) rfl d_Model_addFollow_76 ?_
              refine lv_iload_n hx hb d_Model_addFollow_79 rfl (lv_at hl 2 rfl) ?_
              refine lv_iload hx hb d_Model_addFollow_80 (lv_at hl 0 rfl) ?_
              refine lv_iadd hx hb d_Model_addFollow_82 ?_
              refine lv_topi (fun v_208 ev_208 => ?_)
              obtain ⟨qv_208, hv_208⟩ := zI_add (l := 2) (h := 9880) hv_1 hv_207 ev_208 (by decide)
              refine lv_aload_n hx hb d_Model_addFollow_83 rfl (lv_at hl 3 rfl) ?_
              refine va_get (D := G.1) (ci := 12) (v := .ref b21) (C := R_Model) (T := F_Model) (N := 54) hx hb hts i_Model hown hK hP 0 rfl rfl 18 (by decide) (hts _ q1127) (fun _ h9 => h9) rfl d_Model_addFollow_84 ?_
              refine lv_iload_n hx hb d_Model_addFollow_87 rfl (lv_at hl 2 rfl) ?_
              refine lv_iload hx hb d_Model_addFollow_88 (lv_at hl 0 rfl) ?_
              refine lv_iadd hx hb d_Model_addFollow_90 ?_
              refine lv_topi (fun v_209 ev_209 => ?_)
              obtain rfl : v_208 = v_209 := ev_208.trans ev_209.symm
              refine lv_iconst (v := 1) hx hb d_Model_addFollow_91 (by decide) ?_
              refine lv_isub hx hb d_Model_addFollow_92 ?_
              refine lv_topi (fun v_210 ev_210 => ?_)
              obtain ⟨qv_210, hv_210⟩ := zI_sub (l := 1) (h := 9879) hv_208 zc_1 ev_210 (by decide)
              rw [li_1] at qv_210
              have hv_211 : zI v_210 0 9639 := ⟨by omega, by omega⟩
              refine va_iald hx hb hK hP 1 0 rfl rfl (zI.inn hv_211 (by decide)) d_Model_addFollow_93 ?_
              refine lv_topi (fun v_212 ev_212 => ?_)
              have hv_213 : zI v_208 0 9639 := ⟨by omega, by omega⟩
              refine va_iast hx hb hK hP hD hS 1 0 rfl rfl (zI.inn hv_213 (by decide)) d_Model_addFollow_94 (fun H locs hP hD hS => ?_)
              obtain ⟨f_214, gf_214, uf_214, hP, hD⟩ := z_newFu 1 hP hD rfl
              have hP : va_P G.1 classes [(b0, .inr (12, [.int b3, .ref b4, .ref b5, .ref b6, .ref b7, .int b8, .ref b9, .int b10, .int b11, .int b12, .int b13, .ref b14, .ref b15, .ref b16, .int b17, .ref b18, .ref b19, .ref b20, .ref b21, .ref b22, .ref b23, .ref b24, .ref b25, .ref b26, .ref b27, .ref b28, .ref b29, .int b30, .ref b31, .ref b32, .int b33, .int b34, .int b35, .int b36, .ref b37, .ref b38, .ref b39, .ref b40, .ref b41, .ref b42, .ref b43, .int b44, .ref b45, .ref b46, .int b47, .ref b48, .ref b49, .ref b50, .ref b51, .ref b52, .int b53, .ref b54, .ref b55, .ref b56])), (b21, .inl (G.2 0, 9640, .inl f_214)), (b22, .inl (G.2 0, 482, .inl b58))] H := hP
              have hD := z_tie hP hD rfl
              obtain ⟨v_215, ev_215⟩ : ∃ z : Int32, z = y_194 + (-1) := ⟨_, rfl⟩
              obtain ⟨qv_215, hv_215⟩ := zI_add (l := 1) (h := 259) hv_207 zc_m1 ev_215 (by decide)
              rw [li_m1] at qv_215
              refine lv_iinc (v := v_215) (lv' := [(5, .int v_215), (4, .int y_110), (3, .int v_1), (0, .ref b0), (1, .int b1), (2, .int b2)]) hx hb d_Model_addFollow_95 hl (k := 0) rfl (by rw [ev_215]; rfl) (by decide) rfl (fun ls hl => ?_)
              refine lv_goto (tgt := 68) hx hb d_Model_addFollow_98 (by decide) ?_
              exact ihk_193 (v_215) (f_214) _ _ _ (zI.wk (l' := 0) (h' := 260) hv_215 (by decide)) (by omega) (zm_dn qv_215 hmk_193 (by decide)) hP hD hS (lv_sub hl [0, 1, 2, 3, 4, 5] rfl)
        · have _nhc_169 := hc_169
          have ni_216 := (fa_eq _ _).mp hc_169
          exact z_vret hx hb hr hlocks hP hD hS (Nat.le_of_ble_eq_true rfl) (Nat.le_of_ble_eq_true rfl) d_Model_addFollow_59 ⟨b57, b58, rfl, rfl, hb58, (fun _ => Or.inl rfl)⟩
      · have _nhc_164 := hc_164
        have ni_217 := (fa_lt _ _).mp (zi_nle hc_164)
        have hv_218 : zI b2 (-2147483648) 2147483646 := zI.lt_l (zI_all b2) (zI_all v_163) (zi_nle hc_164) (by decide)
        have hv_219 : zI v_163 (-2147483647) 2147483647 := zI.lt_r (zI_all b2) (zI_all v_163) (zi_nle hc_164) (by decide)
        obtain ⟨v_220, ev_220⟩ : ∃ z : Int32, z = y_110 + (-1) := ⟨_, rfl⟩
        obtain ⟨qv_220, hv_220⟩ := zI_add (l := 0) (h := 259) hv_159 zc_m1 ev_220 (by decide)
        rw [li_m1] at qv_220
        refine lv_iinc (v := v_220) (lv' := [(4, .int v_220), (3, .int v_1), (0, .ref b0), (1, .int b1), (2, .int b2)]) hx hb d_Model_addFollow_33 hl (k := 0) rfl (by rw [ev_220]; rfl) (by decide) rfl (fun ls hl => ?_)
        refine lv_goto (tgt := 13) hx hb d_Model_addFollow_36 (by decide) ?_
        exact ihk_109 (v_220) _ _ _ (zI.wk (l' := 0) (h' := 260) hv_220 (by decide)) (by omega) (zm_dn qv_220 hmk_109 (by decide)) hP hD hS (lv_sub hl [0, 1, 2, 3, 4] rfl)
theorem d_Model_rowBehind_0 : decode prog_14_method_29_code 0 = .ok (.iconst 0, 1) := by decide +kernel
theorem d_Model_rowBehind_1 : decode prog_14_method_29_code 1 = .ok (.istore 4, 2) := by decide +kernel
theorem d_Model_rowBehind_3 : decode prog_14_method_29_code 3 = .ok (.iconst 0, 1) := by decide +kernel
theorem d_Model_rowBehind_4 : decode prog_14_method_29_code 4 = .ok (.istore 5, 2) := by decide +kernel
theorem d_Model_rowBehind_6 : decode prog_14_method_29_code 6 = .ok (.iload 5, 2) := by decide +kernel
theorem d_Model_rowBehind_8 : decode prog_14_method_29_code 8 = .ok (.iload_n 3, 1) := by decide +kernel
theorem d_Model_rowBehind_9 : decode prog_14_method_29_code 9 = .ok (.if_icmp .ge 61, 3) := by decide +kernel
theorem d_Model_rowBehind_12 : decode prog_14_method_29_code 12 = .ok (.iload_n 2, 1) := by decide +kernel
theorem d_Model_rowBehind_13 : decode prog_14_method_29_code 13 = .ok (.iload 5, 2) := by decide +kernel
theorem d_Model_rowBehind_15 : decode prog_14_method_29_code 15 = .ok (.iadd, 1) := by decide +kernel
theorem d_Model_rowBehind_16 : decode prog_14_method_29_code 16 = .ok (.istore 6, 2) := by decide +kernel
theorem d_Model_rowBehind_18 : decode prog_14_method_29_code 18 = .ok (.bipush 12, 2) := by decide +kernel
theorem d_Model_rowBehind_20 : decode prog_14_method_29_code 20 = .ok (.iload 4, 2) := by decide +kernel
theorem d_Model_rowBehind_22 : decode prog_14_method_29_code 22 = .ok (.imul, 1) := by decide +kernel
theorem d_Model_rowBehind_23 : decode prog_14_method_29_code 23 = .ok (.iload 6, 2) := by decide +kernel
theorem d_Model_rowBehind_25 : decode prog_14_method_29_code 25 = .ok (.aload_n 0, 1) := by decide +kernel
theorem d_Model_rowBehind_26 : decode prog_14_method_29_code 26 = .ok (.iload_n 1, 1) := by decide +kernel
theorem d_Model_rowBehind_27 : decode prog_14_method_29_code 27 = .ok (.invokevirtual 203, 3) := by decide +kernel
theorem d_Model_rowBehind_30 : decode prog_14_method_29_code 30 = .ok (.if_icmp .ge 15, 3) := by decide +kernel
theorem d_Model_rowBehind_33 : decode prog_14_method_29_code 33 = .ok (.aload_n 0, 1) := by decide +kernel
theorem d_Model_rowBehind_34 : decode prog_14_method_29_code 34 = .ok (.iload_n 1, 1) := by decide +kernel
theorem d_Model_rowBehind_35 : decode prog_14_method_29_code 35 = .ok (.iload 6, 2) := by decide +kernel
theorem d_Model_rowBehind_37 : decode prog_14_method_29_code 37 = .ok (.invokevirtual 207, 3) := by decide +kernel
theorem d_Model_rowBehind_40 : decode prog_14_method_29_code 40 = .ok (.iconst 1, 1) := by decide +kernel
theorem d_Model_rowBehind_41 : decode prog_14_method_29_code 41 = .ok (.iadd, 1) := by decide +kernel
theorem d_Model_rowBehind_42 : decode prog_14_method_29_code 42 = .ok (.goto 19, 3) := by decide +kernel
theorem d_Model_rowBehind_45 : decode prog_14_method_29_code 45 = .ok (.iload 6, 2) := by decide +kernel
theorem d_Model_rowBehind_47 : decode prog_14_method_29_code 47 = .ok (.aload_n 0, 1) := by decide +kernel
theorem d_Model_rowBehind_48 : decode prog_14_method_29_code 48 = .ok (.iload_n 1, 1) := by decide +kernel
theorem d_Model_rowBehind_49 : decode prog_14_method_29_code 49 = .ok (.invokevirtual 203, 3) := by decide +kernel
theorem d_Model_rowBehind_52 : decode prog_14_method_29_code 52 = .ok (.if_icmp .ne 8, 3) := by decide +kernel
theorem d_Model_rowBehind_55 : decode prog_14_method_29_code 55 = .ok (.bipush 11, 2) := by decide +kernel
theorem d_Model_rowBehind_57 : decode prog_14_method_29_code 57 = .ok (.goto 4, 3) := by decide +kernel
theorem d_Model_rowBehind_60 : decode prog_14_method_29_code 60 = .ok (.iconst 0, 1) := by decide +kernel
theorem d_Model_rowBehind_61 : decode prog_14_method_29_code 61 = .ok (.iadd, 1) := by decide +kernel
theorem d_Model_rowBehind_62 : decode prog_14_method_29_code 62 = .ok (.istore 4, 2) := by decide +kernel
theorem d_Model_rowBehind_64 : decode prog_14_method_29_code 64 = .ok (.iinc 5 1, 3) := by decide +kernel
theorem d_Model_rowBehind_67 : decode prog_14_method_29_code 67 = .ok (.goto (-61), 3) := by decide +kernel
theorem d_Model_rowBehind_70 : decode prog_14_method_29_code 70 = .ok (.iload 4, 2) := by decide +kernel
theorem d_Model_rowBehind_72 : decode prog_14_method_29_code 72 = .ok (.ireturn, 1) := by decide +kernel
abbrev m_s1_Model_rowBehind : Room := { frames := 1, cells := 0, slots := 0, locals := 22 }
set_option maxHeartbeats 4000000 in
set_option maxRecDepth 100000 in
theorem s1_Model_rowBehind (l : Launch) (G : zG) (b0 : Nat) (b1 : Int32) (b2 : Int32) (b3 : Int32) (b4 : Int32) (b5 : Nat) (b6 : Nat) (b7 : Nat) (b8 : Nat) (b9 : Int32) (b10 : Nat) (b11 : Int32) (b12 : Int32) (b13 : Int32) (b14 : Int32) (b15 : Nat) (b16 : Nat) (b17 : Nat) (b18 : Int32) (b19 : Nat) (b20 : Nat) (b21 : Nat) (b22 : Nat) (b23 : Nat) (b24 : Nat) (b25 : Nat) (b26 : Nat) (b27 : Nat) (b28 : Nat) (b29 : Nat) (b30 : Nat) (b31 : Int32) (b32 : Nat) (b33 : Nat) (b34 : Int32) (b35 : Int32) (b36 : Int32) (b37 : Int32) (b38 : Nat) (b39 : Nat) (b40 : Nat) (b41 : Nat) (b42 : Nat) (b43 : Nat) (b44 : Nat) (b45 : Int32) (b46 : Nat) (b47 : Nat) (b48 : Int32) (b49 : Nat) (b50 : Nat) (b51 : Nat) (b52 : Nat) (b53 : Nat) (b54 : Int32) (b55 : Nat) (b56 : Nat) (b57 : Nat) (b58 : Nat → Int32) (hb1 : zI b1 0 19) (hb2 : zI b2 0 12) (hb3 : zI b3 0 3) (hb9 : zI b9 0 8) (hb11 : zI b11 0 240) (hb12 : zI b12 0 240) (hb14 : zI b14 0 1) (hb18 : zI b18 0 12) (hb31 : zI b31 0 1) (hb34 : zI b34 0 1) (hb45 : zI b45 0 1000) (hb48 : zI b48 0 1000) (hb54 : zI b54 0 400) (hb58 : zW5 b58) : zM l G y_Model_rowBehind prog_14_method_29_code 7 (Option.some Jvm.ClassFile.FieldType.int) m_s1_Model_rowBehind [.ref b0, .int b1, .int b2, .int b3] [(b0, .inr (12, [.int b4, .ref b5, .ref b6, .ref b7, .ref b8, .int b9, .ref b10, .int b11, .int b12, .int b13, .int b14, .ref b15, .ref b16, .ref b17, .int b18, .ref b19, .ref b20, .ref b21, .ref b22, .ref b23, .ref b24, .ref b25, .ref b26, .ref b27, .ref b28, .ref b29, .ref b30, .int b31, .ref b32, .ref b33, .int b34, .int b35, .int b36, .int b37, .ref b38, .ref b39, .ref b40, .ref b41, .ref b42, .ref b43, .ref b44, .int b45, .ref b46, .ref b47, .int b48, .ref b49, .ref b50, .ref b51, .ref b52, .ref b53, .int b54, .ref b55, .ref b56, .ref b57])), (b5, .inl (G.2 0, 503, .inl b58))] (fun v w => ∃ (e0 : Int32), v = some (.int e0) ∧ w = [(b0, .inr (12, [.int b4, .ref b5, .ref b6, .ref b7, .ref b8, .int b9, .ref b10, .int b11, .int b12, .int b13, .int b14, .ref b15, .ref b16, .ref b17, .int b18, .ref b19, .ref b20, .ref b21, .ref b22, .ref b23, .ref b24, .ref b25, .ref b26, .ref b27, .ref b28, .ref b29, .ref b30, .int b31, .ref b32, .ref b33, .int b34, .int b35, .int b36, .int b37, .ref b38, .ref b39, .ref b40, .ref b41, .ref b42, .ref b43, .ref b44, .int b45, .ref b46, .ref b47, .int b48, .ref b49, .ref b50, .ref b51, .ref b52, .ref b53, .int b54, .ref b55, .ref b56, .ref b57])), (b5, .inl (G.2 0, 503, .inl b58))]) := by
  refine z_start (by decide +kernel) (Nat.le_of_ble_eq_true rfl) ?_
  intro p e s m below meth c A Z hr hnm hA hP hD hS ls hl
  have Z : zC p s m _ meth c prog_14_method_29_code 7 "TraceMachinesModel" G := Z
  obtain ⟨hx, hb, hml, hown, hts, hK, hN, hlocks⟩ := id Z
  have hl : lv_has ls 7 [(0, .ref b0), (1, .int b1), (2, .int b2), (3, .int b3)] := hl
  refine lv_iconst (v := 0) hx hb d_Model_rowBehind_0 (by decide) ?_
  refine lv_istore (lv' := [(4, .int 0), (0, .ref b0), (1, .int b1), (2, .int b2), (3, .int b3)]) hx hb d_Model_rowBehind_1 hl (by decide) rfl (fun ls hl => ?_)
  refine lv_iconst (v := 0) hx hb d_Model_rowBehind_3 (by decide) ?_
  refine lv_istore (lv' := [(5, .int 0), (4, .int 0), (0, .ref b0), (1, .int b1), (2, .int b2), (3, .int b3)]) hx hb d_Model_rowBehind_4 hl (by decide) rfl (fun ls hl => ?_)
  suffices key : ∀ (k_34 : Nat) (y_35 : Int32) (y_36 : Int32) (H : Heap) (locs : List Loc) (ls : Array Slot), (zI y_35 0 3) → (3 : Int) - y_35.toInt < (k_34 : Int) → va_P G.1 classes [(b0, .inr (12, [.int b4, .ref b5, .ref b6, .ref b7, .ref b8, .int b9, .ref b10, .int b11, .int b12, .int b13, .int b14, .ref b15, .ref b16, .ref b17, .int b18, .ref b19, .ref b20, .ref b21, .ref b22, .ref b23, .ref b24, .ref b25, .ref b26, .ref b27, .ref b28, .ref b29, .ref b30, .int b31, .ref b32, .ref b33, .int b34, .int b35, .int b36, .int b37, .ref b38, .ref b39, .ref b40, .ref b41, .ref b42, .ref b43, .ref b44, .int b45, .ref b46, .ref b47, .int b48, .ref b49, .ref b50, .ref b51, .ref b52, .ref b53, .int b54, .ref b55, .ref b56, .ref b57])), (b5, .inl (G.2 0, 503, .inl b58))] H → va_D A [(b0, .inr (12, [.int b4, .ref b5, .ref b6, .ref b7, .ref b8, .int b9, .ref b10, .int b11, .int b12, .int b13, .int b14, .ref b15, .ref b16, .ref b17, .int b18, .ref b19, .ref b20, .ref b21, .ref b22, .ref b23, .ref b24, .ref b25, .ref b26, .ref b27, .ref b28, .ref b29, .ref b30, .int b31, .ref b32, .ref b33, .int b34, .int b35, .int b36, .int b37, .ref b38, .ref b39, .ref b40, .ref b41, .ref b42, .ref b43, .ref b44, .int b45, .ref b46, .ref b47, .int b48, .ref b49, .ref b50, .ref b51, .ref b52, .ref b53, .int b54, .ref b55, .ref b56, .ref b57])), (b5, .inl (G.2 0, 503, .inl b58))] → va_S A s.heap H locs → lv_has ls 7 [(5, .int y_35), (4, .int y_36), (0, .ref b0), (1, .int b1), (2, .int b2), (3, .int b3)] → W p l e m_s1_Model_rowBehind s m ([.ref b0, .int b1, .int b2, .int b3] : List Value).toArray below meth c H locs 0 0 (MQ below (zQ G (fun v w => ∃ (e0 : Int32), v = some (.int e0) ∧ w = [(b0, .inr (12, [.int b4, .ref b5, .ref b6, .ref b7, .ref b8, .int b9, .ref b10, .int b11, .int b12, .int b13, .int b14, .ref b15, .ref b16, .ref b17, .int b18, .ref b19, .ref b20, .ref b21, .ref b22, .ref b23, .ref b24, .ref b25, .ref b26, .ref b27, .ref b28, .ref b29, .ref b30, .int b31, .ref b32, .ref b33, .int b34, .int b35, .int b36, .int b37, .ref b38, .ref b39, .ref b40, .ref b41, .ref b42, .ref b43, .ref b44, .int b45, .ref b46, .ref b47, .int b48, .ref b49, .ref b50, .ref b51, .ref b52, .ref b53, .int b54, .ref b55, .ref b56, .ref b57])), (b5, .inl (G.2 0, 503, .inl b58))]) A) ([.ref b0, .int b1, .int b2, .int b3] : List Value).toArray s m_s1_Model_rowBehind.cells m_s1_Model_rowBehind.slots A) (F0 m 6 ls []) by
    exact key 4 (0) (0) _ _ _ (zI.wk (l' := 0) (h' := 3) zc_0 (by decide)) (zm_upi (zI.wk (l' := 0) (h' := 3) zc_0 (by decide)) (by decide)) hP hD hS (lv_sub hl [0, 1, 2, 3, 4, 5] rfl)
  intro k_34
  induction k_34 with
  | zero =>
    intro y_35 y_36 H locs ls hy_35 hmk_34 hP hD hS hl
    exact (zm_up0 hy_35 hmk_34).elim
  | succ k_34 ihk_34 =>
    intro y_35 y_36 H locs ls hy_35 hmk_34 hP hD hS hl
    refine lv_iload hx hb d_Model_rowBehind_6 (lv_at hl 0 rfl) ?_
    refine lv_iload_n hx hb d_Model_rowBehind_8 rfl (lv_at hl 5 rfl) ?_
    refine lv_icmp_ge (tgt := 70) hx hb d_Model_rowBehind_9 (by decide) (fun hc_37 => ?_) (fun hc_37 => ?_)
    · have _nhc_37 := hc_37
      have ni_38 := (fa_le _ _).mp hc_37
      refine lv_iload hx hb d_Model_rowBehind_70 (lv_at hl 1 rfl) ?_
      exact z_iret hx hb hr hlocks hP hD hS (Nat.le_of_ble_eq_true rfl) (Nat.le_of_ble_eq_true rfl) d_Model_rowBehind_72 ⟨y_36, rfl, rfl⟩
    · have _nhc_37 := hc_37
      have ni_39 := (fa_lt _ _).mp (zi_nle hc_37)
      have hv_40 : zI y_35 0 2 := zI.lt_l hy_35 hb3 (zi_nle hc_37) (by decide)
      have hv_41 : zI b3 1 3 := zI.lt_r hy_35 hb3 (zi_nle hc_37) (by decide)
      refine lv_iload_n hx hb d_Model_rowBehind_12 rfl (lv_at hl 4 rfl) ?_
      refine lv_iload hx hb d_Model_rowBehind_13 (lv_at hl 0 rfl) ?_
      refine lv_iadd hx hb d_Model_rowBehind_15 ?_
      refine lv_topi (fun v_42 ev_42 => ?_)
      obtain ⟨qv_42, hv_42⟩ := zI_add (l := 0) (h := 14) hb2 hv_40 ev_42 (by decide)
      refine lv_istore (lv' := [(6, .int v_42), (5, .int y_35), (4, .int y_36), (0, .ref b0), (1, .int b1), (2, .int b2), (3, .int b3)]) hx hb d_Model_rowBehind_16 hl (by decide) rfl (fun ls hl => ?_)
      refine lv_bipush (v := 12) hx hb d_Model_rowBehind_18 (by decide) ?_
      refine lv_iload hx hb d_Model_rowBehind_20 (lv_at hl 2 rfl) ?_
      refine lv_imul hx hb d_Model_rowBehind_22 ?_
      refine lv_topi (fun v_43 ev_43 => ?_)
      refine lv_iload hx hb d_Model_rowBehind_23 (lv_at hl 0 rfl) ?_
      refine lv_aload_n hx hb d_Model_rowBehind_25 rfl (lv_at hl 3 rfl) ?_
      refine lv_iload_n hx hb d_Model_rowBehind_26 rfl (lv_at hl 4 rfl) ?_
      refine z_callV (index := 203) (As := [.int b1]) (rest := [.int v_42, .int v_43]) (wr := []) Z (s1_Model_calls l G (b0) (b1) (b4) (b5) (b6) (b7) (b8) (b9) (b10) (b11) (b12) (b13) (b14) (b15) (b16) (b17) (b18) (b19) (b20) (b21) (b22) (b23) (b24) (b25) (b26) (b27) (b28) (b29) (b30) (b31) (b32) (b33) (b34) (b35) (b36) (b37) (b38) (b39) (b40) (b41) (b42) (b43) (b44) (b45) (b46) (b47) (b48) (b49) (b50) (b51) (b52) (b53) (b54) (b55) (b56) (b57) (b58) hb1 hb9 hb11 hb12 hb14 hb18 hb31 hb34 hb45 hb48 hb54 hb58) hl.1 q1352 q1354 qs54 q14 q1355 ⟨by decide, by decide, by show _ = some 1; decide +kernel⟩ ⟨Nat.le_of_ble_eq_true rfl, Nat.le_of_ble_eq_true rfl⟩ ⟨Nat.le_of_ble_eq_true rfl, Nat.le_of_ble_eq_true rfl⟩ rfl (Nat.le_of_ble_eq_true rfl) d_Model_rowBehind_27 hP hD hS hA 0 12 rfl rfl rfl [0, 1] [] rfl rfl rfl rfl (by decide) (fun v w1 H locs hw_44 hP hD hS => ?_)
      obtain ⟨x_45, rfl, rfl, hx_45, hfx_46⟩ := hw_44
      have hP : va_P G.1 classes [(b0, .inr (12, [.int b4, .ref b5, .ref b6, .ref b7, .ref b8, .int b9, .ref b10, .int b11, .int b12, .int b13, .int b14, .ref b15, .ref b16, .ref b17, .int b18, .ref b19, .ref b20, .ref b21, .ref b22, .ref b23, .ref b24, .ref b25, .ref b26, .ref b27, .ref b28, .ref b29, .ref b30, .int b31, .ref b32, .ref b33, .int b34, .int b35, .int b36, .int b37, .ref b38, .ref b39, .ref b40, .ref b41, .ref b42, .ref b43, .ref b44, .int b45, .ref b46, .ref b47, .int b48, .ref b49, .ref b50, .ref b51, .ref b52, .ref b53, .int b54, .ref b55, .ref b56, .ref b57])), (b5, .inl (G.2 0, 503, .inl b58))] H := hP
      have hD := z_tie hP hD rfl
      refine W.widen (k := 0) (n := 0) (Nat.le_of_ble_eq_true rfl) (Nat.le_of_ble_eq_true rfl) ?_
      refine lv_icmp_ge (tgt := 45) hx hb d_Model_rowBehind_30 (by decide) (fun hc_47 => ?_) (fun hc_47 => ?_)
      · have _nhc_47 := hc_47
        have ni_48 := (fa_le _ _).mp hc_47
        refine lv_iload hx hb d_Model_rowBehind_45 (lv_at hl 0 rfl) ?_
        refine lv_aload_n hx hb d_Model_rowBehind_47 rfl (lv_at hl 3 rfl) ?_
        refine lv_iload_n hx hb d_Model_rowBehind_48 rfl (lv_at hl 4 rfl) ?_
        refine z_callV (index := 203) (As := [.int b1]) (rest := [.int v_42, .int v_43]) (wr := []) Z (s1_Model_calls l G (b0) (b1) (b4) (b5) (b6) (b7) (b8) (b9) (b10) (b11) (b12) (b13) (b14) (b15) (b16) (b17) (b18) (b19) (b20) (b21) (b22) (b23) (b24) (b25) (b26) (b27) (b28) (b29) (b30) (b31) (b32) (b33) (b34) (b35) (b36) (b37) (b38) (b39) (b40) (b41) (b42) (b43) (b44) (b45) (b46) (b47) (b48) (b49) (b50) (b51) (b52) (b53) (b54) (b55) (b56) (b57) (b58) hb1 hb9 hb11 hb12 hb14 hb18 hb31 hb34 hb45 hb48 hb54 hb58) hl.1 q1352 q1354 qs54 q14 q1355 ⟨by decide, by decide, by show _ = some 1; decide +kernel⟩ ⟨Nat.le_of_ble_eq_true rfl, Nat.le_of_ble_eq_true rfl⟩ ⟨Nat.le_of_ble_eq_true rfl, Nat.le_of_ble_eq_true rfl⟩ rfl (Nat.le_of_ble_eq_true rfl) d_Model_rowBehind_49 hP hD hS hA 0 12 rfl rfl rfl [0, 1] [] rfl rfl rfl rfl (by decide) (fun v w1 H locs hw_49 hP hD hS => ?_)
        obtain ⟨x_50, rfl, rfl, hx_50, hfx_51⟩ := hw_49
        have hP : va_P G.1 classes [(b0, .inr (12, [.int b4, .ref b5, .ref b6, .ref b7, .ref b8, .int b9, .ref b10, .int b11, .int b12, .int b13, .int b14, .ref b15, .ref b16, .ref b17, .int b18, .ref b19, .ref b20, .ref b21, .ref b22, .ref b23, .ref b24, .ref b25, .ref b26, .ref b27, .ref b28, .ref b29, .ref b30, .int b31, .ref b32, .ref b33, .int b34, .int b35, .int b36, .int b37, .ref b38, .ref b39, .ref b40, .ref b41, .ref b42, .ref b43, .ref b44, .int b45, .ref b46, .ref b47, .int b48, .ref b49, .ref b50, .ref b51, .ref b52, .ref b53, .int b54, .ref b55, .ref b56, .ref b57])), (b5, .inl (G.2 0, 503, .inl b58))] H := hP
        have hD := z_tie hP hD rfl
        refine W.widen (k := 0) (n := 0) (Nat.le_of_ble_eq_true rfl) (Nat.le_of_ble_eq_true rfl) ?_
        refine lv_icmp_ne (tgt := 60) hx hb d_Model_rowBehind_52 (by decide) (fun hc_52 => ?_) (fun hc_52 => ?_)
        · have _nhc_52 := hc_52
          have ni_53 : ¬ (v_42 : Int32).toInt = (x_50 : Int32).toInt := fun z => hc_52 ((fa_eq _ _).mpr z)
          refine lv_iconst (v := 0) hx hb d_Model_rowBehind_60 (by decide) ?_
          refine lv_iadd hx hb d_Model_rowBehind_61 ?_
          refine lv_topi (fun v_54 ev_54 => ?_)
          obtain ⟨qv_54, hv_54⟩ := zI_add (l := -2147483648) (h := 2147483647) (zI_all v_43) zc_0 ev_54 (by decide)
          rw [li_0] at qv_54
          refine lv_istore (lv' := [(4, .int v_54), (6, .int v_42), (5, .int y_35), (0, .ref b0), (1, .int b1), (2, .int b2), (3, .int b3)]) hx hb d_Model_rowBehind_62 hl (by decide) rfl (fun ls hl => ?_)
          obtain ⟨v_55, ev_55⟩ : ∃ z : Int32, z = y_35 + 1 := ⟨_, rfl⟩
          obtain ⟨qv_55, hv_55⟩ := zI_add (l := 1) (h := 3) hv_40 zc_1 ev_55 (by decide)
          rw [li_1] at qv_55
          refine lv_iinc (v := v_55) (lv' := [(5, .int v_55), (4, .int v_54), (6, .int v_42), (0, .ref b0), (1, .int b1), (2, .int b2), (3, .int b3)]) hx hb d_Model_rowBehind_64 hl (k := 2) rfl (by rw [ev_55]; rfl) (by decide) rfl (fun ls hl => ?_)
          refine lv_goto (tgt := 6) hx hb d_Model_rowBehind_67 (by decide) ?_
          exact ihk_34 (v_55) (v_54) _ _ _ (zI.wk (l' := 0) (h' := 3) hv_55 (by decide)) (zm_up qv_55 hmk_34 (by decide)) hP hD hS (lv_sub hl [0, 1, 3, 4, 5, 6] rfl)
        · have _nhc_52 := hc_52
          have ni_56 := (fa_eq _ _).mp hc_52
          have hv_57 : zI v_42 0 12 := zI.eq_l hv_42 hx_50 hc_52
          refine lv_bipush (v := 11) hx hb d_Model_rowBehind_55 (by decide) ?_
          refine lv_goto (tgt := 61) hx hb d_Model_rowBehind_57 (by decide) ?_
          refine lv_iadd hx hb d_Model_rowBehind_61 ?_
          refine lv_topi (fun v_58 ev_58 => ?_)
          refine lv_istore (lv' := [(4, .int v_58), (6, .int v_42), (5, .int y_35), (0, .ref b0), (1, .int b1), (2, .int b2), (3, .int b3)]) hx hb d_Model_rowBehind_62 hl (by decide) rfl (fun ls hl => ?_)
          obtain ⟨v_59, ev_59⟩ : ∃ z : Int32, z = y_35 + 1 := ⟨_, rfl⟩
          obtain ⟨qv_59, hv_59⟩ := zI_add (l := 1) (h := 3) hv_40 zc_1 ev_59 (by decide)
          rw [li_1] at qv_59
          refine lv_iinc (v := v_59) (lv' := [(5, .int v_59), (4, .int v_58), (6, .int v_42), (0, .ref b0), (1, .int b1), (2, .int b2), (3, .int b3)]) hx hb d_Model_rowBehind_64 hl (k := 2) rfl (by rw [ev_59]; rfl) (by decide) rfl (fun ls hl => ?_)
          refine lv_goto (tgt := 6) hx hb d_Model_rowBehind_67 (by decide) ?_
          exact ihk_34 (v_59) (v_58) _ _ _ (zI.wk (l' := 0) (h' := 3) hv_59 (by decide)) (zm_up qv_59 hmk_34 (by decide)) hP hD hS (lv_sub hl [0, 1, 3, 4, 5, 6] rfl)
      · have _nhc_47 := hc_47
        have ni_60 := (fa_lt _ _).mp (zi_nle hc_47)
        have hv_61 : zI v_42 0 11 := zI.lt_l hv_42 hx_45 (zi_nle hc_47) (by decide)
        have hv_62 : zI x_45 1 12 := zI.lt_r hv_42 hx_45 (zi_nle hc_47) (by decide)
        refine lv_aload_n hx hb d_Model_rowBehind_33 rfl (lv_at hl 3 rfl) ?_
        refine lv_iload_n hx hb d_Model_rowBehind_34 rfl (lv_at hl 4 rfl) ?_
        refine lv_iload hx hb d_Model_rowBehind_35 (lv_at hl 0 rfl) ?_
        refine z_callV (index := 207) (As := [.int b1, .int v_42]) (rest := [.int v_43]) (wr := []) Z (s1_Model_letterAt l G (b0) (b1) (v_42) (b4) (b5) (b6) (b7) (b8) (b9) (b10) (b11) (b12) (b13) (b14) (b15) (b16) (b17) (b18) (b19) (b20) (b21) (b22) (b23) (b24) (b25) (b26) (b27) (b28) (b29) (b30) (b31) (b32) (b33) (b34) (b35) (b36) (b37) (b38) (b39) (b40) (b41) (b42) (b43) (b44) (b45) (b46) (b47) (b48) (b49) (b50) (b51) (b52) (b53) (b54) (b55) (b56) (b57) (b58) hb1 hv_61 hb9 hb11 hb12 hb14 hb18 hb31 hb34 hb45 hb48 hb54 hb58) hl.1 q1372 q1374 qs59 q14 q1375 ⟨by decide, by decide, by show _ = some 2; decide +kernel⟩ ⟨Nat.le_of_ble_eq_true rfl, Nat.le_of_ble_eq_true rfl⟩ ⟨Nat.le_of_ble_eq_true rfl, Nat.le_of_ble_eq_true rfl⟩ rfl (Nat.le_of_ble_eq_true rfl) d_Model_rowBehind_37 hP hD hS hA 0 12 rfl rfl rfl [0, 1] [] rfl rfl rfl rfl (by decide) (fun v w1 H locs hw_63 hP hD hS => ?_)
        obtain ⟨x_64, rfl, rfl, hx_64⟩ := hw_63
        have hP : va_P G.1 classes [(b0, .inr (12, [.int b4, .ref b5, .ref b6, .ref b7, .ref b8, .int b9, .ref b10, .int b11, .int b12, .int b13, .int b14, .ref b15, .ref b16, .ref b17, .int b18, .ref b19, .ref b20, .ref b21, .ref b22, .ref b23, .ref b24, .ref b25, .ref b26, .ref b27, .ref b28, .ref b29, .ref b30, .int b31, .ref b32, .ref b33, .int b34, .int b35, .int b36, .int b37, .ref b38, .ref b39, .ref b40, .ref b41, .ref b42, .ref b43, .ref b44, .int b45, .ref b46, .ref b47, .int b48, .ref b49, .ref b50, .ref b51, .ref b52, .ref b53, .int b54, .ref b55, .ref b56, .ref b57])), (b5, .inl (G.2 0, 503, .inl b58))] H := hP
        have hD := z_tie hP hD rfl
        refine W.widen (k := 0) (n := 0) (Nat.le_of_ble_eq_true rfl) (Nat.le_of_ble_eq_true rfl) ?_
        refine lv_iconst (v := 1) hx hb d_Model_rowBehind_40 (by decide) ?_
        refine lv_iadd hx hb d_Model_rowBehind_41 ?_
        refine lv_topi (fun v_65 ev_65 => ?_)
        obtain ⟨qv_65, hv_65⟩ := zI_add (l := 1) (h := 10) hx_64 zc_1 ev_65 (by decide)
        rw [li_1] at qv_65
        refine lv_goto (tgt := 61) hx hb d_Model_rowBehind_42 (by decide) ?_
        refine lv_iadd hx hb d_Model_rowBehind_61 ?_
        refine lv_topi (fun v_66 ev_66 => ?_)
        refine lv_istore (lv' := [(4, .int v_66), (6, .int v_42), (5, .int y_35), (0, .ref b0), (1, .int b1), (2, .int b2), (3, .int b3)]) hx hb d_Model_rowBehind_62 hl (by decide) rfl (fun ls hl => ?_)
        obtain ⟨v_67, ev_67⟩ : ∃ z : Int32, z = y_35 + 1 := ⟨_, rfl⟩
        obtain ⟨qv_67, hv_67⟩ := zI_add (l := 1) (h := 3) hv_40 zc_1 ev_67 (by decide)
        rw [li_1] at qv_67
        refine lv_iinc (v := v_67) (lv' := [(5, .int v_67), (4, .int v_66), (6, .int v_42), (0, .ref b0), (1, .int b1), (2, .int b2), (3, .int b3)]) hx hb d_Model_rowBehind_64 hl (k := 2) rfl (by rw [ev_67]; rfl) (by decide) rfl (fun ls hl => ?_)
        refine lv_goto (tgt := 6) hx hb d_Model_rowBehind_67 (by decide) ?_
        exact ihk_34 (v_67) (v_66) _ _ _ (zI.wk (l' := 0) (h' := 3) hv_67 (by decide)) (zm_up qv_67 hmk_34 (by decide)) hP hD hS (lv_sub hl [0, 1, 3, 4, 5, 6] rfl)
