theorem d_Machine_from_0 : decode prog_4_method_2_code 0 = .ok (.aload_n 0, 1) := by decide +kernel
theorem d_Machine_from_1 : decode prog_4_method_2_code 1 = .ok (.getfield 33, 3) := by decide +kernel
theorem d_Machine_from_4 : decode prog_4_method_2_code 4 = .ok (.iload_n 1, 1) := by decide +kernel
theorem d_Machine_from_5 : decode prog_4_method_2_code 5 = .ok (.iaload, 1) := by decide +kernel
theorem d_Machine_from_6 : decode prog_4_method_2_code 6 = .ok (.sipush 2560, 3) := by decide +kernel
theorem d_Machine_from_9 : decode prog_4_method_2_code 9 = .ok (.idiv, 1) := by decide +kernel
theorem d_Machine_from_10 : decode prog_4_method_2_code 10 = .ok (.ireturn, 1) := by decide +kernel
abbrev m_s1_Machine_from : Room := { frames := 0, cells := 0, slots := 0, locals := 0 }
set_option maxHeartbeats 4000000 in
set_option maxRecDepth 100000 in
theorem s1_Machine_from (l : Launch) (G : zG) (b0 : Nat) (b1 : Int32) (b2 : Int32) (b3 : Int32) (b4 : Nat) (b5 : Nat) (b6 : Nat) (b7 : Nat) (b8 : Nat) (b9 : Nat) (b10 : Int32) (b11 : Nat) (b12 : Nat) (b13 : Nat) (b14 : Nat) (b15 : Nat) (b16 : Nat) (b17 : Nat → Int32) (hb1 : zI b1 0 239) (hb2 : zI b2 0 1) (hb3 : zI b3 0 241) (hb10 : zI b10 0 240) (hb17 : zK b17) : zM l G y_Machine_from prog_4_method_2_code 2 (Option.some Jvm.ClassFile.FieldType.int) m_s1_Machine_from [.ref b0, .int b1] [(b0, .inr (5, [.int b2, .int b3, .ref b4, .ref b5, .ref b6, .ref b7, .ref b8, .ref b9, .int b10, .ref b11, .ref b12, .ref b13, .ref b14, .ref b15, .ref b16])), (b11, .inl (G.2 0, 240, .inl b17))] (fun v w => ∃ (e0 : Int32), v = some (.int e0) ∧ w = [(b0, .inr (5, [.int b2, .int b3, .ref b4, .ref b5, .ref b6, .ref b7, .ref b8, .ref b9, .int b10, .ref b11, .ref b12, .ref b13, .ref b14, .ref b15, .ref b16])), (b11, .inl (G.2 0, 240, .inl b17))] ∧ (zI e0 0 240)) := by
  refine z_start (by decide +kernel) (Nat.le_of_ble_eq_true rfl) ?_
  intro p e s m below meth c A Z hr hnm hA hP hD hS ls hl
  have Z : zC p s m _ meth c prog_4_method_2_code 2 "TraceMachines$Machine" G := Z
  obtain ⟨hx, hb, hml, hown, hts, hK, hN, hlocks⟩ := id Z
  have hl : lv_has ls 2 [(0, .ref b0), (1, .int b1)] := hl
  refine lv_aload_n hx hb d_Machine_from_0 rfl (lv_at hl 0 rfl) ?_
  refine va_get (D := G.1) (ci := 5) (v := .ref b11) (C := R_Machine) (T := F_Machine) (N := 15) hx hb hts i_Machine hown hK hP 0 rfl rfl 9 (by decide) (hts _ q186) (fun _ h9 => h9) rfl d_Machine_from_1 ?_
  refine lv_iload_n hx hb d_Machine_from_4 rfl (lv_at hl 1 rfl) ?_
  refine va_iald hx hb hK hP 1 0 rfl rfl (zI.inn hb1 (by decide)) d_Machine_from_5 ?_
  refine lv_topi (fun v_1 ev_1 => ?_)
  obtain ⟨hv_1, kv_1⟩ := zK.ld hb17 ev_1
  refine lv_sipush (v := 2560) hx hb d_Machine_from_6 (by decide) ?_
  refine lv_idiv hx hb d_Machine_from_9 (by decide +kernel) ?_
  refine lv_topi (fun v_2 ev_2 => ?_)
  obtain ⟨qv_2, hv_2⟩ := zI_div (l := 0) (h := 240) (d := 2560) hv_1 rfl ev_2 (by decide)
  exact z_iret hx hb hr hlocks hP hD hS (Nat.le_of_ble_eq_true rfl) (Nat.le_of_ble_eq_true rfl) d_Machine_from_10 ⟨v_2, rfl, rfl, hv_2⟩
theorem d_Machine_letter_0 : decode prog_4_method_3_code 0 = .ok (.aload_n 0, 1) := by decide +kernel
theorem d_Machine_letter_1 : decode prog_4_method_3_code 1 = .ok (.getfield 33, 3) := by decide +kernel
theorem d_Machine_letter_4 : decode prog_4_method_3_code 4 = .ok (.iload_n 1, 1) := by decide +kernel
theorem d_Machine_letter_5 : decode prog_4_method_3_code 5 = .ok (.iaload, 1) := by decide +kernel
theorem d_Machine_letter_6 : decode prog_4_method_3_code 6 = .ok (.sipush 256, 3) := by decide +kernel
theorem d_Machine_letter_9 : decode prog_4_method_3_code 9 = .ok (.idiv, 1) := by decide +kernel
theorem d_Machine_letter_10 : decode prog_4_method_3_code 10 = .ok (.bipush 10, 2) := by decide +kernel
theorem d_Machine_letter_12 : decode prog_4_method_3_code 12 = .ok (.irem, 1) := by decide +kernel
theorem d_Machine_letter_13 : decode prog_4_method_3_code 13 = .ok (.ireturn, 1) := by decide +kernel
abbrev m_s1_Machine_letter : Room := { frames := 0, cells := 0, slots := 0, locals := 0 }
set_option maxHeartbeats 4000000 in
set_option maxRecDepth 100000 in
theorem s1_Machine_letter (l : Launch) (G : zG) (b0 : Nat) (b1 : Int32) (b2 : Int32) (b3 : Int32) (b4 : Nat) (b5 : Nat) (b6 : Nat) (b7 : Nat) (b8 : Nat) (b9 : Nat) (b10 : Int32) (b11 : Nat) (b12 : Nat) (b13 : Nat) (b14 : Nat) (b15 : Nat) (b16 : Nat) (b17 : Nat → Int32) (hb1 : zI b1 0 239) (hb2 : zI b2 0 1) (hb3 : zI b3 0 241) (hb10 : zI b10 0 240) (hb17 : zK b17) : zM l G y_Machine_letter prog_4_method_3_code 2 (Option.some Jvm.ClassFile.FieldType.int) m_s1_Machine_letter [.ref b0, .int b1] [(b0, .inr (5, [.int b2, .int b3, .ref b4, .ref b5, .ref b6, .ref b7, .ref b8, .ref b9, .int b10, .ref b11, .ref b12, .ref b13, .ref b14, .ref b15, .ref b16])), (b11, .inl (G.2 0, 240, .inl b17))] (fun v w => ∃ (e0 : Int32), v = some (.int e0) ∧ w = [(b0, .inr (5, [.int b2, .int b3, .ref b4, .ref b5, .ref b6, .ref b7, .ref b8, .ref b9, .int b10, .ref b11, .ref b12, .ref b13, .ref b14, .ref b15, .ref b16])), (b11, .inl (G.2 0, 240, .inl b17))] ∧ (zI e0 0 9)) := by
  refine z_start (by decide +kernel) (Nat.le_of_ble_eq_true rfl) ?_
  intro p e s m below meth c A Z hr hnm hA hP hD hS ls hl
  have Z : zC p s m _ meth c prog_4_method_3_code 2 "TraceMachines$Machine" G := Z
  obtain ⟨hx, hb, hml, hown, hts, hK, hN, hlocks⟩ := id Z
  have hl : lv_has ls 2 [(0, .ref b0), (1, .int b1)] := hl
  refine lv_aload_n hx hb d_Machine_letter_0 rfl (lv_at hl 0 rfl) ?_
  refine va_get (D := G.1) (ci := 5) (v := .ref b11) (C := R_Machine) (T := F_Machine) (N := 15) hx hb hts i_Machine hown hK hP 0 rfl rfl 9 (by decide) (hts _ q186) (fun _ h9 => h9) rfl d_Machine_letter_1 ?_
  refine lv_iload_n hx hb d_Machine_letter_4 rfl (lv_at hl 1 rfl) ?_
  refine va_iald hx hb hK hP 1 0 rfl rfl (zI.inn hb1 (by decide)) d_Machine_letter_5 ?_
  refine lv_topi (fun v_1 ev_1 => ?_)
  obtain ⟨hv_1, kv_1⟩ := zK.ld hb17 ev_1
  refine lv_sipush (v := 256) hx hb d_Machine_letter_6 (by decide) ?_
  refine lv_idiv hx hb d_Machine_letter_9 (by decide +kernel) ?_
  refine lv_topi (fun v_2 ev_2 => ?_)
  obtain ⟨qv_2, hv_2⟩ := zI_div (l := 0) (h := 2409) (d := 256) hv_1 rfl ev_2 (by decide)
  refine lv_bipush (v := 10) hx hb d_Machine_letter_10 (by decide) ?_
  refine lv_irem hx hb d_Machine_letter_12 (by decide +kernel) ?_
  refine lv_topi (fun v_3 ev_3 => ?_)
  obtain ⟨qv_3, hv_3⟩ := zI_rem (h := 9) (d := 10) hv_2 rfl ev_3 (by decide)
  exact z_iret hx hb hr hlocks hP hD hS (Nat.le_of_ble_eq_true rfl) (Nat.le_of_ble_eq_true rfl) d_Machine_letter_13 ⟨v_3, rfl, rfl, hv_3⟩
theorem d_Machine_to_0 : decode prog_4_method_4_code 0 = .ok (.aload_n 0, 1) := by decide +kernel
theorem d_Machine_to_1 : decode prog_4_method_4_code 1 = .ok (.getfield 33, 3) := by decide +kernel
theorem d_Machine_to_4 : decode prog_4_method_4_code 4 = .ok (.iload_n 1, 1) := by decide +kernel
theorem d_Machine_to_5 : decode prog_4_method_4_code 5 = .ok (.iaload, 1) := by decide +kernel
theorem d_Machine_to_6 : decode prog_4_method_4_code 6 = .ok (.sipush 256, 3) := by decide +kernel
theorem d_Machine_to_9 : decode prog_4_method_4_code 9 = .ok (.irem, 1) := by decide +kernel
theorem d_Machine_to_10 : decode prog_4_method_4_code 10 = .ok (.ireturn, 1) := by decide +kernel
abbrev m_s1_Machine_to : Room := { frames := 0, cells := 0, slots := 0, locals := 0 }
set_option maxHeartbeats 4000000 in
set_option maxRecDepth 100000 in
theorem s1_Machine_to (l : Launch) (G : zG) (b0 : Nat) (b1 : Int32) (b2 : Int32) (b3 : Int32) (b4 : Nat) (b5 : Nat) (b6 : Nat) (b7 : Nat) (b8 : Nat) (b9 : Nat) (b10 : Int32) (b11 : Nat) (b12 : Nat) (b13 : Nat) (b14 : Nat) (b15 : Nat) (b16 : Nat) (b17 : Nat → Int32) (hb1 : zI b1 0 239) (hb2 : zI b2 0 1) (hb3 : zI b3 0 241) (hb10 : zI b10 0 240) (hb17 : zK b17) : zM l G y_Machine_to prog_4_method_4_code 2 (Option.some Jvm.ClassFile.FieldType.int) m_s1_Machine_to [.ref b0, .int b1] [(b0, .inr (5, [.int b2, .int b3, .ref b4, .ref b5, .ref b6, .ref b7, .ref b8, .ref b9, .int b10, .ref b11, .ref b12, .ref b13, .ref b14, .ref b15, .ref b16])), (b11, .inl (G.2 0, 240, .inl b17))] (fun v w => ∃ (e0 : Int32), v = some (.int e0) ∧ w = [(b0, .inr (5, [.int b2, .int b3, .ref b4, .ref b5, .ref b6, .ref b7, .ref b8, .ref b9, .int b10, .ref b11, .ref b12, .ref b13, .ref b14, .ref b15, .ref b16])), (b11, .inl (G.2 0, 240, .inl b17))] ∧ (zI e0 0 240)) := by
  refine z_start (by decide +kernel) (Nat.le_of_ble_eq_true rfl) ?_
  intro p e s m below meth c A Z hr hnm hA hP hD hS ls hl
  have Z : zC p s m _ meth c prog_4_method_4_code 2 "TraceMachines$Machine" G := Z
  obtain ⟨hx, hb, hml, hown, hts, hK, hN, hlocks⟩ := id Z
  have hl : lv_has ls 2 [(0, .ref b0), (1, .int b1)] := hl
  refine lv_aload_n hx hb d_Machine_to_0 rfl (lv_at hl 0 rfl) ?_
  refine va_get (D := G.1) (ci := 5) (v := .ref b11) (C := R_Machine) (T := F_Machine) (N := 15) hx hb hts i_Machine hown hK hP 0 rfl rfl 9 (by decide) (hts _ q186) (fun _ h9 => h9) rfl d_Machine_to_1 ?_
  refine lv_iload_n hx hb d_Machine_to_4 rfl (lv_at hl 1 rfl) ?_
  refine va_iald hx hb hK hP 1 0 rfl rfl (zI.inn hb1 (by decide)) d_Machine_to_5 ?_
  refine lv_topi (fun v_1 ev_1 => ?_)
  obtain ⟨hv_1, kv_1⟩ := zK.ld hb17 ev_1
  refine lv_sipush (v := 256) hx hb d_Machine_to_6 (by decide) ?_
  refine lv_irem hx hb d_Machine_to_9 (by decide +kernel) ?_
  refine lv_topi (fun v_2 ev_2 => ?_)
  obtain ⟨qv_2, hv_2⟩ := zI_rem (h := 255) (d := 256) hv_1 rfl ev_2 (by decide)
  have hv_3 : zI v_2 0 240 := ⟨by omega, by omega⟩
  exact z_iret hx hb hr hlocks hP hD hS (Nat.le_of_ble_eq_true rfl) (Nat.le_of_ble_eq_true rfl) d_Machine_to_10 ⟨v_2, rfl, rfl, hv_3⟩
theorem d_Machine_placeOf_0 : decode prog_4_method_8_code 0 = .ok (.iconst 0, 1) := by decide +kernel
theorem d_Machine_placeOf_1 : decode prog_4_method_8_code 1 = .ok (.istore_n 2, 1) := by decide +kernel
theorem d_Machine_placeOf_2 : decode prog_4_method_8_code 2 = .ok (.aload_n 0, 1) := by decide +kernel
theorem d_Machine_placeOf_3 : decode prog_4_method_8_code 3 = .ok (.getfield 103, 3) := by decide +kernel
theorem d_Machine_placeOf_6 : decode prog_4_method_8_code 6 = .ok (.istore_n 3, 1) := by decide +kernel
theorem d_Machine_placeOf_7 : decode prog_4_method_8_code 7 = .ok (.iload_n 2, 1) := by decide +kernel
theorem d_Machine_placeOf_8 : decode prog_4_method_8_code 8 = .ok (.iload_n 3, 1) := by decide +kernel
theorem d_Machine_placeOf_9 : decode prog_4_method_8_code 9 = .ok (.if_icmp .ge 35, 3) := by decide +kernel
theorem d_Machine_placeOf_12 : decode prog_4_method_8_code 12 = .ok (.iload_n 2, 1) := by decide +kernel
theorem d_Machine_placeOf_13 : decode prog_4_method_8_code 13 = .ok (.iload_n 3, 1) := by decide +kernel
theorem d_Machine_placeOf_14 : decode prog_4_method_8_code 14 = .ok (.iadd, 1) := by decide +kernel
theorem d_Machine_placeOf_15 : decode prog_4_method_8_code 15 = .ok (.iconst 2, 1) := by decide +kernel
theorem d_Machine_placeOf_16 : decode prog_4_method_8_code 16 = .ok (.idiv, 1) := by decide +kernel
theorem d_Machine_placeOf_17 : decode prog_4_method_8_code 17 = .ok (.istore 4, 2) := by decide +kernel
theorem d_Machine_placeOf_19 : decode prog_4_method_8_code 19 = .ok (.aload_n 0, 1) := by decide +kernel
theorem d_Machine_placeOf_20 : decode prog_4_method_8_code 20 = .ok (.getfield 33, 3) := by decide +kernel
theorem d_Machine_placeOf_23 : decode prog_4_method_8_code 23 = .ok (.iload 4, 2) := by decide +kernel
theorem d_Machine_placeOf_25 : decode prog_4_method_8_code 25 = .ok (.iaload, 1) := by decide +kernel
theorem d_Machine_placeOf_26 : decode prog_4_method_8_code 26 = .ok (.iload_n 1, 1) := by decide +kernel
theorem d_Machine_placeOf_27 : decode prog_4_method_8_code 27 = .ok (.if_icmp .ge 11, 3) := by decide +kernel
theorem d_Machine_placeOf_30 : decode prog_4_method_8_code 30 = .ok (.iload 4, 2) := by decide +kernel
theorem d_Machine_placeOf_32 : decode prog_4_method_8_code 32 = .ok (.iconst 1, 1) := by decide +kernel
theorem d_Machine_placeOf_33 : decode prog_4_method_8_code 33 = .ok (.iadd, 1) := by decide +kernel
theorem d_Machine_placeOf_34 : decode prog_4_method_8_code 34 = .ok (.istore_n 2, 1) := by decide +kernel
theorem d_Machine_placeOf_35 : decode prog_4_method_8_code 35 = .ok (.goto 6, 3) := by decide +kernel
theorem d_Machine_placeOf_38 : decode prog_4_method_8_code 38 = .ok (.iload 4, 2) := by decide +kernel
theorem d_Machine_placeOf_40 : decode prog_4_method_8_code 40 = .ok (.istore_n 3, 1) := by decide +kernel
theorem d_Machine_placeOf_41 : decode prog_4_method_8_code 41 = .ok (.goto (-34), 3) := by decide +kernel
theorem d_Machine_placeOf_44 : decode prog_4_method_8_code 44 = .ok (.iload_n 2, 1) := by decide +kernel
theorem d_Machine_placeOf_45 : decode prog_4_method_8_code 45 = .ok (.ireturn, 1) := by decide +kernel
abbrev m_s1_Machine_placeOf : Room := { frames := 0, cells := 0, slots := 0, locals := 0 }
set_option maxHeartbeats 4000000 in
set_option maxRecDepth 100000 in
theorem s1_Machine_placeOf (l : Launch) (G : zG) (b0 : Nat) (b1 : Int32) (b2 : Int32) (b3 : Int32) (b4 : Nat) (b5 : Nat) (b6 : Nat) (b7 : Nat) (b8 : Nat) (b9 : Nat) (b10 : Int32) (b11 : Nat) (b12 : Nat) (b13 : Nat) (b14 : Nat) (b15 : Nat) (b16 : Nat) (b17 : Nat → Int32) (hb2 : zI b2 0 1) (hb3 : zI b3 0 241) (hb10 : zI b10 0 240) (hb17 : zK b17) : zM l G y_Machine_placeOf prog_4_method_8_code 5 (Option.some Jvm.ClassFile.FieldType.int) m_s1_Machine_placeOf [.ref b0, .int b1] [(b0, .inr (5, [.int b2, .int b3, .ref b4, .ref b5, .ref b6, .ref b7, .ref b8, .ref b9, .int b10, .ref b11, .ref b12, .ref b13, .ref b14, .ref b15, .ref b16])), (b11, .inl (G.2 0, 240, .inl b17))] (fun v w => ∃ (e0 : Int32), v = some (.int e0) ∧ w = [(b0, .inr (5, [.int b2, .int b3, .ref b4, .ref b5, .ref b6, .ref b7, .ref b8, .ref b9, .int b10, .ref b11, .ref b12, .ref b13, .ref b14, .ref b15, .ref b16])), (b11, .inl (G.2 0, 240, .inl b17))] ∧ (zI e0 0 240) ∧ (e0.toInt ≤ b10.toInt) ∧ (e0.toInt < b10.toInt → b1.toInt ≤ (b17 e0.toInt.toNat).toInt) ∧ (e0.toInt = b10.toInt → b10.toInt = 0 ∨ (b17 (b10.toInt - 1).toNat).toInt < b1.toInt)) := by
  refine z_start (by decide +kernel) (Nat.le_of_ble_eq_true rfl) ?_
  intro p e s m below meth c A Z hr hnm hA hP hD hS ls hl
  have Z : zC p s m _ meth c prog_4_method_8_code 5 "TraceMachines$Machine" G := Z
  obtain ⟨hx, hb, hml, hown, hts, hK, hN, hlocks⟩ := id Z
  have hl : lv_has ls 5 [(0, .ref b0), (1, .int b1)] := hl
  refine lv_iconst (v := 0) hx hb d_Machine_placeOf_0 (by decide) ?_
  refine lv_istore_n (lv' := [(2, .int 0), (0, .ref b0), (1, .int b1)]) hx hb d_Machine_placeOf_1 rfl hl (by decide) rfl (fun ls hl => ?_)
  refine lv_aload_n hx hb d_Machine_placeOf_2 rfl (lv_at hl 1 rfl) ?_
  refine va_get (D := G.1) (ci := 5) (v := .int b10) (C := R_Machine) (T := F_Machine) (N := 15) hx hb hts i_Machine hown hK hP 0 rfl rfl 8 (by decide) (hts _ q184) (fun _ h9 => h9) rfl d_Machine_placeOf_3 ?_
  refine lv_istore_n (lv' := [(3, .int b10), (2, .int 0), (0, .ref b0), (1, .int b1)]) hx hb d_Machine_placeOf_6 rfl hl (by decide) rfl (fun ls hl => ?_)
  suffices key : ∀ (k_79 : Nat) (y_80 : Int32) (y_81 : Int32) (H : Heap) (locs : List Loc) (ls : Array Slot), (zI y_80 0 240) → (zI y_81 0 240) → (y_81.toInt ≤ y_80.toInt) → (y_80.toInt ≤ b10.toInt) → ((y_80 : Int32).toInt < b10.toInt → b1.toInt ≤ (b17 (y_80 : Int32).toInt.toNat).toInt) → ((y_81 : Int32).toInt = 0 ∨ (b17 ((y_81 : Int32).toInt - 1).toNat).toInt < b1.toInt) → y_80.toInt - y_81.toInt < (k_79 : Int) → va_P G.1 classes [(b0, .inr (5, [.int b2, .int b3, .ref b4, .ref b5, .ref b6, .ref b7, .ref b8, .ref b9, .int b10, .ref b11, .ref b12, .ref b13, .ref b14, .ref b15, .ref b16])), (b11, .inl (G.2 0, 240, .inl b17))] H → va_D A [(b0, .inr (5, [.int b2, .int b3, .ref b4, .ref b5, .ref b6, .ref b7, .ref b8, .ref b9, .int b10, .ref b11, .ref b12, .ref b13, .ref b14, .ref b15, .ref b16])), (b11, .inl (G.2 0, 240, .inl b17))] → va_S A s.heap H locs → lv_has ls 5 [(3, .int y_80), (2, .int y_81), (0, .ref b0), (1, .int b1)] → W p l e m_s1_Machine_placeOf s m ([.ref b0, .int b1] : List Value).toArray below meth c H locs 0 0 (MQ below (zQ G (fun v w => ∃ (e0 : Int32), v = some (.int e0) ∧ w = [(b0, .inr (5, [.int b2, .int b3, .ref b4, .ref b5, .ref b6, .ref b7, .ref b8, .ref b9, .int b10, .ref b11, .ref b12, .ref b13, .ref b14, .ref b15, .ref b16])), (b11, .inl (G.2 0, 240, .inl b17))] ∧ (zI e0 0 240) ∧ (e0.toInt ≤ b10.toInt) ∧ (e0.toInt < b10.toInt → b1.toInt ≤ (b17 e0.toInt.toNat).toInt) ∧ (e0.toInt = b10.toInt → b10.toInt = 0 ∨ (b17 (b10.toInt - 1).toNat).toInt < b1.toInt)) A) ([.ref b0, .int b1] : List Value).toArray s m_s1_Machine_placeOf.cells m_s1_Machine_placeOf.slots A) (F0 m 7 ls []) by
    exact key 242 (b10) (0) _ _ _ hb10 (zI.wk (l' := 0) (h' := 240) zc_0 (by decide)) (by have _l0 := li_0; omega) (by omega) (fun h9 => absurd h9 (Int.lt_irrefl _)) (Or.inl li_0) (by have _l := li_0; omega) hP hD hS (lv_sub hl [0, 1, 2, 3] rfl)
  intro k_79
  induction k_79 with
  | zero =>
    intro y_80 y_81 H locs ls hy_80 hy_81 hli_82 hli_83 hli_84 hli_85 hmk_79 hP hD hS hl
    exfalso; omega
  | succ k_79 ihk_79 =>
    intro y_80 y_81 H locs ls hy_80 hy_81 hli_82 hli_83 hli_84 hli_85 hmk_79 hP hD hS hl
    refine lv_iload_n hx hb d_Machine_placeOf_7 rfl (lv_at hl 1 rfl) ?_
    refine lv_iload_n hx hb d_Machine_placeOf_8 rfl (lv_at hl 0 rfl) ?_
    refine lv_icmp_ge (tgt := 44) hx hb d_Machine_placeOf_9 (by decide) (fun hc_86 => ?_) (fun hc_86 => ?_)
    · have _nhc_86 := hc_86
      have ni_87 := (fa_le _ _).mp hc_86
      refine lv_iload_n hx hb d_Machine_placeOf_44 rfl (lv_at hl 1 rfl) ?_
      exact z_iret hx hb hr hlocks hP hD hS (Nat.le_of_ble_eq_true rfl) (Nat.le_of_ble_eq_true rfl) d_Machine_placeOf_45 ⟨y_81, rfl, rfl, hy_81, (by omega), (fun h9 => by have h8 : y_81.toInt = y_80.toInt := (by omega); rw [h8]; exact hli_84 (by omega)), (fun h9 => by rcases hli_85 with h8 | h8; left; omega; right; rw [← h9]; exact h8)⟩
    · have _nhc_86 := hc_86
      have ni_88 := (fa_lt _ _).mp (zi_nle hc_86)
      have hv_89 : zI y_81 0 239 := zI.lt_l hy_81 hy_80 (zi_nle hc_86) (by decide)
      have hv_90 : zI y_80 1 240 := zI.lt_r hy_81 hy_80 (zi_nle hc_86) (by decide)
      refine lv_iload_n hx hb d_Machine_placeOf_12 rfl (lv_at hl 1 rfl) ?_
      refine lv_iload_n hx hb d_Machine_placeOf_13 rfl (lv_at hl 0 rfl) ?_
      refine lv_iadd hx hb d_Machine_placeOf_14 ?_
      refine lv_topi (fun v_91 ev_91 => ?_)
      obtain ⟨qv_91, hv_91⟩ := zI_add (l := 1) (h := 479) hv_89 hv_90 ev_91 (by decide)
      refine lv_iconst (v := 2) hx hb d_Machine_placeOf_15 (by decide) ?_
      refine lv_idiv hx hb d_Machine_placeOf_16 (by decide +kernel) ?_
      refine lv_topi (fun v_92 ev_92 => ?_)
      obtain ⟨qv_92, hv_92⟩ := zI_div (l := 0) (h := 239) (d := 2) hv_91 rfl ev_92 (by decide)
      refine lv_istore (lv' := [(4, .int v_92), (3, .int y_80), (2, .int y_81), (0, .ref b0), (1, .int b1)]) hx hb d_Machine_placeOf_17 hl (by decide) rfl (fun ls hl => ?_)
      refine lv_aload_n hx hb d_Machine_placeOf_19 rfl (lv_at hl 3 rfl) ?_
      refine va_get (D := G.1) (ci := 5) (v := .ref b11) (C := R_Machine) (T := F_Machine) (N := 15) hx hb hts i_Machine hown hK hP 0 rfl rfl 9 (by decide) (hts _ q186) (fun _ h9 => h9) rfl d_Machine_placeOf_20 ?_
      refine lv_iload hx hb d_Machine_placeOf_23 (lv_at hl 0 rfl) ?_
      refine va_iald hx hb hK hP 1 0 rfl rfl (zI.inn hv_92 (by decide)) d_Machine_placeOf_25 ?_
      refine lv_topi (fun v_93 ev_93 => ?_)
      obtain ⟨hv_93, kv_93⟩ := zK.ld hb17 ev_93
      refine lv_iload_n hx hb d_Machine_placeOf_26 rfl (lv_at hl 4 rfl) ?_
      refine lv_icmp_ge (tgt := 38) hx hb d_Machine_placeOf_27 (by decide) (fun hc_94 => ?_) (fun hc_94 => ?_)
      · have _nhc_94 := hc_94
        have ni_95 := (fa_le _ _).mp hc_94
        have hv_96 : zI b1 (-2147483648) 616944 := zI.le_l (zI_all b1) hv_93 hc_94 (by decide)
        refine lv_iload hx hb d_Machine_placeOf_38 (lv_at hl 0 rfl) ?_
        refine lv_istore_n (lv' := [(3, .int v_92), (4, .int v_92), (2, .int y_81), (0, .ref b0), (1, .int b1)]) hx hb d_Machine_placeOf_40 rfl hl (by decide) rfl (fun ls hl => ?_)
        refine lv_goto (tgt := 7) hx hb d_Machine_placeOf_41 (by decide) ?_
        exact ihk_79 (v_92) (y_81) _ _ _ (zI.wk (l' := 0) (h' := 240) hv_92 (by decide)) (zI.wk (l' := 0) (h' := 240) hv_89 (by decide)) (by omega) (by omega) (fun h9 => by rw [← z_plf hv_92 (by decide), ← ev_93]; omega) hli_85 (by omega) hP hD hS (lv_sub hl [0, 2, 3, 4] rfl)
      · have _nhc_94 := hc_94
        have ni_97 := (fa_lt _ _).mp (zi_nle hc_94)
        have hv_98 : zI b1 1 2147483647 := zI.lt_r hv_93 (zI_all b1) (zi_nle hc_94) (by decide)
        refine lv_iload hx hb d_Machine_placeOf_30 (lv_at hl 0 rfl) ?_
        refine lv_iconst (v := 1) hx hb d_Machine_placeOf_32 (by decide) ?_
        refine lv_iadd hx hb d_Machine_placeOf_33 ?_
        refine lv_topi (fun v_99 ev_99 => ?_)
        obtain ⟨qv_99, hv_99⟩ := zI_add (l := 1) (h := 240) hv_92 zc_1 ev_99 (by decide)
        rw [li_1] at qv_99
        refine lv_istore_n (lv' := [(2, .int v_99), (4, .int v_92), (3, .int y_80), (0, .ref b0), (1, .int b1)]) hx hb d_Machine_placeOf_34 rfl hl (by decide) rfl (fun ls hl => ?_)
        refine lv_goto (tgt := 41) hx hb d_Machine_placeOf_35 (by decide) ?_
        refine lv_goto (tgt := 7) hx hb d_Machine_placeOf_41 (by decide) ?_
        exact ihk_79 (y_80) (v_99) _ _ _ (zI.wk (l' := 0) (h' := 240) hv_90 (by decide)) (zI.wk (l' := 0) (h' := 240) hv_99 (by decide)) (by omega) (by omega) hli_84 (Or.inr (by have h9 : (v_99.toInt - 1).toNat = v_92.toNatClampNeg := (by rw [z_plf hv_92 (by decide)]; omega); rw [h9, ← ev_93]; omega)) (by omega) hP hD hS (lv_sub hl [2, 0, 3, 4] rfl)
theorem d_Machine_gatherFirsts_0 : decode prog_4_method_11_code 0 = .ok (.iconst 0, 1) := by decide +kernel
theorem d_Machine_gatherFirsts_1 : decode prog_4_method_11_code 1 = .ok (.istore_n 1, 1) := by decide +kernel
theorem d_Machine_gatherFirsts_2 : decode prog_4_method_11_code 2 = .ok (.iconst 0, 1) := by decide +kernel
theorem d_Machine_gatherFirsts_3 : decode prog_4_method_11_code 3 = .ok (.istore_n 2, 1) := by decide +kernel
theorem d_Machine_gatherFirsts_4 : decode prog_4_method_11_code 4 = .ok (.iload_n 2, 1) := by decide +kernel
theorem d_Machine_gatherFirsts_5 : decode prog_4_method_11_code 5 = .ok (.aload_n 0, 1) := by decide +kernel
theorem d_Machine_gatherFirsts_6 : decode prog_4_method_11_code 6 = .ok (.getfield 75, 3) := by decide +kernel
theorem d_Machine_gatherFirsts_9 : decode prog_4_method_11_code 9 = .ok (.if_icmp .ge 39, 3) := by decide +kernel
theorem d_Machine_gatherFirsts_12 : decode prog_4_method_11_code 12 = .ok (.aload_n 0, 1) := by decide +kernel
theorem d_Machine_gatherFirsts_13 : decode prog_4_method_11_code 13 = .ok (.getfield 45, 3) := by decide +kernel
theorem d_Machine_gatherFirsts_16 : decode prog_4_method_11_code 16 = .ok (.iload_n 2, 1) := by decide +kernel
theorem d_Machine_gatherFirsts_17 : decode prog_4_method_11_code 17 = .ok (.iload_n 1, 1) := by decide +kernel
theorem d_Machine_gatherFirsts_18 : decode prog_4_method_11_code 18 = .ok (.iastore, 1) := by decide +kernel
theorem d_Machine_gatherFirsts_19 : decode prog_4_method_11_code 19 = .ok (.iload_n 1, 1) := by decide +kernel
theorem d_Machine_gatherFirsts_20 : decode prog_4_method_11_code 20 = .ok (.aload_n 0, 1) := by decide +kernel
theorem d_Machine_gatherFirsts_21 : decode prog_4_method_11_code 21 = .ok (.getfield 103, 3) := by decide +kernel
theorem d_Machine_gatherFirsts_24 : decode prog_4_method_11_code 24 = .ok (.if_icmp .ge 18, 3) := by decide +kernel
theorem d_Machine_gatherFirsts_27 : decode prog_4_method_11_code 27 = .ok (.aload_n 0, 1) := by decide +kernel
theorem d_Machine_gatherFirsts_28 : decode prog_4_method_11_code 28 = .ok (.iload_n 1, 1) := by decide +kernel
theorem d_Machine_gatherFirsts_29 : decode prog_4_method_11_code 29 = .ok (.invokevirtual 133, 3) := by decide +kernel
theorem d_Machine_gatherFirsts_32 : decode prog_4_method_11_code 32 = .ok (.iload_n 2, 1) := by decide +kernel
theorem d_Machine_gatherFirsts_33 : decode prog_4_method_11_code 33 = .ok (.if_icmp .ne 9, 3) := by decide +kernel
theorem d_Machine_gatherFirsts_36 : decode prog_4_method_11_code 36 = .ok (.iinc 1 1, 3) := by decide +kernel
theorem d_Machine_gatherFirsts_39 : decode prog_4_method_11_code 39 = .ok (.goto (-20), 3) := by decide +kernel
theorem d_Machine_gatherFirsts_42 : decode prog_4_method_11_code 42 = .ok (.iinc 2 1, 3) := by decide +kernel
theorem d_Machine_gatherFirsts_45 : decode prog_4_method_11_code 45 = .ok (.goto (-41), 3) := by decide +kernel
theorem d_Machine_gatherFirsts_48 : decode prog_4_method_11_code 48 = .ok (.aload_n 0, 1) := by decide +kernel
theorem d_Machine_gatherFirsts_49 : decode prog_4_method_11_code 49 = .ok (.getfield 45, 3) := by decide +kernel
theorem d_Machine_gatherFirsts_52 : decode prog_4_method_11_code 52 = .ok (.aload_n 0, 1) := by decide +kernel
theorem d_Machine_gatherFirsts_53 : decode prog_4_method_11_code 53 = .ok (.getfield 75, 3) := by decide +kernel
theorem d_Machine_gatherFirsts_56 : decode prog_4_method_11_code 56 = .ok (.aload_n 0, 1) := by decide +kernel
theorem d_Machine_gatherFirsts_57 : decode prog_4_method_11_code 57 = .ok (.getfield 103, 3) := by decide +kernel
theorem d_Machine_gatherFirsts_60 : decode prog_4_method_11_code 60 = .ok (.iastore, 1) := by decide +kernel
theorem d_Machine_gatherFirsts_61 : decode prog_4_method_11_code 61 = .ok (.return_, 1) := by decide +kernel
abbrev m_s1_Machine_gatherFirsts : Room := { frames := 1, cells := 0, slots := 0, locals := 21 }
set_option maxHeartbeats 4000000 in
set_option maxRecDepth 100000 in
theorem s1_Machine_gatherFirsts (l : Launch) (G : zG) (b0 : Nat) (b1 : Int32) (b2 : Int32) (b3 : Nat) (b4 : Nat) (b5 : Nat) (b6 : Nat) (b7 : Nat) (b8 : Nat) (b9 : Int32) (b10 : Nat) (b11 : Nat) (b12 : Nat) (b13 : Nat) (b14 : Nat) (b15 : Nat) (b16 : Nat → Int32) (b17 : Nat → Int32) (hb1 : zI b1 0 1) (hb2 : zI b2 0 241) (hb9 : zI b9 0 240) (hb16 : zK b16) (hb17 : zR b17 0 240) : zM l G y_Machine_gatherFirsts prog_4_method_11_code 3 (Option.none : Option Jvm.ClassFile.FieldType) m_s1_Machine_gatherFirsts [.ref b0] [(b0, .inr (5, [.int b1, .int b2, .ref b3, .ref b4, .ref b5, .ref b6, .ref b7, .ref b8, .int b9, .ref b10, .ref b11, .ref b12, .ref b13, .ref b14, .ref b15])), (b10, .inl (G.2 0, 240, .inl b16)), (b14, .inl (G.2 0, 242, .inl b17))] (fun v w => ∃ (e0 : Nat → Int32), v = none ∧ w = [(b0, .inr (5, [.int b1, .int b2, .ref b3, .ref b4, .ref b5, .ref b6, .ref b7, .ref b8, .int b9, .ref b10, .ref b11, .ref b12, .ref b13, .ref b14, .ref b15])), (b10, .inl (G.2 0, 240, .inl b16)), (b14, .inl (G.2 0, 242, .inl e0))] ∧ (zR e0 0 240)) := by
  refine z_start (by decide +kernel) (Nat.le_of_ble_eq_true rfl) ?_
  intro p e s m below meth c A Z hr hnm hA hP hD hS ls hl
  have Z : zC p s m _ meth c prog_4_method_11_code 3 "TraceMachines$Machine" G := Z
  obtain ⟨hx, hb, hml, hown, hts, hK, hN, hlocks⟩ := id Z
  have hl : lv_has ls 3 [(0, .ref b0)] := hl
  refine lv_iconst (v := 0) hx hb d_Machine_gatherFirsts_0 (by decide) ?_
  refine lv_istore_n (lv' := [(1, .int 0), (0, .ref b0)]) hx hb d_Machine_gatherFirsts_1 rfl hl (by decide) rfl (fun ls hl => ?_)
  refine lv_iconst (v := 0) hx hb d_Machine_gatherFirsts_2 (by decide) ?_
  refine lv_istore_n (lv' := [(2, .int 0), (1, .int 0), (0, .ref b0)]) hx hb d_Machine_gatherFirsts_3 rfl hl (by decide) rfl (fun ls hl => ?_)
  suffices key : ∀ (k_648 : Nat) (y_649 : Int32) (y_650 : Int32) (y_651 : Nat → Int32) (H : Heap) (locs : List Loc) (ls : Array Slot), (zI y_649 0 241) → (zI y_650 0 240) → (zR y_651 0 240) → (241 : Int) - y_649.toInt < (k_648 : Int) → va_P G.1 classes [(b0, .inr (5, [.int b1, .int b2, .ref b3, .ref b4, .ref b5, .ref b6, .ref b7, .ref b8, .int b9, .ref b10, .ref b11, .ref b12, .ref b13, .ref b14, .ref b15])), (b10, .inl (G.2 0, 240, .inl b16)), (b14, .inl (G.2 0, 242, .inl y_651))] H → va_D A [(b0, .inr (5, [.int b1, .int b2, .ref b3, .ref b4, .ref b5, .ref b6, .ref b7, .ref b8, .int b9, .ref b10, .ref b11, .ref b12, .ref b13, .ref b14, .ref b15])), (b10, .inl (G.2 0, 240, .inl b16)), (b14, .inl (G.2 0, 242, .inl y_651))] → va_S A s.heap H locs → lv_has ls 3 [(2, .int y_649), (1, .int y_650), (0, .ref b0)] → W p l e m_s1_Machine_gatherFirsts s m ([.ref b0] : List Value).toArray below meth c H locs 0 0 (MQ below (zQ G (fun v w => ∃ (e0 : Nat → Int32), v = none ∧ w = [(b0, .inr (5, [.int b1, .int b2, .ref b3, .ref b4, .ref b5, .ref b6, .ref b7, .ref b8, .int b9, .ref b10, .ref b11, .ref b12, .ref b13, .ref b14, .ref b15])), (b10, .inl (G.2 0, 240, .inl b16)), (b14, .inl (G.2 0, 242, .inl e0))] ∧ (zR e0 0 240)) A) ([.ref b0] : List Value).toArray s m_s1_Machine_gatherFirsts.cells m_s1_Machine_gatherFirsts.slots A) (F0 m 4 ls []) by
    exact key 242 (0) (0) (b17) _ _ _ (zI.wk (l' := 0) (h' := 241) zc_0 (by decide)) (zI.wk (l' := 0) (h' := 240) zc_0 (by decide)) hb17 (zm_upi (zI.wk (l' := 0) (h' := 241) zc_0 (by decide)) (by decide)) hP hD hS (lv_sub hl [0, 1, 2] rfl)
  intro k_648
  induction k_648 with
  | zero =>
    intro y_649 y_650 y_651 H locs ls hy_649 hy_650 hy_651 hmk_648 hP hD hS hl
    exact (zm_up0 hy_649 hmk_648).elim
  | succ k_648 ihk_648 =>
    intro y_649 y_650 y_651 H locs ls hy_649 hy_650 hy_651 hmk_648 hP hD hS hl
    refine lv_iload_n hx hb d_Machine_gatherFirsts_4 rfl (lv_at hl 0 rfl) ?_
    refine lv_aload_n hx hb d_Machine_gatherFirsts_5 rfl (lv_at hl 2 rfl) ?_
    refine va_get (D := G.1) (ci := 5) (v := .int b2) (C := R_Machine) (T := F_Machine) (N := 15) hx hb hts i_Machine hown hK hP 0 rfl rfl 1 (by decide) (hts _ q168) (fun _ h9 => h9) rfl d_Machine_gatherFirsts_6 ?_
    refine lv_icmp_ge (tgt := 48) hx hb d_Machine_gatherFirsts_9 (by decide) (fun hc_652 => ?_) (fun hc_652 => ?_)
    · have _nhc_652 := hc_652
      have ni_653 := (fa_le _ _).mp hc_652
      refine lv_aload_n hx hb d_Machine_gatherFirsts_48 rfl (lv_at hl 2 rfl) ?_
      refine va_get (D := G.1) (ci := 5) (v := .ref b14) (C := R_Machine) (T := F_Machine) (N := 15) hx hb hts i_Machine hown hK hP 0 rfl rfl 13 (by decide) (hts _ q195) (fun _ h9 => h9) rfl d_Machine_gatherFirsts_49 ?_
      refine lv_aload_n hx hb d_Machine_gatherFirsts_52 rfl (lv_at hl 2 rfl) ?_
      refine va_get (D := G.1) (ci := 5) (v := .int b2) (C := R_Machine) (T := F_Machine) (N := 15) hx hb hts i_Machine hown hK hP 0 rfl rfl 1 (by decide) (hts _ q168) (fun _ h9 => h9) rfl d_Machine_gatherFirsts_53 ?_
      refine lv_aload_n hx hb d_Machine_gatherFirsts_56 rfl (lv_at hl 2 rfl) ?_
      refine va_get (D := G.1) (ci := 5) (v := .int b9) (C := R_Machine) (T := F_Machine) (N := 15) hx hb hts i_Machine hown hK hP 0 rfl rfl 8 (by decide) (hts _ q184) (fun _ h9 => h9) rfl d_Machine_gatherFirsts_57 ?_
      refine va_iast hx hb hK hP hD hS 2 0 rfl rfl (zI.inn hb2 (by decide)) d_Machine_gatherFirsts_60 (fun H locs hP hD hS => ?_)
      obtain ⟨f_654, hf_654, gf_654, uf_654, hP, hD⟩ := z_newfu 2 hP hD rfl hy_651 hb9
      have hP : va_P G.1 classes [(b0, .inr (5, [.int b1, .int b2, .ref b3, .ref b4, .ref b5, .ref b6, .ref b7, .ref b8, .int b9, .ref b10, .ref b11, .ref b12, .ref b13, .ref b14, .ref b15])), (b10, .inl (G.2 0, 240, .inl b16)), (b14, .inl (G.2 0, 242, .inl f_654))] H := hP
      have hD := z_tie hP hD rfl
      exact z_vret hx hb hr hlocks hP hD hS (Nat.le_of_ble_eq_true rfl) (Nat.le_of_ble_eq_true rfl) d_Machine_gatherFirsts_61 ⟨f_654, rfl, rfl, hf_654⟩
    · have _nhc_652 := hc_652
      have ni_655 := (fa_lt _ _).mp (zi_nle hc_652)
      have hv_656 : zI y_649 0 240 := zI.lt_l hy_649 hb2 (zi_nle hc_652) (by decide)
      have hv_657 : zI b2 1 241 := zI.lt_r hy_649 hb2 (zi_nle hc_652) (by decide)
      refine lv_aload_n hx hb d_Machine_gatherFirsts_12 rfl (lv_at hl 2 rfl) ?_
      refine va_get (D := G.1) (ci := 5) (v := .ref b14) (C := R_Machine) (T := F_Machine) (N := 15) hx hb hts i_Machine hown hK hP 0 rfl rfl 13 (by decide) (hts _ q195) (fun _ h9 => h9) rfl d_Machine_gatherFirsts_13 ?_
      refine lv_iload_n hx hb d_Machine_gatherFirsts_16 rfl (lv_at hl 0 rfl) ?_
      refine lv_iload_n hx hb d_Machine_gatherFirsts_17 rfl (lv_at hl 1 rfl) ?_
      refine va_iast hx hb hK hP hD hS 2 0 rfl rfl (zI.inn hv_656 (by decide)) d_Machine_gatherFirsts_18 (fun H locs hP hD hS => ?_)
      obtain ⟨f_658, hf_658, gf_658, uf_658, hP, hD⟩ := z_newfu 2 hP hD rfl hy_651 hy_650
      have hP : va_P G.1 classes [(b0, .inr (5, [.int b1, .int b2, .ref b3, .ref b4, .ref b5, .ref b6, .ref b7, .ref b8, .int b9, .ref b10, .ref b11, .ref b12, .ref b13, .ref b14, .ref b15])), (b10, .inl (G.2 0, 240, .inl b16)), (b14, .inl (G.2 0, 242, .inl f_658))] H := hP
      have hD := z_tie hP hD rfl
      suffices key : ∀ (k_686 : Nat) (y_687 : Int32) (H : Heap) (locs : List Loc) (ls : Array Slot), (zI y_687 0 240) → (240 : Int) - y_687.toInt < (k_686 : Int) → va_P G.1 classes [(b0, .inr (5, [.int b1, .int b2, .ref b3, .ref b4, .ref b5, .ref b6, .ref b7, .ref b8, .int b9, .ref b10, .ref b11, .ref b12, .ref b13, .ref b14, .ref b15])), (b10, .inl (G.2 0, 240, .inl b16)), (b14, .inl (G.2 0, 242, .inl f_658))] H → va_D A [(b0, .inr (5, [.int b1, .int b2, .ref b3, .ref b4, .ref b5, .ref b6, .ref b7, .ref b8, .int b9, .ref b10, .ref b11, .ref b12, .ref b13, .ref b14, .ref b15])), (b10, .inl (G.2 0, 240, .inl b16)), (b14, .inl (G.2 0, 242, .inl f_658))] → va_S A s.heap H locs → lv_has ls 3 [(2, .int y_649), (1, .int y_687), (0, .ref b0)] → W p l e m_s1_Machine_gatherFirsts s m ([.ref b0] : List Value).toArray below meth c H locs 0 0 (MQ below (zQ G (fun v w => ∃ (e0 : Nat → Int32), v = none ∧ w = [(b0, .inr (5, [.int b1, .int b2, .ref b3, .ref b4, .ref b5, .ref b6, .ref b7, .ref b8, .int b9, .ref b10, .ref b11, .ref b12, .ref b13, .ref b14, .ref b15])), (b10, .inl (G.2 0, 240, .inl b16)), (b14, .inl (G.2 0, 242, .inl e0))] ∧ (zR e0 0 240)) A) ([.ref b0] : List Value).toArray s m_s1_Machine_gatherFirsts.cells m_s1_Machine_gatherFirsts.slots A) (F0 m 19 ls []) by
        exact key 241 (y_650) _ _ _ hy_650 (zm_upi hy_650 (by decide)) hP hD hS (lv_sub hl [0, 1, 2] rfl)
      intro k_686
      induction k_686 with
      | zero =>
        intro y_687 H locs ls hy_687 hmk_686 hP hD hS hl
        exact (zm_up0 hy_687 hmk_686).elim
      | succ k_686 ihk_686 =>
        intro y_687 H locs ls hy_687 hmk_686 hP hD hS hl
        refine lv_iload_n hx hb d_Machine_gatherFirsts_19 rfl (lv_at hl 1 rfl) ?_
        refine lv_aload_n hx hb d_Machine_gatherFirsts_20 rfl (lv_at hl 2 rfl) ?_
        refine va_get (D := G.1) (ci := 5) (v := .int b9) (C := R_Machine) (T := F_Machine) (N := 15) hx hb hts i_Machine hown hK hP 0 rfl rfl 8 (by decide) (hts _ q184) (fun _ h9 => h9) rfl d_Machine_gatherFirsts_21 ?_
        refine lv_icmp_ge (tgt := 42) hx hb d_Machine_gatherFirsts_24 (by decide) (fun hc_688 => ?_) (fun hc_688 => ?_)
        · have _nhc_688 := hc_688
          have ni_689 := (fa_le _ _).mp hc_688
          obtain ⟨v_690, ev_690⟩ : ∃ z : Int32, z = y_649 + 1 := ⟨_, rfl⟩
          obtain ⟨qv_690, hv_690⟩ := zI_add (l := 1) (h := 241) hv_656 zc_1 ev_690 (by decide)
          rw [li_1] at qv_690
          refine lv_iinc (v := v_690) (lv' := [(2, .int v_690), (1, .int y_687), (0, .ref b0)]) hx hb d_Machine_gatherFirsts_42 hl (k := 0) rfl (by rw [ev_690]; rfl) (by decide) rfl (fun ls hl => ?_)
          refine lv_goto (tgt := 4) hx hb d_Machine_gatherFirsts_45 (by decide) ?_
          exact ihk_648 (v_690) (y_687) (f_658) _ _ _ (zI.wk (l' := 0) (h' := 241) hv_690 (by decide)) hy_687 hf_658 (zm_up qv_690 hmk_648 (by decide)) hP hD hS (lv_sub hl [0, 1, 2] rfl)
        · have _nhc_688 := hc_688
          have ni_691 := (fa_lt _ _).mp (zi_nle hc_688)
          have hv_692 : zI y_687 0 239 := zI.lt_l hy_687 hb9 (zi_nle hc_688) (by decide)
          have hv_693 : zI b9 1 240 := zI.lt_r hy_687 hb9 (zi_nle hc_688) (by decide)
          refine lv_aload_n hx hb d_Machine_gatherFirsts_27 rfl (lv_at hl 2 rfl) ?_
          refine lv_iload_n hx hb d_Machine_gatherFirsts_28 rfl (lv_at hl 1 rfl) ?_
          refine z_callV (index := 133) (As := [.int y_687]) (rest := []) (wr := [(b14, .inl (G.2 0, 242, .inl f_658))]) Z (s1_Machine_from l G (b0) (y_687) (b1) (b2) (b3) (b4) (b5) (b6) (b7) (b8) (b9) (b10) (b11) (b12) (b13) (b14) (b15) (b16) hv_692 hb1 (zI.wk (l' := 0) (h' := 241) hv_657 (by decide)) (zI.wk (l' := 0) (h' := 240) hv_693 (by decide)) hb16) hl.1 q660 q661 q662 q6 q663 ⟨by decide, by decide, by show _ = some 1; decide +kernel⟩ ⟨Nat.le_of_ble_eq_true rfl, Nat.le_of_ble_eq_true rfl⟩ ⟨Nat.le_of_ble_eq_true rfl, Nat.le_of_ble_eq_true rfl⟩ rfl (Nat.le_of_ble_eq_true rfl) d_Machine_gatherFirsts_29 hP hD hS hA 0 5 rfl rfl rfl [0, 1] [2] rfl rfl rfl rfl (by decide) (fun v w1 H locs hw_694 hP hD hS => ?_)
          obtain ⟨x_695, rfl, rfl, hx_695⟩ := hw_694
          have hP : va_P G.1 classes [(b14, .inl (G.2 0, 242, .inl f_658)), (b0, .inr (5, [.int b1, .int b2, .ref b3, .ref b4, .ref b5, .ref b6, .ref b7, .ref b8, .int b9, .ref b10, .ref b11, .ref b12, .ref b13, .ref b14, .ref b15])), (b10, .inl (G.2 0, 240, .inl b16))] H := hP
          have hD := z_tie hP hD rfl
          refine W.widen (k := 0) (n := 0) (Nat.le_of_ble_eq_true rfl) (Nat.le_of_ble_eq_true rfl) ?_
          refine lv_iload_n hx hb d_Machine_gatherFirsts_32 rfl (lv_at hl 0 rfl) ?_
          refine lv_icmp_ne (tgt := 42) hx hb d_Machine_gatherFirsts_33 (by decide) (fun hc_696 => ?_) (fun hc_696 => ?_)
          · have _nhc_696 := hc_696
            have ni_697 : ¬ (x_695 : Int32).toInt = (y_649 : Int32).toInt := fun z => hc_696 ((fa_eq _ _).mpr z)
            obtain ⟨v_698, ev_698⟩ : ∃ z : Int32, z = y_649 + 1 := ⟨_, rfl⟩
            obtain ⟨qv_698, hv_698⟩ := zI_add (l := 1) (h := 241) hv_656 zc_1 ev_698 (by decide)
            rw [li_1] at qv_698
            refine lv_iinc (v := v_698) (lv' := [(2, .int v_698), (1, .int y_687), (0, .ref b0)]) hx hb d_Machine_gatherFirsts_42 hl (k := 0) rfl (by rw [ev_698]; rfl) (by decide) rfl (fun ls hl => ?_)
            refine lv_goto (tgt := 4) hx hb d_Machine_gatherFirsts_45 (by decide) ?_
            exact ihk_648 (v_698) (y_687) (f_658) _ _ _ (zI.wk (l' := 0) (h' := 241) hv_698 (by decide)) (zI.wk (l' := 0) (h' := 240) hv_692 (by decide)) hf_658 (zm_up qv_698 hmk_648 (by decide)) (hP.sub [1, 2, 0] rfl) (hD.sub [1, 2, 0] (by decide) rfl) hS (lv_sub hl [0, 1, 2] rfl)
          · have _nhc_696 := hc_696
            have ni_699 := (fa_eq _ _).mp hc_696
            obtain ⟨v_700, ev_700⟩ : ∃ z : Int32, z = y_687 + 1 := ⟨_, rfl⟩
            obtain ⟨qv_700, hv_700⟩ := zI_add (l := 1) (h := 240) hv_692 zc_1 ev_700 (by decide)
            rw [li_1] at qv_700
            refine lv_iinc (v := v_700) (lv' := [(1, .int v_700), (2, .int y_649), (0, .ref b0)]) hx hb d_Machine_gatherFirsts_36 hl (k := 1) rfl (by rw [ev_700]; rfl) (by decide) rfl (fun ls hl => ?_)
            refine lv_goto (tgt := 19) hx hb d_Machine_gatherFirsts_39 (by decide) ?_
            exact ihk_686 (v_700) _ _ _ (zI.wk (l' := 0) (h' := 240) hv_700 (by decide)) (zm_up qv_700 hmk_686 (by decide)) (hP.sub [1, 2, 0] rfl) (hD.sub [1, 2, 0] (by decide) rfl) hS (lv_sub hl [1, 0, 2] rfl)
theorem d_Machine_leavers_0 : decode prog_4_method_12_code 0 = .ok (.iconst 0, 1) := by decide +kernel
theorem d_Machine_leavers_1 : decode prog_4_method_12_code 1 = .ok (.istore_n 2, 1) := by decide +kernel
theorem d_Machine_leavers_2 : decode prog_4_method_12_code 2 = .ok (.aload_n 0, 1) := by decide +kernel
theorem d_Machine_leavers_3 : decode prog_4_method_12_code 3 = .ok (.getfield 45, 3) := by decide +kernel
theorem d_Machine_leavers_6 : decode prog_4_method_12_code 6 = .ok (.iload_n 1, 1) := by decide +kernel
theorem d_Machine_leavers_7 : decode prog_4_method_12_code 7 = .ok (.iaload, 1) := by decide +kernel
theorem d_Machine_leavers_8 : decode prog_4_method_12_code 8 = .ok (.istore_n 3, 1) := by decide +kernel
theorem d_Machine_leavers_9 : decode prog_4_method_12_code 9 = .ok (.iload_n 3, 1) := by decide +kernel
theorem d_Machine_leavers_10 : decode prog_4_method_12_code 10 = .ok (.aload_n 0, 1) := by decide +kernel
theorem d_Machine_leavers_11 : decode prog_4_method_12_code 11 = .ok (.getfield 45, 3) := by decide +kernel
theorem d_Machine_leavers_14 : decode prog_4_method_12_code 14 = .ok (.iload_n 1, 1) := by decide +kernel
theorem d_Machine_leavers_15 : decode prog_4_method_12_code 15 = .ok (.iconst 1, 1) := by decide +kernel
theorem d_Machine_leavers_16 : decode prog_4_method_12_code 16 = .ok (.iadd, 1) := by decide +kernel
theorem d_Machine_leavers_17 : decode prog_4_method_12_code 17 = .ok (.iaload, 1) := by decide +kernel
theorem d_Machine_leavers_18 : decode prog_4_method_12_code 18 = .ok (.if_icmp .ge 18, 3) := by decide +kernel
theorem d_Machine_leavers_21 : decode prog_4_method_12_code 21 = .ok (.iload_n 2, 1) := by decide +kernel
theorem d_Machine_leavers_22 : decode prog_4_method_12_code 22 = .ok (.aload_n 0, 1) := by decide +kernel
theorem d_Machine_leavers_23 : decode prog_4_method_12_code 23 = .ok (.getfield 36, 3) := by decide +kernel
theorem d_Machine_leavers_26 : decode prog_4_method_12_code 26 = .ok (.iload_n 3, 1) := by decide +kernel
theorem d_Machine_leavers_27 : decode prog_4_method_12_code 27 = .ok (.iaload, 1) := by decide +kernel
theorem d_Machine_leavers_28 : decode prog_4_method_12_code 28 = .ok (.iadd, 1) := by decide +kernel
theorem d_Machine_leavers_29 : decode prog_4_method_12_code 29 = .ok (.istore_n 2, 1) := by decide +kernel
theorem d_Machine_leavers_30 : decode prog_4_method_12_code 30 = .ok (.iinc 3 1, 3) := by decide +kernel
theorem d_Machine_leavers_33 : decode prog_4_method_12_code 33 = .ok (.goto (-24), 3) := by decide +kernel
theorem d_Machine_leavers_36 : decode prog_4_method_12_code 36 = .ok (.iload_n 2, 1) := by decide +kernel
theorem d_Machine_leavers_37 : decode prog_4_method_12_code 37 = .ok (.ireturn, 1) := by decide +kernel
abbrev m_s1_Machine_leavers : Room := { frames := 0, cells := 0, slots := 0, locals := 0 }
set_option maxHeartbeats 4000000 in
set_option maxRecDepth 100000 in
theorem s1_Machine_leavers (l : Launch) (G : zG) (b0 : Nat) (b1 : Int32) (b2 : Int32) (b3 : Int32) (b4 : Nat) (b5 : Nat) (b6 : Nat) (b7 : Nat) (b8 : Nat) (b9 : Nat) (b10 : Int32) (b11 : Nat) (b12 : Nat) (b13 : Nat) (b14 : Nat) (b15 : Nat) (b16 : Nat) (b17 : Nat → Int32) (b18 : Nat → Int32) (hb1 : zI b1 0 240) (hb2 : zI b2 0 1) (hb3 : zI b3 0 241) (hb10 : zI b10 0 240) (hb18 : zR b18 0 240) : zM l G y_Machine_leavers prog_4_method_12_code 4 (Option.some Jvm.ClassFile.FieldType.int) m_s1_Machine_leavers [.ref b0, .int b1] [(b0, .inr (5, [.int b2, .int b3, .ref b4, .ref b5, .ref b6, .ref b7, .ref b8, .ref b9, .int b10, .ref b11, .ref b12, .ref b13, .ref b14, .ref b15, .ref b16])), (b12, .inl (G.2 0, 240, .inl b17)), (b15, .inl (G.2 0, 242, .inl b18))] (fun v w => ∃ (e0 : Int32), v = some (.int e0) ∧ w = [(b0, .inr (5, [.int b2, .int b3, .ref b4, .ref b5, .ref b6, .ref b7, .ref b8, .ref b9, .int b10, .ref b11, .ref b12, .ref b13, .ref b14, .ref b15, .ref b16])), (b12, .inl (G.2 0, 240, .inl b17)), (b15, .inl (G.2 0, 242, .inl b18))] ∧ ((b18 b1.toNatClampNeg).toInt = 240 → e0.toInt = 0)) := by
  refine z_start (by decide +kernel) (Nat.le_of_ble_eq_true rfl) ?_
  intro p e s m below meth c A Z hr hnm hA hP hD hS ls hl
  have Z : zC p s m _ meth c prog_4_method_12_code 4 "TraceMachines$Machine" G := Z
  obtain ⟨hx, hb, hml, hown, hts, hK, hN, hlocks⟩ := id Z
  have hl : lv_has ls 4 [(0, .ref b0), (1, .int b1)] := hl
  refine lv_iconst (v := 0) hx hb d_Machine_leavers_0 (by decide) ?_
  refine lv_istore_n (lv' := [(2, .int 0), (0, .ref b0), (1, .int b1)]) hx hb d_Machine_leavers_1 rfl hl (by decide) rfl (fun ls hl => ?_)
  refine lv_aload_n hx hb d_Machine_leavers_2 rfl (lv_at hl 1 rfl) ?_
  refine va_get (D := G.1) (ci := 5) (v := .ref b15) (C := R_Machine) (T := F_Machine) (N := 15) hx hb hts i_Machine hown hK hP 0 rfl rfl 13 (by decide) (hts _ q195) (fun _ h9 => h9) rfl d_Machine_leavers_3 ?_
  refine lv_iload_n hx hb d_Machine_leavers_6 rfl (lv_at hl 2 rfl) ?_
  refine va_iald hx hb hK hP 2 0 rfl rfl (zI.inn hb1 (by decide)) d_Machine_leavers_7 ?_
  refine lv_topi (fun v_1 ev_1 => ?_)
  have hv_1 : zI v_1 0 240 := (hb18 _).eq ev_1
  refine lv_istore_n (lv' := [(3, .int v_1), (2, .int 0), (0, .ref b0), (1, .int b1)]) hx hb d_Machine_leavers_8 rfl hl (by decide) rfl (fun ls hl => ?_)
  suffices key : ∀ (k_24 : Nat) (y_25 : Int32) (y_26 : Int32) (H : Heap) (locs : List Loc) (ls : Array Slot), (zI y_25 0 240) → ((b18 b1.toNatClampNeg).toInt = 240 → (y_26 : Int32).toInt = 0 ∧ (y_25 : Int32).toInt = 240) → (240 : Int) - y_25.toInt < (k_24 : Int) → va_P G.1 classes [(b0, .inr (5, [.int b2, .int b3, .ref b4, .ref b5, .ref b6, .ref b7, .ref b8, .ref b9, .int b10, .ref b11, .ref b12, .ref b13, .ref b14, .ref b15, .ref b16])), (b12, .inl (G.2 0, 240, .inl b17)), (b15, .inl (G.2 0, 242, .inl b18))] H → va_D A [(b0, .inr (5, [.int b2, .int b3, .ref b4, .ref b5, .ref b6, .ref b7, .ref b8, .ref b9, .int b10, .ref b11, .ref b12, .ref b13, .ref b14, .ref b15, .ref b16])), (b12, .inl (G.2 0, 240, .inl b17)), (b15, .inl (G.2 0, 242, .inl b18))] → va_S A s.heap H locs → lv_has ls 4 [(3, .int y_25), (2, .int y_26), (0, .ref b0), (1, .int b1)] → W p l e m_s1_Machine_leavers s m ([.ref b0, .int b1] : List Value).toArray below meth c H locs 0 0 (MQ below (zQ G (fun v w => ∃ (e0 : Int32), v = some (.int e0) ∧ w = [(b0, .inr (5, [.int b2, .int b3, .ref b4, .ref b5, .ref b6, .ref b7, .ref b8, .ref b9, .int b10, .ref b11, .ref b12, .ref b13, .ref b14, .ref b15, .ref b16])), (b12, .inl (G.2 0, 240, .inl b17)), (b15, .inl (G.2 0, 242, .inl b18))] ∧ ((b18 b1.toNatClampNeg).toInt = 240 → e0.toInt = 0)) A) ([.ref b0, .int b1] : List Value).toArray s m_s1_Machine_leavers.cells m_s1_Machine_leavers.slots A) (F0 m 9 ls []) by
    exact key 241 (v_1) (0) _ _ _ hv_1 (fun h9 => ⟨li_0, by rw [ev_1]; exact h9⟩) (zm_upi hv_1 (by decide)) hP hD hS (lv_sub hl [0, 1, 2, 3] rfl)
  intro k_24
  induction k_24 with
  | zero =>
    intro y_25 y_26 H locs ls hy_25 hli_27 hmk_24 hP hD hS hl
    exact (zm_up0 hy_25 hmk_24).elim
  | succ k_24 ihk_24 =>
    intro y_25 y_26 H locs ls hy_25 hli_27 hmk_24 hP hD hS hl
    refine lv_iload_n hx hb d_Machine_leavers_9 rfl (lv_at hl 0 rfl) ?_
    refine lv_aload_n hx hb d_Machine_leavers_10 rfl (lv_at hl 2 rfl) ?_
    refine va_get (D := G.1) (ci := 5) (v := .ref b15) (C := R_Machine) (T := F_Machine) (N := 15) hx hb hts i_Machine hown hK hP 0 rfl rfl 13 (by decide) (hts _ q195) (fun _ h9 => h9) rfl d_Machine_leavers_11 ?_
    refine lv_iload_n hx hb d_Machine_leavers_14 rfl (lv_at hl 3 rfl) ?_
    refine lv_iconst (v := 1) hx hb d_Machine_leavers_15 (by decide) ?_
    refine lv_iadd hx hb d_Machine_leavers_16 ?_
    refine lv_topi (fun v_28 ev_28 => ?_)
    obtain ⟨qv_28, hv_28⟩ := zI_add (l := 1) (h := 241) hb1 zc_1 ev_28 (by decide)
    rw [li_1] at qv_28
    refine va_iald hx hb hK hP 2 0 rfl rfl (zI.inn hv_28 (by decide)) d_Machine_leavers_17 ?_
    refine lv_topi (fun v_29 ev_29 => ?_)
    have hv_29 : zI v_29 0 240 := (hb18 _).eq ev_29
    refine lv_icmp_ge (tgt := 36) hx hb d_Machine_leavers_18 (by decide) (fun hc_30 => ?_) (fun hc_30 => ?_)
    · have _nhc_30 := hc_30
      have ni_31 := (fa_le _ _).mp hc_30
      refine lv_iload_n hx hb d_Machine_leavers_36 rfl (lv_at hl 1 rfl) ?_
      exact z_iret hx hb hr hlocks hP hD hS (Nat.le_of_ble_eq_true rfl) (Nat.le_of_ble_eq_true rfl) d_Machine_leavers_37 ⟨y_26, rfl, rfl, (fun h9 => (hli_27 h9).1)⟩
    · have _nhc_30 := hc_30
      have ni_32 := (fa_lt _ _).mp (zi_nle hc_30)
      have hv_33 : zI y_25 0 239 := zI.lt_l hy_25 hv_29 (zi_nle hc_30) (by decide)
      have hv_34 : zI v_29 1 240 := zI.lt_r hy_25 hv_29 (zi_nle hc_30) (by decide)
      refine lv_iload_n hx hb d_Machine_leavers_21 rfl (lv_at hl 1 rfl) ?_
      refine lv_aload_n hx hb d_Machine_leavers_22 rfl (lv_at hl 2 rfl) ?_
      refine va_get (D := G.1) (ci := 5) (v := .ref b12) (C := R_Machine) (T := F_Machine) (N := 15) hx hb hts i_Machine hown hK hP 0 rfl rfl 10 (by decide) (hts _ q187) (fun _ h9 => h9) rfl d_Machine_leavers_23 ?_
      refine lv_iload_n hx hb d_Machine_leavers_26 rfl (lv_at hl 0 rfl) ?_
      refine va_iald hx hb hK hP 1 0 rfl rfl (zI.inn hv_33 (by decide)) d_Machine_leavers_27 ?_
      refine lv_topi (fun v_35 ev_35 => ?_)
      refine lv_iadd hx hb d_Machine_leavers_28 ?_
      refine lv_topi (fun v_36 ev_36 => ?_)
      refine lv_istore_n (lv' := [(2, .int v_36), (3, .int y_25), (0, .ref b0), (1, .int b1)]) hx hb d_Machine_leavers_29 rfl hl (by decide) rfl (fun ls hl => ?_)
      obtain ⟨v_37, ev_37⟩ : ∃ z : Int32, z = y_25 + 1 := ⟨_, rfl⟩
      obtain ⟨qv_37, hv_37⟩ := zI_add (l := 1) (h := 240) hv_33 zc_1 ev_37 (by decide)
      rw [li_1] at qv_37
      refine lv_iinc (v := v_37) (lv' := [(3, .int v_37), (2, .int v_36), (0, .ref b0), (1, .int b1)]) hx hb d_Machine_leavers_30 hl (k := 1) rfl (by rw [ev_37]; rfl) (by decide) rfl (fun ls hl => ?_)
      refine lv_goto (tgt := 9) hx hb d_Machine_leavers_33 (by decide) ?_
      exact ihk_24 (v_37) (v_36) _ _ _ (zI.wk (l' := 0) (h' := 240) hv_37 (by decide)) (fun h9 => by have h8 := hli_27 h9; omega) (zm_up qv_37 hmk_24 (by decide)) hP hD hS (lv_sub hl [0, 1, 2, 3] rfl)
theorem d_Machine_finalStates_0 : decode prog_4_method_13_code 0 = .ok (.iconst 0, 1) := by decide +kernel
theorem d_Machine_finalStates_1 : decode prog_4_method_13_code 1 = .ok (.istore_n 1, 1) := by decide +kernel
theorem d_Machine_finalStates_2 : decode prog_4_method_13_code 2 = .ok (.iconst 0, 1) := by decide +kernel
theorem d_Machine_finalStates_3 : decode prog_4_method_13_code 3 = .ok (.istore_n 2, 1) := by decide +kernel
theorem d_Machine_finalStates_4 : decode prog_4_method_13_code 4 = .ok (.iload_n 2, 1) := by decide +kernel
theorem d_Machine_finalStates_5 : decode prog_4_method_13_code 5 = .ok (.aload_n 0, 1) := by decide +kernel
theorem d_Machine_finalStates_6 : decode prog_4_method_13_code 6 = .ok (.getfield 75, 3) := by decide +kernel
theorem d_Machine_finalStates_9 : decode prog_4_method_13_code 9 = .ok (.if_icmp .ge 21, 3) := by decide +kernel
theorem d_Machine_finalStates_12 : decode prog_4_method_13_code 12 = .ok (.aload_n 0, 1) := by decide +kernel
theorem d_Machine_finalStates_13 : decode prog_4_method_13_code 13 = .ok (.getfield 21, 3) := by decide +kernel
theorem d_Machine_finalStates_16 : decode prog_4_method_13_code 16 = .ok (.iload_n 2, 1) := by decide +kernel
theorem d_Machine_finalStates_17 : decode prog_4_method_13_code 17 = .ok (.iaload, 1) := by decide +kernel
theorem d_Machine_finalStates_18 : decode prog_4_method_13_code 18 = .ok (.ifCond .le 6, 3) := by decide +kernel
theorem d_Machine_finalStates_21 : decode prog_4_method_13_code 21 = .ok (.iinc 1 1, 3) := by decide +kernel
theorem d_Machine_finalStates_24 : decode prog_4_method_13_code 24 = .ok (.iinc 2 1, 3) := by decide +kernel
theorem d_Machine_finalStates_27 : decode prog_4_method_13_code 27 = .ok (.goto (-23), 3) := by decide +kernel
theorem d_Machine_finalStates_30 : decode prog_4_method_13_code 30 = .ok (.iload_n 1, 1) := by decide +kernel
theorem d_Machine_finalStates_31 : decode prog_4_method_13_code 31 = .ok (.ireturn, 1) := by decide +kernel
abbrev m_s1_Machine_finalStates : Room := { frames := 0, cells := 0, slots := 0, locals := 0 }
set_option maxHeartbeats 4000000 in
set_option maxRecDepth 100000 in
theorem s1_Machine_finalStates (l : Launch) (G : zG) (b0 : Nat) (b1 : Int32) (b2 : Int32) (b3 : Nat) (b4 : Nat) (b5 : Nat) (b6 : Nat) (b7 : Nat) (b8 : Nat) (b9 : Int32) (b10 : Nat) (b11 : Nat) (b12 : Nat) (b13 : Nat) (b14 : Nat) (b15 : Nat) (b16 : Nat → Int32) (hb1 : zI b1 0 1) (hb2 : zI b2 0 241) (hb9 : zI b9 0 240) : zM l G y_Machine_finalStates prog_4_method_13_code 3 (Option.some Jvm.ClassFile.FieldType.int) m_s1_Machine_finalStates [.ref b0] [(b0, .inr (5, [.int b1, .int b2, .ref b3, .ref b4, .ref b5, .ref b6, .ref b7, .ref b8, .int b9, .ref b10, .ref b11, .ref b12, .ref b13, .ref b14, .ref b15])), (b6, .inl (G.2 0, 241, .inl b16))] (fun v w => ∃ (e0 : Int32), v = some (.int e0) ∧ w = [(b0, .inr (5, [.int b1, .int b2, .ref b3, .ref b4, .ref b5, .ref b6, .ref b7, .ref b8, .int b9, .ref b10, .ref b11, .ref b12, .ref b13, .ref b14, .ref b15])), (b6, .inl (G.2 0, 241, .inl b16))]) := by
  refine z_start (by decide +kernel) (Nat.le_of_ble_eq_true rfl) ?_
  intro p e s m below meth c A Z hr hnm hA hP hD hS ls hl
  have Z : zC p s m _ meth c prog_4_method_13_code 3 "TraceMachines$Machine" G := Z
  obtain ⟨hx, hb, hml, hown, hts, hK, hN, hlocks⟩ := id Z
  have hl : lv_has ls 3 [(0, .ref b0)] := hl
  refine lv_iconst (v := 0) hx hb d_Machine_finalStates_0 (by decide) ?_
  refine lv_istore_n (lv' := [(1, .int 0), (0, .ref b0)]) hx hb d_Machine_finalStates_1 rfl hl (by decide) rfl (fun ls hl => ?_)
  refine lv_iconst (v := 0) hx hb d_Machine_finalStates_2 (by decide) ?_
  refine lv_istore_n (lv' := [(2, .int 0), (1, .int 0), (0, .ref b0)]) hx hb d_Machine_finalStates_3 rfl hl (by decide) rfl (fun ls hl => ?_)
  suffices key : ∀ (k_268 : Nat) (y_269 : Int32) (y_270 : Int32) (H : Heap) (locs : List Loc) (ls : Array Slot), (zI y_269 0 241) → (241 : Int) - y_269.toInt < (k_268 : Int) → va_P G.1 classes [(b0, .inr (5, [.int b1, .int b2, .ref b3, .ref b4, .ref b5, .ref b6, .ref b7, .ref b8, .int b9, .ref b10, .ref b11, .ref b12, .ref b13, .ref b14, .ref b15])), (b6, .inl (G.2 0, 241, .inl b16))] H → va_D A [(b0, .inr (5, [.int b1, .int b2, .ref b3, .ref b4, .ref b5, .ref b6, .ref b7, .ref b8, .int b9, .ref b10, .ref b11, .ref b12, .ref b13, .ref b14, .ref b15])), (b6, .inl (G.2 0, 241, .inl b16))] → va_S A s.heap H locs → lv_has ls 3 [(2, .int y_269), (1, .int y_270), (0, .ref b0)] → W p l e m_s1_Machine_finalStates s m ([.ref b0] : List Value).toArray below meth c H locs 0 0 (MQ below (zQ G (fun v w => ∃ (e0 : Int32), v = some (.int e0) ∧ w = [(b0, .inr (5, [.int b1, .int b2, .ref b3, .ref b4, .ref b5, .ref b6, .ref b7, .ref b8, .int b9, .ref b10, .ref b11, .ref b12, .ref b13, .ref b14, .ref b15])), (b6, .inl (G.2 0, 241, .inl b16))]) A) ([.ref b0] : List Value).toArray s m_s1_Machine_finalStates.cells m_s1_Machine_finalStates.slots A) (F0 m 4 ls []) by
    exact key 242 (0) (0) _ _ _ (zI.wk (l' := 0) (h' := 241) zc_0 (by decide)) (zm_upi (zI.wk (l' := 0) (h' := 241) zc_0 (by decide)) (by decide)) hP hD hS (lv_sub hl [0, 1, 2] rfl)
  intro k_268
  induction k_268 with
  | zero =>
    intro y_269 y_270 H locs ls hy_269 hmk_268 hP hD hS hl
    exact (zm_up0 hy_269 hmk_268).elim
  | succ k_268 ihk_268 =>
    intro y_269 y_270 H locs ls hy_269 hmk_268 hP hD hS hl
    refine lv_iload_n hx hb d_Machine_finalStates_4 rfl (lv_at hl 0 rfl) ?_
    refine lv_aload_n hx hb d_Machine_finalStates_5 rfl (lv_at hl 2 rfl) ?_
    refine va_get (D := G.1) (ci := 5) (v := .int b2) (C := R_Machine) (T := F_Machine) (N := 15) hx hb hts i_Machine hown hK hP 0 rfl rfl 1 (by decide) (hts _ q168) (fun _ h9 => h9) rfl d_Machine_finalStates_6 ?_
    refine lv_icmp_ge (tgt := 30) hx hb d_Machine_finalStates_9 (by decide) (fun hc_271 => ?_) (fun hc_271 => ?_)
    · have _nhc_271 := hc_271
      have ni_272 := (fa_le _ _).mp hc_271
      refine lv_iload_n hx hb d_Machine_finalStates_30 rfl (lv_at hl 1 rfl) ?_
      exact z_iret hx hb hr hlocks hP hD hS (Nat.le_of_ble_eq_true rfl) (Nat.le_of_ble_eq_true rfl) d_Machine_finalStates_31 ⟨y_270, rfl, rfl⟩
    · have _nhc_271 := hc_271
      have ni_273 := (fa_lt _ _).mp (zi_nle hc_271)
      have hv_274 : zI y_269 0 240 := zI.lt_l hy_269 hb2 (zi_nle hc_271) (by decide)
      have hv_275 : zI b2 1 241 := zI.lt_r hy_269 hb2 (zi_nle hc_271) (by decide)
      refine lv_aload_n hx hb d_Machine_finalStates_12 rfl (lv_at hl 2 rfl) ?_
      refine va_get (D := G.1) (ci := 5) (v := .ref b6) (C := R_Machine) (T := F_Machine) (N := 15) hx hb hts i_Machine hown hK hP 0 rfl rfl 5 (by decide) (hts _ q176) (fun _ h9 => h9) rfl d_Machine_finalStates_13 ?_
      refine lv_iload_n hx hb d_Machine_finalStates_16 rfl (lv_at hl 0 rfl) ?_
      refine va_iald hx hb hK hP 1 0 rfl rfl (zI.inn hv_274 (by decide)) d_Machine_finalStates_17 ?_
      refine lv_topi (fun v_276 ev_276 => ?_)
      refine lv_if_le (tgt := 24) hx hb d_Machine_finalStates_18 (by decide) (fun hc_277 => ?_) (fun hc_277 => ?_)
      · have _nhc_277 := hc_277
        have ni_278 := (fa_le _ _).mp hc_277
        rw [li_0] at ni_278
        have hv_279 : zI v_276 (-2147483648) 0 := zI.le_l (zI_all v_276) zc_0 hc_277 (by decide)
        obtain ⟨v_280, ev_280⟩ : ∃ z : Int32, z = y_269 + 1 := ⟨_, rfl⟩
        obtain ⟨qv_280, hv_280⟩ := zI_add (l := 1) (h := 241) hv_274 zc_1 ev_280 (by decide)
        rw [li_1] at qv_280
        refine lv_iinc (v := v_280) (lv' := [(2, .int v_280), (1, .int y_270), (0, .ref b0)]) hx hb d_Machine_finalStates_24 hl (k := 0) rfl (by rw [ev_280]; rfl) (by decide) rfl (fun ls hl => ?_)
        refine lv_goto (tgt := 4) hx hb d_Machine_finalStates_27 (by decide) ?_
        exact ihk_268 (v_280) (y_270) _ _ _ (zI.wk (l' := 0) (h' := 241) hv_280 (by decide)) (zm_up qv_280 hmk_268 (by decide)) hP hD hS (lv_sub hl [0, 1, 2] rfl)
      · have _nhc_277 := hc_277
        have ni_281 := (fa_lt _ _).mp (zi_nle hc_277)
        rw [li_0] at ni_281
        have hv_282 : zI v_276 1 2147483647 := zI.lt_r zc_0 (zI_all v_276) (zi_nle hc_277) (by decide)
        obtain ⟨v_283, ev_283⟩ : ∃ z : Int32, z = y_270 + 1 := ⟨_, rfl⟩
        refine lv_iinc (v := v_283) (lv' := [(1, .int v_283), (2, .int y_269), (0, .ref b0)]) hx hb d_Machine_finalStates_21 hl (k := 1) rfl (by rw [ev_283]; rfl) (by decide) rfl (fun ls hl => ?_)
        obtain ⟨v_284, ev_284⟩ : ∃ z : Int32, z = y_269 + 1 := ⟨_, rfl⟩
        obtain ⟨qv_284, hv_284⟩ := zI_add (l := 1) (h := 241) hv_274 zc_1 ev_284 (by decide)
        rw [li_1] at qv_284
        refine lv_iinc (v := v_284) (lv' := [(2, .int v_284), (1, .int v_283), (0, .ref b0)]) hx hb d_Machine_finalStates_24 hl (k := 1) rfl (by rw [ev_284]; rfl) (by decide) rfl (fun ls hl => ?_)
        refine lv_goto (tgt := 4) hx hb d_Machine_finalStates_27 (by decide) ?_
        exact ihk_268 (v_284) (v_283) _ _ _ (zI.wk (l' := 0) (h' := 241) hv_284 (by decide)) (zm_up qv_284 hmk_268 (by decide)) hP hD hS (lv_sub hl [0, 1, 2] rfl)
theorem d_Machine_forks_0 : decode prog_4_method_14_code 0 = .ok (.iconst 0, 1) := by decide +kernel
theorem d_Machine_forks_1 : decode prog_4_method_14_code 1 = .ok (.istore_n 2, 1) := by decide +kernel
theorem d_Machine_forks_2 : decode prog_4_method_14_code 2 = .ok (.iconst 0, 1) := by decide +kernel
theorem d_Machine_forks_3 : decode prog_4_method_14_code 3 = .ok (.istore_n 3, 1) := by decide +kernel
theorem d_Machine_forks_4 : decode prog_4_method_14_code 4 = .ok (.iload_n 3, 1) := by decide +kernel
theorem d_Machine_forks_5 : decode prog_4_method_14_code 5 = .ok (.aload_n 0, 1) := by decide +kernel
theorem d_Machine_forks_6 : decode prog_4_method_14_code 6 = .ok (.getfield 103, 3) := by decide +kernel
theorem d_Machine_forks_9 : decode prog_4_method_14_code 9 = .ok (.if_icmp .ge 106, 3) := by decide +kernel
theorem d_Machine_forks_12 : decode prog_4_method_14_code 12 = .ok (.iload_n 3, 1) := by decide +kernel
theorem d_Machine_forks_13 : decode prog_4_method_14_code 13 = .ok (.iconst 1, 1) := by decide +kernel
theorem d_Machine_forks_14 : decode prog_4_method_14_code 14 = .ok (.iadd, 1) := by decide +kernel
theorem d_Machine_forks_15 : decode prog_4_method_14_code 15 = .ok (.istore 4, 2) := by decide +kernel
theorem d_Machine_forks_17 : decode prog_4_method_14_code 17 = .ok (.iload 4, 2) := by decide +kernel
theorem d_Machine_forks_19 : decode prog_4_method_14_code 19 = .ok (.aload_n 0, 1) := by decide +kernel
theorem d_Machine_forks_20 : decode prog_4_method_14_code 20 = .ok (.getfield 103, 3) := by decide +kernel
theorem d_Machine_forks_23 : decode prog_4_method_14_code 23 = .ok (.if_icmp .ge 86, 3) := by decide +kernel
theorem d_Machine_forks_26 : decode prog_4_method_14_code 26 = .ok (.aload_n 0, 1) := by decide +kernel
theorem d_Machine_forks_27 : decode prog_4_method_14_code 27 = .ok (.getfield 33, 3) := by decide +kernel
theorem d_Machine_forks_30 : decode prog_4_method_14_code 30 = .ok (.iload 4, 2) := by decide +kernel
theorem d_Machine_forks_32 : decode prog_4_method_14_code 32 = .ok (.iaload, 1) := by decide +kernel
theorem d_Machine_forks_33 : decode prog_4_method_14_code 33 = .ok (.sipush 256, 3) := by decide +kernel
theorem d_Machine_forks_36 : decode prog_4_method_14_code 36 = .ok (.idiv, 1) := by decide +kernel
theorem d_Machine_forks_37 : decode prog_4_method_14_code 37 = .ok (.aload_n 0, 1) := by decide +kernel
theorem d_Machine_forks_38 : decode prog_4_method_14_code 38 = .ok (.getfield 33, 3) := by decide +kernel
theorem d_Machine_forks_41 : decode prog_4_method_14_code 41 = .ok (.iload_n 3, 1) := by decide +kernel
theorem d_Machine_forks_42 : decode prog_4_method_14_code 42 = .ok (.iaload, 1) := by decide +kernel
theorem d_Machine_forks_43 : decode prog_4_method_14_code 43 = .ok (.sipush 256, 3) := by decide +kernel
theorem d_Machine_forks_46 : decode prog_4_method_14_code 46 = .ok (.idiv, 1) := by decide +kernel
theorem d_Machine_forks_47 : decode prog_4_method_14_code 47 = .ok (.if_icmp .eq 6, 3) := by decide +kernel
theorem d_Machine_forks_50 : decode prog_4_method_14_code 50 = .ok (.goto 59, 3) := by decide +kernel
theorem d_Machine_forks_53 : decode prog_4_method_14_code 53 = .ok (.aload_n 0, 1) := by decide +kernel
theorem d_Machine_forks_54 : decode prog_4_method_14_code 54 = .ok (.getfield 39, 3) := by decide +kernel
theorem d_Machine_forks_57 : decode prog_4_method_14_code 57 = .ok (.iload_n 3, 1) := by decide +kernel
theorem d_Machine_forks_58 : decode prog_4_method_14_code 58 = .ok (.iaload, 1) := by decide +kernel
theorem d_Machine_forks_59 : decode prog_4_method_14_code 59 = .ok (.aload_n 0, 1) := by decide +kernel
theorem d_Machine_forks_60 : decode prog_4_method_14_code 60 = .ok (.getfield 39, 3) := by decide +kernel
theorem d_Machine_forks_63 : decode prog_4_method_14_code 63 = .ok (.iload 4, 2) := by decide +kernel
theorem d_Machine_forks_65 : decode prog_4_method_14_code 65 = .ok (.iaload, 1) := by decide +kernel
theorem d_Machine_forks_66 : decode prog_4_method_14_code 66 = .ok (.invokestatic 130, 3) := by decide +kernel
theorem d_Machine_forks_69 : decode prog_4_method_14_code 69 = .ok (.iload_n 1, 1) := by decide +kernel
theorem d_Machine_forks_70 : decode prog_4_method_14_code 70 = .ok (.isub, 1) := by decide +kernel
theorem d_Machine_forks_71 : decode prog_4_method_14_code 71 = .ok (.istore 5, 2) := by decide +kernel
theorem d_Machine_forks_73 : decode prog_4_method_14_code 73 = .ok (.aload_n 0, 1) := by decide +kernel
theorem d_Machine_forks_74 : decode prog_4_method_14_code 74 = .ok (.getfield 42, 3) := by decide +kernel
theorem d_Machine_forks_77 : decode prog_4_method_14_code 77 = .ok (.iload_n 3, 1) := by decide +kernel
theorem d_Machine_forks_78 : decode prog_4_method_14_code 78 = .ok (.iaload, 1) := by decide +kernel
theorem d_Machine_forks_79 : decode prog_4_method_14_code 79 = .ok (.aload_n 0, 1) := by decide +kernel
theorem d_Machine_forks_80 : decode prog_4_method_14_code 80 = .ok (.getfield 42, 3) := by decide +kernel
theorem d_Machine_forks_83 : decode prog_4_method_14_code 83 = .ok (.iload 4, 2) := by decide +kernel
theorem d_Machine_forks_85 : decode prog_4_method_14_code 85 = .ok (.iaload, 1) := by decide +kernel
theorem d_Machine_forks_86 : decode prog_4_method_14_code 86 = .ok (.invokestatic 123, 3) := by decide +kernel
theorem d_Machine_forks_89 : decode prog_4_method_14_code 89 = .ok (.iload_n 1, 1) := by decide +kernel
theorem d_Machine_forks_90 : decode prog_4_method_14_code 90 = .ok (.iadd, 1) := by decide +kernel
theorem d_Machine_forks_91 : decode prog_4_method_14_code 91 = .ok (.istore 6, 2) := by decide +kernel
theorem d_Machine_forks_93 : decode prog_4_method_14_code 93 = .ok (.iload 5, 2) := by decide +kernel
theorem d_Machine_forks_95 : decode prog_4_method_14_code 95 = .ok (.iload 6, 2) := by decide +kernel
theorem d_Machine_forks_97 : decode prog_4_method_14_code 97 = .ok (.if_icmp .gt 6, 3) := by decide +kernel
theorem d_Machine_forks_100 : decode prog_4_method_14_code 100 = .ok (.iinc 2 1, 3) := by decide +kernel
theorem d_Machine_forks_103 : decode prog_4_method_14_code 103 = .ok (.iinc 4 1, 3) := by decide +kernel
theorem d_Machine_forks_106 : decode prog_4_method_14_code 106 = .ok (.goto (-89), 3) := by decide +kernel
theorem d_Machine_forks_109 : decode prog_4_method_14_code 109 = .ok (.iinc 3 1, 3) := by decide +kernel
theorem d_Machine_forks_112 : decode prog_4_method_14_code 112 = .ok (.goto (-108), 3) := by decide +kernel
theorem d_Machine_forks_115 : decode prog_4_method_14_code 115 = .ok (.iload_n 2, 1) := by decide +kernel
theorem d_Machine_forks_116 : decode prog_4_method_14_code 116 = .ok (.ireturn, 1) := by decide +kernel
abbrev m_s1_Machine_forks : Room := { frames := 1, cells := 0, slots := 0, locals := 13 }
set_option maxHeartbeats 4000000 in
set_option maxRecDepth 100000 in
theorem s1_Machine_forks (l : Launch) (G : zG) (b0 : Nat) (b1 : Int32) (b2 : Int32) (b3 : Int32) (b4 : Nat) (b5 : Nat) (b6 : Nat) (b7 : Nat) (b8 : Nat) (b9 : Nat) (b10 : Int32) (b11 : Nat) (b12 : Nat) (b13 : Nat) (b14 : Nat) (b15 : Nat) (b16 : Nat) (b17 : Nat → Int32) (b18 : Nat → Int32) (b19 : Nat → Int32) (hb2 : zI b2 0 1) (hb3 : zI b3 0 241) (hb10 : zI b10 0 240) (hb17 : zK b17) : zM l G y_Machine_forks prog_4_method_14_code 7 (Option.some Jvm.ClassFile.FieldType.int) m_s1_Machine_forks [.ref b0, .int b1] [(b0, .inr (5, [.int b2, .int b3, .ref b4, .ref b5, .ref b6, .ref b7, .ref b8, .ref b9, .int b10, .ref b11, .ref b12, .ref b13, .ref b14, .ref b15, .ref b16])), (b11, .inl (G.2 0, 240, .inl b17)), (b13, .inl (G.2 0, 240, .inl b18)), (b14, .inl (G.2 0, 240, .inl b19))] (fun v w => ∃ (e0 : Int32), v = some (.int e0) ∧ w = [(b0, .inr (5, [.int b2, .int b3, .ref b4, .ref b5, .ref b6, .ref b7, .ref b8, .ref b9, .int b10, .ref b11, .ref b12, .ref b13, .ref b14, .ref b15, .ref b16])), (b11, .inl (G.2 0, 240, .inl b17)), (b13, .inl (G.2 0, 240, .inl b18)), (b14, .inl (G.2 0, 240, .inl b19))]) := by
  refine z_start (by decide +kernel) (Nat.le_of_ble_eq_true rfl) ?_
  intro p e s m below meth c A Z hr hnm hA hP hD hS ls hl
  have Z : zC p s m _ meth c prog_4_method_14_code 7 "TraceMachines$Machine" G := Z
  obtain ⟨hx, hb, hml, hown, hts, hK, hN, hlocks⟩ := id Z
  have hl : lv_has ls 7 [(0, .ref b0), (1, .int b1)] := hl
  refine lv_iconst (v := 0) hx hb d_Machine_forks_0 (by decide) ?_
  refine lv_istore_n (lv' := [(2, .int 0), (0, .ref b0), (1, .int b1)]) hx hb d_Machine_forks_1 rfl hl (by decide) rfl (fun ls hl => ?_)
  refine lv_iconst (v := 0) hx hb d_Machine_forks_2 (by decide) ?_
  refine lv_istore_n (lv' := [(3, .int 0), (2, .int 0), (0, .ref b0), (1, .int b1)]) hx hb d_Machine_forks_3 rfl hl (by decide) rfl (fun ls hl => ?_)
  suffices key : ∀ (k_2504 : Nat) (y_2505 : Int32) (y_2506 : Int32) (H : Heap) (locs : List Loc) (ls : Array Slot), (zI y_2505 0 240) → (240 : Int) - y_2505.toInt < (k_2504 : Int) → va_P G.1 classes [(b0, .inr (5, [.int b2, .int b3, .ref b4, .ref b5, .ref b6, .ref b7, .ref b8, .ref b9, .int b10, .ref b11, .ref b12, .ref b13, .ref b14, .ref b15, .ref b16])), (b11, .inl (G.2 0, 240, .inl b17)), (b13, .inl (G.2 0, 240, .inl b18)), (b14, .inl (G.2 0, 240, .inl b19))] H → va_D A [(b0, .inr (5, [.int b2, .int b3, .ref b4, .ref b5, .ref b6, .ref b7, .ref b8, .ref b9, .int b10, .ref b11, .ref b12, .ref b13, .ref b14, .ref b15, .ref b16])), (b11, .inl (G.2 0, 240, .inl b17)), (b13, .inl (G.2 0, 240, .inl b18)), (b14, .inl (G.2 0, 240, .inl b19))] → va_S A s.heap H locs → lv_has ls 7 [(3, .int y_2505), (2, .int y_2506), (0, .ref b0), (1, .int b1)] → W p l e m_s1_Machine_forks s m ([.ref b0, .int b1] : List Value).toArray below meth c H locs 0 0 (MQ below (zQ G (fun v w => ∃ (e0 : Int32), v = some (.int e0) ∧ w = [(b0, .inr (5, [.int b2, .int b3, .ref b4, .ref b5, .ref b6, .ref b7, .ref b8, .ref b9, .int b10, .ref b11, .ref b12, .ref b13, .ref b14, .ref b15, .ref b16])), (b11, .inl (G.2 0, 240, .inl b17)), (b13, .inl (G.2 0, 240, .inl b18)), (b14, .inl (G.2 0, 240, .inl b19))]) A) ([.ref b0, .int b1] : List Value).toArray s m_s1_Machine_forks.cells m_s1_Machine_forks.slots A) (F0 m 4 ls []) by
    exact key 241 (0) (0) _ _ _ (zI.wk (l' := 0) (h' := 240) zc_0 (by decide)) (zm_upi (zI.wk (l' := 0) (h' := 240) zc_0 (by decide)) (by decide)) hP hD hS (lv_sub hl [0, 1, 2, 3] rfl)
  intro k_2504
  induction k_2504 with
  | zero =>
    intro y_2505 y_2506 H locs ls hy_2505 hmk_2504 hP hD hS hl
    exact (zm_up0 hy_2505 hmk_2504).elim
  | succ k_2504 ihk_2504 =>
    intro y_2505 y_2506 H locs ls hy_2505 hmk_2504 hP hD hS hl
    refine lv_iload_n hx hb d_Machine_forks_4 rfl (lv_at hl 0 rfl) ?_
    refine lv_aload_n hx hb d_Machine_forks_5 rfl (lv_at hl 2 rfl) ?_
    refine va_get (D := G.1) (ci := 5) (v := .int b10) (C := R_Machine) (T := F_Machine) (N := 15) hx hb hts i_Machine hown hK hP 0 rfl rfl 8 (by decide) (hts _ q184) (fun _ h9 => h9) rfl d_Machine_forks_6 ?_
    refine lv_icmp_ge (tgt := 115) hx hb d_Machine_forks_9 (by decide) (fun hc_2507 => ?_) (fun hc_2507 => ?_)
    · have _nhc_2507 := hc_2507
      have ni_2508 := (fa_le _ _).mp hc_2507
      refine lv_iload_n hx hb d_Machine_forks_115 rfl (lv_at hl 1 rfl) ?_
      exact z_iret hx hb hr hlocks hP hD hS (Nat.le_of_ble_eq_true rfl) (Nat.le_of_ble_eq_true rfl) d_Machine_forks_116 ⟨y_2506, rfl, rfl⟩
    · have _nhc_2507 := hc_2507
      have ni_2509 := (fa_lt _ _).mp (zi_nle hc_2507)
      have hv_2510 : zI y_2505 0 239 := zI.lt_l hy_2505 hb10 (zi_nle hc_2507) (by decide)
      have hv_2511 : zI b10 1 240 := zI.lt_r hy_2505 hb10 (zi_nle hc_2507) (by decide)
      refine lv_iload_n hx hb d_Machine_forks_12 rfl (lv_at hl 0 rfl) ?_
      refine lv_iconst (v := 1) hx hb d_Machine_forks_13 (by decide) ?_
      refine lv_iadd hx hb d_Machine_forks_14 ?_
      refine lv_topi (fun v_2512 ev_2512 => ?_)
      obtain ⟨qv_2512, hv_2512⟩ := zI_add (l := 1) (h := 240) hv_2510 zc_1 ev_2512 (by decide)
      rw [li_1] at qv_2512
      refine lv_istore (lv' := [(4, .int v_2512), (3, .int y_2505), (2, .int y_2506), (0, .ref b0), (1, .int b1)]) hx hb d_Machine_forks_15 hl (by decide) rfl (fun ls hl => ?_)
      suffices key : ∀ (k_2576 : Nat) (y_2577 : Int32) (y_2578 : Int32) (H : Heap) (locs : List Loc) (ls : Array Slot), (zI y_2577 1 240) → (240 : Int) - y_2577.toInt < (k_2576 : Int) → va_P G.1 classes [(b0, .inr (5, [.int b2, .int b3, .ref b4, .ref b5, .ref b6, .ref b7, .ref b8, .ref b9, .int b10, .ref b11, .ref b12, .ref b13, .ref b14, .ref b15, .ref b16])), (b11, .inl (G.2 0, 240, .inl b17)), (b13, .inl (G.2 0, 240, .inl b18)), (b14, .inl (G.2 0, 240, .inl b19))] H → va_D A [(b0, .inr (5, [.int b2, .int b3, .ref b4, .ref b5, .ref b6, .ref b7, .ref b8, .ref b9, .int b10, .ref b11, .ref b12, .ref b13, .ref b14, .ref b15, .ref b16])), (b11, .inl (G.2 0, 240, .inl b17)), (b13, .inl (G.2 0, 240, .inl b18)), (b14, .inl (G.2 0, 240, .inl b19))] → va_S A s.heap H locs → lv_has ls 7 [(4, .int y_2577), (3, .int y_2505), (2, .int y_2578), (0, .ref b0), (1, .int b1)] → W p l e m_s1_Machine_forks s m ([.ref b0, .int b1] : List Value).toArray below meth c H locs 0 0 (MQ below (zQ G (fun v w => ∃ (e0 : Int32), v = some (.int e0) ∧ w = [(b0, .inr (5, [.int b2, .int b3, .ref b4, .ref b5, .ref b6, .ref b7, .ref b8, .ref b9, .int b10, .ref b11, .ref b12, .ref b13, .ref b14, .ref b15, .ref b16])), (b11, .inl (G.2 0, 240, .inl b17)), (b13, .inl (G.2 0, 240, .inl b18)), (b14, .inl (G.2 0, 240, .inl b19))]) A) ([.ref b0, .int b1] : List Value).toArray s m_s1_Machine_forks.cells m_s1_Machine_forks.slots A) (F0 m 17 ls []) by
        exact key 240 (v_2512) (y_2506) _ _ _ hv_2512 (zm_upi hv_2512 (by decide)) hP hD hS (lv_sub hl [0, 1, 2, 3, 4] rfl)
      intro k_2576
      induction k_2576 with
      | zero =>
        intro y_2577 y_2578 H locs ls hy_2577 hmk_2576 hP hD hS hl
        exact (zm_up0 hy_2577 hmk_2576).elim
      | succ k_2576 ihk_2576 =>
        intro y_2577 y_2578 H locs ls hy_2577 hmk_2576 hP hD hS hl
        refine lv_iload hx hb d_Machine_forks_17 (lv_at hl 0 rfl) ?_
        refine lv_aload_n hx hb d_Machine_forks_19 rfl (lv_at hl 3 rfl) ?_
        refine va_get (D := G.1) (ci := 5) (v := .int b10) (C := R_Machine) (T := F_Machine) (N := 15) hx hb hts i_Machine hown hK hP 0 rfl rfl 8 (by decide) (hts _ q184) (fun _ h9 => h9) rfl d_Machine_forks_20 ?_
        refine lv_icmp_ge (tgt := 109) hx hb d_Machine_forks_23 (by decide) (fun hc_2579 => ?_) (fun hc_2579 => ?_)
        · have _nhc_2579 := hc_2579
          have ni_2580 := (fa_le _ _).mp hc_2579
          obtain ⟨v_2581, ev_2581⟩ : ∃ z : Int32, z = y_2505 + 1 := ⟨_, rfl⟩
          obtain ⟨qv_2581, hv_2581⟩ := zI_add (l := 1) (h := 240) hv_2510 zc_1 ev_2581 (by decide)
          rw [li_1] at qv_2581
          refine lv_iinc (v := v_2581) (lv' := [(3, .int v_2581), (4, .int y_2577), (2, .int y_2578), (0, .ref b0), (1, .int b1)]) hx hb d_Machine_forks_109 hl (k := 1) rfl (by rw [ev_2581]; rfl) (by decide) rfl (fun ls hl => ?_)
          refine lv_goto (tgt := 4) hx hb d_Machine_forks_112 (by decide) ?_
          exact ihk_2504 (v_2581) (y_2578) _ _ _ (zI.wk (l' := 0) (h' := 240) hv_2581 (by decide)) (zm_up qv_2581 hmk_2504 (by decide)) hP hD hS (lv_sub hl [0, 2, 3, 4] rfl)
        · have _nhc_2579 := hc_2579
          have ni_2582 := (fa_lt _ _).mp (zi_nle hc_2579)
          have hv_2583 : zI y_2577 1 239 := zI.lt_l hy_2577 hv_2511 (zi_nle hc_2579) (by decide)
          have hv_2584 : zI b10 2 240 := zI.lt_r hy_2577 hv_2511 (zi_nle hc_2579) (by decide)
          refine lv_aload_n hx hb d_Machine_forks_26 rfl (lv_at hl 3 rfl) ?_
          refine va_get (D := G.1) (ci := 5) (v := .ref b11) (C := R_Machine) (T := F_Machine) (N := 15) hx hb hts i_Machine hown hK hP 0 rfl rfl 9 (by decide) (hts _ q186) (fun _ h9 => h9) rfl d_Machine_forks_27 ?_
          refine lv_iload hx hb d_Machine_forks_30 (lv_at hl 0 rfl) ?_
          refine va_iald hx hb hK hP 1 0 rfl rfl (zI.inn hv_2583 (by decide)) d_Machine_forks_32 ?_
          refine lv_topi (fun v_2585 ev_2585 => ?_)
          obtain ⟨hv_2585, kv_2585⟩ := zK.ld hb17 ev_2585
          refine lv_sipush (v := 256) hx hb d_Machine_forks_33 (by decide) ?_
          refine lv_idiv hx hb d_Machine_forks_36 (by decide +kernel) ?_
          refine lv_topi (fun v_2586 ev_2586 => ?_)
          obtain ⟨qv_2586, hv_2586⟩ := zI_div (l := 0) (h := 2409) (d := 256) hv_2585 rfl ev_2586 (by decide)
          refine lv_aload_n hx hb d_Machine_forks_37 rfl (lv_at hl 3 rfl) ?_
          refine va_get (D := G.1) (ci := 5) (v := .ref b11) (C := R_Machine) (T := F_Machine) (N := 15) hx hb hts i_Machine hown hK hP 0 rfl rfl 9 (by decide) (hts _ q186) (fun _ h9 => h9) rfl d_Machine_forks_38 ?_
          refine lv_iload_n hx hb d_Machine_forks_41 rfl (lv_at hl 1 rfl) ?_
          refine va_iald hx hb hK hP 1 0 rfl rfl (zI.inn hv_2510 (by decide)) d_Machine_forks_42 ?_
          refine lv_topi (fun v_2587 ev_2587 => ?_)
          obtain ⟨hv_2587, kv_2587⟩ := zK.ld hb17 ev_2587
          refine lv_sipush (v := 256) hx hb d_Machine_forks_43 (by decide) ?_
          refine lv_idiv hx hb d_Machine_forks_46 (by decide +kernel) ?_
          refine lv_topi (fun v_2588 ev_2588 => ?_)
          obtain ⟨qv_2588, hv_2588⟩ := zI_div (l := 0) (h := 2409) (d := 256) hv_2587 rfl ev_2588 (by decide)
          refine lv_icmp_eq (tgt := 53) hx hb d_Machine_forks_47 (by decide) (fun hc_2589 => ?_) (fun hc_2589 => ?_)
          · have _nhc_2589 := hc_2589
            have ni_2590 := (fa_eq _ _).mp hc_2589
            refine lv_aload_n hx hb d_Machine_forks_53 rfl (lv_at hl 3 rfl) ?_
            refine va_get (D := G.1) (ci := 5) (v := .ref b13) (C := R_Machine) (T := F_Machine) (N := 15) hx hb hts i_Machine hown hK hP 0 rfl rfl 11 (by decide) (hts _ q191) (fun _ h9 => h9) rfl d_Machine_forks_54 ?_
            refine lv_iload_n hx hb d_Machine_forks_57 rfl (lv_at hl 1 rfl) ?_
            refine va_iald hx hb hK hP 2 0 rfl rfl (zI.inn hv_2510 (by decide)) d_Machine_forks_58 ?_
            refine lv_topi (fun v_2591 ev_2591 => ?_)
            refine lv_aload_n hx hb d_Machine_forks_59 rfl (lv_at hl 3 rfl) ?_
            refine va_get (D := G.1) (ci := 5) (v := .ref b13) (C := R_Machine) (T := F_Machine) (N := 15) hx hb hts i_Machine hown hK hP 0 rfl rfl 11 (by decide) (hts _ q191) (fun _ h9 => h9) rfl d_Machine_forks_60 ?_
            refine lv_iload hx hb d_Machine_forks_63 (lv_at hl 0 rfl) ?_
            refine va_iald hx hb hK hP 2 0 rfl rfl (zI.inn hv_2583 (by decide)) d_Machine_forks_65 ?_
            refine lv_topi (fun v_2592 ev_2592 => ?_)
            refine va_mmax hx hb (hml.trans hl.1.symm) hown (hts _ q655) (hts _ q595) (hts _ q20) (hts _ q596) (Nat.le_of_ble_eq_true rfl) (Nat.le_of_ble_eq_true rfl) (Nat.le_of_ble_eq_true rfl) (Nat.le_of_ble_eq_true rfl) d_Machine_forks_66 ?_
            refine lv_topi (fun v_2593 ev_2593 => ?_)
            have hv_2593 := zI_max (l := (-2147483648)) (h := 2147483647) (zI_all v_2591) (zI_all v_2592) ev_2593 (by decide)
            refine lv_iload_n hx hb d_Machine_forks_69 rfl (lv_at hl 4 rfl) ?_
            refine lv_isub hx hb d_Machine_forks_70 ?_
            refine lv_topi (fun v_2594 ev_2594 => ?_)
            refine lv_istore (lv' := [(5, .int v_2594), (4, .int y_2577), (3, .int y_2505), (2, .int y_2578), (0, .ref b0), (1, .int b1)]) hx hb d_Machine_forks_71 hl (by decide) rfl (fun ls hl => ?_)
            refine lv_aload_n hx hb d_Machine_forks_73 rfl (lv_at hl 4 rfl) ?_
            refine va_get (D := G.1) (ci := 5) (v := .ref b14) (C := R_Machine) (T := F_Machine) (N := 15) hx hb hts i_Machine hown hK hP 0 rfl rfl 12 (by decide) (hts _ q193) (fun _ h9 => h9) rfl d_Machine_forks_74 ?_
            refine lv_iload_n hx hb d_Machine_forks_77 rfl (lv_at hl 2 rfl) ?_
            refine va_iald hx hb hK hP 3 0 rfl rfl (zI.inn hv_2510 (by decide)) d_Machine_forks_78 ?_
            refine lv_topi (fun v_2595 ev_2595 => ?_)
            refine lv_aload_n hx hb d_Machine_forks_79 rfl (lv_at hl 4 rfl) ?_
            refine va_get (D := G.1) (ci := 5) (v := .ref b14) (C := R_Machine) (T := F_Machine) (N := 15) hx hb hts i_Machine hown hK hP 0 rfl rfl 12 (by decide) (hts _ q193) (fun _ h9 => h9) rfl d_Machine_forks_80 ?_
            refine lv_iload hx hb d_Machine_forks_83 (lv_at hl 1 rfl) ?_
            refine va_iald hx hb hK hP 3 0 rfl rfl (zI.inn hv_2583 (by decide)) d_Machine_forks_85 ?_
            refine lv_topi (fun v_2596 ev_2596 => ?_)
            refine va_mmin hx hb (hml.trans hl.1.symm) hown (hts _ q654) (hts _ q592) (hts _ q20) (hts _ q593) (Nat.le_of_ble_eq_true rfl) (Nat.le_of_ble_eq_true rfl) (Nat.le_of_ble_eq_true rfl) (Nat.le_of_ble_eq_true rfl) d_Machine_forks_86 ?_
            refine lv_topi (fun v_2597 ev_2597 => ?_)
            have hv_2597 := zI_min (l := (-2147483648)) (h := 2147483647) (zI_all v_2595) (zI_all v_2596) ev_2597 (by decide)
            refine lv_iload_n hx hb d_Machine_forks_89 rfl (lv_at hl 5 rfl) ?_
            refine lv_iadd hx hb d_Machine_forks_90 ?_
            refine lv_topi (fun v_2598 ev_2598 => ?_)
            refine lv_istore (lv' := [(6, .int v_2598), (5, .int v_2594), (4, .int y_2577), (3, .int y_2505), (2, .int y_2578), (0, .ref b0), (1, .int b1)]) hx hb d_Machine_forks_91 hl (by decide) rfl (fun ls hl => ?_)
            refine lv_iload hx hb d_Machine_forks_93 (lv_at hl 1 rfl) ?_
            refine lv_iload hx hb d_Machine_forks_95 (lv_at hl 0 rfl) ?_
            refine lv_icmp_gt (tgt := 103) hx hb d_Machine_forks_97 (by decide) (fun hc_2599 => ?_) (fun hc_2599 => ?_)
            · have _nhc_2599 := hc_2599
              have ni_2600 := (fa_lt _ _).mp hc_2599
              have hv_2601 : zI v_2598 (-2147483648) 2147483646 := zI.lt_l (zI_all v_2598) (zI_all v_2594) hc_2599 (by decide)
              have hv_2602 : zI v_2594 (-2147483647) 2147483647 := zI.lt_r (zI_all v_2598) (zI_all v_2594) hc_2599 (by decide)
              obtain ⟨v_2603, ev_2603⟩ : ∃ z : Int32, z = y_2577 + 1 := ⟨_, rfl⟩
              obtain ⟨qv_2603, hv_2603⟩ := zI_add (l := 2) (h := 240) hv_2583 zc_1 ev_2603 (by decide)
              rw [li_1] at qv_2603
              refine lv_iinc (v := v_2603) (lv' := [(4, .int v_2603), (6, .int v_2598), (5, .int v_2594), (3, .int y_2505), (2, .int y_2578), (0, .ref b0), (1, .int b1)]) hx hb d_Machine_forks_103 hl (k := 2) rfl (by rw [ev_2603]; rfl) (by decide) rfl (fun ls hl => ?_)
              refine lv_goto (tgt := 17) hx hb d_Machine_forks_106 (by decide) ?_
              exact ihk_2576 (v_2603) (y_2578) _ _ _ (zI.wk (l' := 1) (h' := 240) hv_2603 (by decide)) (zm_up qv_2603 hmk_2576 (by decide)) hP hD hS (lv_sub hl [0, 3, 4, 5, 6] rfl)
            · have _nhc_2599 := hc_2599
              have ni_2604 := (fa_le _ _).mp (zi_nlt hc_2599)
              obtain ⟨v_2605, ev_2605⟩ : ∃ z : Int32, z = y_2578 + 1 := ⟨_, rfl⟩
              refine lv_iinc (v := v_2605) (lv' := [(2, .int v_2605), (6, .int v_2598), (5, .int v_2594), (4, .int y_2577), (3, .int y_2505), (0, .ref b0), (1, .int b1)]) hx hb d_Machine_forks_100 hl (k := 4) rfl (by rw [ev_2605]; rfl) (by decide) rfl (fun ls hl => ?_)
              obtain ⟨v_2606, ev_2606⟩ : ∃ z : Int32, z = y_2577 + 1 := ⟨_, rfl⟩
              obtain ⟨qv_2606, hv_2606⟩ := zI_add (l := 2) (h := 240) hv_2583 zc_1 ev_2606 (by decide)
              rw [li_1] at qv_2606
              refine lv_iinc (v := v_2606) (lv' := [(4, .int v_2606), (2, .int v_2605), (6, .int v_2598), (5, .int v_2594), (3, .int y_2505), (0, .ref b0), (1, .int b1)]) hx hb d_Machine_forks_103 hl (k := 3) rfl (by rw [ev_2606]; rfl) (by decide) rfl (fun ls hl => ?_)
              refine lv_goto (tgt := 17) hx hb d_Machine_forks_106 (by decide) ?_
              exact ihk_2576 (v_2606) (v_2605) _ _ _ (zI.wk (l' := 1) (h' := 240) hv_2606 (by decide)) (zm_up qv_2606 hmk_2576 (by decide)) hP hD hS (lv_sub hl [0, 4, 1, 5, 6] rfl)
          · have _nhc_2589 := hc_2589
            have ni_2607 : ¬ (v_2586 : Int32).toInt = (v_2588 : Int32).toInt := fun z => hc_2589 ((fa_eq _ _).mpr z)
            refine lv_goto (tgt := 109) hx hb d_Machine_forks_50 (by decide) ?_
            obtain ⟨v_2608, ev_2608⟩ : ∃ z : Int32, z = y_2505 + 1 := ⟨_, rfl⟩
            obtain ⟨qv_2608, hv_2608⟩ := zI_add (l := 1) (h := 240) hv_2510 zc_1 ev_2608 (by decide)
            rw [li_1] at qv_2608
            refine lv_iinc (v := v_2608) (lv' := [(3, .int v_2608), (4, .int y_2577), (2, .int y_2578), (0, .ref b0), (1, .int b1)]) hx hb d_Machine_forks_109 hl (k := 1) rfl (by rw [ev_2608]; rfl) (by decide) rfl (fun ls hl => ?_)
            refine lv_goto (tgt := 4) hx hb d_Machine_forks_112 (by decide) ?_
            exact ihk_2504 (v_2608) (y_2578) _ _ _ (zI.wk (l' := 0) (h' := 240) hv_2608 (by decide)) (zm_up qv_2608 hmk_2504 (by decide)) hP hD hS (lv_sub hl [0, 2, 3, 4] rfl)
theorem d_Machine_keyOf_0 : decode prog_4_method_7_code 0 = .ok (.aload_n 0, 1) := by decide +kernel
theorem d_Machine_keyOf_1 : decode prog_4_method_7_code 1 = .ok (.getfield 11, 3) := by decide +kernel
theorem d_Machine_keyOf_4 : decode prog_4_method_7_code 4 = .ok (.aload_n 1, 1) := by decide +kernel
theorem d_Machine_keyOf_5 : decode prog_4_method_7_code 5 = .ok (.getfield 97, 3) := by decide +kernel
theorem d_Machine_keyOf_8 : decode prog_4_method_7_code 8 = .ok (.iload_n 2, 1) := by decide +kernel
theorem d_Machine_keyOf_9 : decode prog_4_method_7_code 9 = .ok (.iaload, 1) := by decide +kernel
theorem d_Machine_keyOf_10 : decode prog_4_method_7_code 10 = .ok (.iaload, 1) := by decide +kernel
theorem d_Machine_keyOf_11 : decode prog_4_method_7_code 11 = .ok (.istore_n 3, 1) := by decide +kernel
theorem d_Machine_keyOf_12 : decode prog_4_method_7_code 12 = .ok (.iload_n 3, 1) := by decide +kernel
theorem d_Machine_keyOf_13 : decode prog_4_method_7_code 13 = .ok (.sipush 2560, 3) := by decide +kernel
theorem d_Machine_keyOf_16 : decode prog_4_method_7_code 16 = .ok (.imul, 1) := by decide +kernel
theorem d_Machine_keyOf_17 : decode prog_4_method_7_code 17 = .ok (.aload_n 1, 1) := by decide +kernel
theorem d_Machine_keyOf_18 : decode prog_4_method_7_code 18 = .ok (.getfield 100, 3) := by decide +kernel
theorem d_Machine_keyOf_21 : decode prog_4_method_7_code 21 = .ok (.iload_n 2, 1) := by decide +kernel
theorem d_Machine_keyOf_22 : decode prog_4_method_7_code 22 = .ok (.iaload, 1) := by decide +kernel
theorem d_Machine_keyOf_23 : decode prog_4_method_7_code 23 = .ok (.sipush 256, 3) := by decide +kernel
theorem d_Machine_keyOf_26 : decode prog_4_method_7_code 26 = .ok (.imul, 1) := by decide +kernel
theorem d_Machine_keyOf_27 : decode prog_4_method_7_code 27 = .ok (.iadd, 1) := by decide +kernel
theorem d_Machine_keyOf_28 : decode prog_4_method_7_code 28 = .ok (.aload_n 0, 1) := by decide +kernel
theorem d_Machine_keyOf_29 : decode prog_4_method_7_code 29 = .ok (.getfield 11, 3) := by decide +kernel
theorem d_Machine_keyOf_32 : decode prog_4_method_7_code 32 = .ok (.iload_n 2, 1) := by decide +kernel
theorem d_Machine_keyOf_33 : decode prog_4_method_7_code 33 = .ok (.iaload, 1) := by decide +kernel
theorem d_Machine_keyOf_34 : decode prog_4_method_7_code 34 = .ok (.iadd, 1) := by decide +kernel
theorem d_Machine_keyOf_35 : decode prog_4_method_7_code 35 = .ok (.ireturn, 1) := by decide +kernel
theorem zc_2560 : zI 2560 2560 2560 := ⟨by decide +kernel, by decide +kernel⟩
theorem li_2560 : (2560 : Int32).toInt = 2560 := by decide +kernel
theorem zc_256 : zI 256 256 256 := ⟨by decide +kernel, by decide +kernel⟩
theorem li_256 : (256 : Int32).toInt = 256 := by decide +kernel
abbrev m_s1_Machine_keyOf : Room := { frames := 0, cells := 0, slots := 0, locals := 0 }
set_option maxHeartbeats 4000000 in
set_option maxRecDepth 100000 in
theorem s1_Machine_keyOf (l : Launch) (G : zG) (b0 : Nat) (b1 : Nat) (b2 : Int32) (b3 : Int32) (b4 : Int32) (b5 : Nat) (b6 : Nat) (b7 : Nat) (b8 : Nat) (b9 : Nat) (b10 : Nat) (b11 : Int32) (b12 : Nat) (b13 : Nat) (b14 : Nat) (b15 : Nat) (b16 : Nat) (b17 : Nat) (b18 : Nat → Int32) (b19 : Int32) (b20 : Int32) (b21 : Int32) (b22 : Nat) (b23 : Nat) (b24 : Nat) (b25 : Nat) (b26 : Nat) (b27 : Nat) (b28 : Nat) (b29 : Nat) (b30 : Nat → Int32) (b31 : Nat → Int32) (hb2 : zI b2 1 240) (hb3 : zI b3 0 1) (hb4 : zI b4 0 241) (hb11 : zI b11 0 240) (hb19 : zI b19 0 1) (hb21 : zI b21 0 241) (hb18 : zR b18 0 240) (hb30 : zR1 b30 0 240) (hb31 : zR1 b31 0 9) : zM l G y_Machine_keyOf prog_4_method_7_code 4 (Option.some Jvm.ClassFile.FieldType.int) m_s1_Machine_keyOf [.ref b0, .ref b1, .int b2] [(b0, .inr (5, [.int b3, .int b4, .ref b5, .ref b6, .ref b7, .ref b8, .ref b9, .ref b10, .int b11, .ref b12, .ref b13, .ref b14, .ref b15, .ref b16, .ref b17])), (b5, .inl (G.2 0, 241, .inl b18)), (b1, .inr (3, [.int b19, .int b20, .int b21, .ref b22, .ref b23, .ref b24, .ref b25, .ref b26, .ref b27, .ref b28, .ref b29])), (b22, .inl (G.2 0, 241, .inl b30)), (b23, .inl (G.2 0, 241, .inl b31))] (fun v w => ∃ (e0 : Int32), v = some (.int e0) ∧ w = [(b0, .inr (5, [.int b3, .int b4, .ref b5, .ref b6, .ref b7, .ref b8, .ref b9, .ref b10, .int b11, .ref b12, .ref b13, .ref b14, .ref b15, .ref b16, .ref b17])), (b5, .inl (G.2 0, 241, .inl b18)), (b1, .inr (3, [.int b19, .int b20, .int b21, .ref b22, .ref b23, .ref b24, .ref b25, .ref b26, .ref b27, .ref b28, .ref b29])), (b22, .inl (G.2 0, 241, .inl b30)), (b23, .inl (G.2 0, 241, .inl b31))] ∧ (zI e0 0 616944) ∧ (e0.toInt = zkey b18 b30 b31 b2.toInt.toNat) ∧ (e0.toInt % 256 ≤ 240)) := by
  refine z_start (by decide +kernel) (Nat.le_of_ble_eq_true rfl) ?_
  intro p e s m below meth c A Z hr hnm hA hP hD hS ls hl
  have Z : zC p s m _ meth c prog_4_method_7_code 4 "TraceMachines$Machine" G := Z
  obtain ⟨hx, hb, hml, hown, hts, hK, hN, hlocks⟩ := id Z
  have hl : lv_has ls 4 [(0, .ref b0), (1, .ref b1), (2, .int b2)] := hl
  refine lv_aload_n hx hb d_Machine_keyOf_0 rfl (lv_at hl 0 rfl) ?_
  refine va_get (D := G.1) (ci := 5) (v := .ref b5) (C := R_Machine) (T := F_Machine) (N := 15) hx hb hts i_Machine hown hK hP 0 rfl rfl 2 (by decide) (hts _ q170) (fun _ h9 => h9) rfl d_Machine_keyOf_1 ?_
  refine lv_aload_n hx hb d_Machine_keyOf_4 rfl (lv_at hl 1 rfl) ?_
  refine va_get (D := G.1) (ci := 3) (v := .ref b22) (C := R_Tree) (T := F_Tree) (N := 11) hx hb hts i_Tree hown hK hP 2 rfl rfl 3 (by decide) (hts _ q104) (fun _ h9 => h9) rfl d_Machine_keyOf_5 ?_
  refine lv_iload_n hx hb d_Machine_keyOf_8 rfl (lv_at hl 2 rfl) ?_
  refine va_iald hx hb hK hP 3 0 rfl rfl (zI.inn hb2 (by decide)) d_Machine_keyOf_9 ?_
  refine lv_topi (fun v_1 ev_1 => ?_)
  have hv_1 : zI v_1 0 240 := zR1.ld hb30 hb2 ev_1 (by decide)
  refine va_iald hx hb hK hP 1 0 rfl rfl (zI.inn hv_1 (by decide)) d_Machine_keyOf_10 ?_
  refine lv_topi (fun v_2 ev_2 => ?_)
  have hv_2 : zI v_2 0 240 := (hb18 _).eq ev_2
  refine lv_istore_n (lv' := [(3, .int v_2), (0, .ref b0), (1, .ref b1), (2, .int b2)]) hx hb d_Machine_keyOf_11 rfl hl (by decide) rfl (fun ls hl => ?_)
  refine lv_iload_n hx hb d_Machine_keyOf_12 rfl (lv_at hl 0 rfl) ?_
  refine lv_sipush (v := 2560) hx hb d_Machine_keyOf_13 (by decide) ?_
  refine lv_imul hx hb d_Machine_keyOf_16 ?_
  refine lv_topi (fun v_3 ev_3 => ?_)
  obtain ⟨qv_3, hv_3⟩ := zI_mul (l := 0) (h := 614400) hv_2 zc_2560 ev_3 (by decide)
  rw [li_2560] at qv_3
  refine lv_aload_n hx hb d_Machine_keyOf_17 rfl (lv_at hl 2 rfl) ?_
  refine va_get (D := G.1) (ci := 3) (v := .ref b23) (C := R_Tree) (T := F_Tree) (N := 11) hx hb hts i_Tree hown hK hP 2 rfl rfl 4 (by decide) (hts _ q106) (fun _ h9 => h9) rfl d_Machine_keyOf_18 ?_
  refine lv_iload_n hx hb d_Machine_keyOf_21 rfl (lv_at hl 3 rfl) ?_
  refine va_iald hx hb hK hP 4 0 rfl rfl (zI.inn hb2 (by decide)) d_Machine_keyOf_22 ?_
  refine lv_topi (fun v_4 ev_4 => ?_)
  have hv_4 : zI v_4 0 9 := zR1.ld hb31 hb2 ev_4 (by decide)
  refine lv_sipush (v := 256) hx hb d_Machine_keyOf_23 (by decide) ?_
  refine lv_imul hx hb d_Machine_keyOf_26 ?_
  refine lv_topi (fun v_5 ev_5 => ?_)
  obtain ⟨qv_5, hv_5⟩ := zI_mul (l := 0) (h := 2304) hv_4 zc_256 ev_5 (by decide)
  rw [li_256] at qv_5
  refine lv_iadd hx hb d_Machine_keyOf_27 ?_
  refine lv_topi (fun v_6 ev_6 => ?_)
  obtain ⟨qv_6, hv_6⟩ := zI_add (l := 0) (h := 616704) hv_3 hv_5 ev_6 (by decide)
  refine lv_aload_n hx hb d_Machine_keyOf_28 rfl (lv_at hl 1 rfl) ?_
  refine va_get (D := G.1) (ci := 5) (v := .ref b5) (C := R_Machine) (T := F_Machine) (N := 15) hx hb hts i_Machine hown hK hP 0 rfl rfl 2 (by decide) (hts _ q170) (fun _ h9 => h9) rfl d_Machine_keyOf_29 ?_
  refine lv_iload_n hx hb d_Machine_keyOf_32 rfl (lv_at hl 3 rfl) ?_
  refine va_iald hx hb hK hP 1 0 rfl rfl (zI.inn hb2 (by decide)) d_Machine_keyOf_33 ?_
  refine lv_topi (fun v_7 ev_7 => ?_)
  have hv_7 : zI v_7 0 240 := (hb18 _).eq ev_7
  refine lv_iadd hx hb d_Machine_keyOf_34 ?_
  refine lv_topi (fun v_8 ev_8 => ?_)
  obtain ⟨qv_8, hv_8⟩ := zI_add (l := 0) (h := 616944) hv_6 hv_7 ev_8 (by decide)
  exact z_iret hx hb hr hlocks hP hD hS (Nat.le_of_ble_eq_true rfl) (Nat.le_of_ble_eq_true rfl) d_Machine_keyOf_35 ⟨v_8, rfl, rfl, hv_8, (by unfold zkey; rw [← z_plf hb2 (by decide), ← ev_1, ← ev_2, ← ev_4, ← ev_7]; omega), (by omega)⟩
theorem d_Pair_tally_0 : decode prog_6_method_3_code 0 = .ok (.aload_n 0, 1) := by decide +kernel
theorem d_Pair_tally_1 : decode prog_6_method_3_code 1 = .ok (.iconst 0, 1) := by decide +kernel
theorem d_Pair_tally_2 : decode prog_6_method_3_code 2 = .ok (.putfield 15, 3) := by decide +kernel
theorem d_Pair_tally_5 : decode prog_6_method_3_code 5 = .ok (.aload_n 0, 1) := by decide +kernel
theorem d_Pair_tally_6 : decode prog_6_method_3_code 6 = .ok (.iconst 0, 1) := by decide +kernel
theorem d_Pair_tally_7 : decode prog_6_method_3_code 7 = .ok (.putfield 19, 3) := by decide +kernel
theorem d_Pair_tally_10 : decode prog_6_method_3_code 10 = .ok (.iconst 0, 1) := by decide +kernel
theorem d_Pair_tally_11 : decode prog_6_method_3_code 11 = .ok (.istore 5, 2) := by decide +kernel
theorem d_Pair_tally_13 : decode prog_6_method_3_code 13 = .ok (.iload 5, 2) := by decide +kernel
theorem d_Pair_tally_15 : decode prog_6_method_3_code 15 = .ok (.aload_n 1, 1) := by decide +kernel
theorem d_Pair_tally_16 : decode prog_6_method_3_code 16 = .ok (.getfield 22, 3) := by decide +kernel
theorem d_Pair_tally_19 : decode prog_6_method_3_code 19 = .ok (.if_icmp .ge 55, 3) := by decide +kernel
theorem d_Pair_tally_22 : decode prog_6_method_3_code 22 = .ok (.aload_n 0, 1) := by decide +kernel
theorem d_Pair_tally_23 : decode prog_6_method_3_code 23 = .ok (.aload_n 1, 1) := by decide +kernel
theorem d_Pair_tally_24 : decode prog_6_method_3_code 24 = .ok (.iload 5, 2) := by decide +kernel
theorem d_Pair_tally_26 : decode prog_6_method_3_code 26 = .ok (.iload_n 3, 1) := by decide +kernel
theorem d_Pair_tally_27 : decode prog_6_method_3_code 27 = .ok (.iload 4, 2) := by decide +kernel
theorem d_Pair_tally_29 : decode prog_6_method_3_code 29 = .ok (.invokevirtual 27, 3) := by decide +kernel
theorem d_Pair_tally_32 : decode prog_6_method_3_code 32 = .ok (.aload_n 0, 1) := by decide +kernel
theorem d_Pair_tally_33 : decode prog_6_method_3_code 33 = .ok (.iload_n 2, 1) := by decide +kernel
theorem d_Pair_tally_34 : decode prog_6_method_3_code 34 = .ok (.invokevirtual 30, 3) := by decide +kernel
theorem d_Pair_tally_37 : decode prog_6_method_3_code 37 = .ok (.ifCond .eq 31, 3) := by decide +kernel
theorem d_Pair_tally_40 : decode prog_6_method_3_code 40 = .ok (.aload_n 0, 1) := by decide +kernel
theorem d_Pair_tally_41 : decode prog_6_method_3_code 41 = .ok (.dup, 1) := by decide +kernel
theorem d_Pair_tally_42 : decode prog_6_method_3_code 42 = .ok (.getfield 15, 3) := by decide +kernel
theorem d_Pair_tally_45 : decode prog_6_method_3_code 45 = .ok (.iconst 1, 1) := by decide +kernel
theorem d_Pair_tally_46 : decode prog_6_method_3_code 46 = .ok (.iadd, 1) := by decide +kernel
theorem d_Pair_tally_47 : decode prog_6_method_3_code 47 = .ok (.putfield 15, 3) := by decide +kernel
theorem d_Pair_tally_50 : decode prog_6_method_3_code 50 = .ok (.aload_n 0, 1) := by decide +kernel
theorem d_Pair_tally_51 : decode prog_6_method_3_code 51 = .ok (.iload_n 2, 1) := by decide +kernel
theorem d_Pair_tally_52 : decode prog_6_method_3_code 52 = .ok (.invokevirtual 34, 3) := by decide +kernel
theorem d_Pair_tally_55 : decode prog_6_method_3_code 55 = .ok (.ifCond .eq 13, 3) := by decide +kernel
theorem d_Pair_tally_58 : decode prog_6_method_3_code 58 = .ok (.aload_n 0, 1) := by decide +kernel
theorem d_Pair_tally_59 : decode prog_6_method_3_code 59 = .ok (.dup, 1) := by decide +kernel
theorem d_Pair_tally_60 : decode prog_6_method_3_code 60 = .ok (.getfield 19, 3) := by decide +kernel
theorem d_Pair_tally_63 : decode prog_6_method_3_code 63 = .ok (.iconst 1, 1) := by decide +kernel
theorem d_Pair_tally_64 : decode prog_6_method_3_code 64 = .ok (.iadd, 1) := by decide +kernel
theorem d_Pair_tally_65 : decode prog_6_method_3_code 65 = .ok (.putfield 19, 3) := by decide +kernel
theorem d_Pair_tally_68 : decode prog_6_method_3_code 68 = .ok (.iinc 5 1, 3) := by decide +kernel
theorem d_Pair_tally_71 : decode prog_6_method_3_code 71 = .ok (.goto (-58), 3) := by decide +kernel
theorem d_Pair_tally_74 : decode prog_6_method_3_code 74 = .ok (.return_, 1) := by decide +kernel
theorem d_Pair_look_0 : decode prog_6_method_4_code 0 = .ok (.aload_n 0, 1) := by decide +kernel
theorem d_Pair_look_1 : decode prog_6_method_4_code 1 = .ok (.invokevirtual 37, 3) := by decide +kernel
theorem d_Pair_look_4 : decode prog_6_method_4_code 4 = .ok (.aload_n 1, 1) := by decide +kernel
theorem d_Pair_look_5 : decode prog_6_method_4_code 5 = .ok (.getfield 40, 3) := by decide +kernel
theorem d_Pair_look_8 : decode prog_6_method_4_code 8 = .ok (.iload_n 2, 1) := by decide +kernel
theorem d_Pair_look_9 : decode prog_6_method_4_code 9 = .ok (.iaload, 1) := by decide +kernel
theorem d_Pair_look_10 : decode prog_6_method_4_code 10 = .ok (.istore 5, 2) := by decide +kernel
theorem d_Pair_look_12 : decode prog_6_method_4_code 12 = .ok (.iconst 0, 1) := by decide +kernel
theorem d_Pair_look_13 : decode prog_6_method_4_code 13 = .ok (.istore 6, 2) := by decide +kernel
theorem d_Pair_look_15 : decode prog_6_method_4_code 15 = .ok (.iload 6, 2) := by decide +kernel
theorem d_Pair_look_17 : decode prog_6_method_4_code 17 = .ok (.iload 5, 2) := by decide +kernel
theorem d_Pair_look_19 : decode prog_6_method_4_code 19 = .ok (.if_icmp .ge 74, 3) := by decide +kernel
theorem d_Pair_look_22 : decode prog_6_method_4_code 22 = .ok (.aload_n 1, 1) := by decide +kernel
theorem d_Pair_look_23 : decode prog_6_method_4_code 23 = .ok (.iload_n 2, 1) := by decide +kernel
theorem d_Pair_look_24 : decode prog_6_method_4_code 24 = .ok (.iload 6, 2) := by decide +kernel
theorem d_Pair_look_26 : decode prog_6_method_4_code 26 = .ok (.invokevirtual 44, 3) := by decide +kernel
theorem d_Pair_look_29 : decode prog_6_method_4_code 29 = .ok (.istore 7, 2) := by decide +kernel
theorem d_Pair_look_31 : decode prog_6_method_4_code 31 = .ok (.iload 7, 2) := by decide +kernel
theorem d_Pair_look_33 : decode prog_6_method_4_code 33 = .ok (.iload_n 3, 1) := by decide +kernel
theorem d_Pair_look_34 : decode prog_6_method_4_code 34 = .ok (.if_icmp .ne 40, 3) := by decide +kernel
theorem d_Pair_look_37 : decode prog_6_method_4_code 37 = .ok (.aload_n 0, 1) := by decide +kernel
theorem d_Pair_look_38 : decode prog_6_method_4_code 38 = .ok (.iload 6, 2) := by decide +kernel
theorem d_Pair_look_40 : decode prog_6_method_4_code 40 = .ok (.invokevirtual 48, 3) := by decide +kernel
theorem d_Pair_look_43 : decode prog_6_method_4_code 43 = .ok (.iload 6, 2) := by decide +kernel
theorem d_Pair_look_45 : decode prog_6_method_4_code 45 = .ok (.iconst 1, 1) := by decide +kernel
theorem d_Pair_look_46 : decode prog_6_method_4_code 46 = .ok (.iadd, 1) := by decide +kernel
theorem d_Pair_look_47 : decode prog_6_method_4_code 47 = .ok (.iload 5, 2) := by decide +kernel
theorem d_Pair_look_49 : decode prog_6_method_4_code 49 = .ok (.if_icmp .ge 17, 3) := by decide +kernel
theorem d_Pair_look_52 : decode prog_6_method_4_code 52 = .ok (.aload_n 1, 1) := by decide +kernel
theorem d_Pair_look_53 : decode prog_6_method_4_code 53 = .ok (.iload_n 2, 1) := by decide +kernel
theorem d_Pair_look_54 : decode prog_6_method_4_code 54 = .ok (.iload 6, 2) := by decide +kernel
theorem d_Pair_look_56 : decode prog_6_method_4_code 56 = .ok (.iconst 1, 1) := by decide +kernel
theorem d_Pair_look_57 : decode prog_6_method_4_code 57 = .ok (.iadd, 1) := by decide +kernel
theorem d_Pair_look_58 : decode prog_6_method_4_code 58 = .ok (.invokevirtual 44, 3) := by decide +kernel
theorem d_Pair_look_61 : decode prog_6_method_4_code 61 = .ok (.iload 4, 2) := by decide +kernel
theorem d_Pair_look_63 : decode prog_6_method_4_code 63 = .ok (.if_icmp .eq 24, 3) := by decide +kernel
theorem d_Pair_look_66 : decode prog_6_method_4_code 66 = .ok (.aload_n 0, 1) := by decide +kernel
theorem d_Pair_look_67 : decode prog_6_method_4_code 67 = .ok (.iconst 0, 1) := by decide +kernel
theorem d_Pair_look_68 : decode prog_6_method_4_code 68 = .ok (.putfield 52, 3) := by decide +kernel
theorem d_Pair_look_71 : decode prog_6_method_4_code 71 = .ok (.goto 16, 3) := by decide +kernel
theorem d_Pair_look_74 : decode prog_6_method_4_code 74 = .ok (.iload 7, 2) := by decide +kernel
theorem d_Pair_look_76 : decode prog_6_method_4_code 76 = .ok (.iload 4, 2) := by decide +kernel
theorem d_Pair_look_78 : decode prog_6_method_4_code 78 = .ok (.if_icmp .ne 9, 3) := by decide +kernel
theorem d_Pair_look_81 : decode prog_6_method_4_code 81 = .ok (.aload_n 0, 1) := by decide +kernel
theorem d_Pair_look_82 : decode prog_6_method_4_code 82 = .ok (.iload 6, 2) := by decide +kernel
theorem d_Pair_look_84 : decode prog_6_method_4_code 84 = .ok (.invokevirtual 56, 3) := by decide +kernel
theorem d_Pair_look_87 : decode prog_6_method_4_code 87 = .ok (.iinc 6 1, 3) := by decide +kernel
theorem d_Pair_look_90 : decode prog_6_method_4_code 90 = .ok (.goto (-75), 3) := by decide +kernel
theorem d_Pair_look_93 : decode prog_6_method_4_code 93 = .ok (.aload_n 0, 1) := by decide +kernel
theorem d_Pair_look_94 : decode prog_6_method_4_code 94 = .ok (.getfield 59, 3) := by decide +kernel
theorem d_Pair_look_97 : decode prog_6_method_4_code 97 = .ok (.aload_n 0, 1) := by decide +kernel
theorem d_Pair_look_98 : decode prog_6_method_4_code 98 = .ok (.getfield 62, 3) := by decide +kernel
theorem d_Pair_look_101 : decode prog_6_method_4_code 101 = .ok (.if_icmp .eq 8, 3) := by decide +kernel
theorem d_Pair_look_104 : decode prog_6_method_4_code 104 = .ok (.aload_n 0, 1) := by decide +kernel
theorem d_Pair_look_105 : decode prog_6_method_4_code 105 = .ok (.iconst 0, 1) := by decide +kernel
theorem d_Pair_look_106 : decode prog_6_method_4_code 106 = .ok (.putfield 65, 3) := by decide +kernel
theorem d_Pair_forgetLooks_0 : decode prog_6_method_5_code 0 = .ok (.aload_n 0, 1) := by decide +kernel
theorem d_Pair_forgetLooks_1 : decode prog_6_method_5_code 1 = .ok (.iconst (-1), 1) := by decide +kernel
theorem d_Pair_forgetLooks_2 : decode prog_6_method_5_code 2 = .ok (.putfield 68, 3) := by decide +kernel
theorem d_Pair_forgetLooks_5 : decode prog_6_method_5_code 5 = .ok (.aload_n 0, 1) := by decide +kernel
theorem d_Pair_forgetLooks_6 : decode prog_6_method_5_code 6 = .ok (.iconst (-1), 1) := by decide +kernel
theorem d_Pair_forgetLooks_7 : decode prog_6_method_5_code 7 = .ok (.putfield 71, 3) := by decide +kernel
theorem d_Pair_forgetLooks_10 : decode prog_6_method_5_code 10 = .ok (.aload_n 0, 1) := by decide +kernel
theorem d_Pair_forgetLooks_11 : decode prog_6_method_5_code 11 = .ok (.iconst 0, 1) := by decide +kernel
theorem d_Pair_forgetLooks_12 : decode prog_6_method_5_code 12 = .ok (.putfield 59, 3) := by decide +kernel
theorem d_Pair_forgetLooks_15 : decode prog_6_method_5_code 15 = .ok (.aload_n 0, 1) := by decide +kernel
theorem d_Pair_forgetLooks_16 : decode prog_6_method_5_code 16 = .ok (.iconst (-1), 1) := by decide +kernel
theorem d_Pair_forgetLooks_17 : decode prog_6_method_5_code 17 = .ok (.putfield 74, 3) := by decide +kernel
theorem d_Pair_forgetLooks_20 : decode prog_6_method_5_code 20 = .ok (.aload_n 0, 1) := by decide +kernel
theorem d_Pair_forgetLooks_21 : decode prog_6_method_5_code 21 = .ok (.iconst (-1), 1) := by decide +kernel
theorem d_Pair_forgetLooks_22 : decode prog_6_method_5_code 22 = .ok (.putfield 77, 3) := by decide +kernel
theorem d_Pair_forgetLooks_25 : decode prog_6_method_5_code 25 = .ok (.aload_n 0, 1) := by decide +kernel
theorem d_Pair_forgetLooks_26 : decode prog_6_method_5_code 26 = .ok (.iconst 0, 1) := by decide +kernel
theorem d_Pair_forgetLooks_27 : decode prog_6_method_5_code 27 = .ok (.putfield 62, 3) := by decide +kernel
theorem d_Pair_forgetLooks_30 : decode prog_6_method_5_code 30 = .ok (.aload_n 0, 1) := by decide +kernel
theorem d_Pair_forgetLooks_31 : decode prog_6_method_5_code 31 = .ok (.iconst 1, 1) := by decide +kernel
theorem d_Pair_forgetLooks_32 : decode prog_6_method_5_code 32 = .ok (.putfield 52, 3) := by decide +kernel
theorem d_Pair_forgetLooks_35 : decode prog_6_method_5_code 35 = .ok (.aload_n 0, 1) := by decide +kernel
theorem d_Pair_forgetLooks_36 : decode prog_6_method_5_code 36 = .ok (.iconst 1, 1) := by decide +kernel
theorem d_Pair_forgetLooks_37 : decode prog_6_method_5_code 37 = .ok (.putfield 65, 3) := by decide +kernel
theorem d_Pair_forgetLooks_40 : decode prog_6_method_5_code 40 = .ok (.return_, 1) := by decide +kernel
theorem d_Pair_meetY_0 : decode prog_6_method_7_code 0 = .ok (.aload_n 0, 1) := by decide +kernel
theorem d_Pair_meetY_1 : decode prog_6_method_7_code 1 = .ok (.getfield 59, 3) := by decide +kernel
theorem d_Pair_meetY_4 : decode prog_6_method_7_code 4 = .ok (.aload_n 0, 1) := by decide +kernel
theorem d_Pair_meetY_5 : decode prog_6_method_7_code 5 = .ok (.getfield 62, 3) := by decide +kernel
theorem d_Pair_meetY_8 : decode prog_6_method_7_code 8 = .ok (.iconst 1, 1) := by decide +kernel
theorem d_Pair_meetY_9 : decode prog_6_method_7_code 9 = .ok (.iadd, 1) := by decide +kernel
theorem d_Pair_meetY_10 : decode prog_6_method_7_code 10 = .ok (.if_icmp .eq 8, 3) := by decide +kernel
theorem d_Pair_meetY_13 : decode prog_6_method_7_code 13 = .ok (.aload_n 0, 1) := by decide +kernel
theorem d_Pair_meetY_14 : decode prog_6_method_7_code 14 = .ok (.iconst 0, 1) := by decide +kernel
theorem d_Pair_meetY_15 : decode prog_6_method_7_code 15 = .ok (.putfield 65, 3) := by decide +kernel
theorem d_Pair_meetY_18 : decode prog_6_method_7_code 18 = .ok (.aload_n 0, 1) := by decide +kernel
theorem d_Pair_meetY_19 : decode prog_6_method_7_code 19 = .ok (.getfield 62, 3) := by decide +kernel
theorem d_Pair_meetY_22 : decode prog_6_method_7_code 22 = .ok (.ifCond .ne 8, 3) := by decide +kernel
theorem d_Pair_meetY_25 : decode prog_6_method_7_code 25 = .ok (.aload_n 0, 1) := by decide +kernel
theorem d_Pair_meetY_26 : decode prog_6_method_7_code 26 = .ok (.iload_n 1, 1) := by decide +kernel
theorem d_Pair_meetY_27 : decode prog_6_method_7_code 27 = .ok (.putfield 74, 3) := by decide +kernel
theorem d_Pair_meetY_30 : decode prog_6_method_7_code 30 = .ok (.aload_n 0, 1) := by decide +kernel
theorem d_Pair_meetY_31 : decode prog_6_method_7_code 31 = .ok (.iload_n 1, 1) := by decide +kernel
theorem d_Pair_meetY_32 : decode prog_6_method_7_code 32 = .ok (.putfield 77, 3) := by decide +kernel
theorem d_Pair_meetY_35 : decode prog_6_method_7_code 35 = .ok (.aload_n 0, 1) := by decide +kernel
theorem d_Pair_meetY_36 : decode prog_6_method_7_code 36 = .ok (.dup, 1) := by decide +kernel
theorem d_Pair_meetY_37 : decode prog_6_method_7_code 37 = .ok (.getfield 62, 3) := by decide +kernel
theorem d_Pair_meetY_40 : decode prog_6_method_7_code 40 = .ok (.iconst 1, 1) := by decide +kernel
theorem d_Pair_meetY_41 : decode prog_6_method_7_code 41 = .ok (.iadd, 1) := by decide +kernel
theorem d_Pair_meetY_42 : decode prog_6_method_7_code 42 = .ok (.putfield 62, 3) := by decide +kernel
theorem d_Pair_meetX_0 : decode prog_6_method_6_code 0 = .ok (.aload_n 0, 1) := by decide +kernel
theorem d_Pair_meetX_1 : decode prog_6_method_6_code 1 = .ok (.getfield 59, 3) := by decide +kernel
theorem d_Pair_meetX_4 : decode prog_6_method_6_code 4 = .ok (.aload_n 0, 1) := by decide +kernel
theorem d_Pair_meetX_5 : decode prog_6_method_6_code 5 = .ok (.getfield 62, 3) := by decide +kernel
theorem d_Pair_meetX_8 : decode prog_6_method_6_code 8 = .ok (.if_icmp .eq 8, 3) := by decide +kernel
theorem d_Pair_meetX_11 : decode prog_6_method_6_code 11 = .ok (.aload_n 0, 1) := by decide +kernel
theorem d_Pair_meetX_12 : decode prog_6_method_6_code 12 = .ok (.iconst 0, 1) := by decide +kernel
theorem d_Pair_meetX_13 : decode prog_6_method_6_code 13 = .ok (.putfield 65, 3) := by decide +kernel
theorem d_Pair_meetX_16 : decode prog_6_method_6_code 16 = .ok (.aload_n 0, 1) := by decide +kernel
theorem d_Pair_meetX_17 : decode prog_6_method_6_code 17 = .ok (.getfield 59, 3) := by decide +kernel
theorem d_Pair_meetX_20 : decode prog_6_method_6_code 20 = .ok (.ifCond .ne 8, 3) := by decide +kernel
theorem d_Pair_meetX_23 : decode prog_6_method_6_code 23 = .ok (.aload_n 0, 1) := by decide +kernel
theorem d_Pair_meetX_24 : decode prog_6_method_6_code 24 = .ok (.iload_n 1, 1) := by decide +kernel
theorem d_Pair_meetX_25 : decode prog_6_method_6_code 25 = .ok (.putfield 68, 3) := by decide +kernel
theorem d_Pair_meetX_28 : decode prog_6_method_6_code 28 = .ok (.aload_n 0, 1) := by decide +kernel
theorem d_Pair_meetX_29 : decode prog_6_method_6_code 29 = .ok (.iload_n 1, 1) := by decide +kernel
theorem d_Pair_meetX_30 : decode prog_6_method_6_code 30 = .ok (.putfield 71, 3) := by decide +kernel
theorem d_Pair_meetX_33 : decode prog_6_method_6_code 33 = .ok (.aload_n 0, 1) := by decide +kernel
theorem d_Pair_meetX_34 : decode prog_6_method_6_code 34 = .ok (.dup, 1) := by decide +kernel
theorem d_Pair_meetX_35 : decode prog_6_method_6_code 35 = .ok (.getfield 59, 3) := by decide +kernel
theorem d_Pair_meetX_38 : decode prog_6_method_6_code 38 = .ok (.iconst 1, 1) := by decide +kernel
theorem d_Pair_meetX_39 : decode prog_6_method_6_code 39 = .ok (.iadd, 1) := by decide +kernel
theorem d_Pair_meetX_40 : decode prog_6_method_6_code 40 = .ok (.putfield 59, 3) := by decide +kernel
theorem d_Pair_isAsked_0 : decode prog_6_method_8_code 0 = .ok (.iload_n 1, 1) := by decide +kernel
theorem d_Pair_isAsked_1 : decode prog_6_method_8_code 1 = .ok (.tableswitch 57 0 3 #[31, 44, 31, 31], 31) := by decide +kernel
theorem d_Pair_isAsked_32 : decode prog_6_method_8_code 32 = .ok (.aload_n 0, 1) := by decide +kernel
theorem d_Pair_isAsked_33 : decode prog_6_method_8_code 33 = .ok (.getfield 59, 3) := by decide +kernel
theorem d_Pair_isAsked_36 : decode prog_6_method_8_code 36 = .ok (.ifCond .le 7, 3) := by decide +kernel
theorem d_Pair_isAsked_39 : decode prog_6_method_8_code 39 = .ok (.iconst 1, 1) := by decide +kernel
theorem d_Pair_isAsked_40 : decode prog_6_method_8_code 40 = .ok (.goto 4, 3) := by decide +kernel
theorem d_Pair_isAsked_43 : decode prog_6_method_8_code 43 = .ok (.iconst 0, 1) := by decide +kernel
theorem d_Pair_isAsked_45 : decode prog_6_method_8_code 45 = .ok (.aload_n 0, 1) := by decide +kernel
theorem d_Pair_isAsked_46 : decode prog_6_method_8_code 46 = .ok (.getfield 62, 3) := by decide +kernel
theorem d_Pair_isAsked_49 : decode prog_6_method_8_code 49 = .ok (.ifCond .le 7, 3) := by decide +kernel
theorem d_Pair_isAsked_52 : decode prog_6_method_8_code 52 = .ok (.iconst 1, 1) := by decide +kernel
theorem d_Pair_isAsked_53 : decode prog_6_method_8_code 53 = .ok (.goto 4, 3) := by decide +kernel
theorem d_Pair_isAsked_56 : decode prog_6_method_8_code 56 = .ok (.iconst 0, 1) := by decide +kernel
theorem d_Pair_isAsked_58 : decode prog_6_method_8_code 58 = .ok (.aload_n 0, 1) := by decide +kernel
theorem d_Pair_isAsked_59 : decode prog_6_method_8_code 59 = .ok (.getfield 59, 3) := by decide +kernel
theorem d_Pair_isAsked_62 : decode prog_6_method_8_code 62 = .ok (.ifCond .gt 10, 3) := by decide +kernel
theorem d_Pair_isAsked_65 : decode prog_6_method_8_code 65 = .ok (.aload_n 0, 1) := by decide +kernel
theorem d_Pair_isAsked_66 : decode prog_6_method_8_code 66 = .ok (.getfield 62, 3) := by decide +kernel
theorem d_Pair_isAsked_69 : decode prog_6_method_8_code 69 = .ok (.ifCond .le 7, 3) := by decide +kernel
theorem d_Pair_isAsked_72 : decode prog_6_method_8_code 72 = .ok (.iconst 1, 1) := by decide +kernel
theorem d_Pair_isAsked_73 : decode prog_6_method_8_code 73 = .ok (.goto 4, 3) := by decide +kernel
theorem d_Pair_isAsked_76 : decode prog_6_method_8_code 76 = .ok (.iconst 0, 1) := by decide +kernel
theorem d_Pair_isSo_0 : decode prog_6_method_9_code 0 = .ok (.iload_n 1, 1) := by decide +kernel
theorem d_Pair_isSo_1 : decode prog_6_method_9_code 1 = .ok (.tableswitch 115 0 4 #[35, 52, 76, 93, 98], 35) := by decide +kernel
theorem d_Pair_isSo_36 : decode prog_6_method_9_code 36 = .ok (.aload_n 0, 1) := by decide +kernel
theorem d_Pair_isSo_37 : decode prog_6_method_9_code 37 = .ok (.getfield 77, 3) := by decide +kernel
theorem d_Pair_isSo_40 : decode prog_6_method_9_code 40 = .ok (.aload_n 0, 1) := by decide +kernel
theorem d_Pair_isSo_41 : decode prog_6_method_9_code 41 = .ok (.getfield 71, 3) := by decide +kernel
theorem d_Pair_isSo_44 : decode prog_6_method_9_code 44 = .ok (.if_icmp .le 7, 3) := by decide +kernel
theorem d_Pair_isSo_47 : decode prog_6_method_9_code 47 = .ok (.iconst 1, 1) := by decide +kernel
theorem d_Pair_isSo_48 : decode prog_6_method_9_code 48 = .ok (.goto 4, 3) := by decide +kernel
theorem d_Pair_isSo_51 : decode prog_6_method_9_code 51 = .ok (.iconst 0, 1) := by decide +kernel
theorem d_Pair_isSo_53 : decode prog_6_method_9_code 53 = .ok (.aload_n 0, 1) := by decide +kernel
theorem d_Pair_isSo_54 : decode prog_6_method_9_code 54 = .ok (.getfield 59, 3) := by decide +kernel
theorem d_Pair_isSo_57 : decode prog_6_method_9_code 57 = .ok (.ifCond .le 18, 3) := by decide +kernel
theorem d_Pair_isSo_60 : decode prog_6_method_9_code 60 = .ok (.aload_n 0, 1) := by decide +kernel
theorem d_Pair_isSo_61 : decode prog_6_method_9_code 61 = .ok (.getfield 68, 3) := by decide +kernel
theorem d_Pair_isSo_64 : decode prog_6_method_9_code 64 = .ok (.aload_n 0, 1) := by decide +kernel
theorem d_Pair_isSo_65 : decode prog_6_method_9_code 65 = .ok (.getfield 74, 3) := by decide +kernel
theorem d_Pair_isSo_68 : decode prog_6_method_9_code 68 = .ok (.if_icmp .ge 7, 3) := by decide +kernel
theorem d_Pair_isSo_71 : decode prog_6_method_9_code 71 = .ok (.iconst 1, 1) := by decide +kernel
theorem d_Pair_isSo_72 : decode prog_6_method_9_code 72 = .ok (.goto 4, 3) := by decide +kernel
theorem d_Pair_isSo_75 : decode prog_6_method_9_code 75 = .ok (.iconst 0, 1) := by decide +kernel
theorem d_Pair_isSo_77 : decode prog_6_method_9_code 77 = .ok (.aload_n 0, 1) := by decide +kernel
theorem d_Pair_isSo_78 : decode prog_6_method_9_code 78 = .ok (.getfield 77, 3) := by decide +kernel
theorem d_Pair_isSo_81 : decode prog_6_method_9_code 81 = .ok (.aload_n 0, 1) := by decide +kernel
theorem d_Pair_isSo_82 : decode prog_6_method_9_code 82 = .ok (.getfield 68, 3) := by decide +kernel
theorem d_Pair_isSo_85 : decode prog_6_method_9_code 85 = .ok (.if_icmp .ge 7, 3) := by decide +kernel
theorem d_Pair_isSo_88 : decode prog_6_method_9_code 88 = .ok (.iconst 1, 1) := by decide +kernel
theorem d_Pair_isSo_89 : decode prog_6_method_9_code 89 = .ok (.goto 4, 3) := by decide +kernel
theorem d_Pair_isSo_92 : decode prog_6_method_9_code 92 = .ok (.iconst 0, 1) := by decide +kernel
theorem d_Pair_isSo_94 : decode prog_6_method_9_code 94 = .ok (.aload_n 0, 1) := by decide +kernel
theorem d_Pair_isSo_95 : decode prog_6_method_9_code 95 = .ok (.getfield 52, 3) := by decide +kernel
theorem d_Pair_isSo_99 : decode prog_6_method_9_code 99 = .ok (.aload_n 0, 1) := by decide +kernel
theorem d_Pair_isSo_100 : decode prog_6_method_9_code 100 = .ok (.getfield 59, 3) := by decide +kernel
theorem d_Pair_isSo_103 : decode prog_6_method_9_code 103 = .ok (.aload_n 0, 1) := by decide +kernel
theorem d_Pair_isSo_104 : decode prog_6_method_9_code 104 = .ok (.getfield 62, 3) := by decide +kernel
theorem d_Pair_isSo_107 : decode prog_6_method_9_code 107 = .ok (.if_icmp .ne 7, 3) := by decide +kernel
theorem d_Pair_isSo_110 : decode prog_6_method_9_code 110 = .ok (.iconst 1, 1) := by decide +kernel
theorem d_Pair_isSo_111 : decode prog_6_method_9_code 111 = .ok (.goto 4, 3) := by decide +kernel
theorem d_Pair_isSo_114 : decode prog_6_method_9_code 114 = .ok (.iconst 0, 1) := by decide +kernel
theorem d_Pair_isSo_116 : decode prog_6_method_9_code 116 = .ok (.aload_n 0, 1) := by decide +kernel
theorem d_Pair_isSo_117 : decode prog_6_method_9_code 117 = .ok (.getfield 65, 3) := by decide +kernel
theorem li_2 : (2 : Int32).toInt = 2 := by decide +kernel
theorem li_3 : (3 : Int32).toInt = 3 := by decide +kernel
abbrev m_s2_Pair_forgetLooks : Room := { frames := 0, cells := 0, slots := 0, locals := 0 }
set_option maxHeartbeats 4000000 in
set_option maxRecDepth 100000 in
theorem s2_Pair_forgetLooks (l : Launch) (G : zG) (b0 : Nat) (b1 : Int32) (b2 : Int32) (b3 : Int32) (b4 : Int32) (b5 : Int32) (b6 : Int32) (b7 : Int32) (b8 : Int32) (b9 : Int32) (b10 : Int32) (hb9 : zI b9 0 1) (hb10 : zI b10 0 1) : zM l G y_Pair_forgetLooks prog_6_method_5_code 1 (Option.none : Option Jvm.ClassFile.FieldType) m_s2_Pair_forgetLooks [.ref b0] [(b0, .inr (10, [.int b1, .int b2, .int b3, .int b4, .int b5, .int b6, .int b7, .int b8, .int b9, .int b10]))] (fun v w => v = none ∧ w = [(b0, .inr (10, [.int b1, .int b2, .int (-1), .int (-1), .int 0, .int (-1), .int (-1), .int 0, .int 1, .int 1]))]) := by
  refine z_start (by decide +kernel) (Nat.le_of_ble_eq_true rfl) ?_
  intro p e s m below meth c A Z hr hnm hA hP hD hS ls hl
  have Z : zC p s m _ meth c prog_6_method_5_code 1 "TraceMachines$Pair" G := Z
  obtain ⟨hx, hb, hml, hown, hts, hK, hN, hlocks⟩ := id Z
  have hl : lv_has ls 1 [(0, .ref b0)] := hl
  refine lv_aload_n hx hb d_Pair_forgetLooks_0 rfl (lv_at hl 0 rfl) ?_
  refine lv_iconst (v := (-1)) hx hb d_Pair_forgetLooks_1 (by decide) ?_
  refine va_put (D := G.1) (ci := 10) (v := .int (-1)) (ty := .int) (C := R_Pair) (T := F_Pair) (N := 10) hx hb hts i_Pair t_Pair t_Pair_ok n_Pair hown hK hP hD hS 0 rfl rfl 2 (by decide) (hts _ q367) (fun _ h9 => h9) rfl (by decide +kernel) rfl rfl (Nat.le_of_ble_eq_true rfl) d_Pair_forgetLooks_2 (fun H locs hP hD hS => ?_)
  have hP : va_P G.1 classes [(b0, .inr (10, [.int b1, .int b2, .int (-1), .int b4, .int b5, .int b6, .int b7, .int b8, .int b9, .int b10]))] H := hP
  have hD := z_tie hP hD rfl
  refine lv_aload_n hx hb d_Pair_forgetLooks_5 rfl (lv_at hl 0 rfl) ?_
  refine lv_iconst (v := (-1)) hx hb d_Pair_forgetLooks_6 (by decide) ?_
  refine va_put (D := G.1) (ci := 10) (v := .int (-1)) (ty := .int) (C := R_Pair) (T := F_Pair) (N := 10) hx hb hts i_Pair t_Pair t_Pair_ok n_Pair hown hK hP hD hS 0 rfl rfl 3 (by decide) (hts _ q368) (fun _ h9 => h9) rfl (by decide +kernel) rfl rfl (Nat.le_of_ble_eq_true rfl) d_Pair_forgetLooks_7 (fun H locs hP hD hS => ?_)
  have hP : va_P G.1 classes [(b0, .inr (10, [.int b1, .int b2, .int (-1), .int (-1), .int b5, .int b6, .int b7, .int b8, .int b9, .int b10]))] H := hP
  have hD := z_tie hP hD rfl
  refine lv_aload_n hx hb d_Pair_forgetLooks_10 rfl (lv_at hl 0 rfl) ?_
  refine lv_iconst (v := 0) hx hb d_Pair_forgetLooks_11 (by decide) ?_
  refine va_put (D := G.1) (ci := 10) (v := .int 0) (ty := .int) (C := R_Pair) (T := F_Pair) (N := 10) hx hb hts i_Pair t_Pair t_Pair_ok n_Pair hown hK hP hD hS 0 rfl rfl 4 (by decide) (hts _ q369) (fun _ h9 => h9) rfl (by decide +kernel) rfl rfl (Nat.le_of_ble_eq_true rfl) d_Pair_forgetLooks_12 (fun H locs hP hD hS => ?_)
  have hP : va_P G.1 classes [(b0, .inr (10, [.int b1, .int b2, .int (-1), .int (-1), .int 0, .int b6, .int b7, .int b8, .int b9, .int b10]))] H := hP
  have hD := z_tie hP hD rfl
  refine lv_aload_n hx hb d_Pair_forgetLooks_15 rfl (lv_at hl 0 rfl) ?_
  refine lv_iconst (v := (-1)) hx hb d_Pair_forgetLooks_16 (by decide) ?_
  refine va_put (D := G.1) (ci := 10) (v := .int (-1)) (ty := .int) (C := R_Pair) (T := F_Pair) (N := 10) hx hb hts i_Pair t_Pair t_Pair_ok n_Pair hown hK hP hD hS 0 rfl rfl 5 (by decide) (hts _ q370) (fun _ h9 => h9) rfl (by decide +kernel) rfl rfl (Nat.le_of_ble_eq_true rfl) d_Pair_forgetLooks_17 (fun H locs hP hD hS => ?_)
  have hP : va_P G.1 classes [(b0, .inr (10, [.int b1, .int b2, .int (-1), .int (-1), .int 0, .int (-1), .int b7, .int b8, .int b9, .int b10]))] H := hP
  have hD := z_tie hP hD rfl
  refine lv_aload_n hx hb d_Pair_forgetLooks_20 rfl (lv_at hl 0 rfl) ?_
  refine lv_iconst (v := (-1)) hx hb d_Pair_forgetLooks_21 (by decide) ?_
  refine va_put (D := G.1) (ci := 10) (v := .int (-1)) (ty := .int) (C := R_Pair) (T := F_Pair) (N := 10) hx hb hts i_Pair t_Pair t_Pair_ok n_Pair hown hK hP hD hS 0 rfl rfl 6 (by decide) (hts _ q371) (fun _ h9 => h9) rfl (by decide +kernel) rfl rfl (Nat.le_of_ble_eq_true rfl) d_Pair_forgetLooks_22 (fun H locs hP hD hS => ?_)
  have hP : va_P G.1 classes [(b0, .inr (10, [.int b1, .int b2, .int (-1), .int (-1), .int 0, .int (-1), .int (-1), .int b8, .int b9, .int b10]))] H := hP
  have hD := z_tie hP hD rfl
  refine lv_aload_n hx hb d_Pair_forgetLooks_25 rfl (lv_at hl 0 rfl) ?_
  refine lv_iconst (v := 0) hx hb d_Pair_forgetLooks_26 (by decide) ?_
  refine va_put (D := G.1) (ci := 10) (v := .int 0) (ty := .int) (C := R_Pair) (T := F_Pair) (N := 10) hx hb hts i_Pair t_Pair t_Pair_ok n_Pair hown hK hP hD hS 0 rfl rfl 7 (by decide) (hts _ q372) (fun _ h9 => h9) rfl (by decide +kernel) rfl rfl (Nat.le_of_ble_eq_true rfl) d_Pair_forgetLooks_27 (fun H locs hP hD hS => ?_)
  have hP : va_P G.1 classes [(b0, .inr (10, [.int b1, .int b2, .int (-1), .int (-1), .int 0, .int (-1), .int (-1), .int 0, .int b9, .int b10]))] H := hP
  have hD := z_tie hP hD rfl
  refine lv_aload_n hx hb d_Pair_forgetLooks_30 rfl (lv_at hl 0 rfl) ?_
  refine lv_iconst (v := 1) hx hb d_Pair_forgetLooks_31 (by decide) ?_
  refine va_put (D := G.1) (ci := 10) (v := .int 1) (ty := .boolean) (C := R_Pair) (T := F_Pair) (N := 10) hx hb hts i_Pair t_Pair t_Pair_ok n_Pair hown hK hP hD hS 0 rfl rfl 8 (by decide) (hts _ q373) (fun _ h9 => h9) rfl (by decide +kernel) rfl rfl (Nat.le_of_ble_eq_true rfl) d_Pair_forgetLooks_32 (fun H locs hP hD hS => ?_)
  have hP : va_P G.1 classes [(b0, .inr (10, [.int b1, .int b2, .int (-1), .int (-1), .int 0, .int (-1), .int (-1), .int 0, .int 1, .int b10]))] H := hP
  have hD := z_tie hP hD rfl
  refine lv_aload_n hx hb d_Pair_forgetLooks_35 rfl (lv_at hl 0 rfl) ?_
  refine lv_iconst (v := 1) hx hb d_Pair_forgetLooks_36 (by decide) ?_
  refine va_put (D := G.1) (ci := 10) (v := .int 1) (ty := .boolean) (C := R_Pair) (T := F_Pair) (N := 10) hx hb hts i_Pair t_Pair t_Pair_ok n_Pair hown hK hP hD hS 0 rfl rfl 9 (by decide) (hts _ q374) (fun _ h9 => h9) rfl (by decide +kernel) rfl rfl (Nat.le_of_ble_eq_true rfl) d_Pair_forgetLooks_37 (fun H locs hP hD hS => ?_)
  have hP : va_P G.1 classes [(b0, .inr (10, [.int b1, .int b2, .int (-1), .int (-1), .int 0, .int (-1), .int (-1), .int 0, .int 1, .int 1]))] H := hP
  have hD := z_tie hP hD rfl
  exact z_vret hx hb hr hlocks hP hD hS (Nat.le_of_ble_eq_true rfl) (Nat.le_of_ble_eq_true rfl) d_Pair_forgetLooks_40 ⟨rfl, rfl⟩
theorem d_Pair_look_109 : decode prog_6_method_4_code 109 = .ok (.return_, 1) := by decide +kernel
theorem d_Pair_meetY_45 : decode prog_6_method_7_code 45 = .ok (.return_, 1) := by decide +kernel
abbrev m_s6_Pair_meetY : Room := { frames := 0, cells := 0, slots := 0, locals := 0 }
set_option maxHeartbeats 4000000 in
set_option maxRecDepth 100000 in
theorem s6_Pair_meetY (l : Launch) (G : zG) (b0 : Nat) (b1 : Int32) (b2 : Int32) (b3 : Int32) (b4 : Int32) (b5 : Int32) (b6 : Int32) (b7 : Int32) (b8 : Int32) (b9 : Int32) (b10 : Int32) (b11 : Int32) (hb1 : zI b1 0 11) (hb10 : zI b10 0 1) (hb11 : zI b11 0 1) : zM l G y_Pair_meetY prog_6_method_7_code 2 (Option.none : Option Jvm.ClassFile.FieldType) m_s6_Pair_meetY [.ref b0, .int b1] [(b0, .inr (10, [.int b2, .int b3, .int b4, .int b5, .int b6, .int b7, .int b8, .int b9, .int b10, .int b11]))] (fun v w => ∃ (e0 : Int32), ∃ (e1 : Int32), ∃ (e2 : Int32), v = none ∧ w = [(b0, .inr (10, [.int b2, .int b3, .int b4, .int b5, .int b6, .int e0, .int b1, .int e1, .int b10, .int e2]))] ∧ (zI e2 0 1)) := by
  refine z_start (by decide +kernel) (Nat.le_of_ble_eq_true rfl) ?_
  intro p e s m below meth c A Z hr hnm hA hP hD hS ls hl
  have Z : zC p s m _ meth c prog_6_method_7_code 2 "TraceMachines$Pair" G := Z
  obtain ⟨hx, hb, hml, hown, hts, hK, hN, hlocks⟩ := id Z
  have hl : lv_has ls 2 [(0, .ref b0), (1, .int b1)] := hl
  refine lv_aload_n hx hb d_Pair_meetY_0 rfl (lv_at hl 0 rfl) ?_
  refine va_get (D := G.1) (ci := 10) (v := .int b6) (C := R_Pair) (T := F_Pair) (N := 10) hx hb hts i_Pair hown hK hP 0 rfl rfl 4 (by decide) (hts _ q369) (fun _ h9 => h9) rfl d_Pair_meetY_1 ?_
  refine lv_aload_n hx hb d_Pair_meetY_4 rfl (lv_at hl 0 rfl) ?_
  refine va_get (D := G.1) (ci := 10) (v := .int b9) (C := R_Pair) (T := F_Pair) (N := 10) hx hb hts i_Pair hown hK hP 0 rfl rfl 7 (by decide) (hts _ q372) (fun _ h9 => h9) rfl d_Pair_meetY_5 ?_
  refine lv_iconst (v := 1) hx hb d_Pair_meetY_8 (by decide) ?_
  refine lv_iadd hx hb d_Pair_meetY_9 ?_
  refine lv_topi (fun v_1 ev_1 => ?_)
  refine lv_icmp_eq (tgt := 18) hx hb d_Pair_meetY_10 (by decide) (fun hc_2 => ?_) (fun hc_2 => ?_)
  · have _nhc_2 := hc_2
    have ni_3 := (fa_eq _ _).mp hc_2
    refine lv_aload_n hx hb d_Pair_meetY_18 rfl (lv_at hl 0 rfl) ?_
    refine va_get (D := G.1) (ci := 10) (v := .int b9) (C := R_Pair) (T := F_Pair) (N := 10) hx hb hts i_Pair hown hK hP 0 rfl rfl 7 (by decide) (hts _ q372) (fun _ h9 => h9) rfl d_Pair_meetY_19 ?_
    refine lv_if_ne (tgt := 30) hx hb d_Pair_meetY_22 (by decide) (fun hc_4 => ?_) (fun hc_4 => ?_)
    · have _nhc_4 := hc_4
      have ni_5 : ¬ (b9 : Int32).toInt = (0 : Int32).toInt := fun z => hc_4 ((fa_eq _ _).mpr z)
      simp only [li_0] at ni_5
      refine lv_aload_n hx hb d_Pair_meetY_30 rfl (lv_at hl 0 rfl) ?_
      refine lv_iload_n hx hb d_Pair_meetY_31 rfl (lv_at hl 1 rfl) ?_
      refine va_put (D := G.1) (ci := 10) (v := .int b1) (ty := .int) (C := R_Pair) (T := F_Pair) (N := 10) hx hb hts i_Pair t_Pair t_Pair_ok n_Pair hown hK hP hD hS 0 rfl rfl 6 (by decide) (hts _ q371) (fun _ h9 => h9) rfl (by decide +kernel) rfl rfl (Nat.le_of_ble_eq_true rfl) d_Pair_meetY_32 (fun H locs hP hD hS => ?_)
      have hP : va_P G.1 classes [(b0, .inr (10, [.int b2, .int b3, .int b4, .int b5, .int b6, .int b7, .int b1, .int b9, .int b10, .int b11]))] H := hP
      have hD := z_tie hP hD rfl
      refine lv_aload_n hx hb d_Pair_meetY_35 rfl (lv_at hl 0 rfl) ?_
      refine lv_dup hx hb d_Pair_meetY_36 rfl ?_
      refine va_get (D := G.1) (ci := 10) (v := .int b9) (C := R_Pair) (T := F_Pair) (N := 10) hx hb hts i_Pair hown hK hP 0 rfl rfl 7 (by decide) (hts _ q372) (fun _ h9 => h9) rfl d_Pair_meetY_37 ?_
      refine lv_iconst (v := 1) hx hb d_Pair_meetY_40 (by decide) ?_
      refine lv_iadd hx hb d_Pair_meetY_41 ?_
      refine lv_topi (fun v_6 ev_6 => ?_)
      obtain rfl : v_1 = v_6 := ev_1.trans ev_6.symm
      refine va_put (D := G.1) (ci := 10) (v := .int v_1) (ty := .int) (C := R_Pair) (T := F_Pair) (N := 10) hx hb hts i_Pair t_Pair t_Pair_ok n_Pair hown hK hP hD hS 0 rfl rfl 7 (by decide) (hts _ q372) (fun _ h9 => h9) rfl (by decide +kernel) rfl rfl (Nat.le_of_ble_eq_true rfl) d_Pair_meetY_42 (fun H locs hP hD hS => ?_)
      have hP : va_P G.1 classes [(b0, .inr (10, [.int b2, .int b3, .int b4, .int b5, .int b6, .int b7, .int b1, .int v_1, .int b10, .int b11]))] H := hP
      have hD := z_tie hP hD rfl
      exact z_vret hx hb hr hlocks hP hD hS (Nat.le_of_ble_eq_true rfl) (Nat.le_of_ble_eq_true rfl) d_Pair_meetY_45 ⟨b7, v_1, b11, rfl, rfl, hb11⟩
    · have _nhc_4 := hc_4
      have ni_7 := (fa_eq _ _).mp hc_4
      rw [li_0] at ni_7
      have hv_8 : zI b9 0 0 := zI.eq_l (zI_all b9) zc_0 hc_4
      refine lv_aload_n hx hb d_Pair_meetY_25 rfl (lv_at hl 0 rfl) ?_
      refine lv_iload_n hx hb d_Pair_meetY_26 rfl (lv_at hl 1 rfl) ?_
      refine va_put (D := G.1) (ci := 10) (v := .int b1) (ty := .int) (C := R_Pair) (T := F_Pair) (N := 10) hx hb hts i_Pair t_Pair t_Pair_ok n_Pair hown hK hP hD hS 0 rfl rfl 5 (by decide) (hts _ q370) (fun _ h9 => h9) rfl (by decide +kernel) rfl rfl (Nat.le_of_ble_eq_true rfl) d_Pair_meetY_27 (fun H locs hP hD hS => ?_)
      have hP : va_P G.1 classes [(b0, .inr (10, [.int b2, .int b3, .int b4, .int b5, .int b6, .int b1, .int b8, .int b9, .int b10, .int b11]))] H := hP
      have hD := z_tie hP hD rfl
      refine lv_aload_n hx hb d_Pair_meetY_30 rfl (lv_at hl 0 rfl) ?_
      refine lv_iload_n hx hb d_Pair_meetY_31 rfl (lv_at hl 1 rfl) ?_
      refine va_put (D := G.1) (ci := 10) (v := .int b1) (ty := .int) (C := R_Pair) (T := F_Pair) (N := 10) hx hb hts i_Pair t_Pair t_Pair_ok n_Pair hown hK hP hD hS 0 rfl rfl 6 (by decide) (hts _ q371) (fun _ h9 => h9) rfl (by decide +kernel) rfl rfl (Nat.le_of_ble_eq_true rfl) d_Pair_meetY_32 (fun H locs hP hD hS => ?_)
      have hP : va_P G.1 classes [(b0, .inr (10, [.int b2, .int b3, .int b4, .int b5, .int b6, .int b1, .int b1, .int b9, .int b10, .int b11]))] H := hP
      have hD := z_tie hP hD rfl
      refine lv_aload_n hx hb d_Pair_meetY_35 rfl (lv_at hl 0 rfl) ?_
      refine lv_dup hx hb d_Pair_meetY_36 rfl ?_
      refine va_get (D := G.1) (ci := 10) (v := .int b9) (C := R_Pair) (T := F_Pair) (N := 10) hx hb hts i_Pair hown hK hP 0 rfl rfl 7 (by decide) (hts _ q372) (fun _ h9 => h9) rfl d_Pair_meetY_37 ?_
      refine lv_iconst (v := 1) hx hb d_Pair_meetY_40 (by decide) ?_
      refine lv_iadd hx hb d_Pair_meetY_41 ?_
      refine lv_topi (fun v_9 ev_9 => ?_)
      obtain rfl : v_1 = v_9 := ev_1.trans ev_9.symm
      refine va_put (D := G.1) (ci := 10) (v := .int v_1) (ty := .int) (C := R_Pair) (T := F_Pair) (N := 10) hx hb hts i_Pair t_Pair t_Pair_ok n_Pair hown hK hP hD hS 0 rfl rfl 7 (by decide) (hts _ q372) (fun _ h9 => h9) rfl (by decide +kernel) rfl rfl (Nat.le_of_ble_eq_true rfl) d_Pair_meetY_42 (fun H locs hP hD hS => ?_)
      have hP : va_P G.1 classes [(b0, .inr (10, [.int b2, .int b3, .int b4, .int b5, .int b6, .int b1, .int b1, .int v_1, .int b10, .int b11]))] H := hP
      have hD := z_tie hP hD rfl
      exact z_vret hx hb hr hlocks hP hD hS (Nat.le_of_ble_eq_true rfl) (Nat.le_of_ble_eq_true rfl) d_Pair_meetY_45 ⟨b1, v_1, b11, rfl, rfl, hb11⟩
  · have _nhc_2 := hc_2
    have ni_10 : ¬ (b6 : Int32).toInt = (v_1 : Int32).toInt := fun z => hc_2 ((fa_eq _ _).mpr z)
    refine lv_aload_n hx hb d_Pair_meetY_13 rfl (lv_at hl 0 rfl) ?_
    refine lv_iconst (v := 0) hx hb d_Pair_meetY_14 (by decide) ?_
    refine va_put (D := G.1) (ci := 10) (v := .int 0) (ty := .boolean) (C := R_Pair) (T := F_Pair) (N := 10) hx hb hts i_Pair t_Pair t_Pair_ok n_Pair hown hK hP hD hS 0 rfl rfl 9 (by decide) (hts _ q374) (fun _ h9 => h9) rfl (by decide +kernel) rfl rfl (Nat.le_of_ble_eq_true rfl) d_Pair_meetY_15 (fun H locs hP hD hS => ?_)
    have hP : va_P G.1 classes [(b0, .inr (10, [.int b2, .int b3, .int b4, .int b5, .int b6, .int b7, .int b8, .int b9, .int b10, .int 0]))] H := hP
    have hD := z_tie hP hD rfl
    refine lv_aload_n hx hb d_Pair_meetY_18 rfl (lv_at hl 0 rfl) ?_
    refine va_get (D := G.1) (ci := 10) (v := .int b9) (C := R_Pair) (T := F_Pair) (N := 10) hx hb hts i_Pair hown hK hP 0 rfl rfl 7 (by decide) (hts _ q372) (fun _ h9 => h9) rfl d_Pair_meetY_19 ?_
    refine lv_if_ne (tgt := 30) hx hb d_Pair_meetY_22 (by decide) (fun hc_11 => ?_) (fun hc_11 => ?_)
    · have _nhc_11 := hc_11
      have ni_12 : ¬ (b9 : Int32).toInt = (0 : Int32).toInt := fun z => hc_11 ((fa_eq _ _).mpr z)
      simp only [li_0] at ni_12
      refine lv_aload_n hx hb d_Pair_meetY_30 rfl (lv_at hl 0 rfl) ?_
      refine lv_iload_n hx hb d_Pair_meetY_31 rfl (lv_at hl 1 rfl) ?_
      refine va_put (D := G.1) (ci := 10) (v := .int b1) (ty := .int) (C := R_Pair) (T := F_Pair) (N := 10) hx hb hts i_Pair t_Pair t_Pair_ok n_Pair hown hK hP hD hS 0 rfl rfl 6 (by decide) (hts _ q371) (fun _ h9 => h9) rfl (by decide +kernel) rfl rfl (Nat.le_of_ble_eq_true rfl) d_Pair_meetY_32 (fun H locs hP hD hS => ?_)
      have hP : va_P G.1 classes [(b0, .inr (10, [.int b2, .int b3, .int b4, .int b5, .int b6, .int b7, .int b1, .int b9, .int b10, .int 0]))] H := hP
      have hD := z_tie hP hD rfl
      refine lv_aload_n hx hb d_Pair_meetY_35 rfl (lv_at hl 0 rfl) ?_
      refine lv_dup hx hb d_Pair_meetY_36 rfl ?_
      refine va_get (D := G.1) (ci := 10) (v := .int b9) (C := R_Pair) (T := F_Pair) (N := 10) hx hb hts i_Pair hown hK hP 0 rfl rfl 7 (by decide) (hts _ q372) (fun _ h9 => h9) rfl d_Pair_meetY_37 ?_
      refine lv_iconst (v := 1) hx hb d_Pair_meetY_40 (by decide) ?_
      refine lv_iadd hx hb d_Pair_meetY_41 ?_
      refine lv_topi (fun v_13 ev_13 => ?_)
      obtain rfl : v_1 = v_13 := ev_1.trans ev_13.symm
      refine va_put (D := G.1) (ci := 10) (v := .int v_1) (ty := .int) (C := R_Pair) (T := F_Pair) (N := 10) hx hb hts i_Pair t_Pair t_Pair_ok n_Pair hown hK hP hD hS 0 rfl rfl 7 (by decide) (hts _ q372) (fun _ h9 => h9) rfl (by decide +kernel) rfl rfl (Nat.le_of_ble_eq_true rfl) d_Pair_meetY_42 (fun H locs hP hD hS => ?_)
      have hP : va_P G.1 classes [(b0, .inr (10, [.int b2, .int b3, .int b4, .int b5, .int b6, .int b7, .int b1, .int v_1, .int b10, .int 0]))] H := hP
      have hD := z_tie hP hD rfl
      exact z_vret hx hb hr hlocks hP hD hS (Nat.le_of_ble_eq_true rfl) (Nat.le_of_ble_eq_true rfl) d_Pair_meetY_45 ⟨b7, v_1, 0, rfl, rfl, (zI.wk (l' := 0) (h' := 1) zc_0 (by decide))⟩
    · have _nhc_11 := hc_11
      have ni_14 := (fa_eq _ _).mp hc_11
      rw [li_0] at ni_14
      have hv_15 : zI b9 0 0 := zI.eq_l (zI_all b9) zc_0 hc_11
      refine lv_aload_n hx hb d_Pair_meetY_25 rfl (lv_at hl 0 rfl) ?_
      refine lv_iload_n hx hb d_Pair_meetY_26 rfl (lv_at hl 1 rfl) ?_
      refine va_put (D := G.1) (ci := 10) (v := .int b1) (ty := .int) (C := R_Pair) (T := F_Pair) (N := 10) hx hb hts i_Pair t_Pair t_Pair_ok n_Pair hown hK hP hD hS 0 rfl rfl 5 (by decide) (hts _ q370) (fun _ h9 => h9) rfl (by decide +kernel) rfl rfl (Nat.le_of_ble_eq_true rfl) d_Pair_meetY_27 (fun H locs hP hD hS => ?_)
      have hP : va_P G.1 classes [(b0, .inr (10, [.int b2, .int b3, .int b4, .int b5, .int b6, .int b1, .int b8, .int b9, .int b10, .int 0]))] H := hP
      have hD := z_tie hP hD rfl
      refine lv_aload_n hx hb d_Pair_meetY_30 rfl (lv_at hl 0 rfl) ?_
      refine lv_iload_n hx hb d_Pair_meetY_31 rfl (lv_at hl 1 rfl) ?_
      refine va_put (D := G.1) (ci := 10) (v := .int b1) (ty := .int) (C := R_Pair) (T := F_Pair) (N := 10) hx hb hts i_Pair t_Pair t_Pair_ok n_Pair hown hK hP hD hS 0 rfl rfl 6 (by decide) (hts _ q371) (fun _ h9 => h9) rfl (by decide +kernel) rfl rfl (Nat.le_of_ble_eq_true rfl) d_Pair_meetY_32 (fun H locs hP hD hS => ?_)
      have hP : va_P G.1 classes [(b0, .inr (10, [.int b2, .int b3, .int b4, .int b5, .int b6, .int b1, .int b1, .int b9, .int b10, .int 0]))] H := hP
      have hD := z_tie hP hD rfl
      refine lv_aload_n hx hb d_Pair_meetY_35 rfl (lv_at hl 0 rfl) ?_
      refine lv_dup hx hb d_Pair_meetY_36 rfl ?_
      refine va_get (D := G.1) (ci := 10) (v := .int b9) (C := R_Pair) (T := F_Pair) (N := 10) hx hb hts i_Pair hown hK hP 0 rfl rfl 7 (by decide) (hts _ q372) (fun _ h9 => h9) rfl d_Pair_meetY_37 ?_
      refine lv_iconst (v := 1) hx hb d_Pair_meetY_40 (by decide) ?_
      refine lv_iadd hx hb d_Pair_meetY_41 ?_
      refine lv_topi (fun v_16 ev_16 => ?_)
      obtain rfl : v_1 = v_16 := ev_1.trans ev_16.symm
      refine va_put (D := G.1) (ci := 10) (v := .int v_1) (ty := .int) (C := R_Pair) (T := F_Pair) (N := 10) hx hb hts i_Pair t_Pair t_Pair_ok n_Pair hown hK hP hD hS 0 rfl rfl 7 (by decide) (hts _ q372) (fun _ h9 => h9) rfl (by decide +kernel) rfl rfl (Nat.le_of_ble_eq_true rfl) d_Pair_meetY_42 (fun H locs hP hD hS => ?_)
      have hP : va_P G.1 classes [(b0, .inr (10, [.int b2, .int b3, .int b4, .int b5, .int b6, .int b1, .int b1, .int v_1, .int b10, .int 0]))] H := hP
      have hD := z_tie hP hD rfl
      exact z_vret hx hb hr hlocks hP hD hS (Nat.le_of_ble_eq_true rfl) (Nat.le_of_ble_eq_true rfl) d_Pair_meetY_45 ⟨b1, v_1, 0, rfl, rfl, (zI.wk (l' := 0) (h' := 1) zc_0 (by decide))⟩
theorem d_Pair_meetX_43 : decode prog_6_method_6_code 43 = .ok (.return_, 1) := by decide +kernel
abbrev m_s6_Pair_meetX : Room := { frames := 0, cells := 0, slots := 0, locals := 0 }
set_option maxHeartbeats 4000000 in
set_option maxRecDepth 100000 in
theorem s6_Pair_meetX (l : Launch) (G : zG) (b0 : Nat) (b1 : Int32) (b2 : Int32) (b3 : Int32) (b4 : Int32) (b5 : Int32) (b6 : Int32) (b7 : Int32) (b8 : Int32) (b9 : Int32) (b10 : Int32) (b11 : Int32) (hb1 : zI b1 0 11) (hb10 : zI b10 0 1) (hb11 : zI b11 0 1) : zM l G y_Pair_meetX prog_6_method_6_code 2 (Option.none : Option Jvm.ClassFile.FieldType) m_s6_Pair_meetX [.ref b0, .int b1] [(b0, .inr (10, [.int b2, .int b3, .int b4, .int b5, .int b6, .int b7, .int b8, .int b9, .int b10, .int b11]))] (fun v w => ∃ (e0 : Int32), ∃ (e1 : Int32), ∃ (e2 : Int32), v = none ∧ w = [(b0, .inr (10, [.int b2, .int b3, .int e0, .int b1, .int e1, .int b7, .int b8, .int b9, .int b10, .int e2]))] ∧ (zI e2 0 1)) := by
  refine z_start (by decide +kernel) (Nat.le_of_ble_eq_true rfl) ?_
  intro p e s m below meth c A Z hr hnm hA hP hD hS ls hl
  have Z : zC p s m _ meth c prog_6_method_6_code 2 "TraceMachines$Pair" G := Z
  obtain ⟨hx, hb, hml, hown, hts, hK, hN, hlocks⟩ := id Z
  have hl : lv_has ls 2 [(0, .ref b0), (1, .int b1)] := hl
  refine lv_aload_n hx hb d_Pair_meetX_0 rfl (lv_at hl 0 rfl) ?_
  refine va_get (D := G.1) (ci := 10) (v := .int b6) (C := R_Pair) (T := F_Pair) (N := 10) hx hb hts i_Pair hown hK hP 0 rfl rfl 4 (by decide) (hts _ q369) (fun _ h9 => h9) rfl d_Pair_meetX_1 ?_
  refine lv_aload_n hx hb d_Pair_meetX_4 rfl (lv_at hl 0 rfl) ?_
  refine va_get (D := G.1) (ci := 10) (v := .int b9) (C := R_Pair) (T := F_Pair) (N := 10) hx hb hts i_Pair hown hK hP 0 rfl rfl 7 (by decide) (hts _ q372) (fun _ h9 => h9) rfl d_Pair_meetX_5 ?_
  refine lv_icmp_eq (tgt := 16) hx hb d_Pair_meetX_8 (by decide) (fun hc_1 => ?_) (fun hc_1 => ?_)
  · have _nhc_1 := hc_1
    have ni_2 := (fa_eq _ _).mp hc_1
    refine lv_aload_n hx hb d_Pair_meetX_16 rfl (lv_at hl 0 rfl) ?_
    refine va_get (D := G.1) (ci := 10) (v := .int b6) (C := R_Pair) (T := F_Pair) (N := 10) hx hb hts i_Pair hown hK hP 0 rfl rfl 4 (by decide) (hts _ q369) (fun _ h9 => h9) rfl d_Pair_meetX_17 ?_
    refine lv_if_ne (tgt := 28) hx hb d_Pair_meetX_20 (by decide) (fun hc_3 => ?_) (fun hc_3 => ?_)
    · have _nhc_3 := hc_3
      have ni_4 : ¬ (b6 : Int32).toInt = (0 : Int32).toInt := fun z => hc_3 ((fa_eq _ _).mpr z)
      simp only [li_0] at ni_4
      refine lv_aload_n hx hb d_Pair_meetX_28 rfl (lv_at hl 0 rfl) ?_
      refine lv_iload_n hx hb d_Pair_meetX_29 rfl (lv_at hl 1 rfl) ?_
      refine va_put (D := G.1) (ci := 10) (v := .int b1) (ty := .int) (C := R_Pair) (T := F_Pair) (N := 10) hx hb hts i_Pair t_Pair t_Pair_ok n_Pair hown hK hP hD hS 0 rfl rfl 3 (by decide) (hts _ q368) (fun _ h9 => h9) rfl (by decide +kernel) rfl rfl (Nat.le_of_ble_eq_true rfl) d_Pair_meetX_30 (fun H locs hP hD hS => ?_)
      have hP : va_P G.1 classes [(b0, .inr (10, [.int b2, .int b3, .int b4, .int b1, .int b6, .int b7, .int b8, .int b9, .int b10, .int b11]))] H := hP
      have hD := z_tie hP hD rfl
      refine lv_aload_n hx hb d_Pair_meetX_33 rfl (lv_at hl 0 rfl) ?_
      refine lv_dup hx hb d_Pair_meetX_34 rfl ?_
      refine va_get (D := G.1) (ci := 10) (v := .int b6) (C := R_Pair) (T := F_Pair) (N := 10) hx hb hts i_Pair hown hK hP 0 rfl rfl 4 (by decide) (hts _ q369) (fun _ h9 => h9) rfl d_Pair_meetX_35 ?_
      refine lv_iconst (v := 1) hx hb d_Pair_meetX_38 (by decide) ?_
      refine lv_iadd hx hb d_Pair_meetX_39 ?_
      refine lv_topi (fun v_5 ev_5 => ?_)
      refine va_put (D := G.1) (ci := 10) (v := .int v_5) (ty := .int) (C := R_Pair) (T := F_Pair) (N := 10) hx hb hts i_Pair t_Pair t_Pair_ok n_Pair hown hK hP hD hS 0 rfl rfl 4 (by decide) (hts _ q369) (fun _ h9 => h9) rfl (by decide +kernel) rfl rfl (Nat.le_of_ble_eq_true rfl) d_Pair_meetX_40 (fun H locs hP hD hS => ?_)
      have hP : va_P G.1 classes [(b0, .inr (10, [.int b2, .int b3, .int b4, .int b1, .int v_5, .int b7, .int b8, .int b9, .int b10, .int b11]))] H := hP
      have hD := z_tie hP hD rfl
      exact z_vret hx hb hr hlocks hP hD hS (Nat.le_of_ble_eq_true rfl) (Nat.le_of_ble_eq_true rfl) d_Pair_meetX_43 ⟨b4, v_5, b11, rfl, rfl, hb11⟩
    · have _nhc_3 := hc_3
      have ni_6 := (fa_eq _ _).mp hc_3
      rw [li_0] at ni_6
      have hv_7 : zI b6 0 0 := zI.eq_l (zI_all b6) zc_0 hc_3
      refine lv_aload_n hx hb d_Pair_meetX_23 rfl (lv_at hl 0 rfl) ?_
      refine lv_iload_n hx hb d_Pair_meetX_24 rfl (lv_at hl 1 rfl) ?_
      refine va_put (D := G.1) (ci := 10) (v := .int b1) (ty := .int) (C := R_Pair) (T := F_Pair) (N := 10) hx hb hts i_Pair t_Pair t_Pair_ok n_Pair hown hK hP hD hS 0 rfl rfl 2 (by decide) (hts _ q367) (fun _ h9 => h9) rfl (by decide +kernel) rfl rfl (Nat.le_of_ble_eq_true rfl) d_Pair_meetX_25 (fun H locs hP hD hS => ?_)
      have hP : va_P G.1 classes [(b0, .inr (10, [.int b2, .int b3, .int b1, .int b5, .int b6, .int b7, .int b8, .int b9, .int b10, .int b11]))] H := hP
      have hD := z_tie hP hD rfl
      refine lv_aload_n hx hb d_Pair_meetX_28 rfl (lv_at hl 0 rfl) ?_
      refine lv_iload_n hx hb d_Pair_meetX_29 rfl (lv_at hl 1 rfl) ?_
      refine va_put (D := G.1) (ci := 10) (v := .int b1) (ty := .int) (C := R_Pair) (T := F_Pair) (N := 10) hx hb hts i_Pair t_Pair t_Pair_ok n_Pair hown hK hP hD hS 0 rfl rfl 3 (by decide) (hts _ q368) (fun _ h9 => h9) rfl (by decide +kernel) rfl rfl (Nat.le_of_ble_eq_true rfl) d_Pair_meetX_30 (fun H locs hP hD hS => ?_)
      have hP : va_P G.1 classes [(b0, .inr (10, [.int b2, .int b3, .int b1, .int b1, .int b6, .int b7, .int b8, .int b9, .int b10, .int b11]))] H := hP
      have hD := z_tie hP hD rfl
      refine lv_aload_n hx hb d_Pair_meetX_33 rfl (lv_at hl 0 rfl) ?_
      refine lv_dup hx hb d_Pair_meetX_34 rfl ?_
      refine va_get (D := G.1) (ci := 10) (v := .int b6) (C := R_Pair) (T := F_Pair) (N := 10) hx hb hts i_Pair hown hK hP 0 rfl rfl 4 (by decide) (hts _ q369) (fun _ h9 => h9) rfl d_Pair_meetX_35 ?_
      refine lv_iconst (v := 1) hx hb d_Pair_meetX_38 (by decide) ?_
      refine lv_iadd hx hb d_Pair_meetX_39 ?_
      refine lv_topi (fun v_8 ev_8 => ?_)
      obtain ⟨qv_8, hv_8⟩ := zI_add (l := 1) (h := 1) hv_7 zc_1 ev_8 (by decide)
      rw [li_1] at qv_8
      refine va_put (D := G.1) (ci := 10) (v := .int v_8) (ty := .int) (C := R_Pair) (T := F_Pair) (N := 10) hx hb hts i_Pair t_Pair t_Pair_ok n_Pair hown hK hP hD hS 0 rfl rfl 4 (by decide) (hts _ q369) (fun _ h9 => h9) rfl (by decide +kernel) rfl rfl (Nat.le_of_ble_eq_true rfl) d_Pair_meetX_40 (fun H locs hP hD hS => ?_)
      have hP : va_P G.1 classes [(b0, .inr (10, [.int b2, .int b3, .int b1, .int b1, .int v_8, .int b7, .int b8, .int b9, .int b10, .int b11]))] H := hP
      have hD := z_tie hP hD rfl
      exact z_vret hx hb hr hlocks hP hD hS (Nat.le_of_ble_eq_true rfl) (Nat.le_of_ble_eq_true rfl) d_Pair_meetX_43 ⟨b1, v_8, b11, rfl, rfl, hb11⟩
  · have _nhc_1 := hc_1
    have ni_9 : ¬ (b6 : Int32).toInt = (b9 : Int32).toInt := fun z => hc_1 ((fa_eq _ _).mpr z)
    refine lv_aload_n hx hb d_Pair_meetX_11 rfl (lv_at hl 0 rfl) ?_
    refine lv_iconst (v := 0) hx hb d_Pair_meetX_12 (by decide) ?_
    refine va_put (D := G.1) (ci := 10) (v := .int 0) (ty := .boolean) (C := R_Pair) (T := F_Pair) (N := 10) hx hb hts i_Pair t_Pair t_Pair_ok n_Pair hown hK hP hD hS 0 rfl rfl 9 (by decide) (hts _ q374) (fun _ h9 => h9) rfl (by decide +kernel) rfl rfl (Nat.le_of_ble_eq_true rfl) d_Pair_meetX_13 (fun H locs hP hD hS => ?_)
    have hP : va_P G.1 classes [(b0, .inr (10, [.int b2, .int b3, .int b4, .int b5, .int b6, .int b7, .int b8, .int b9, .int b10, .int 0]))] H := hP
    have hD := z_tie hP hD rfl
    refine lv_aload_n hx hb d_Pair_meetX_16 rfl (lv_at hl 0 rfl) ?_
    refine va_get (D := G.1) (ci := 10) (v := .int b6) (C := R_Pair) (T := F_Pair) (N := 10) hx hb hts i_Pair hown hK hP 0 rfl rfl 4 (by decide) (hts _ q369) (fun _ h9 => h9) rfl d_Pair_meetX_17 ?_
    refine lv_if_ne (tgt := 28) hx hb d_Pair_meetX_20 (by decide) (fun hc_10 => ?_) (fun hc_10 => ?_)
    · have _nhc_10 := hc_10
      have ni_11 : ¬ (b6 : Int32).toInt = (0 : Int32).toInt := fun z => hc_10 ((fa_eq _ _).mpr z)
      simp only [li_0] at ni_11
      refine lv_aload_n hx hb d_Pair_meetX_28 rfl (lv_at hl 0 rfl) ?_
      refine lv_iload_n hx hb d_Pair_meetX_29 rfl (lv_at hl 1 rfl) ?_
      refine va_put (D := G.1) (ci := 10) (v := .int b1) (ty := .int) (C := R_Pair) (T := F_Pair) (N := 10) hx hb hts i_Pair t_Pair t_Pair_ok n_Pair hown hK hP hD hS 0 rfl rfl 3 (by decide) (hts _ q368) (fun _ h9 => h9) rfl (by decide +kernel) rfl rfl (Nat.le_of_ble_eq_true rfl) d_Pair_meetX_30 (fun H locs hP hD hS => ?_)
      have hP : va_P G.1 classes [(b0, .inr (10, [.int b2, .int b3, .int b4, .int b1, .int b6, .int b7, .int b8, .int b9, .int b10, .int 0]))] H := hP
      have hD := z_tie hP hD rfl
      refine lv_aload_n hx hb d_Pair_meetX_33 rfl (lv_at hl 0 rfl) ?_
      refine lv_dup hx hb d_Pair_meetX_34 rfl ?_
      refine va_get (D := G.1) (ci := 10) (v := .int b6) (C := R_Pair) (T := F_Pair) (N := 10) hx hb hts i_Pair hown hK hP 0 rfl rfl 4 (by decide) (hts _ q369) (fun _ h9 => h9) rfl d_Pair_meetX_35 ?_
      refine lv_iconst (v := 1) hx hb d_Pair_meetX_38 (by decide) ?_
      refine lv_iadd hx hb d_Pair_meetX_39 ?_
      refine lv_topi (fun v_12 ev_12 => ?_)
      refine va_put (D := G.1) (ci := 10) (v := .int v_12) (ty := .int) (C := R_Pair) (T := F_Pair) (N := 10) hx hb hts i_Pair t_Pair t_Pair_ok n_Pair hown hK hP hD hS 0 rfl rfl 4 (by decide) (hts _ q369) (fun _ h9 => h9) rfl (by decide +kernel) rfl rfl (Nat.le_of_ble_eq_true rfl) d_Pair_meetX_40 (fun H locs hP hD hS => ?_)
      have hP : va_P G.1 classes [(b0, .inr (10, [.int b2, .int b3, .int b4, .int b1, .int v_12, .int b7, .int b8, .int b9, .int b10, .int 0]))] H := hP
      have hD := z_tie hP hD rfl
      exact z_vret hx hb hr hlocks hP hD hS (Nat.le_of_ble_eq_true rfl) (Nat.le_of_ble_eq_true rfl) d_Pair_meetX_43 ⟨b4, v_12, 0, rfl, rfl, (zI.wk (l' := 0) (h' := 1) zc_0 (by decide))⟩
    · have _nhc_10 := hc_10
      have ni_13 := (fa_eq _ _).mp hc_10
      rw [li_0] at ni_13
      have hv_14 : zI b6 0 0 := zI.eq_l (zI_all b6) zc_0 hc_10
      refine lv_aload_n hx hb d_Pair_meetX_23 rfl (lv_at hl 0 rfl) ?_
      refine lv_iload_n hx hb d_Pair_meetX_24 rfl (lv_at hl 1 rfl) ?_
      refine va_put (D := G.1) (ci := 10) (v := .int b1) (ty := .int) (C := R_Pair) (T := F_Pair) (N := 10) hx hb hts i_Pair t_Pair t_Pair_ok n_Pair hown hK hP hD hS 0 rfl rfl 2 (by decide) (hts _ q367) (fun _ h9 => h9) rfl (by decide +kernel) rfl rfl (Nat.le_of_ble_eq_true rfl) d_Pair_meetX_25 (fun H locs hP hD hS => ?_)
      have hP : va_P G.1 classes [(b0, .inr (10, [.int b2, .int b3, .int b1, .int b5, .int b6, .int b7, .int b8, .int b9, .int b10, .int 0]))] H := hP
      have hD := z_tie hP hD rfl
      refine lv_aload_n hx hb d_Pair_meetX_28 rfl (lv_at hl 0 rfl) ?_
      refine lv_iload_n hx hb d_Pair_meetX_29 rfl (lv_at hl 1 rfl) ?_
      refine va_put (D := G.1) (ci := 10) (v := .int b1) (ty := .int) (C := R_Pair) (T := F_Pair) (N := 10) hx hb hts i_Pair t_Pair t_Pair_ok n_Pair hown hK hP hD hS 0 rfl rfl 3 (by decide) (hts _ q368) (fun _ h9 => h9) rfl (by decide +kernel) rfl rfl (Nat.le_of_ble_eq_true rfl) d_Pair_meetX_30 (fun H locs hP hD hS => ?_)
      have hP : va_P G.1 classes [(b0, .inr (10, [.int b2, .int b3, .int b1, .int b1, .int b6, .int b7, .int b8, .int b9, .int b10, .int 0]))] H := hP
      have hD := z_tie hP hD rfl
      refine lv_aload_n hx hb d_Pair_meetX_33 rfl (lv_at hl 0 rfl) ?_
      refine lv_dup hx hb d_Pair_meetX_34 rfl ?_
      refine va_get (D := G.1) (ci := 10) (v := .int b6) (C := R_Pair) (T := F_Pair) (N := 10) hx hb hts i_Pair hown hK hP 0 rfl rfl 4 (by decide) (hts _ q369) (fun _ h9 => h9) rfl d_Pair_meetX_35 ?_
      refine lv_iconst (v := 1) hx hb d_Pair_meetX_38 (by decide) ?_
      refine lv_iadd hx hb d_Pair_meetX_39 ?_
      refine lv_topi (fun v_15 ev_15 => ?_)
      obtain ⟨qv_15, hv_15⟩ := zI_add (l := 1) (h := 1) hv_14 zc_1 ev_15 (by decide)
      rw [li_1] at qv_15
      refine va_put (D := G.1) (ci := 10) (v := .int v_15) (ty := .int) (C := R_Pair) (T := F_Pair) (N := 10) hx hb hts i_Pair t_Pair t_Pair_ok n_Pair hown hK hP hD hS 0 rfl rfl 4 (by decide) (hts _ q369) (fun _ h9 => h9) rfl (by decide +kernel) rfl rfl (Nat.le_of_ble_eq_true rfl) d_Pair_meetX_40 (fun H locs hP hD hS => ?_)
      have hP : va_P G.1 classes [(b0, .inr (10, [.int b2, .int b3, .int b1, .int b1, .int v_15, .int b7, .int b8, .int b9, .int b10, .int 0]))] H := hP
      have hD := z_tie hP hD rfl
      exact z_vret hx hb hr hlocks hP hD hS (Nat.le_of_ble_eq_true rfl) (Nat.le_of_ble_eq_true rfl) d_Pair_meetX_43 ⟨b1, v_15, 0, rfl, rfl, (zI.wk (l' := 0) (h' := 1) zc_0 (by decide))⟩
abbrev m_s7_Pair_look : Room := { frames := 1, cells := 0, slots := 0, locals := 22 }
set_option maxHeartbeats 4000000 in
set_option maxRecDepth 100000 in
theorem s7_Pair_look (l : Launch) (G : zG) (b0 : Nat) (b1 : Nat) (b2 : Int32) (b3 : Int32) (b4 : Int32) (b5 : Int32) (b6 : Int32) (b7 : Int32) (b8 : Int32) (b9 : Int32) (b10 : Int32) (b11 : Int32) (b12 : Int32) (b13 : Int32) (b14 : Int32) (b15 : Int32) (b16 : Int32) (b17 : Int32) (b18 : Nat) (b19 : Nat) (b20 : Nat) (b21 : Nat → Int32) (b22 : Nat → Int32) (hb2 : zI b2 0 19) (hb13 : zI b13 0 1) (hb14 : zI b14 0 1) (hb15 : zI b15 0 20) (hb16 : zI b16 0 3) (hb17 : zI b17 0 20) (hb21 : zR b21 0 12) (hb22 : zR b22 0 9) : zM l G y_Pair_look prog_6_method_4_code 8 (Option.none : Option Jvm.ClassFile.FieldType) m_s7_Pair_look [.ref b0, .ref b1, .int b2, .int b3, .int b4] [(b0, .inr (10, [.int b5, .int b6, .int b7, .int b8, .int b9, .int b10, .int b11, .int b12, .int b13, .int b14])), (b1, .inr (2, [.int b15, .int b16, .int b17, .ref b18, .ref b19, .ref b20])), (b18, .inl (G.2 0, 20, .inl b21)), (b19, .inl (G.2 0, 240, .inl b22))] (fun v w => ∃ (e0 : Int32), ∃ (e1 : Int32), ∃ (e2 : Int32), ∃ (e3 : Int32), ∃ (e4 : Int32), ∃ (e5 : Int32), ∃ (e6 : Int32), ∃ (e7 : Int32), v = none ∧ w = [(b0, .inr (10, [.int b5, .int b6, .int e0, .int e1, .int e2, .int e3, .int e4, .int e5, .int e6, .int e7])), (b1, .inr (2, [.int b15, .int b16, .int b17, .ref b18, .ref b19, .ref b20])), (b18, .inl (G.2 0, 20, .inl b21)), (b19, .inl (G.2 0, 240, .inl b22))] ∧ (zI e1 (-1) 11) ∧ (zI e4 (-1) 11) ∧ (zI e6 0 1) ∧ (zI e7 0 1)) := by
  refine z_start (by decide +kernel) (Nat.le_of_ble_eq_true rfl) ?_
  intro p e s m below meth c A Z hr hnm hA hP hD hS ls hl
  have Z : zC p s m _ meth c prog_6_method_4_code 8 "TraceMachines$Pair" G := Z
  obtain ⟨hx, hb, hml, hown, hts, hK, hN, hlocks⟩ := id Z
  have hl : lv_has ls 8 [(0, .ref b0), (1, .ref b1), (2, .int b2), (3, .int b3), (4, .int b4)] := hl
  refine lv_aload_n hx hb d_Pair_look_0 rfl (lv_at hl 0 rfl) ?_
  refine z_callV (index := 37) (As := []) (rest := []) (wr := [(b1, .inr (2, [.int b15, .int b16, .int b17, .ref b18, .ref b19, .ref b20])), (b18, .inl (G.2 0, 20, .inl b21)), (b19, .inl (G.2 0, 240, .inl b22))]) Z (s2_Pair_forgetLooks l G (b0) (b5) (b6) (b7) (b8) (b9) (b10) (b11) (b12) (b13) (b14) hb13 hb14) hl.1 q927 q929 qs33 q11 q930 ⟨by decide, by decide, by show _ = some 0; decide +kernel⟩ ⟨Nat.le_of_ble_eq_true rfl, Nat.le_of_ble_eq_true rfl⟩ ⟨Nat.le_of_ble_eq_true rfl, Nat.le_of_ble_eq_true rfl⟩ rfl (Nat.le_of_ble_eq_true rfl) d_Pair_look_1 hP hD hS hA 0 10 rfl rfl rfl [0] [1, 2, 3] rfl rfl rfl rfl (by decide) (fun v w1 H locs hw_1 hP hD hS => ?_)
  obtain ⟨rfl, rfl⟩ := hw_1
  have hP : va_P G.1 classes [(b1, .inr (2, [.int b15, .int b16, .int b17, .ref b18, .ref b19, .ref b20])), (b18, .inl (G.2 0, 20, .inl b21)), (b19, .inl (G.2 0, 240, .inl b22)), (b0, .inr (10, [.int b5, .int b6, .int (-1), .int (-1), .int 0, .int (-1), .int (-1), .int 0, .int 1, .int 1]))] H := hP
  have hD := z_tie hP hD rfl
  refine W.widen (k := 0) (n := 0) (Nat.le_of_ble_eq_true rfl) (Nat.le_of_ble_eq_true rfl) ?_
  refine lv_aload_n hx hb d_Pair_look_4 rfl (lv_at hl 1 rfl) ?_
  refine va_get (D := G.1) (ci := 2) (v := .ref b18) (C := R_Traces) (T := F_Traces) (N := 6) hx hb hts i_Traces hown hK hP 0 rfl rfl 3 (by decide) (hts _ q67) (fun _ h9 => h9) rfl d_Pair_look_5 ?_
  refine lv_iload_n hx hb d_Pair_look_8 rfl (lv_at hl 2 rfl) ?_
  refine va_iald hx hb hK hP 1 0 rfl rfl (zI.inn hb2 (by decide)) d_Pair_look_9 ?_
  refine lv_topi (fun v_2 ev_2 => ?_)
  have hv_2 : zI v_2 0 12 := (hb21 _).eq ev_2
  refine lv_istore (lv' := [(5, .int v_2), (0, .ref b0), (1, .ref b1), (2, .int b2), (3, .int b3), (4, .int b4)]) hx hb d_Pair_look_10 hl (by decide) rfl (fun ls hl => ?_)
  refine lv_iconst (v := 0) hx hb d_Pair_look_12 (by decide) ?_
  refine lv_istore (lv' := [(6, .int 0), (5, .int v_2), (0, .ref b0), (1, .ref b1), (2, .int b2), (3, .int b3), (4, .int b4)]) hx hb d_Pair_look_13 hl (by decide) rfl (fun ls hl => ?_)
  suffices key : ∀ (k_304 : Nat) (y_305 : Int32) (y_306 : Int32) (y_307 : Int32) (y_308 : Int32) (y_309 : Int32) (y_310 : Int32) (y_311 : Int32) (y_312 : Int32) (y_313 : Int32) (H : Heap) (locs : List Loc) (ls : Array Slot), (zI y_305 0 12) → (zI y_307 (-1) 11) → (zI y_309 0 1) → (zI y_311 (-1) 11) → (zI y_313 0 1) → (12 : Int) - y_305.toInt < (k_304 : Int) → va_P G.1 classes [(b1, .inr (2, [.int b15, .int b16, .int b17, .ref b18, .ref b19, .ref b20])), (b18, .inl (G.2 0, 20, .inl b21)), (b19, .inl (G.2 0, 240, .inl b22)), (b0, .inr (10, [.int b5, .int b6, .int y_310, .int y_311, .int y_312, .int y_306, .int y_307, .int y_308, .int y_313, .int y_309]))] H → va_D A [(b1, .inr (2, [.int b15, .int b16, .int b17, .ref b18, .ref b19, .ref b20])), (b18, .inl (G.2 0, 20, .inl b21)), (b19, .inl (G.2 0, 240, .inl b22)), (b0, .inr (10, [.int b5, .int b6, .int y_310, .int y_311, .int y_312, .int y_306, .int y_307, .int y_308, .int y_313, .int y_309]))] → va_S A s.heap H locs → lv_has ls 8 [(6, .int y_305), (5, .int v_2), (0, .ref b0), (1, .ref b1), (2, .int b2), (3, .int b3), (4, .int b4)] → W p l e m_s7_Pair_look s m ([.ref b0, .ref b1, .int b2, .int b3, .int b4] : List Value).toArray below meth c H locs 0 0 (MQ below (zQ G (fun v w => ∃ (e0 : Int32), ∃ (e1 : Int32), ∃ (e2 : Int32), ∃ (e3 : Int32), ∃ (e4 : Int32), ∃ (e5 : Int32), ∃ (e6 : Int32), ∃ (e7 : Int32), v = none ∧ w = [(b0, .inr (10, [.int b5, .int b6, .int e0, .int e1, .int e2, .int e3, .int e4, .int e5, .int e6, .int e7])), (b1, .inr (2, [.int b15, .int b16, .int b17, .ref b18, .ref b19, .ref b20])), (b18, .inl (G.2 0, 20, .inl b21)), (b19, .inl (G.2 0, 240, .inl b22))] ∧ (zI e1 (-1) 11) ∧ (zI e4 (-1) 11) ∧ (zI e6 0 1) ∧ (zI e7 0 1)) A) ([.ref b0, .ref b1, .int b2, .int b3, .int b4] : List Value).toArray s m_s7_Pair_look.cells m_s7_Pair_look.slots A) (F0 m 15 ls []) by
    exact key 13 (0) ((-1)) ((-1)) (0) (1) ((-1)) ((-1)) (0) (1) _ _ _ (zI.wk (l' := 0) (h' := 12) zc_0 (by decide)) (zI.wk (l' := (-1)) (h' := 11) zc_m1 (by decide)) (zI.wk (l' := 0) (h' := 1) zc_1 (by decide)) (zI.wk (l' := (-1)) (h' := 11) zc_m1 (by decide)) (zI.wk (l' := 0) (h' := 1) zc_1 (by decide)) (zm_upi (zI.wk (l' := 0) (h' := 12) zc_0 (by decide)) (by decide)) hP hD hS (lv_sub hl [0, 1, 2, 3, 4, 5, 6] rfl)
  intro k_304
  induction k_304 with
  | zero =>
    intro y_305 y_306 y_307 y_308 y_309 y_310 y_311 y_312 y_313 H locs ls hy_305 hy_307 hy_309 hy_311 hy_313 hmk_304 hP hD hS hl
    exact (zm_up0 hy_305 hmk_304).elim
  | succ k_304 ihk_304 =>
    intro y_305 y_306 y_307 y_308 y_309 y_310 y_311 y_312 y_313 H locs ls hy_305 hy_307 hy_309 hy_311 hy_313 hmk_304 hP hD hS hl
    refine lv_iload hx hb d_Pair_look_15 (lv_at hl 0 rfl) ?_
    refine lv_iload hx hb d_Pair_look_17 (lv_at hl 1 rfl) ?_
    refine lv_icmp_ge (tgt := 93) hx hb d_Pair_look_19 (by decide) (fun hc_314 => ?_) (fun hc_314 => ?_)
    · have _nhc_314 := hc_314
      have ni_315 := (fa_le _ _).mp hc_314
      refine lv_aload_n hx hb d_Pair_look_93 rfl (lv_at hl 2 rfl) ?_
      refine va_get (D := G.1) (ci := 10) (v := .int y_312) (C := R_Pair) (T := F_Pair) (N := 10) hx hb hts i_Pair hown hK hP 3 rfl rfl 4 (by decide) (hts _ q369) (fun _ h9 => h9) rfl d_Pair_look_94 ?_
      refine lv_aload_n hx hb d_Pair_look_97 rfl (lv_at hl 2 rfl) ?_
      refine va_get (D := G.1) (ci := 10) (v := .int y_308) (C := R_Pair) (T := F_Pair) (N := 10) hx hb hts i_Pair hown hK hP 3 rfl rfl 7 (by decide) (hts _ q372) (fun _ h9 => h9) rfl d_Pair_look_98 ?_
      refine lv_icmp_eq (tgt := 109) hx hb d_Pair_look_101 (by decide) (fun hc_316 => ?_) (fun hc_316 => ?_)
      · have _nhc_316 := hc_316
        have ni_317 := (fa_eq _ _).mp hc_316
        exact z_vret hx hb hr hlocks (hP.sub [3, 0, 1, 2] rfl) (hD.sub [3, 0, 1, 2] (by decide) rfl) hS (Nat.le_of_ble_eq_true rfl) (Nat.le_of_ble_eq_true rfl) d_Pair_look_109 ⟨y_310, y_311, y_312, y_306, y_307, y_308, y_313, y_309, rfl, rfl, hy_311, hy_307, hy_313, hy_309⟩
      · have _nhc_316 := hc_316
        have ni_318 : ¬ (y_312 : Int32).toInt = (y_308 : Int32).toInt := fun z => hc_316 ((fa_eq _ _).mpr z)
        refine lv_aload_n hx hb d_Pair_look_104 rfl (lv_at hl 2 rfl) ?_
        refine lv_iconst (v := 0) hx hb d_Pair_look_105 (by decide) ?_
        refine va_put (D := G.1) (ci := 10) (v := .int 0) (ty := .boolean) (C := R_Pair) (T := F_Pair) (N := 10) hx hb hts i_Pair t_Pair t_Pair_ok n_Pair hown hK hP hD hS 3 rfl rfl 9 (by decide) (hts _ q374) (fun _ h9 => h9) rfl (by decide +kernel) rfl rfl (Nat.le_of_ble_eq_true rfl) d_Pair_look_106 (fun H locs hP hD hS => ?_)
        have hP : va_P G.1 classes [(b1, .inr (2, [.int b15, .int b16, .int b17, .ref b18, .ref b19, .ref b20])), (b18, .inl (G.2 0, 20, .inl b21)), (b19, .inl (G.2 0, 240, .inl b22)), (b0, .inr (10, [.int b5, .int b6, .int y_310, .int y_311, .int y_312, .int y_306, .int y_307, .int y_308, .int y_313, .int 0]))] H := hP
        have hD := z_tie hP hD rfl
        exact z_vret hx hb hr hlocks (hP.sub [3, 0, 1, 2] rfl) (hD.sub [3, 0, 1, 2] (by decide) rfl) hS (Nat.le_of_ble_eq_true rfl) (Nat.le_of_ble_eq_true rfl) d_Pair_look_109 ⟨y_310, y_311, y_312, y_306, y_307, y_308, y_313, 0, rfl, rfl, hy_311, hy_307, hy_313, (zI.wk (l' := 0) (h' := 1) zc_0 (by decide))⟩
    · have _nhc_314 := hc_314
      have ni_319 := (fa_lt _ _).mp (zi_nle hc_314)
      have hv_320 : zI y_305 0 11 := zI.lt_l hy_305 hv_2 (zi_nle hc_314) (by decide)
      have hv_321 : zI v_2 1 12 := zI.lt_r hy_305 hv_2 (zi_nle hc_314) (by decide)
      refine lv_aload_n hx hb d_Pair_look_22 rfl (lv_at hl 3 rfl) ?_
      refine lv_iload_n hx hb d_Pair_look_23 rfl (lv_at hl 4 rfl) ?_
      refine lv_iload hx hb d_Pair_look_24 (lv_at hl 0 rfl) ?_
      refine z_callV (index := 44) (As := [.int b2, .int y_305]) (rest := []) (wr := [(b18, .inl (G.2 0, 20, .inl b21)), (b0, .inr (10, [.int b5, .int b6, .int y_310, .int y_311, .int y_312, .int y_306, .int y_307, .int y_308, .int y_313, .int y_309]))]) Z (s1_Traces_letterAt l G (b1) (b2) (y_305) (b15) (b16) (b17) (b18) (b19) (b20) (b22) hb2 hv_320 hb15 hb16 hb17 hb22) hl.1 q931 q580 q581 q3 q582 ⟨by decide, by decide, by show _ = some 2; decide +kernel⟩ ⟨Nat.le_of_ble_eq_true rfl, Nat.le_of_ble_eq_true rfl⟩ ⟨Nat.le_of_ble_eq_true rfl, Nat.le_of_ble_eq_true rfl⟩ rfl (Nat.le_of_ble_eq_true rfl) d_Pair_look_26 hP hD hS hA 0 2 rfl rfl rfl [0, 2] [1, 3] rfl rfl rfl rfl (by decide) (fun v w1 H locs hw_322 hP hD hS => ?_)
      obtain ⟨x_323, rfl, rfl, hx_323⟩ := hw_322
      have hP : va_P G.1 classes [(b18, .inl (G.2 0, 20, .inl b21)), (b0, .inr (10, [.int b5, .int b6, .int y_310, .int y_311, .int y_312, .int y_306, .int y_307, .int y_308, .int y_313, .int y_309])), (b1, .inr (2, [.int b15, .int b16, .int b17, .ref b18, .ref b19, .ref b20])), (b19, .inl (G.2 0, 240, .inl b22))] H := hP
      have hD := z_tie hP hD rfl
      refine W.widen (k := 0) (n := 0) (Nat.le_of_ble_eq_true rfl) (Nat.le_of_ble_eq_true rfl) ?_
      refine lv_istore (lv' := [(7, .int x_323), (6, .int y_305), (5, .int v_2), (0, .ref b0), (1, .ref b1), (2, .int b2), (3, .int b3), (4, .int b4)]) hx hb d_Pair_look_29 hl (by decide) rfl (fun ls hl => ?_)
      refine lv_iload hx hb d_Pair_look_31 (lv_at hl 0 rfl) ?_
      refine lv_iload_n hx hb d_Pair_look_33 rfl (lv_at hl 6 rfl) ?_
      refine lv_icmp_ne (tgt := 74) hx hb d_Pair_look_34 (by decide) (fun hc_324 => ?_) (fun hc_324 => ?_)
      · have _nhc_324 := hc_324
        have ni_325 : ¬ (x_323 : Int32).toInt = (b3 : Int32).toInt := fun z => hc_324 ((fa_eq _ _).mpr z)
        refine lv_iload hx hb d_Pair_look_74 (lv_at hl 0 rfl) ?_
        refine lv_iload hx hb d_Pair_look_76 (lv_at hl 7 rfl) ?_
        refine lv_icmp_ne (tgt := 87) hx hb d_Pair_look_78 (by decide) (fun hc_326 => ?_) (fun hc_326 => ?_)
        · have _nhc_326 := hc_326
          have ni_327 : ¬ (x_323 : Int32).toInt = (b4 : Int32).toInt := fun z => hc_326 ((fa_eq _ _).mpr z)
          obtain ⟨v_328, ev_328⟩ : ∃ z : Int32, z = y_305 + 1 := ⟨_, rfl⟩
          obtain ⟨qv_328, hv_328⟩ := zI_add (l := 1) (h := 12) hv_320 zc_1 ev_328 (by decide)
          rw [li_1] at qv_328
          refine lv_iinc (v := v_328) (lv' := [(6, .int v_328), (7, .int x_323), (5, .int v_2), (0, .ref b0), (1, .ref b1), (2, .int b2), (3, .int b3), (4, .int b4)]) hx hb d_Pair_look_87 hl (k := 1) rfl (by rw [ev_328]; rfl) (by decide) rfl (fun ls hl => ?_)
          refine lv_goto (tgt := 15) hx hb d_Pair_look_90 (by decide) ?_
          exact ihk_304 (v_328) (y_306) (y_307) (y_308) (y_309) (y_310) (y_311) (y_312) (y_313) _ _ _ (zI.wk (l' := 0) (h' := 12) hv_328 (by decide)) hy_307 hy_309 hy_311 hy_313 (zm_up qv_328 hmk_304 (by decide)) (hP.sub [2, 0, 3, 1] rfl) (hD.sub [2, 0, 3, 1] (by decide) rfl) hS (lv_sub hl [0, 2, 3, 4, 5, 6, 7] rfl)
        · have _nhc_326 := hc_326
          have ni_329 := (fa_eq _ _).mp hc_326
          have hv_330 : zI b4 0 9 := zI.eq_l (zI_all b4) hx_323 hc_326.symm
          refine lv_aload_n hx hb d_Pair_look_81 rfl (lv_at hl 3 rfl) ?_
          refine lv_iload hx hb d_Pair_look_82 (lv_at hl 1 rfl) ?_
          refine z_callV (index := 56) (As := [.int y_305]) (rest := []) (wr := [(b18, .inl (G.2 0, 20, .inl b21)), (b1, .inr (2, [.int b15, .int b16, .int b17, .ref b18, .ref b19, .ref b20])), (b19, .inl (G.2 0, 240, .inl b22))]) Z (s6_Pair_meetY l G (b0) (y_305) (b5) (b6) (y_310) (y_311) (y_312) (y_306) (y_307) (y_308) (y_313) (y_309) hv_320 hy_313 hy_309) hl.1 q936 q938 qs35 q11 q939 ⟨by decide, by decide, by show _ = some 1; decide +kernel⟩ ⟨Nat.le_of_ble_eq_true rfl, Nat.le_of_ble_eq_true rfl⟩ ⟨Nat.le_of_ble_eq_true rfl, Nat.le_of_ble_eq_true rfl⟩ rfl (Nat.le_of_ble_eq_true rfl) d_Pair_look_84 hP hD hS hA 1 10 rfl rfl rfl [1] [0, 2, 3] rfl rfl rfl rfl (by decide) (fun v w1 H locs hw_331 hP hD hS => ?_)
          obtain ⟨x_332, x_333, x_334, rfl, rfl, hx_334⟩ := hw_331
          have hP : va_P G.1 classes [(b18, .inl (G.2 0, 20, .inl b21)), (b1, .inr (2, [.int b15, .int b16, .int b17, .ref b18, .ref b19, .ref b20])), (b19, .inl (G.2 0, 240, .inl b22)), (b0, .inr (10, [.int b5, .int b6, .int y_310, .int y_311, .int y_312, .int x_332, .int y_305, .int x_333, .int y_313, .int x_334]))] H := hP
          have hD := z_tie hP hD rfl
          refine W.widen (k := 0) (n := 0) (Nat.le_of_ble_eq_true rfl) (Nat.le_of_ble_eq_true rfl) ?_
          obtain ⟨v_335, ev_335⟩ : ∃ z : Int32, z = y_305 + 1 := ⟨_, rfl⟩
          obtain ⟨qv_335, hv_335⟩ := zI_add (l := 1) (h := 12) hv_320 zc_1 ev_335 (by decide)
          rw [li_1] at qv_335
          refine lv_iinc (v := v_335) (lv' := [(6, .int v_335), (7, .int x_323), (5, .int v_2), (0, .ref b0), (1, .ref b1), (2, .int b2), (3, .int b3), (4, .int b4)]) hx hb d_Pair_look_87 hl (k := 1) rfl (by rw [ev_335]; rfl) (by decide) rfl (fun ls hl => ?_)
          refine lv_goto (tgt := 15) hx hb d_Pair_look_90 (by decide) ?_
          exact ihk_304 (v_335) (x_332) (y_305) (x_333) (x_334) (y_310) (y_311) (y_312) (y_313) _ _ _ (zI.wk (l' := 0) (h' := 12) hv_335 (by decide)) (zI.wk (l' := (-1)) (h' := 11) hv_320 (by decide)) hx_334 hy_311 hy_313 (zm_up qv_335 hmk_304 (by decide)) (hP.sub [1, 0, 2, 3] rfl) (hD.sub [1, 0, 2, 3] (by decide) rfl) hS (lv_sub hl [0, 2, 3, 4, 5, 6, 7] rfl)
      · have _nhc_324 := hc_324
        have ni_336 := (fa_eq _ _).mp hc_324
        have hv_337 : zI b3 0 9 := zI.eq_l (zI_all b3) hx_323 hc_324.symm
        refine lv_aload_n hx hb d_Pair_look_37 rfl (lv_at hl 3 rfl) ?_
        refine lv_iload hx hb d_Pair_look_38 (lv_at hl 1 rfl) ?_
        refine z_callV (index := 48) (As := [.int y_305]) (rest := []) (wr := [(b18, .inl (G.2 0, 20, .inl b21)), (b1, .inr (2, [.int b15, .int b16, .int b17, .ref b18, .ref b19, .ref b20])), (b19, .inl (G.2 0, 240, .inl b22))]) Z (s6_Pair_meetX l G (b0) (y_305) (b5) (b6) (y_310) (y_311) (y_312) (y_306) (y_307) (y_308) (y_313) (y_309) hv_320 hy_313 hy_309) hl.1 q932 q934 qs34 q11 q935 ⟨by decide, by decide, by show _ = some 1; decide +kernel⟩ ⟨Nat.le_of_ble_eq_true rfl, Nat.le_of_ble_eq_true rfl⟩ ⟨Nat.le_of_ble_eq_true rfl, Nat.le_of_ble_eq_true rfl⟩ rfl (Nat.le_of_ble_eq_true rfl) d_Pair_look_40 hP hD hS hA 1 10 rfl rfl rfl [1] [0, 2, 3] rfl rfl rfl rfl (by decide) (fun v w1 H locs hw_338 hP hD hS => ?_)
        obtain ⟨x_339, x_340, x_341, rfl, rfl, hx_341⟩ := hw_338
        have hP : va_P G.1 classes [(b18, .inl (G.2 0, 20, .inl b21)), (b1, .inr (2, [.int b15, .int b16, .int b17, .ref b18, .ref b19, .ref b20])), (b19, .inl (G.2 0, 240, .inl b22)), (b0, .inr (10, [.int b5, .int b6, .int x_339, .int y_305, .int x_340, .int y_306, .int y_307, .int y_308, .int y_313, .int x_341]))] H := hP
        have hD := z_tie hP hD rfl
        refine W.widen (k := 0) (n := 0) (Nat.le_of_ble_eq_true rfl) (Nat.le_of_ble_eq_true rfl) ?_
        refine lv_iload hx hb d_Pair_look_43 (lv_at hl 1 rfl) ?_
        refine lv_iconst (v := 1) hx hb d_Pair_look_45 (by decide) ?_
        refine lv_iadd hx hb d_Pair_look_46 ?_
        refine lv_topi (fun v_342 ev_342 => ?_)
        obtain ⟨qv_342, hv_342⟩ := zI_add (l := 1) (h := 12) hv_320 zc_1 ev_342 (by decide)
        rw [li_1] at qv_342
        refine lv_iload hx hb d_Pair_look_47 (lv_at hl 2 rfl) ?_
        refine lv_icmp_ge (tgt := 66) hx hb d_Pair_look_49 (by decide) (fun hc_343 => ?_) (fun hc_343 => ?_)
        · have _nhc_343 := hc_343
          have ni_344 := (fa_le _ _).mp hc_343
          refine lv_aload_n hx hb d_Pair_look_66 rfl (lv_at hl 3 rfl) ?_
          refine lv_iconst (v := 0) hx hb d_Pair_look_67 (by decide) ?_
          refine va_put (D := G.1) (ci := 10) (v := .int 0) (ty := .boolean) (C := R_Pair) (T := F_Pair) (N := 10) hx hb hts i_Pair t_Pair t_Pair_ok n_Pair hown hK hP hD hS 3 rfl rfl 8 (by decide) (hts _ q373) (fun _ h9 => h9) rfl (by decide +kernel) rfl rfl (Nat.le_of_ble_eq_true rfl) d_Pair_look_68 (fun H locs hP hD hS => ?_)
          have hP : va_P G.1 classes [(b18, .inl (G.2 0, 20, .inl b21)), (b1, .inr (2, [.int b15, .int b16, .int b17, .ref b18, .ref b19, .ref b20])), (b19, .inl (G.2 0, 240, .inl b22)), (b0, .inr (10, [.int b5, .int b6, .int x_339, .int y_305, .int x_340, .int y_306, .int y_307, .int y_308, .int 0, .int x_341]))] H := hP
          have hD := z_tie hP hD rfl
          refine lv_goto (tgt := 87) hx hb d_Pair_look_71 (by decide) ?_
          obtain ⟨v_345, ev_345⟩ : ∃ z : Int32, z = y_305 + 1 := ⟨_, rfl⟩
          obtain ⟨qv_345, hv_345⟩ := zI_add (l := 1) (h := 12) hv_320 zc_1 ev_345 (by decide)
          rw [li_1] at qv_345
          refine lv_iinc (v := v_345) (lv' := [(6, .int v_345), (7, .int x_323), (5, .int v_2), (0, .ref b0), (1, .ref b1), (2, .int b2), (3, .int b3), (4, .int b4)]) hx hb d_Pair_look_87 hl (k := 1) rfl (by rw [ev_345]; rfl) (by decide) rfl (fun ls hl => ?_)
          refine lv_goto (tgt := 15) hx hb d_Pair_look_90 (by decide) ?_
          exact ihk_304 (v_345) (y_306) (y_307) (y_308) (x_341) (x_339) (y_305) (x_340) (0) _ _ _ (zI.wk (l' := 0) (h' := 12) hv_345 (by decide)) hy_307 hx_341 (zI.wk (l' := (-1)) (h' := 11) hv_320 (by decide)) (zI.wk (l' := 0) (h' := 1) zc_0 (by decide)) (zm_up qv_345 hmk_304 (by decide)) (hP.sub [1, 0, 2, 3] rfl) (hD.sub [1, 0, 2, 3] (by decide) rfl) hS (lv_sub hl [0, 2, 3, 4, 5, 6, 7] rfl)
        · have _nhc_343 := hc_343
          have ni_346 := (fa_lt _ _).mp (zi_nle hc_343)
          have hv_347 : zI v_342 1 11 := zI.lt_l hv_342 hv_321 (zi_nle hc_343) (by decide)
          have hv_348 : zI y_305 0 10 := by have _a := hv_347; have _b := qv_342; have _c := zc_1; have _d := hv_320; exact ⟨by omega, by omega⟩
          have hv_349 : zI v_2 2 12 := zI.lt_r hv_342 hv_321 (zi_nle hc_343) (by decide)
          refine lv_aload_n hx hb d_Pair_look_52 rfl (lv_at hl 4 rfl) ?_
          refine lv_iload_n hx hb d_Pair_look_53 rfl (lv_at hl 5 rfl) ?_
          refine lv_iload hx hb d_Pair_look_54 (lv_at hl 1 rfl) ?_
          refine lv_iconst (v := 1) hx hb d_Pair_look_56 (by decide) ?_
          refine lv_iadd hx hb d_Pair_look_57 ?_
          refine lv_topi (fun v_350 ev_350 => ?_)
          obtain rfl : v_342 = v_350 := ev_342.trans ev_350.symm
          refine z_callV (index := 44) (As := [.int b2, .int v_342]) (rest := []) (wr := [(b18, .inl (G.2 0, 20, .inl b21)), (b0, .inr (10, [.int b5, .int b6, .int x_339, .int y_305, .int x_340, .int y_306, .int y_307, .int y_308, .int y_313, .int x_341]))]) Z (s1_Traces_letterAt l G (b1) (b2) (v_342) (b15) (b16) (b17) (b18) (b19) (b20) (b22) hb2 (zI.wk (l' := 0) (h' := 11) hv_347 (by decide)) hb15 hb16 hb17 hb22) hl.1 q931 q580 q581 q3 q582 ⟨by decide, by decide, by show _ = some 2; decide +kernel⟩ ⟨Nat.le_of_ble_eq_true rfl, Nat.le_of_ble_eq_true rfl⟩ ⟨Nat.le_of_ble_eq_true rfl, Nat.le_of_ble_eq_true rfl⟩ rfl (Nat.le_of_ble_eq_true rfl) d_Pair_look_58 hP hD hS hA 1 2 rfl rfl rfl [1, 2] [0, 3] rfl rfl rfl rfl (by decide) (fun v w1 H locs hw_351 hP hD hS => ?_)
          obtain ⟨x_352, rfl, rfl, hx_352⟩ := hw_351
          have hP : va_P G.1 classes [(b18, .inl (G.2 0, 20, .inl b21)), (b0, .inr (10, [.int b5, .int b6, .int x_339, .int y_305, .int x_340, .int y_306, .int y_307, .int y_308, .int y_313, .int x_341])), (b1, .inr (2, [.int b15, .int b16, .int b17, .ref b18, .ref b19, .ref b20])), (b19, .inl (G.2 0, 240, .inl b22))] H := hP
          have hD := z_tie hP hD rfl
          refine W.widen (k := 0) (n := 0) (Nat.le_of_ble_eq_true rfl) (Nat.le_of_ble_eq_true rfl) ?_
          refine lv_iload hx hb d_Pair_look_61 (lv_at hl 7 rfl) ?_
          refine lv_icmp_eq (tgt := 87) hx hb d_Pair_look_63 (by decide) (fun hc_353 => ?_) (fun hc_353 => ?_)
          · have _nhc_353 := hc_353
            have ni_354 := (fa_eq _ _).mp hc_353
            have hv_355 : zI b4 0 9 := zI.eq_l (zI_all b4) hx_352 hc_353.symm
            obtain ⟨v_356, ev_356⟩ : ∃ z : Int32, z = y_305 + 1 := ⟨_, rfl⟩
            obtain ⟨qv_356, hv_356⟩ := zI_add (l := 1) (h := 11) hv_348 zc_1 ev_356 (by decide)
            rw [li_1] at qv_356
            refine lv_iinc (v := v_356) (lv' := [(6, .int v_356), (7, .int x_323), (5, .int v_2), (0, .ref b0), (1, .ref b1), (2, .int b2), (3, .int b3), (4, .int b4)]) hx hb d_Pair_look_87 hl (k := 1) rfl (by rw [ev_356]; rfl) (by decide) rfl (fun ls hl => ?_)
            refine lv_goto (tgt := 15) hx hb d_Pair_look_90 (by decide) ?_
            exact ihk_304 (v_356) (y_306) (y_307) (y_308) (x_341) (x_339) (y_305) (x_340) (y_313) _ _ _ (zI.wk (l' := 0) (h' := 12) hv_356 (by decide)) hy_307 hx_341 (zI.wk (l' := (-1)) (h' := 11) hv_348 (by decide)) hy_313 (zm_up qv_356 hmk_304 (by decide)) (hP.sub [2, 0, 3, 1] rfl) (hD.sub [2, 0, 3, 1] (by decide) rfl) hS (lv_sub hl [0, 2, 3, 4, 5, 6, 7] rfl)
          · have _nhc_353 := hc_353
            have ni_357 : ¬ (x_352 : Int32).toInt = (b4 : Int32).toInt := fun z => hc_353 ((fa_eq _ _).mpr z)
            refine lv_aload_n hx hb d_Pair_look_66 rfl (lv_at hl 3 rfl) ?_
            refine lv_iconst (v := 0) hx hb d_Pair_look_67 (by decide) ?_
            refine va_put (D := G.1) (ci := 10) (v := .int 0) (ty := .boolean) (C := R_Pair) (T := F_Pair) (N := 10) hx hb hts i_Pair t_Pair t_Pair_ok n_Pair hown hK hP hD hS 1 rfl rfl 8 (by decide) (hts _ q373) (fun _ h9 => h9) rfl (by decide +kernel) rfl rfl (Nat.le_of_ble_eq_true rfl) d_Pair_look_68 (fun H locs hP hD hS => ?_)
            have hP : va_P G.1 classes [(b18, .inl (G.2 0, 20, .inl b21)), (b0, .inr (10, [.int b5, .int b6, .int x_339, .int y_305, .int x_340, .int y_306, .int y_307, .int y_308, .int 0, .int x_341])), (b1, .inr (2, [.int b15, .int b16, .int b17, .ref b18, .ref b19, .ref b20])), (b19, .inl (G.2 0, 240, .inl b22))] H := hP
            have hD := z_tie hP hD rfl
            refine lv_goto (tgt := 87) hx hb d_Pair_look_71 (by decide) ?_
            obtain ⟨v_358, ev_358⟩ : ∃ z : Int32, z = y_305 + 1 := ⟨_, rfl⟩
            obtain ⟨qv_358, hv_358⟩ := zI_add (l := 1) (h := 11) hv_348 zc_1 ev_358 (by decide)
            rw [li_1] at qv_358
            refine lv_iinc (v := v_358) (lv' := [(6, .int v_358), (7, .int x_323), (5, .int v_2), (0, .ref b0), (1, .ref b1), (2, .int b2), (3, .int b3), (4, .int b4)]) hx hb d_Pair_look_87 hl (k := 1) rfl (by rw [ev_358]; rfl) (by decide) rfl (fun ls hl => ?_)
            refine lv_goto (tgt := 15) hx hb d_Pair_look_90 (by decide) ?_
            exact ihk_304 (v_358) (y_306) (y_307) (y_308) (x_341) (x_339) (y_305) (x_340) (0) _ _ _ (zI.wk (l' := 0) (h' := 12) hv_358 (by decide)) hy_307 hx_341 (zI.wk (l' := (-1)) (h' := 11) hv_348 (by decide)) (zI.wk (l' := 0) (h' := 1) zc_0 (by decide)) (zm_up qv_358 hmk_304 (by decide)) (hP.sub [2, 0, 3, 1] rfl) (hD.sub [2, 0, 3, 1] (by decide) rfl) hS (lv_sub hl [0, 2, 3, 4, 5, 6, 7] rfl)
theorem d_Pair_isAsked_44 : decode prog_6_method_8_code 44 = .ok (.ireturn, 1) := by decide +kernel
theorem d_Pair_isAsked_57 : decode prog_6_method_8_code 57 = .ok (.ireturn, 1) := by decide +kernel
theorem d_Pair_isAsked_77 : decode prog_6_method_8_code 77 = .ok (.ireturn, 1) := by decide +kernel
abbrev m_s2_Pair_isAsked : Room := { frames := 0, cells := 0, slots := 0, locals := 0 }
set_option maxHeartbeats 4000000 in
set_option maxRecDepth 100000 in
theorem s2_Pair_isAsked (l : Launch) (G : zG) (b0 : Nat) (b1 : Int32) (b2 : Int32) (b3 : Int32) (b4 : Int32) (b5 : Int32) (b6 : Int32) (b7 : Int32) (b8 : Int32) (b9 : Int32) (b10 : Int32) (b11 : Int32) (hb10 : zI b10 0 1) (hb11 : zI b11 0 1) : zM l G y_Pair_isAsked prog_6_method_8_code 2 (Option.some Jvm.ClassFile.FieldType.boolean) m_s2_Pair_isAsked [.ref b0, .int b1] [(b0, .inr (10, [.int b2, .int b3, .int b4, .int b5, .int b6, .int b7, .int b8, .int b9, .int b10, .int b11]))] (fun v w => ∃ (e0 : Int32), v = some (.int e0) ∧ w = [(b0, .inr (10, [.int b2, .int b3, .int b4, .int b5, .int b6, .int b7, .int b8, .int b9, .int b10, .int b11]))] ∧ (zI e0 0 1)) := by
  refine z_start (by decide +kernel) (Nat.le_of_ble_eq_true rfl) ?_
  intro p e s m below meth c A Z hr hnm hA hP hD hS ls hl
  have Z : zC p s m _ meth c prog_6_method_8_code 2 "TraceMachines$Pair" G := Z
  obtain ⟨hx, hb, hml, hown, hts, hK, hN, hlocks⟩ := id Z
  have hl : lv_has ls 2 [(0, .ref b0), (1, .int b1)] := hl
  refine lv_iload_n hx hb d_Pair_isAsked_0 rfl (lv_at hl 1 rfl) ?_
  by_cases hs_1 : b1 = 0
  · subst hs_1
    refine lv_tableIn (off := 31) (tgt := 32) hx hb d_Pair_isAsked_1 (by decide +kernel) (by decide +kernel) rfl (by decide) ?_
    refine lv_aload_n hx hb d_Pair_isAsked_32 rfl (lv_at hl 0 rfl) ?_
    refine va_get (D := G.1) (ci := 10) (v := .int b6) (C := R_Pair) (T := F_Pair) (N := 10) hx hb hts i_Pair hown hK hP 0 rfl rfl 4 (by decide) (hts _ q369) (fun _ h9 => h9) rfl d_Pair_isAsked_33 ?_
    refine lv_if_le (tgt := 43) hx hb d_Pair_isAsked_36 (by decide) (fun hc_2 => ?_) (fun hc_2 => ?_)
    · have _nhc_2 := hc_2
      have ni_3 := (fa_le _ _).mp hc_2
      rw [li_0] at ni_3
      have hv_4 : zI b6 (-2147483648) 0 := zI.le_l (zI_all b6) zc_0 hc_2 (by decide)
      refine lv_iconst (v := 0) hx hb d_Pair_isAsked_43 (by decide) ?_
      exact z_zret hx hb hr hlocks rfl hP hD hS (Nat.le_of_ble_eq_true rfl) (Nat.le_of_ble_eq_true rfl) d_Pair_isAsked_44 ⟨0, rfl, rfl, (zI.wk (l' := 0) (h' := 1) zc_0 (by decide))⟩
    · have _nhc_2 := hc_2
      have ni_5 := (fa_lt _ _).mp (zi_nle hc_2)
      rw [li_0] at ni_5
      have hv_6 : zI b6 1 2147483647 := zI.lt_r zc_0 (zI_all b6) (zi_nle hc_2) (by decide)
      refine lv_iconst (v := 1) hx hb d_Pair_isAsked_39 (by decide) ?_
      refine lv_goto (tgt := 44) hx hb d_Pair_isAsked_40 (by decide) ?_
      exact z_zret hx hb hr hlocks rfl hP hD hS (Nat.le_of_ble_eq_true rfl) (Nat.le_of_ble_eq_true rfl) d_Pair_isAsked_44 ⟨1, rfl, rfl, (zI.wk (l' := 0) (h' := 1) zc_1 (by decide))⟩
  simp only [fa_lt, fa_le, fa_eq, Int32.toInt_toInt64, li_0] at hs_1
  by_cases hs_7 : b1 = 1
  · subst hs_7
    refine lv_tableIn (off := 44) (tgt := 45) hx hb d_Pair_isAsked_1 (by decide +kernel) (by decide +kernel) rfl (by decide) ?_
    refine lv_aload_n hx hb d_Pair_isAsked_45 rfl (lv_at hl 0 rfl) ?_
    refine va_get (D := G.1) (ci := 10) (v := .int b9) (C := R_Pair) (T := F_Pair) (N := 10) hx hb hts i_Pair hown hK hP 0 rfl rfl 7 (by decide) (hts _ q372) (fun _ h9 => h9) rfl d_Pair_isAsked_46 ?_
    refine lv_if_le (tgt := 56) hx hb d_Pair_isAsked_49 (by decide) (fun hc_8 => ?_) (fun hc_8 => ?_)
    · have _nhc_8 := hc_8
      have ni_9 := (fa_le _ _).mp hc_8
      rw [li_0] at ni_9
      have hv_10 : zI b9 (-2147483648) 0 := zI.le_l (zI_all b9) zc_0 hc_8 (by decide)
      refine lv_iconst (v := 0) hx hb d_Pair_isAsked_56 (by decide) ?_
      exact z_zret hx hb hr hlocks rfl hP hD hS (Nat.le_of_ble_eq_true rfl) (Nat.le_of_ble_eq_true rfl) d_Pair_isAsked_57 ⟨0, rfl, rfl, (zI.wk (l' := 0) (h' := 1) zc_0 (by decide))⟩
    · have _nhc_8 := hc_8
      have ni_11 := (fa_lt _ _).mp (zi_nle hc_8)
      rw [li_0] at ni_11
      have hv_12 : zI b9 1 2147483647 := zI.lt_r zc_0 (zI_all b9) (zi_nle hc_8) (by decide)
      refine lv_iconst (v := 1) hx hb d_Pair_isAsked_52 (by decide) ?_
      refine lv_goto (tgt := 57) hx hb d_Pair_isAsked_53 (by decide) ?_
      exact z_zret hx hb hr hlocks rfl hP hD hS (Nat.le_of_ble_eq_true rfl) (Nat.le_of_ble_eq_true rfl) d_Pair_isAsked_57 ⟨1, rfl, rfl, (zI.wk (l' := 0) (h' := 1) zc_1 (by decide))⟩
  simp only [fa_lt, fa_le, fa_eq, Int32.toInt_toInt64, li_1] at hs_7
  by_cases hs_13 : b1 = 2
  · subst hs_13
    refine lv_tableIn (off := 31) (tgt := 32) hx hb d_Pair_isAsked_1 (by decide +kernel) (by decide +kernel) rfl (by decide) ?_
    refine lv_aload_n hx hb d_Pair_isAsked_32 rfl (lv_at hl 0 rfl) ?_
    refine va_get (D := G.1) (ci := 10) (v := .int b6) (C := R_Pair) (T := F_Pair) (N := 10) hx hb hts i_Pair hown hK hP 0 rfl rfl 4 (by decide) (hts _ q369) (fun _ h9 => h9) rfl d_Pair_isAsked_33 ?_
    refine lv_if_le (tgt := 43) hx hb d_Pair_isAsked_36 (by decide) (fun hc_14 => ?_) (fun hc_14 => ?_)
    · have _nhc_14 := hc_14
      have ni_15 := (fa_le _ _).mp hc_14
      rw [li_0] at ni_15
      have hv_16 : zI b6 (-2147483648) 0 := zI.le_l (zI_all b6) zc_0 hc_14 (by decide)
      refine lv_iconst (v := 0) hx hb d_Pair_isAsked_43 (by decide) ?_
      exact z_zret hx hb hr hlocks rfl hP hD hS (Nat.le_of_ble_eq_true rfl) (Nat.le_of_ble_eq_true rfl) d_Pair_isAsked_44 ⟨0, rfl, rfl, (zI.wk (l' := 0) (h' := 1) zc_0 (by decide))⟩
    · have _nhc_14 := hc_14
      have ni_17 := (fa_lt _ _).mp (zi_nle hc_14)
      rw [li_0] at ni_17
      have hv_18 : zI b6 1 2147483647 := zI.lt_r zc_0 (zI_all b6) (zi_nle hc_14) (by decide)
      refine lv_iconst (v := 1) hx hb d_Pair_isAsked_39 (by decide) ?_
      refine lv_goto (tgt := 44) hx hb d_Pair_isAsked_40 (by decide) ?_
      exact z_zret hx hb hr hlocks rfl hP hD hS (Nat.le_of_ble_eq_true rfl) (Nat.le_of_ble_eq_true rfl) d_Pair_isAsked_44 ⟨1, rfl, rfl, (zI.wk (l' := 0) (h' := 1) zc_1 (by decide))⟩
  simp only [fa_lt, fa_le, fa_eq, Int32.toInt_toInt64, li_2] at hs_13
  by_cases hs_19 : b1 = 3
  · subst hs_19
    refine lv_tableIn (off := 31) (tgt := 32) hx hb d_Pair_isAsked_1 (by decide +kernel) (by decide +kernel) rfl (by decide) ?_
    refine lv_aload_n hx hb d_Pair_isAsked_32 rfl (lv_at hl 0 rfl) ?_
    refine va_get (D := G.1) (ci := 10) (v := .int b6) (C := R_Pair) (T := F_Pair) (N := 10) hx hb hts i_Pair hown hK hP 0 rfl rfl 4 (by decide) (hts _ q369) (fun _ h9 => h9) rfl d_Pair_isAsked_33 ?_
    refine lv_if_le (tgt := 43) hx hb d_Pair_isAsked_36 (by decide) (fun hc_20 => ?_) (fun hc_20 => ?_)
    · have _nhc_20 := hc_20
      have ni_21 := (fa_le _ _).mp hc_20
      rw [li_0] at ni_21
      have hv_22 : zI b6 (-2147483648) 0 := zI.le_l (zI_all b6) zc_0 hc_20 (by decide)
      refine lv_iconst (v := 0) hx hb d_Pair_isAsked_43 (by decide) ?_
      exact z_zret hx hb hr hlocks rfl hP hD hS (Nat.le_of_ble_eq_true rfl) (Nat.le_of_ble_eq_true rfl) d_Pair_isAsked_44 ⟨0, rfl, rfl, (zI.wk (l' := 0) (h' := 1) zc_0 (by decide))⟩
    · have _nhc_20 := hc_20
      have ni_23 := (fa_lt _ _).mp (zi_nle hc_20)
      rw [li_0] at ni_23
      have hv_24 : zI b6 1 2147483647 := zI.lt_r zc_0 (zI_all b6) (zi_nle hc_20) (by decide)
      refine lv_iconst (v := 1) hx hb d_Pair_isAsked_39 (by decide) ?_
      refine lv_goto (tgt := 44) hx hb d_Pair_isAsked_40 (by decide) ?_
      exact z_zret hx hb hr hlocks rfl hP hD hS (Nat.le_of_ble_eq_true rfl) (Nat.le_of_ble_eq_true rfl) d_Pair_isAsked_44 ⟨1, rfl, rfl, (zI.wk (l' := 0) (h' := 1) zc_1 (by decide))⟩
  simp only [fa_lt, fa_le, fa_eq, Int32.toInt_toInt64, li_3] at hs_19
  refine lv_tableOut (tgt := 58) hx hb d_Pair_isAsked_1 (by omega) (by decide) ?_
  refine lv_aload_n hx hb d_Pair_isAsked_58 rfl (lv_at hl 0 rfl) ?_
  refine va_get (D := G.1) (ci := 10) (v := .int b6) (C := R_Pair) (T := F_Pair) (N := 10) hx hb hts i_Pair hown hK hP 0 rfl rfl 4 (by decide) (hts _ q369) (fun _ h9 => h9) rfl d_Pair_isAsked_59 ?_
  refine lv_if_gt (tgt := 72) hx hb d_Pair_isAsked_62 (by decide) (fun hc_25 => ?_) (fun hc_25 => ?_)
  · have _nhc_25 := hc_25
    have ni_26 := (fa_lt _ _).mp hc_25
    rw [li_0] at ni_26
    have hv_27 : zI b6 1 2147483647 := zI.lt_r zc_0 (zI_all b6) hc_25 (by decide)
    refine lv_iconst (v := 1) hx hb d_Pair_isAsked_72 (by decide) ?_
    refine lv_goto (tgt := 77) hx hb d_Pair_isAsked_73 (by decide) ?_
    exact z_zret hx hb hr hlocks rfl hP hD hS (Nat.le_of_ble_eq_true rfl) (Nat.le_of_ble_eq_true rfl) d_Pair_isAsked_77 ⟨1, rfl, rfl, (zI.wk (l' := 0) (h' := 1) zc_1 (by decide))⟩
  · have _nhc_25 := hc_25
    have ni_28 := (fa_le _ _).mp (zi_nlt hc_25)
    rw [li_0] at ni_28
    have hv_29 : zI b6 (-2147483648) 0 := zI.le_l (zI_all b6) zc_0 (zi_nlt hc_25) (by decide)
    refine lv_aload_n hx hb d_Pair_isAsked_65 rfl (lv_at hl 0 rfl) ?_
    refine va_get (D := G.1) (ci := 10) (v := .int b9) (C := R_Pair) (T := F_Pair) (N := 10) hx hb hts i_Pair hown hK hP 0 rfl rfl 7 (by decide) (hts _ q372) (fun _ h9 => h9) rfl d_Pair_isAsked_66 ?_
    refine lv_if_le (tgt := 76) hx hb d_Pair_isAsked_69 (by decide) (fun hc_30 => ?_) (fun hc_30 => ?_)
    · have _nhc_30 := hc_30
      have ni_31 := (fa_le _ _).mp hc_30
      rw [li_0] at ni_31
      have hv_32 : zI b9 (-2147483648) 0 := zI.le_l (zI_all b9) zc_0 hc_30 (by decide)
      refine lv_iconst (v := 0) hx hb d_Pair_isAsked_76 (by decide) ?_
      exact z_zret hx hb hr hlocks rfl hP hD hS (Nat.le_of_ble_eq_true rfl) (Nat.le_of_ble_eq_true rfl) d_Pair_isAsked_77 ⟨0, rfl, rfl, (zI.wk (l' := 0) (h' := 1) zc_0 (by decide))⟩
    · have _nhc_30 := hc_30
      have ni_33 := (fa_lt _ _).mp (zi_nle hc_30)
      rw [li_0] at ni_33
      have hv_34 : zI b9 1 2147483647 := zI.lt_r zc_0 (zI_all b9) (zi_nle hc_30) (by decide)
      refine lv_iconst (v := 1) hx hb d_Pair_isAsked_72 (by decide) ?_
      refine lv_goto (tgt := 77) hx hb d_Pair_isAsked_73 (by decide) ?_
      exact z_zret hx hb hr hlocks rfl hP hD hS (Nat.le_of_ble_eq_true rfl) (Nat.le_of_ble_eq_true rfl) d_Pair_isAsked_77 ⟨1, rfl, rfl, (zI.wk (l' := 0) (h' := 1) zc_1 (by decide))⟩
theorem d_Pair_isSo_52 : decode prog_6_method_9_code 52 = .ok (.ireturn, 1) := by decide +kernel
theorem d_Pair_isSo_76 : decode prog_6_method_9_code 76 = .ok (.ireturn, 1) := by decide +kernel
theorem d_Pair_isSo_93 : decode prog_6_method_9_code 93 = .ok (.ireturn, 1) := by decide +kernel
theorem d_Pair_isSo_98 : decode prog_6_method_9_code 98 = .ok (.ireturn, 1) := by decide +kernel
theorem d_Pair_isSo_115 : decode prog_6_method_9_code 115 = .ok (.ireturn, 1) := by decide +kernel
theorem d_Pair_isSo_120 : decode prog_6_method_9_code 120 = .ok (.ireturn, 1) := by decide +kernel
abbrev m_s2_Pair_isSo : Room := { frames := 0, cells := 0, slots := 0, locals := 0 }
set_option maxHeartbeats 4000000 in
set_option maxRecDepth 100000 in
theorem s2_Pair_isSo (l : Launch) (G : zG) (b0 : Nat) (b1 : Int32) (b2 : Int32) (b3 : Int32) (b4 : Int32) (b5 : Int32) (b6 : Int32) (b7 : Int32) (b8 : Int32) (b9 : Int32) (b10 : Int32) (b11 : Int32) (hb10 : zI b10 0 1) (hb11 : zI b11 0 1) : zM l G y_Pair_isSo prog_6_method_9_code 2 (Option.some Jvm.ClassFile.FieldType.boolean) m_s2_Pair_isSo [.ref b0, .int b1] [(b0, .inr (10, [.int b2, .int b3, .int b4, .int b5, .int b6, .int b7, .int b8, .int b9, .int b10, .int b11]))] (fun v w => ∃ (e0 : Int32), v = some (.int e0) ∧ w = [(b0, .inr (10, [.int b2, .int b3, .int b4, .int b5, .int b6, .int b7, .int b8, .int b9, .int b10, .int b11]))] ∧ (zI e0 0 1)) := by
  refine z_start (by decide +kernel) (Nat.le_of_ble_eq_true rfl) ?_
  intro p e s m below meth c A Z hr hnm hA hP hD hS ls hl
  have Z : zC p s m _ meth c prog_6_method_9_code 2 "TraceMachines$Pair" G := Z
  obtain ⟨hx, hb, hml, hown, hts, hK, hN, hlocks⟩ := id Z
  have hl : lv_has ls 2 [(0, .ref b0), (1, .int b1)] := hl
  refine lv_iload_n hx hb d_Pair_isSo_0 rfl (lv_at hl 1 rfl) ?_
  by_cases hs_1 : b1 = 0
  · subst hs_1
    refine lv_tableIn (off := 35) (tgt := 36) hx hb d_Pair_isSo_1 (by decide +kernel) (by decide +kernel) rfl (by decide) ?_
    refine lv_aload_n hx hb d_Pair_isSo_36 rfl (lv_at hl 0 rfl) ?_
    refine va_get (D := G.1) (ci := 10) (v := .int b8) (C := R_Pair) (T := F_Pair) (N := 10) hx hb hts i_Pair hown hK hP 0 rfl rfl 6 (by decide) (hts _ q371) (fun _ h9 => h9) rfl d_Pair_isSo_37 ?_
    refine lv_aload_n hx hb d_Pair_isSo_40 rfl (lv_at hl 0 rfl) ?_
    refine va_get (D := G.1) (ci := 10) (v := .int b5) (C := R_Pair) (T := F_Pair) (N := 10) hx hb hts i_Pair hown hK hP 0 rfl rfl 3 (by decide) (hts _ q368) (fun _ h9 => h9) rfl d_Pair_isSo_41 ?_
    refine lv_icmp_le (tgt := 51) hx hb d_Pair_isSo_44 (by decide) (fun hc_2 => ?_) (fun hc_2 => ?_)
    · have _nhc_2 := hc_2
      have ni_3 := (fa_le _ _).mp hc_2
      refine lv_iconst (v := 0) hx hb d_Pair_isSo_51 (by decide) ?_
      exact z_zret hx hb hr hlocks rfl hP hD hS (Nat.le_of_ble_eq_true rfl) (Nat.le_of_ble_eq_true rfl) d_Pair_isSo_52 ⟨0, rfl, rfl, (zI.wk (l' := 0) (h' := 1) zc_0 (by decide))⟩
    · have _nhc_2 := hc_2
      have ni_4 := (fa_lt _ _).mp (zi_nle hc_2)
      have hv_5 : zI b5 (-2147483648) 2147483646 := zI.lt_l (zI_all b5) (zI_all b8) (zi_nle hc_2) (by decide)
      have hv_6 : zI b8 (-2147483647) 2147483647 := zI.lt_r (zI_all b5) (zI_all b8) (zi_nle hc_2) (by decide)
      refine lv_iconst (v := 1) hx hb d_Pair_isSo_47 (by decide) ?_
      refine lv_goto (tgt := 52) hx hb d_Pair_isSo_48 (by decide) ?_
      exact z_zret hx hb hr hlocks rfl hP hD hS (Nat.le_of_ble_eq_true rfl) (Nat.le_of_ble_eq_true rfl) d_Pair_isSo_52 ⟨1, rfl, rfl, (zI.wk (l' := 0) (h' := 1) zc_1 (by decide))⟩
  simp only [fa_lt, fa_le, fa_eq, Int32.toInt_toInt64, li_0] at hs_1
  by_cases hs_7 : b1 = 1
  · subst hs_7
    refine lv_tableIn (off := 52) (tgt := 53) hx hb d_Pair_isSo_1 (by decide +kernel) (by decide +kernel) rfl (by decide) ?_
    refine lv_aload_n hx hb d_Pair_isSo_53 rfl (lv_at hl 0 rfl) ?_
    refine va_get (D := G.1) (ci := 10) (v := .int b6) (C := R_Pair) (T := F_Pair) (N := 10) hx hb hts i_Pair hown hK hP 0 rfl rfl 4 (by decide) (hts _ q369) (fun _ h9 => h9) rfl d_Pair_isSo_54 ?_
    refine lv_if_le (tgt := 75) hx hb d_Pair_isSo_57 (by decide) (fun hc_8 => ?_) (fun hc_8 => ?_)
    · have _nhc_8 := hc_8
      have ni_9 := (fa_le _ _).mp hc_8
      rw [li_0] at ni_9
      have hv_10 : zI b6 (-2147483648) 0 := zI.le_l (zI_all b6) zc_0 hc_8 (by decide)
      refine lv_iconst (v := 0) hx hb d_Pair_isSo_75 (by decide) ?_
      exact z_zret hx hb hr hlocks rfl hP hD hS (Nat.le_of_ble_eq_true rfl) (Nat.le_of_ble_eq_true rfl) d_Pair_isSo_76 ⟨0, rfl, rfl, (zI.wk (l' := 0) (h' := 1) zc_0 (by decide))⟩
    · have _nhc_8 := hc_8
      have ni_11 := (fa_lt _ _).mp (zi_nle hc_8)
      rw [li_0] at ni_11
      have hv_12 : zI b6 1 2147483647 := zI.lt_r zc_0 (zI_all b6) (zi_nle hc_8) (by decide)
      refine lv_aload_n hx hb d_Pair_isSo_60 rfl (lv_at hl 0 rfl) ?_
      refine va_get (D := G.1) (ci := 10) (v := .int b4) (C := R_Pair) (T := F_Pair) (N := 10) hx hb hts i_Pair hown hK hP 0 rfl rfl 2 (by decide) (hts _ q367) (fun _ h9 => h9) rfl d_Pair_isSo_61 ?_
      refine lv_aload_n hx hb d_Pair_isSo_64 rfl (lv_at hl 0 rfl) ?_
      refine va_get (D := G.1) (ci := 10) (v := .int b7) (C := R_Pair) (T := F_Pair) (N := 10) hx hb hts i_Pair hown hK hP 0 rfl rfl 5 (by decide) (hts _ q370) (fun _ h9 => h9) rfl d_Pair_isSo_65 ?_
      refine lv_icmp_ge (tgt := 75) hx hb d_Pair_isSo_68 (by decide) (fun hc_13 => ?_) (fun hc_13 => ?_)
      · have _nhc_13 := hc_13
        have ni_14 := (fa_le _ _).mp hc_13
        refine lv_iconst (v := 0) hx hb d_Pair_isSo_75 (by decide) ?_
        exact z_zret hx hb hr hlocks rfl hP hD hS (Nat.le_of_ble_eq_true rfl) (Nat.le_of_ble_eq_true rfl) d_Pair_isSo_76 ⟨0, rfl, rfl, (zI.wk (l' := 0) (h' := 1) zc_0 (by decide))⟩
      · have _nhc_13 := hc_13
        have ni_15 := (fa_lt _ _).mp (zi_nle hc_13)
        have hv_16 : zI b4 (-2147483648) 2147483646 := zI.lt_l (zI_all b4) (zI_all b7) (zi_nle hc_13) (by decide)
        have hv_17 : zI b7 (-2147483647) 2147483647 := zI.lt_r (zI_all b4) (zI_all b7) (zi_nle hc_13) (by decide)
        refine lv_iconst (v := 1) hx hb d_Pair_isSo_71 (by decide) ?_
        refine lv_goto (tgt := 76) hx hb d_Pair_isSo_72 (by decide) ?_
        exact z_zret hx hb hr hlocks rfl hP hD hS (Nat.le_of_ble_eq_true rfl) (Nat.le_of_ble_eq_true rfl) d_Pair_isSo_76 ⟨1, rfl, rfl, (zI.wk (l' := 0) (h' := 1) zc_1 (by decide))⟩
  simp only [fa_lt, fa_le, fa_eq, Int32.toInt_toInt64, li_1] at hs_7
  by_cases hs_18 : b1 = 2
  · subst hs_18
    refine lv_tableIn (off := 76) (tgt := 77) hx hb d_Pair_isSo_1 (by decide +kernel) (by decide +kernel) rfl (by decide) ?_
    refine lv_aload_n hx hb d_Pair_isSo_77 rfl (lv_at hl 0 rfl) ?_
    refine va_get (D := G.1) (ci := 10) (v := .int b8) (C := R_Pair) (T := F_Pair) (N := 10) hx hb hts i_Pair hown hK hP 0 rfl rfl 6 (by decide) (hts _ q371) (fun _ h9 => h9) rfl d_Pair_isSo_78 ?_
    refine lv_aload_n hx hb d_Pair_isSo_81 rfl (lv_at hl 0 rfl) ?_
    refine va_get (D := G.1) (ci := 10) (v := .int b4) (C := R_Pair) (T := F_Pair) (N := 10) hx hb hts i_Pair hown hK hP 0 rfl rfl 2 (by decide) (hts _ q367) (fun _ h9 => h9) rfl d_Pair_isSo_82 ?_
    refine lv_icmp_ge (tgt := 92) hx hb d_Pair_isSo_85 (by decide) (fun hc_19 => ?_) (fun hc_19 => ?_)
    · have _nhc_19 := hc_19
      have ni_20 := (fa_le _ _).mp hc_19
      refine lv_iconst (v := 0) hx hb d_Pair_isSo_92 (by decide) ?_
      exact z_zret hx hb hr hlocks rfl hP hD hS (Nat.le_of_ble_eq_true rfl) (Nat.le_of_ble_eq_true rfl) d_Pair_isSo_93 ⟨0, rfl, rfl, (zI.wk (l' := 0) (h' := 1) zc_0 (by decide))⟩
    · have _nhc_19 := hc_19
      have ni_21 := (fa_lt _ _).mp (zi_nle hc_19)
      have hv_22 : zI b8 (-2147483648) 2147483646 := zI.lt_l (zI_all b8) (zI_all b4) (zi_nle hc_19) (by decide)
      have hv_23 : zI b4 (-2147483647) 2147483647 := zI.lt_r (zI_all b8) (zI_all b4) (zi_nle hc_19) (by decide)
      refine lv_iconst (v := 1) hx hb d_Pair_isSo_88 (by decide) ?_
      refine lv_goto (tgt := 93) hx hb d_Pair_isSo_89 (by decide) ?_
      exact z_zret hx hb hr hlocks rfl hP hD hS (Nat.le_of_ble_eq_true rfl) (Nat.le_of_ble_eq_true rfl) d_Pair_isSo_93 ⟨1, rfl, rfl, (zI.wk (l' := 0) (h' := 1) zc_1 (by decide))⟩
  simp only [fa_lt, fa_le, fa_eq, Int32.toInt_toInt64, li_2] at hs_18
  by_cases hs_24 : b1 = 3
  · subst hs_24
    refine lv_tableIn (off := 93) (tgt := 94) hx hb d_Pair_isSo_1 (by decide +kernel) (by decide +kernel) rfl (by decide) ?_
    refine lv_aload_n hx hb d_Pair_isSo_94 rfl (lv_at hl 0 rfl) ?_
    refine va_get (D := G.1) (ci := 10) (v := .int b10) (C := R_Pair) (T := F_Pair) (N := 10) hx hb hts i_Pair hown hK hP 0 rfl rfl 8 (by decide) (hts _ q373) (fun _ h9 => h9) rfl d_Pair_isSo_95 ?_
    exact z_zret hx hb hr hlocks (zi_nb hb10) hP hD hS (Nat.le_of_ble_eq_true rfl) (Nat.le_of_ble_eq_true rfl) d_Pair_isSo_98 ⟨b10, rfl, rfl, hb10⟩
  simp only [fa_lt, fa_le, fa_eq, Int32.toInt_toInt64, li_3] at hs_24
  by_cases hs_25 : b1 = 4
  · subst hs_25
    refine lv_tableIn (off := 98) (tgt := 99) hx hb d_Pair_isSo_1 (by decide +kernel) (by decide +kernel) rfl (by decide) ?_
    refine lv_aload_n hx hb d_Pair_isSo_99 rfl (lv_at hl 0 rfl) ?_
    refine va_get (D := G.1) (ci := 10) (v := .int b6) (C := R_Pair) (T := F_Pair) (N := 10) hx hb hts i_Pair hown hK hP 0 rfl rfl 4 (by decide) (hts _ q369) (fun _ h9 => h9) rfl d_Pair_isSo_100 ?_
    refine lv_aload_n hx hb d_Pair_isSo_103 rfl (lv_at hl 0 rfl) ?_
    refine va_get (D := G.1) (ci := 10) (v := .int b9) (C := R_Pair) (T := F_Pair) (N := 10) hx hb hts i_Pair hown hK hP 0 rfl rfl 7 (by decide) (hts _ q372) (fun _ h9 => h9) rfl d_Pair_isSo_104 ?_
    refine lv_icmp_ne (tgt := 114) hx hb d_Pair_isSo_107 (by decide) (fun hc_26 => ?_) (fun hc_26 => ?_)
    · have _nhc_26 := hc_26
      have ni_27 : ¬ (b6 : Int32).toInt = (b9 : Int32).toInt := fun z => hc_26 ((fa_eq _ _).mpr z)
      refine lv_iconst (v := 0) hx hb d_Pair_isSo_114 (by decide) ?_
      exact z_zret hx hb hr hlocks rfl hP hD hS (Nat.le_of_ble_eq_true rfl) (Nat.le_of_ble_eq_true rfl) d_Pair_isSo_115 ⟨0, rfl, rfl, (zI.wk (l' := 0) (h' := 1) zc_0 (by decide))⟩
    · have _nhc_26 := hc_26
      have ni_28 := (fa_eq _ _).mp hc_26
      refine lv_iconst (v := 1) hx hb d_Pair_isSo_110 (by decide) ?_
      refine lv_goto (tgt := 115) hx hb d_Pair_isSo_111 (by decide) ?_
      exact z_zret hx hb hr hlocks rfl hP hD hS (Nat.le_of_ble_eq_true rfl) (Nat.le_of_ble_eq_true rfl) d_Pair_isSo_115 ⟨1, rfl, rfl, (zI.wk (l' := 0) (h' := 1) zc_1 (by decide))⟩
  simp only [fa_lt, fa_le, fa_eq, Int32.toInt_toInt64, li_4] at hs_25
  refine lv_tableOut (tgt := 116) hx hb d_Pair_isSo_1 (by omega) (by decide) ?_
  refine lv_aload_n hx hb d_Pair_isSo_116 rfl (lv_at hl 0 rfl) ?_
  refine va_get (D := G.1) (ci := 10) (v := .int b11) (C := R_Pair) (T := F_Pair) (N := 10) hx hb hts i_Pair hown hK hP 0 rfl rfl 9 (by decide) (hts _ q374) (fun _ h9 => h9) rfl d_Pair_isSo_117 ?_
  exact z_zret hx hb hr hlocks (zi_nb hb11) hP hD hS (Nat.le_of_ble_eq_true rfl) (Nat.le_of_ble_eq_true rfl) d_Pair_isSo_120 ⟨b11, rfl, rfl, hb11⟩
abbrev m_s1_Pair_tally : Room := { frames := 2, cells := 0, slots := 0, locals := 49 }
set_option maxHeartbeats 4000000 in
set_option maxRecDepth 100000 in
theorem s1_Pair_tally (l : Launch) (G : zG) (b0 : Nat) (b1 : Nat) (b2 : Int32) (b3 : Int32) (b4 : Int32) (b5 : Int32) (b6 : Int32) (b7 : Int32) (b8 : Int32) (b9 : Int32) (b10 : Int32) (b11 : Int32) (b12 : Int32) (b13 : Int32) (b14 : Int32) (b15 : Int32) (b16 : Int32) (b17 : Int32) (b18 : Nat) (b19 : Nat) (b20 : Nat) (b21 : Nat → Int32) (b22 : Nat → Int32) (hb13 : zI b13 0 1) (hb14 : zI b14 0 1) (hb15 : zI b15 0 20) (hb16 : zI b16 0 3) (hb17 : zI b17 0 20) (hb21 : zR b21 0 12) (hb22 : zR b22 0 9) : zM l G y_Pair_tally prog_6_method_3_code 6 (Option.none : Option Jvm.ClassFile.FieldType) m_s1_Pair_tally [.ref b0, .ref b1, .int b2, .int b3, .int b4] [(b0, .inr (10, [.int b5, .int b6, .int b7, .int b8, .int b9, .int b10, .int b11, .int b12, .int b13, .int b14])), (b1, .inr (2, [.int b15, .int b16, .int b17, .ref b18, .ref b19, .ref b20])), (b18, .inl (G.2 0, 20, .inl b21)), (b19, .inl (G.2 0, 240, .inl b22))] (fun v w => ∃ (e0 : Int32), ∃ (e1 : Int32), ∃ (e2 : Int32), ∃ (e3 : Int32), ∃ (e4 : Int32), ∃ (e5 : Int32), ∃ (e6 : Int32), ∃ (e7 : Int32), ∃ (e8 : Int32), ∃ (e9 : Int32), v = none ∧ w = [(b0, .inr (10, [.int e0, .int e1, .int e2, .int e3, .int e4, .int e5, .int e6, .int e7, .int e8, .int e9])), (b1, .inr (2, [.int b15, .int b16, .int b17, .ref b18, .ref b19, .ref b20])), (b18, .inl (G.2 0, 20, .inl b21)), (b19, .inl (G.2 0, 240, .inl b22))] ∧ (zI e8 0 1) ∧ (zI e9 0 1)) := by
  refine z_start (by decide +kernel) (Nat.le_of_ble_eq_true rfl) ?_
  intro p e s m below meth c A Z hr hnm hA hP hD hS ls hl
  have Z : zC p s m _ meth c prog_6_method_3_code 6 "TraceMachines$Pair" G := Z
  obtain ⟨hx, hb, hml, hown, hts, hK, hN, hlocks⟩ := id Z
  have hl : lv_has ls 6 [(0, .ref b0), (1, .ref b1), (2, .int b2), (3, .int b3), (4, .int b4)] := hl
  refine lv_aload_n hx hb d_Pair_tally_0 rfl (lv_at hl 0 rfl) ?_
  refine lv_iconst (v := 0) hx hb d_Pair_tally_1 (by decide) ?_
  refine va_put (D := G.1) (ci := 10) (v := .int 0) (ty := .int) (C := R_Pair) (T := F_Pair) (N := 10) hx hb hts i_Pair t_Pair t_Pair_ok n_Pair hown hK hP hD hS 0 rfl rfl 0 (by decide) (hts _ q363) (fun _ h9 => h9) rfl (by decide +kernel) rfl rfl (Nat.le_of_ble_eq_true rfl) d_Pair_tally_2 (fun H locs hP hD hS => ?_)
  have hP : va_P G.1 classes [(b0, .inr (10, [.int 0, .int b6, .int b7, .int b8, .int b9, .int b10, .int b11, .int b12, .int b13, .int b14])), (b1, .inr (2, [.int b15, .int b16, .int b17, .ref b18, .ref b19, .ref b20])), (b18, .inl (G.2 0, 20, .inl b21)), (b19, .inl (G.2 0, 240, .inl b22))] H := hP
  have hD := z_tie hP hD rfl
  refine lv_aload_n hx hb d_Pair_tally_5 rfl (lv_at hl 0 rfl) ?_
  refine lv_iconst (v := 0) hx hb d_Pair_tally_6 (by decide) ?_
  refine va_put (D := G.1) (ci := 10) (v := .int 0) (ty := .int) (C := R_Pair) (T := F_Pair) (N := 10) hx hb hts i_Pair t_Pair t_Pair_ok n_Pair hown hK hP hD hS 0 rfl rfl 1 (by decide) (hts _ q365) (fun _ h9 => h9) rfl (by decide +kernel) rfl rfl (Nat.le_of_ble_eq_true rfl) d_Pair_tally_7 (fun H locs hP hD hS => ?_)
  have hP : va_P G.1 classes [(b0, .inr (10, [.int 0, .int 0, .int b7, .int b8, .int b9, .int b10, .int b11, .int b12, .int b13, .int b14])), (b1, .inr (2, [.int b15, .int b16, .int b17, .ref b18, .ref b19, .ref b20])), (b18, .inl (G.2 0, 20, .inl b21)), (b19, .inl (G.2 0, 240, .inl b22))] H := hP
  have hD := z_tie hP hD rfl
  refine lv_iconst (v := 0) hx hb d_Pair_tally_10 (by decide) ?_
  refine lv_istore (lv' := [(5, .int 0), (0, .ref b0), (1, .ref b1), (2, .int b2), (3, .int b3), (4, .int b4)]) hx hb d_Pair_tally_11 hl (by decide) rfl (fun ls hl => ?_)
  suffices key : ∀ (k_733 : Nat) (y_734 : Int32) (y_735 : Int32) (y_736 : Int32) (y_737 : Int32) (y_738 : Int32) (y_739 : Int32) (y_740 : Int32) (y_741 : Int32) (y_742 : Int32) (y_743 : Int32) (y_744 : Int32) (H : Heap) (locs : List Loc) (ls : Array Slot), (zI y_734 0 20) → (zI y_741 0 1) → (zI y_742 0 1) → (20 : Int) - y_734.toInt < (k_733 : Int) → va_P G.1 classes [(b0, .inr (10, [.int y_743, .int y_744, .int y_735, .int y_736, .int y_737, .int y_738, .int y_739, .int y_740, .int y_741, .int y_742])), (b1, .inr (2, [.int b15, .int b16, .int b17, .ref b18, .ref b19, .ref b20])), (b18, .inl (G.2 0, 20, .inl b21)), (b19, .inl (G.2 0, 240, .inl b22))] H → va_D A [(b0, .inr (10, [.int y_743, .int y_744, .int y_735, .int y_736, .int y_737, .int y_738, .int y_739, .int y_740, .int y_741, .int y_742])), (b1, .inr (2, [.int b15, .int b16, .int b17, .ref b18, .ref b19, .ref b20])), (b18, .inl (G.2 0, 20, .inl b21)), (b19, .inl (G.2 0, 240, .inl b22))] → va_S A s.heap H locs → lv_has ls 6 [(5, .int y_734), (0, .ref b0), (1, .ref b1), (2, .int b2), (3, .int b3), (4, .int b4)] → W p l e m_s1_Pair_tally s m ([.ref b0, .ref b1, .int b2, .int b3, .int b4] : List Value).toArray below meth c H locs 0 0 (MQ below (zQ G (fun v w => ∃ (e0 : Int32), ∃ (e1 : Int32), ∃ (e2 : Int32), ∃ (e3 : Int32), ∃ (e4 : Int32), ∃ (e5 : Int32), ∃ (e6 : Int32), ∃ (e7 : Int32), ∃ (e8 : Int32), ∃ (e9 : Int32), v = none ∧ w = [(b0, .inr (10, [.int e0, .int e1, .int e2, .int e3, .int e4, .int e5, .int e6, .int e7, .int e8, .int e9])), (b1, .inr (2, [.int b15, .int b16, .int b17, .ref b18, .ref b19, .ref b20])), (b18, .inl (G.2 0, 20, .inl b21)), (b19, .inl (G.2 0, 240, .inl b22))] ∧ (zI e8 0 1) ∧ (zI e9 0 1)) A) ([.ref b0, .ref b1, .int b2, .int b3, .int b4] : List Value).toArray s m_s1_Pair_tally.cells m_s1_Pair_tally.slots A) (F0 m 13 ls []) by
    exact key 21 (0) (b7) (b8) (b9) (b10) (b11) (b12) (b13) (b14) (0) (0) _ _ _ (zI.wk (l' := 0) (h' := 20) zc_0 (by decide)) hb13 hb14 (zm_upi (zI.wk (l' := 0) (h' := 20) zc_0 (by decide)) (by decide)) hP hD hS (lv_sub hl [0, 1, 2, 3, 4, 5] rfl)
  intro k_733
  induction k_733 with
  | zero =>
    intro y_734 y_735 y_736 y_737 y_738 y_739 y_740 y_741 y_742 y_743 y_744 H locs ls hy_734 hy_741 hy_742 hmk_733 hP hD hS hl
    exact (zm_up0 hy_734 hmk_733).elim
  | succ k_733 ihk_733 =>
    intro y_734 y_735 y_736 y_737 y_738 y_739 y_740 y_741 y_742 y_743 y_744 H locs ls hy_734 hy_741 hy_742 hmk_733 hP hD hS hl
    refine lv_iload hx hb d_Pair_tally_13 (lv_at hl 0 rfl) ?_
    refine lv_aload_n hx hb d_Pair_tally_15 rfl (lv_at hl 2 rfl) ?_
    refine va_get (D := G.1) (ci := 2) (v := .int b15) (C := R_Traces) (T := F_Traces) (N := 6) hx hb hts i_Traces hown hK hP 1 rfl rfl 0 (by decide) (hts _ q56) (fun _ h9 => h9) rfl d_Pair_tally_16 ?_
    refine lv_icmp_ge (tgt := 74) hx hb d_Pair_tally_19 (by decide) (fun hc_745 => ?_) (fun hc_745 => ?_)
    · have _nhc_745 := hc_745
      have ni_746 := (fa_le _ _).mp hc_745
      exact z_vret hx hb hr hlocks hP hD hS (Nat.le_of_ble_eq_true rfl) (Nat.le_of_ble_eq_true rfl) d_Pair_tally_74 ⟨y_743, y_744, y_735, y_736, y_737, y_738, y_739, y_740, y_741, y_742, rfl, rfl, hy_741, hy_742⟩
    · have _nhc_745 := hc_745
      have ni_747 := (fa_lt _ _).mp (zi_nle hc_745)
      have hv_748 : zI y_734 0 19 := zI.lt_l hy_734 hb15 (zi_nle hc_745) (by decide)
      have hv_749 : zI b15 1 20 := zI.lt_r hy_734 hb15 (zi_nle hc_745) (by decide)
      refine lv_aload_n hx hb d_Pair_tally_22 rfl (lv_at hl 1 rfl) ?_
      refine lv_aload_n hx hb d_Pair_tally_23 rfl (lv_at hl 2 rfl) ?_
      refine lv_iload hx hb d_Pair_tally_24 (lv_at hl 0 rfl) ?_
      refine lv_iload_n hx hb d_Pair_tally_26 rfl (lv_at hl 4 rfl) ?_
      refine lv_iload hx hb d_Pair_tally_27 (lv_at hl 5 rfl) ?_
      refine z_callV (index := 27) (As := [.ref b1, .int y_734, .int b3, .int b4]) (rest := []) (wr := []) Z (s7_Pair_look l G (b0) (b1) (y_734) (b3) (b4) (y_743) (y_744) (y_735) (y_736) (y_737) (y_738) (y_739) (y_740) (y_741) (y_742) (b15) (b16) (b17) (b18) (b19) (b20) (b21) (b22) hv_748 hy_741 hy_742 (zI.wk (l' := 0) (h' := 20) hv_749 (by decide)) hb16 hb17 hb21 hb22) hl.1 q923 q925 qs32 q11 q926 ⟨by decide, by decide, by show _ = some 4; decide +kernel⟩ ⟨Nat.le_of_ble_eq_true rfl, Nat.le_of_ble_eq_true rfl⟩ ⟨Nat.le_of_ble_eq_true rfl, Nat.le_of_ble_eq_true rfl⟩ rfl (Nat.le_of_ble_eq_true rfl) d_Pair_tally_29 hP hD hS hA 0 10 rfl rfl rfl [0, 1, 2, 3] [] rfl rfl rfl rfl (by decide) (fun v w1 H locs hw_750 hP hD hS => ?_)
      obtain ⟨x_751, x_752, x_753, x_754, x_755, x_756, x_757, x_758, rfl, rfl, hx_752, hx_755, hx_757, hx_758⟩ := hw_750
      have hP : va_P G.1 classes [(b0, .inr (10, [.int y_743, .int y_744, .int x_751, .int x_752, .int x_753, .int x_754, .int x_755, .int x_756, .int x_757, .int x_758])), (b1, .inr (2, [.int b15, .int b16, .int b17, .ref b18, .ref b19, .ref b20])), (b18, .inl (G.2 0, 20, .inl b21)), (b19, .inl (G.2 0, 240, .inl b22))] H := hP
      have hD := z_tie hP hD rfl
      refine W.widen (k := 0) (n := 0) (Nat.le_of_ble_eq_true rfl) (Nat.le_of_ble_eq_true rfl) ?_
      refine lv_aload_n hx hb d_Pair_tally_32 rfl (lv_at hl 1 rfl) ?_
      refine lv_iload_n hx hb d_Pair_tally_33 rfl (lv_at hl 3 rfl) ?_
      refine z_callV (index := 30) (As := [.int b2]) (rest := []) (wr := [(b1, .inr (2, [.int b15, .int b16, .int b17, .ref b18, .ref b19, .ref b20])), (b18, .inl (G.2 0, 20, .inl b21)), (b19, .inl (G.2 0, 240, .inl b22))]) Z (s2_Pair_isAsked l G (b0) (b2) (y_743) (y_744) (x_751) (x_752) (x_753) (x_754) (x_755) (x_756) (x_757) (x_758) hx_757 hx_758) hl.1 q940 q942 qs36 q11 q943 ⟨by decide, by decide, by show _ = some 1; decide +kernel⟩ ⟨Nat.le_of_ble_eq_true rfl, Nat.le_of_ble_eq_true rfl⟩ ⟨Nat.le_of_ble_eq_true rfl, Nat.le_of_ble_eq_true rfl⟩ rfl (Nat.le_of_ble_eq_true rfl) d_Pair_tally_34 hP hD hS hA 0 10 rfl rfl rfl [0] [1, 2, 3] rfl rfl rfl rfl (by decide) (fun v w1 H locs hw_759 hP hD hS => ?_)
      obtain ⟨x_760, rfl, rfl, hx_760⟩ := hw_759
      have hP : va_P G.1 classes [(b1, .inr (2, [.int b15, .int b16, .int b17, .ref b18, .ref b19, .ref b20])), (b18, .inl (G.2 0, 20, .inl b21)), (b19, .inl (G.2 0, 240, .inl b22)), (b0, .inr (10, [.int y_743, .int y_744, .int x_751, .int x_752, .int x_753, .int x_754, .int x_755, .int x_756, .int x_757, .int x_758]))] H := hP
      have hD := z_tie hP hD rfl
      refine W.widen (k := 0) (n := 0) (Nat.le_of_ble_eq_true rfl) (Nat.le_of_ble_eq_true rfl) ?_
      refine lv_if_eq (tgt := 68) hx hb d_Pair_tally_37 (by decide) (fun hc_761 => ?_) (fun hc_761 => ?_)
      · have _nhc_761 := hc_761
        have ni_762 := (fa_eq _ _).mp hc_761
        rw [li_0] at ni_762
        have hv_763 : zI x_760 0 0 := zI.eq_l hx_760 zc_0 hc_761
        obtain ⟨v_764, ev_764⟩ : ∃ z : Int32, z = y_734 + 1 := ⟨_, rfl⟩
        obtain ⟨qv_764, hv_764⟩ := zI_add (l := 1) (h := 20) hv_748 zc_1 ev_764 (by decide)
        rw [li_1] at qv_764
        refine lv_iinc (v := v_764) (lv' := [(5, .int v_764), (0, .ref b0), (1, .ref b1), (2, .int b2), (3, .int b3), (4, .int b4)]) hx hb d_Pair_tally_68 hl (k := 0) rfl (by rw [ev_764]; rfl) (by decide) rfl (fun ls hl => ?_)
        refine lv_goto (tgt := 13) hx hb d_Pair_tally_71 (by decide) ?_
        exact ihk_733 (v_764) (x_751) (x_752) (x_753) (x_754) (x_755) (x_756) (x_757) (x_758) (y_743) (y_744) _ _ _ (zI.wk (l' := 0) (h' := 20) hv_764 (by decide)) hx_757 hx_758 (zm_up qv_764 hmk_733 (by decide)) (hP.sub [3, 0, 1, 2] rfl) (hD.sub [3, 0, 1, 2] (by decide) rfl) hS (lv_sub hl [0, 1, 2, 3, 4, 5] rfl)
      · have _nhc_761 := hc_761
        have ni_765 : ¬ (x_760 : Int32).toInt = (0 : Int32).toInt := fun z => hc_761 ((fa_eq _ _).mpr z)
        simp only [li_0] at ni_765
        have hv_766 : zI x_760 1 1 := zI.ne_lo hx_760 zc_0 hc_761 (by decide)
        refine lv_aload_n hx hb d_Pair_tally_40 rfl (lv_at hl 1 rfl) ?_
        refine lv_dup hx hb d_Pair_tally_41 rfl ?_
        refine va_get (D := G.1) (ci := 10) (v := .int y_743) (C := R_Pair) (T := F_Pair) (N := 10) hx hb hts i_Pair hown hK hP 3 rfl rfl 0 (by decide) (hts _ q363) (fun _ h9 => h9) rfl d_Pair_tally_42 ?_
        refine lv_iconst (v := 1) hx hb d_Pair_tally_45 (by decide) ?_
        refine lv_iadd hx hb d_Pair_tally_46 ?_
        refine lv_topi (fun v_767 ev_767 => ?_)
        refine va_put (D := G.1) (ci := 10) (v := .int v_767) (ty := .int) (C := R_Pair) (T := F_Pair) (N := 10) hx hb hts i_Pair t_Pair t_Pair_ok n_Pair hown hK hP hD hS 3 rfl rfl 0 (by decide) (hts _ q363) (fun _ h9 => h9) rfl (by decide +kernel) rfl rfl (Nat.le_of_ble_eq_true rfl) d_Pair_tally_47 (fun H locs hP hD hS => ?_)
        have hP : va_P G.1 classes [(b1, .inr (2, [.int b15, .int b16, .int b17, .ref b18, .ref b19, .ref b20])), (b18, .inl (G.2 0, 20, .inl b21)), (b19, .inl (G.2 0, 240, .inl b22)), (b0, .inr (10, [.int v_767, .int y_744, .int x_751, .int x_752, .int x_753, .int x_754, .int x_755, .int x_756, .int x_757, .int x_758]))] H := hP
        have hD := z_tie hP hD rfl
        refine lv_aload_n hx hb d_Pair_tally_50 rfl (lv_at hl 1 rfl) ?_
        refine lv_iload_n hx hb d_Pair_tally_51 rfl (lv_at hl 3 rfl) ?_
        refine z_callV (index := 34) (As := [.int b2]) (rest := []) (wr := [(b1, .inr (2, [.int b15, .int b16, .int b17, .ref b18, .ref b19, .ref b20])), (b18, .inl (G.2 0, 20, .inl b21)), (b19, .inl (G.2 0, 240, .inl b22))]) Z (s2_Pair_isSo l G (b0) (b2) (v_767) (y_744) (x_751) (x_752) (x_753) (x_754) (x_755) (x_756) (x_757) (x_758) hx_757 hx_758) hl.1 q944 q946 qs37 q11 q947 ⟨by decide, by decide, by show _ = some 1; decide +kernel⟩ ⟨Nat.le_of_ble_eq_true rfl, Nat.le_of_ble_eq_true rfl⟩ ⟨Nat.le_of_ble_eq_true rfl, Nat.le_of_ble_eq_true rfl⟩ rfl (Nat.le_of_ble_eq_true rfl) d_Pair_tally_52 hP hD hS hA 3 10 rfl rfl rfl [3] [0, 1, 2] rfl rfl rfl rfl (by decide) (fun v w1 H locs hw_768 hP hD hS => ?_)
        obtain ⟨x_769, rfl, rfl, hx_769⟩ := hw_768
        have hP : va_P G.1 classes [(b1, .inr (2, [.int b15, .int b16, .int b17, .ref b18, .ref b19, .ref b20])), (b18, .inl (G.2 0, 20, .inl b21)), (b19, .inl (G.2 0, 240, .inl b22)), (b0, .inr (10, [.int v_767, .int y_744, .int x_751, .int x_752, .int x_753, .int x_754, .int x_755, .int x_756, .int x_757, .int x_758]))] H := hP
        have hD := z_tie hP hD rfl
        refine W.widen (k := 0) (n := 0) (Nat.le_of_ble_eq_true rfl) (Nat.le_of_ble_eq_true rfl) ?_
        refine lv_if_eq (tgt := 68) hx hb d_Pair_tally_55 (by decide) (fun hc_770 => ?_) (fun hc_770 => ?_)
        · have _nhc_770 := hc_770
          have ni_771 := (fa_eq _ _).mp hc_770
          rw [li_0] at ni_771
          have hv_772 : zI x_769 0 0 := zI.eq_l hx_769 zc_0 hc_770
          obtain ⟨v_773, ev_773⟩ : ∃ z : Int32, z = y_734 + 1 := ⟨_, rfl⟩
          obtain ⟨qv_773, hv_773⟩ := zI_add (l := 1) (h := 20) hv_748 zc_1 ev_773 (by decide)
          rw [li_1] at qv_773
          refine lv_iinc (v := v_773) (lv' := [(5, .int v_773), (0, .ref b0), (1, .ref b1), (2, .int b2), (3, .int b3), (4, .int b4)]) hx hb d_Pair_tally_68 hl (k := 0) rfl (by rw [ev_773]; rfl) (by decide) rfl (fun ls hl => ?_)
          refine lv_goto (tgt := 13) hx hb d_Pair_tally_71 (by decide) ?_
          exact ihk_733 (v_773) (x_751) (x_752) (x_753) (x_754) (x_755) (x_756) (x_757) (x_758) (v_767) (y_744) _ _ _ (zI.wk (l' := 0) (h' := 20) hv_773 (by decide)) hx_757 hx_758 (zm_up qv_773 hmk_733 (by decide)) (hP.sub [3, 0, 1, 2] rfl) (hD.sub [3, 0, 1, 2] (by decide) rfl) hS (lv_sub hl [0, 1, 2, 3, 4, 5] rfl)
        · have _nhc_770 := hc_770
          have ni_774 : ¬ (x_769 : Int32).toInt = (0 : Int32).toInt := fun z => hc_770 ((fa_eq _ _).mpr z)
          simp only [li_0] at ni_774
          have hv_775 : zI x_769 1 1 := zI.ne_lo hx_769 zc_0 hc_770 (by decide)
          refine lv_aload_n hx hb d_Pair_tally_58 rfl (lv_at hl 1 rfl) ?_
          refine lv_dup hx hb d_Pair_tally_59 rfl ?_
          refine va_get (D := G.1) (ci := 10) (v := .int y_744) (C := R_Pair) (T := F_Pair) (N := 10) hx hb hts i_Pair hown hK hP 3 rfl rfl 1 (by decide) (hts _ q365) (fun _ h9 => h9) rfl d_Pair_tally_60 ?_
          refine lv_iconst (v := 1) hx hb d_Pair_tally_63 (by decide) ?_
          refine lv_iadd hx hb d_Pair_tally_64 ?_
          refine lv_topi (fun v_776 ev_776 => ?_)
          refine va_put (D := G.1) (ci := 10) (v := .int v_776) (ty := .int) (C := R_Pair) (T := F_Pair) (N := 10) hx hb hts i_Pair t_Pair t_Pair_ok n_Pair hown hK hP hD hS 3 rfl rfl 1 (by decide) (hts _ q365) (fun _ h9 => h9) rfl (by decide +kernel) rfl rfl (Nat.le_of_ble_eq_true rfl) d_Pair_tally_65 (fun H locs hP hD hS => ?_)
          have hP : va_P G.1 classes [(b1, .inr (2, [.int b15, .int b16, .int b17, .ref b18, .ref b19, .ref b20])), (b18, .inl (G.2 0, 20, .inl b21)), (b19, .inl (G.2 0, 240, .inl b22)), (b0, .inr (10, [.int v_767, .int v_776, .int x_751, .int x_752, .int x_753, .int x_754, .int x_755, .int x_756, .int x_757, .int x_758]))] H := hP
          have hD := z_tie hP hD rfl
          obtain ⟨v_777, ev_777⟩ : ∃ z : Int32, z = y_734 + 1 := ⟨_, rfl⟩
          obtain ⟨qv_777, hv_777⟩ := zI_add (l := 1) (h := 20) hv_748 zc_1 ev_777 (by decide)
          rw [li_1] at qv_777
          refine lv_iinc (v := v_777) (lv' := [(5, .int v_777), (0, .ref b0), (1, .ref b1), (2, .int b2), (3, .int b3), (4, .int b4)]) hx hb d_Pair_tally_68 hl (k := 0) rfl (by rw [ev_777]; rfl) (by decide) rfl (fun ls hl => ?_)
          refine lv_goto (tgt := 13) hx hb d_Pair_tally_71 (by decide) ?_
          exact ihk_733 (v_777) (x_751) (x_752) (x_753) (x_754) (x_755) (x_756) (x_757) (x_758) (v_767) (v_776) _ _ _ (zI.wk (l' := 0) (h' := 20) hv_777 (by decide)) hx_757 hx_758 (zm_up qv_777 hmk_733 (by decide)) (hP.sub [3, 0, 1, 2] rfl) (hD.sub [3, 0, 1, 2] (by decide) rfl) hS (lv_sub hl [0, 1, 2, 3, 4, 5] rfl)
theorem d_Pair_stands_0 : decode prog_6_method_2_code 0 = .ok (.aload_n 0, 1) := by decide +kernel
theorem d_Pair_stands_1 : decode prog_6_method_2_code 1 = .ok (.aload_n 1, 1) := by decide +kernel
theorem d_Pair_stands_2 : decode prog_6_method_2_code 2 = .ok (.iload_n 2, 1) := by decide +kernel
theorem d_Pair_stands_3 : decode prog_6_method_2_code 3 = .ok (.iload_n 3, 1) := by decide +kernel
theorem d_Pair_stands_4 : decode prog_6_method_2_code 4 = .ok (.iload 4, 2) := by decide +kernel
theorem d_Pair_stands_6 : decode prog_6_method_2_code 6 = .ok (.invokevirtual 9, 3) := by decide +kernel
theorem d_Pair_stands_9 : decode prog_6_method_2_code 9 = .ok (.aload_n 0, 1) := by decide +kernel
theorem d_Pair_stands_10 : decode prog_6_method_2_code 10 = .ok (.getfield 15, 3) := by decide +kernel
theorem d_Pair_stands_13 : decode prog_6_method_2_code 13 = .ok (.iload 5, 2) := by decide +kernel
theorem d_Pair_stands_15 : decode prog_6_method_2_code 15 = .ok (.if_icmp .lt 18, 3) := by decide +kernel
theorem d_Pair_stands_18 : decode prog_6_method_2_code 18 = .ok (.aload_n 0, 1) := by decide +kernel
theorem d_Pair_stands_19 : decode prog_6_method_2_code 19 = .ok (.getfield 19, 3) := by decide +kernel
theorem d_Pair_stands_22 : decode prog_6_method_2_code 22 = .ok (.aload_n 0, 1) := by decide +kernel
theorem d_Pair_stands_23 : decode prog_6_method_2_code 23 = .ok (.getfield 15, 3) := by decide +kernel
theorem d_Pair_stands_26 : decode prog_6_method_2_code 26 = .ok (.if_icmp .ne 7, 3) := by decide +kernel
theorem d_Pair_stands_29 : decode prog_6_method_2_code 29 = .ok (.iconst 1, 1) := by decide +kernel
theorem d_Pair_stands_30 : decode prog_6_method_2_code 30 = .ok (.goto 4, 3) := by decide +kernel
theorem d_Pair_stands_33 : decode prog_6_method_2_code 33 = .ok (.iconst 0, 1) := by decide +kernel
theorem d_Pair_stands_34 : decode prog_6_method_2_code 34 = .ok (.ireturn, 1) := by decide +kernel
abbrev m_s1_Pair_stands : Room := { frames := 3, cells := 0, slots := 0, locals := 74 }
set_option maxHeartbeats 4000000 in
set_option maxRecDepth 100000 in
theorem s1_Pair_stands (l : Launch) (G : zG) (b0 : Nat) (b1 : Nat) (b2 : Int32) (b3 : Int32) (b4 : Int32) (b5 : Int32) (b6 : Int32) (b7 : Int32) (b8 : Int32) (b9 : Int32) (b10 : Int32) (b11 : Int32) (b12 : Int32) (b13 : Int32) (b14 : Int32) (b15 : Int32) (b16 : Int32) (b17 : Int32) (b18 : Int32) (b19 : Nat) (b20 : Nat) (b21 : Nat) (b22 : Nat → Int32) (b23 : Nat → Int32) (hb14 : zI b14 0 1) (hb15 : zI b15 0 1) (hb16 : zI b16 0 20) (hb17 : zI b17 0 3) (hb18 : zI b18 0 20) (hb22 : zR b22 0 12) (hb23 : zR b23 0 9) : zM l G y_Pair_stands prog_6_method_2_code 6 (Option.some Jvm.ClassFile.FieldType.boolean) m_s1_Pair_stands [.ref b0, .ref b1, .int b2, .int b3, .int b4, .int b5] [(b0, .inr (10, [.int b6, .int b7, .int b8, .int b9, .int b10, .int b11, .int b12, .int b13, .int b14, .int b15])), (b1, .inr (2, [.int b16, .int b17, .int b18, .ref b19, .ref b20, .ref b21])), (b19, .inl (G.2 0, 20, .inl b22)), (b20, .inl (G.2 0, 240, .inl b23))] (fun v w => ∃ (e0 : Int32), ∃ (e1 : Int32), ∃ (e2 : Int32), ∃ (e3 : Int32), ∃ (e4 : Int32), ∃ (e5 : Int32), ∃ (e6 : Int32), ∃ (e7 : Int32), ∃ (e8 : Int32), ∃ (e9 : Int32), ∃ (e10 : Int32), v = some (.int e0) ∧ w = [(b0, .inr (10, [.int e1, .int e2, .int e3, .int e4, .int e5, .int e6, .int e7, .int e8, .int e9, .int e10])), (b1, .inr (2, [.int b16, .int b17, .int b18, .ref b19, .ref b20, .ref b21])), (b19, .inl (G.2 0, 20, .inl b22)), (b20, .inl (G.2 0, 240, .inl b23))] ∧ (zI e0 0 1) ∧ (zI e9 0 1) ∧ (zI e10 0 1)) := by
  refine z_start (by decide +kernel) (Nat.le_of_ble_eq_true rfl) ?_
  intro p e s m below meth c A Z hr hnm hA hP hD hS ls hl
  have Z : zC p s m _ meth c prog_6_method_2_code 6 "TraceMachines$Pair" G := Z
  obtain ⟨hx, hb, hml, hown, hts, hK, hN, hlocks⟩ := id Z
  have hl : lv_has ls 6 [(0, .ref b0), (1, .ref b1), (2, .int b2), (3, .int b3), (4, .int b4), (5, .int b5)] := hl
  refine lv_aload_n hx hb d_Pair_stands_0 rfl (lv_at hl 0 rfl) ?_
  refine lv_aload_n hx hb d_Pair_stands_1 rfl (lv_at hl 1 rfl) ?_
  refine lv_iload_n hx hb d_Pair_stands_2 rfl (lv_at hl 2 rfl) ?_
  refine lv_iload_n hx hb d_Pair_stands_3 rfl (lv_at hl 3 rfl) ?_
  refine lv_iload hx hb d_Pair_stands_4 (lv_at hl 4 rfl) ?_
  refine z_callV (index := 9) (As := [.ref b1, .int b2, .int b3, .int b4]) (rest := []) (wr := []) Z (s1_Pair_tally l G (b0) (b1) (b2) (b3) (b4) (b6) (b7) (b8) (b9) (b10) (b11) (b12) (b13) (b14) (b15) (b16) (b17) (b18) (b19) (b20) (b21) (b22) (b23) hb14 hb15 hb16 hb17 hb18 hb22 hb23) hl.1 q956 q920 q921 q11 q922 ⟨by decide, by decide, by show _ = some 4; decide +kernel⟩ ⟨Nat.le_of_ble_eq_true rfl, Nat.le_of_ble_eq_true rfl⟩ ⟨Nat.le_of_ble_eq_true rfl, Nat.le_of_ble_eq_true rfl⟩ rfl (Nat.le_of_ble_eq_true rfl) d_Pair_stands_6 hP hD hS hA 0 10 rfl rfl rfl [0, 1, 2, 3] [] rfl rfl rfl rfl (by decide) (fun v w1 H locs hw_1 hP hD hS => ?_)
  refine Exists.elim hw_1 (fun x_2 hz_12 => Exists.elim hz_12 (fun x_3 hz_13 => Exists.elim hz_13 (fun x_4 hz_14 => Exists.elim hz_14 (fun x_5 hz_15 => Exists.elim hz_15 (fun x_6 hz_16 => Exists.elim hz_16 (fun x_7 hz_17 => Exists.elim hz_17 (fun x_8 hz_18 => Exists.elim hz_18 (fun x_9 hz_19 => Exists.elim hz_19 (fun x_10 hz_20 => Exists.elim hz_20 (fun x_11 hz_21 => ?_))))))))))
  obtain ⟨rfl, rfl, hx_10, hx_11⟩ := hz_21
  have hP : va_P G.1 classes [(b0, .inr (10, [.int x_2, .int x_3, .int x_4, .int x_5, .int x_6, .int x_7, .int x_8, .int x_9, .int x_10, .int x_11])), (b1, .inr (2, [.int b16, .int b17, .int b18, .ref b19, .ref b20, .ref b21])), (b19, .inl (G.2 0, 20, .inl b22)), (b20, .inl (G.2 0, 240, .inl b23))] H := hP
  have hD := z_tie hP hD rfl
  refine W.widen (k := 0) (n := 0) (Nat.le_of_ble_eq_true rfl) (Nat.le_of_ble_eq_true rfl) ?_
  refine lv_aload_n hx hb d_Pair_stands_9 rfl (lv_at hl 0 rfl) ?_
  refine va_get (D := G.1) (ci := 10) (v := .int x_2) (C := R_Pair) (T := F_Pair) (N := 10) hx hb hts i_Pair hown hK hP 0 rfl rfl 0 (by decide) (hts _ q363) (fun _ h9 => h9) rfl d_Pair_stands_10 ?_
  refine lv_iload hx hb d_Pair_stands_13 (lv_at hl 5 rfl) ?_
  refine lv_icmp_lt (tgt := 33) hx hb d_Pair_stands_15 (by decide) (fun hc_22 => ?_) (fun hc_22 => ?_)
  · have _nhc_22 := hc_22
    have ni_23 := (fa_lt _ _).mp hc_22
    have hv_24 : zI x_2 (-2147483648) 2147483646 := zI.lt_l (zI_all x_2) (zI_all b5) hc_22 (by decide)
    have hv_25 : zI b5 (-2147483647) 2147483647 := zI.lt_r (zI_all x_2) (zI_all b5) hc_22 (by decide)
    refine lv_iconst (v := 0) hx hb d_Pair_stands_33 (by decide) ?_
    exact z_zret hx hb hr hlocks rfl hP hD hS (Nat.le_of_ble_eq_true rfl) (Nat.le_of_ble_eq_true rfl) d_Pair_stands_34 ⟨0, x_2, x_3, x_4, x_5, x_6, x_7, x_8, x_9, x_10, x_11, rfl, rfl, (zI.wk (l' := 0) (h' := 1) zc_0 (by decide)), hx_10, hx_11⟩
  · have _nhc_22 := hc_22
    have ni_26 := (fa_le _ _).mp (zi_nlt hc_22)
    refine lv_aload_n hx hb d_Pair_stands_18 rfl (lv_at hl 0 rfl) ?_
    refine va_get (D := G.1) (ci := 10) (v := .int x_3) (C := R_Pair) (T := F_Pair) (N := 10) hx hb hts i_Pair hown hK hP 0 rfl rfl 1 (by decide) (hts _ q365) (fun _ h9 => h9) rfl d_Pair_stands_19 ?_
    refine lv_aload_n hx hb d_Pair_stands_22 rfl (lv_at hl 0 rfl) ?_
    refine va_get (D := G.1) (ci := 10) (v := .int x_2) (C := R_Pair) (T := F_Pair) (N := 10) hx hb hts i_Pair hown hK hP 0 rfl rfl 0 (by decide) (hts _ q363) (fun _ h9 => h9) rfl d_Pair_stands_23 ?_
    refine lv_icmp_ne (tgt := 33) hx hb d_Pair_stands_26 (by decide) (fun hc_27 => ?_) (fun hc_27 => ?_)
    · have _nhc_27 := hc_27
      have ni_28 : ¬ (x_3 : Int32).toInt = (x_2 : Int32).toInt := fun z => hc_27 ((fa_eq _ _).mpr z)
      refine lv_iconst (v := 0) hx hb d_Pair_stands_33 (by decide) ?_
      exact z_zret hx hb hr hlocks rfl hP hD hS (Nat.le_of_ble_eq_true rfl) (Nat.le_of_ble_eq_true rfl) d_Pair_stands_34 ⟨0, x_2, x_3, x_4, x_5, x_6, x_7, x_8, x_9, x_10, x_11, rfl, rfl, (zI.wk (l' := 0) (h' := 1) zc_0 (by decide)), hx_10, hx_11⟩
    · have _nhc_27 := hc_27
      have ni_29 := (fa_eq _ _).mp hc_27
      refine lv_iconst (v := 1) hx hb d_Pair_stands_29 (by decide) ?_
      refine lv_goto (tgt := 34) hx hb d_Pair_stands_30 (by decide) ?_
      exact z_zret hx hb hr hlocks rfl hP hD hS (Nat.le_of_ble_eq_true rfl) (Nat.le_of_ble_eq_true rfl) d_Pair_stands_34 ⟨1, x_2, x_3, x_4, x_5, x_6, x_7, x_8, x_9, x_10, x_11, rfl, rfl, (zI.wk (l' := 0) (h' := 1) zc_1 (by decide)), hx_10, hx_11⟩
abbrev m_s2_Odds_placeOf : Room := { frames := 1, cells := 0, slots := 0, locals := 22 }
set_option maxHeartbeats 4000000 in
set_option maxRecDepth 100000 in
theorem s2_Odds_placeOf (l : Launch) (G : zG) (b0 : Nat) (b1 : Int32) (b2 : Nat) (b3 : Nat) (b4 : Int32) (b5 : Nat → Int32) (b6 : Nat → Int32) (hb1 : zI b1 0 19) (hb4 : zI b4 0 20) : zM l G y_Odds_placeOf prog_5_method_4_code 4 (Option.some Jvm.ClassFile.FieldType.int) m_s2_Odds_placeOf [.ref b0, .int b1] [(b0, .inr (11, [.ref b2, .ref b3, .int b4])), (b2, .inl (G.2 0, 20, .inl b5)), (b3, .inl (G.2 0, 20, .inl b6))] (fun v w => ∃ (e0 : Int32), v = some (.int e0) ∧ w = [(b0, .inr (11, [.ref b2, .ref b3, .int b4])), (b2, .inl (G.2 0, 20, .inl b5)), (b3, .inl (G.2 0, 20, .inl b6))]) := by
  refine z_start (by decide +kernel) (Nat.le_of_ble_eq_true rfl) ?_
  intro p e s m below meth c A Z hr hnm hA hP hD hS ls hl
  have Z : zC p s m _ meth c prog_5_method_4_code 4 "TraceMachines$Odds" G := Z
  obtain ⟨hx, hb, hml, hown, hts, hK, hN, hlocks⟩ := id Z
  have hl : lv_has ls 4 [(0, .ref b0), (1, .int b1)] := hl
  refine lv_iconst (v := 0) hx hb d_Odds_placeOf_0 (by decide) ?_
  refine lv_istore_n (lv' := [(2, .int 0), (0, .ref b0), (1, .int b1)]) hx hb d_Odds_placeOf_1 rfl hl (by decide) rfl (fun ls hl => ?_)
  refine lv_iconst (v := 0) hx hb d_Odds_placeOf_2 (by decide) ?_
  refine lv_istore_n (lv' := [(3, .int 0), (2, .int 0), (0, .ref b0), (1, .int b1)]) hx hb d_Odds_placeOf_3 rfl hl (by decide) rfl (fun ls hl => ?_)
  suffices key : ∀ (k_285 : Nat) (y_286 : Int32) (y_287 : Int32) (H : Heap) (locs : List Loc) (ls : Array Slot), (zI y_286 0 20) → (20 : Int) - y_286.toInt < (k_285 : Int) → va_P G.1 classes [(b0, .inr (11, [.ref b2, .ref b3, .int b4])), (b2, .inl (G.2 0, 20, .inl b5)), (b3, .inl (G.2 0, 20, .inl b6))] H → va_D A [(b0, .inr (11, [.ref b2, .ref b3, .int b4])), (b2, .inl (G.2 0, 20, .inl b5)), (b3, .inl (G.2 0, 20, .inl b6))] → va_S A s.heap H locs → lv_has ls 4 [(3, .int y_286), (2, .int y_287), (0, .ref b0), (1, .int b1)] → W p l e m_s2_Odds_placeOf s m ([.ref b0, .int b1] : List Value).toArray below meth c H locs 0 0 (MQ below (zQ G (fun v w => ∃ (e0 : Int32), v = some (.int e0) ∧ w = [(b0, .inr (11, [.ref b2, .ref b3, .int b4])), (b2, .inl (G.2 0, 20, .inl b5)), (b3, .inl (G.2 0, 20, .inl b6))]) A) ([.ref b0, .int b1] : List Value).toArray s m_s2_Odds_placeOf.cells m_s2_Odds_placeOf.slots A) (F0 m 4 ls []) by
    exact key 21 (0) (0) _ _ _ (zI.wk (l' := 0) (h' := 20) zc_0 (by decide)) (zm_upi (zI.wk (l' := 0) (h' := 20) zc_0 (by decide)) (by decide)) hP hD hS (lv_sub hl [0, 1, 2, 3] rfl)
  intro k_285
  induction k_285 with
  | zero =>
    intro y_286 y_287 H locs ls hy_286 hmk_285 hP hD hS hl
    exact (zm_up0 hy_286 hmk_285).elim
  | succ k_285 ihk_285 =>
    intro y_286 y_287 H locs ls hy_286 hmk_285 hP hD hS hl
    refine lv_iload_n hx hb d_Odds_placeOf_4 rfl (lv_at hl 0 rfl) ?_
    refine lv_aload_n hx hb d_Odds_placeOf_5 rfl (lv_at hl 2 rfl) ?_
    refine va_get (D := G.1) (ci := 11) (v := .int b4) (C := R_Odds) (T := F_Odds) (N := 3) hx hb hts i_Odds hown hK hP 0 rfl rfl 2 (by decide) (hts _ q406) (fun _ h9 => h9) rfl d_Odds_placeOf_6 ?_
    refine lv_icmp_ge (tgt := 30) hx hb d_Odds_placeOf_9 (by decide) (fun hc_288 => ?_) (fun hc_288 => ?_)
    · have _nhc_288 := hc_288
      have ni_289 := (fa_le _ _).mp hc_288
      refine lv_iload_n hx hb d_Odds_placeOf_30 rfl (lv_at hl 1 rfl) ?_
      exact z_iret hx hb hr hlocks hP hD hS (Nat.le_of_ble_eq_true rfl) (Nat.le_of_ble_eq_true rfl) d_Odds_placeOf_31 ⟨y_287, rfl, rfl⟩
    · have _nhc_288 := hc_288
      have ni_290 := (fa_lt _ _).mp (zi_nle hc_288)
      have hv_291 : zI y_286 0 19 := zI.lt_l hy_286 hb4 (zi_nle hc_288) (by decide)
      have hv_292 : zI b4 1 20 := zI.lt_r hy_286 hb4 (zi_nle hc_288) (by decide)
      refine lv_aload_n hx hb d_Odds_placeOf_12 rfl (lv_at hl 2 rfl) ?_
      refine lv_iload_n hx hb d_Odds_placeOf_13 rfl (lv_at hl 0 rfl) ?_
      refine lv_iload_n hx hb d_Odds_placeOf_14 rfl (lv_at hl 3 rfl) ?_
      refine z_callV (index := 46) (As := [.int y_286, .int b1]) (rest := []) (wr := []) Z (s7_Odds_isOdder l G (b0) (y_286) (b1) (b2) (b3) (b4) (b5) (b6) hv_291 hb1 (zI.wk (l' := 0) (h' := 20) hv_292 (by decide))) hl.1 q974 q976 qs39 q12 q977 ⟨by decide, by decide, by show _ = some 2; decide +kernel⟩ ⟨Nat.le_of_ble_eq_true rfl, Nat.le_of_ble_eq_true rfl⟩ ⟨Nat.le_of_ble_eq_true rfl, Nat.le_of_ble_eq_true rfl⟩ rfl (Nat.le_of_ble_eq_true rfl) d_Odds_placeOf_15 hP hD hS hA 0 11 rfl rfl rfl [0, 1, 2] [] rfl rfl rfl rfl (by decide) (fun v w1 H locs hw_293 hP hD hS => ?_)
      obtain ⟨x_294, rfl, rfl, hx_294⟩ := hw_293
      have hP : va_P G.1 classes [(b0, .inr (11, [.ref b2, .ref b3, .int b4])), (b2, .inl (G.2 0, 20, .inl b5)), (b3, .inl (G.2 0, 20, .inl b6))] H := hP
      have hD := z_tie hP hD rfl
      refine W.widen (k := 0) (n := 0) (Nat.le_of_ble_eq_true rfl) (Nat.le_of_ble_eq_true rfl) ?_
      refine lv_if_eq (tgt := 24) hx hb d_Odds_placeOf_18 (by decide) (fun hc_295 => ?_) (fun hc_295 => ?_)
      · have _nhc_295 := hc_295
        have ni_296 := (fa_eq _ _).mp hc_295
        rw [li_0] at ni_296
        have hv_297 : zI x_294 0 0 := zI.eq_l hx_294 zc_0 hc_295
        obtain ⟨v_298, ev_298⟩ : ∃ z : Int32, z = y_286 + 1 := ⟨_, rfl⟩
        obtain ⟨qv_298, hv_298⟩ := zI_add (l := 1) (h := 20) hv_291 zc_1 ev_298 (by decide)
        rw [li_1] at qv_298
        refine lv_iinc (v := v_298) (lv' := [(3, .int v_298), (2, .int y_287), (0, .ref b0), (1, .int b1)]) hx hb d_Odds_placeOf_24 hl (k := 0) rfl (by rw [ev_298]; rfl) (by decide) rfl (fun ls hl => ?_)
        refine lv_goto (tgt := 4) hx hb d_Odds_placeOf_27 (by decide) ?_
        exact ihk_285 (v_298) (y_287) _ _ _ (zI.wk (l' := 0) (h' := 20) hv_298 (by decide)) (zm_up qv_298 hmk_285 (by decide)) hP hD hS (lv_sub hl [0, 1, 2, 3] rfl)
      · have _nhc_295 := hc_295
        have ni_299 : ¬ (x_294 : Int32).toInt = (0 : Int32).toInt := fun z => hc_295 ((fa_eq _ _).mpr z)
        simp only [li_0] at ni_299
        have hv_300 : zI x_294 1 1 := zI.ne_lo hx_294 zc_0 hc_295 (by decide)
        obtain ⟨v_301, ev_301⟩ : ∃ z : Int32, z = y_287 + 1 := ⟨_, rfl⟩
        refine lv_iinc (v := v_301) (lv' := [(2, .int v_301), (3, .int y_286), (0, .ref b0), (1, .int b1)]) hx hb d_Odds_placeOf_21 hl (k := 1) rfl (by rw [ev_301]; rfl) (by decide) rfl (fun ls hl => ?_)
        obtain ⟨v_302, ev_302⟩ : ∃ z : Int32, z = y_286 + 1 := ⟨_, rfl⟩
        obtain ⟨qv_302, hv_302⟩ := zI_add (l := 1) (h := 20) hv_291 zc_1 ev_302 (by decide)
        rw [li_1] at qv_302
        refine lv_iinc (v := v_302) (lv' := [(3, .int v_302), (2, .int v_301), (0, .ref b0), (1, .int b1)]) hx hb d_Odds_placeOf_24 hl (k := 1) rfl (by rw [ev_302]; rfl) (by decide) rfl (fun ls hl => ?_)
        refine lv_goto (tgt := 4) hx hb d_Odds_placeOf_27 (by decide) ?_
        exact ihk_285 (v_302) (v_301) _ _ _ (zI.wk (l' := 0) (h' := 20) hv_302 (by decide)) (zm_up qv_302 hmk_285 (by decide)) hP hD hS (lv_sub hl [0, 1, 2, 3] rfl)
theorem d_Odds_weigh_0 : decode prog_5_method_2_code 0 = .ok (.aload_n 0, 1) := by decide +kernel
theorem d_Odds_weigh_1 : decode prog_5_method_2_code 1 = .ok (.aload_n 1, 1) := by decide +kernel
theorem d_Odds_weigh_2 : decode prog_5_method_2_code 2 = .ok (.getfield 18, 3) := by decide +kernel
theorem d_Odds_weigh_5 : decode prog_5_method_2_code 5 = .ok (.putfield 24, 3) := by decide +kernel
theorem d_Odds_weigh_8 : decode prog_5_method_2_code 8 = .ok (.iconst 0, 1) := by decide +kernel
theorem d_Odds_weigh_9 : decode prog_5_method_2_code 9 = .ok (.istore 4, 2) := by decide +kernel
theorem d_Odds_weigh_11 : decode prog_5_method_2_code 11 = .ok (.iload 4, 2) := by decide +kernel
theorem d_Odds_weigh_13 : decode prog_5_method_2_code 13 = .ok (.aload_n 0, 1) := by decide +kernel
theorem d_Odds_weigh_14 : decode prog_5_method_2_code 14 = .ok (.getfield 24, 3) := by decide +kernel
theorem d_Odds_weigh_17 : decode prog_5_method_2_code 17 = .ok (.if_icmp .ge 72, 3) := by decide +kernel
theorem d_Odds_weigh_20 : decode prog_5_method_2_code 20 = .ok (.aload_n 0, 1) := by decide +kernel
theorem d_Odds_weigh_21 : decode prog_5_method_2_code 21 = .ok (.getfield 9, 3) := by decide +kernel
theorem d_Odds_weigh_24 : decode prog_5_method_2_code 24 = .ok (.iload 4, 2) := by decide +kernel
theorem d_Odds_weigh_26 : decode prog_5_method_2_code 26 = .ok (.sipush 999, 3) := by decide +kernel
theorem d_Odds_weigh_29 : decode prog_5_method_2_code 29 = .ok (.iastore, 1) := by decide +kernel
theorem d_Odds_weigh_30 : decode prog_5_method_2_code 30 = .ok (.aload_n 0, 1) := by decide +kernel
theorem d_Odds_weigh_31 : decode prog_5_method_2_code 31 = .ok (.getfield 15, 3) := by decide +kernel
theorem d_Odds_weigh_34 : decode prog_5_method_2_code 34 = .ok (.iload 4, 2) := by decide +kernel
theorem d_Odds_weigh_36 : decode prog_5_method_2_code 36 = .ok (.iconst 0, 1) := by decide +kernel
theorem d_Odds_weigh_37 : decode prog_5_method_2_code 37 = .ok (.iastore, 1) := by decide +kernel
theorem d_Odds_weigh_38 : decode prog_5_method_2_code 38 = .ok (.iconst 1, 1) := by decide +kernel
theorem d_Odds_weigh_39 : decode prog_5_method_2_code 39 = .ok (.istore 5, 2) := by decide +kernel
theorem d_Odds_weigh_41 : decode prog_5_method_2_code 41 = .ok (.iload 5, 2) := by decide +kernel
theorem d_Odds_weigh_43 : decode prog_5_method_2_code 43 = .ok (.aload_n 1, 1) := by decide +kernel
theorem d_Odds_weigh_44 : decode prog_5_method_2_code 44 = .ok (.getfield 25, 3) := by decide +kernel
theorem d_Odds_weigh_47 : decode prog_5_method_2_code 47 = .ok (.iload 4, 2) := by decide +kernel
theorem d_Odds_weigh_49 : decode prog_5_method_2_code 49 = .ok (.iaload, 1) := by decide +kernel
theorem d_Odds_weigh_50 : decode prog_5_method_2_code 50 = .ok (.if_icmp .gt 33, 3) := by decide +kernel
theorem d_Odds_weigh_53 : decode prog_5_method_2_code 53 = .ok (.aload_n 0, 1) := by decide +kernel
theorem d_Odds_weigh_54 : decode prog_5_method_2_code 54 = .ok (.iload 4, 2) := by decide +kernel
theorem d_Odds_weigh_56 : decode prog_5_method_2_code 56 = .ok (.aload_n 3, 1) := by decide +kernel
theorem d_Odds_weigh_57 : decode prog_5_method_2_code 57 = .ok (.getfield 28, 3) := by decide +kernel
theorem d_Odds_weigh_60 : decode prog_5_method_2_code 60 = .ok (.aload_n 3, 1) := by decide +kernel
theorem d_Odds_weigh_61 : decode prog_5_method_2_code 61 = .ok (.getfield 33, 3) := by decide +kernel
theorem d_Odds_weigh_64 : decode prog_5_method_2_code 64 = .ok (.aload_n 2, 1) := by decide +kernel
theorem d_Odds_weigh_65 : decode prog_5_method_2_code 65 = .ok (.iload 4, 2) := by decide +kernel
theorem d_Odds_weigh_67 : decode prog_5_method_2_code 67 = .ok (.iload 5, 2) := by decide +kernel
theorem d_Odds_weigh_69 : decode prog_5_method_2_code 69 = .ok (.invokevirtual 36, 3) := by decide +kernel
theorem d_Odds_weigh_72 : decode prog_5_method_2_code 72 = .ok (.iaload, 1) := by decide +kernel
theorem d_Odds_weigh_73 : decode prog_5_method_2_code 73 = .ok (.iaload, 1) := by decide +kernel
theorem d_Odds_weigh_74 : decode prog_5_method_2_code 74 = .ok (.invokevirtual 42, 3) := by decide +kernel
theorem d_Odds_weigh_77 : decode prog_5_method_2_code 77 = .ok (.iinc 5 1, 3) := by decide +kernel
theorem d_Odds_weigh_80 : decode prog_5_method_2_code 80 = .ok (.goto (-39), 3) := by decide +kernel
theorem d_Odds_weigh_83 : decode prog_5_method_2_code 83 = .ok (.iinc 4 1, 3) := by decide +kernel
theorem d_Odds_weigh_86 : decode prog_5_method_2_code 86 = .ok (.goto (-75), 3) := by decide +kernel
theorem d_Odds_weigh_89 : decode prog_5_method_2_code 89 = .ok (.return_, 1) := by decide +kernel
theorem d_Odds_meet_0 : decode prog_5_method_3_code 0 = .ok (.iload_n 2, 1) := by decide +kernel
theorem d_Odds_meet_1 : decode prog_5_method_3_code 1 = .ok (.aload_n 0, 1) := by decide +kernel
theorem d_Odds_meet_2 : decode prog_5_method_3_code 2 = .ok (.getfield 9, 3) := by decide +kernel
theorem d_Odds_meet_5 : decode prog_5_method_3_code 5 = .ok (.iload_n 1, 1) := by decide +kernel
theorem d_Odds_meet_6 : decode prog_5_method_3_code 6 = .ok (.iaload, 1) := by decide +kernel
theorem d_Odds_meet_7 : decode prog_5_method_3_code 7 = .ok (.if_icmp .ge 17, 3) := by decide +kernel
theorem d_Odds_meet_10 : decode prog_5_method_3_code 10 = .ok (.aload_n 0, 1) := by decide +kernel
theorem d_Odds_meet_11 : decode prog_5_method_3_code 11 = .ok (.getfield 9, 3) := by decide +kernel
theorem d_Odds_meet_14 : decode prog_5_method_3_code 14 = .ok (.iload_n 1, 1) := by decide +kernel
theorem d_Odds_meet_15 : decode prog_5_method_3_code 15 = .ok (.iload_n 2, 1) := by decide +kernel
theorem d_Odds_meet_16 : decode prog_5_method_3_code 16 = .ok (.iastore, 1) := by decide +kernel
theorem d_Odds_meet_17 : decode prog_5_method_3_code 17 = .ok (.aload_n 0, 1) := by decide +kernel
theorem d_Odds_meet_18 : decode prog_5_method_3_code 18 = .ok (.getfield 15, 3) := by decide +kernel
theorem d_Odds_meet_21 : decode prog_5_method_3_code 21 = .ok (.iload_n 1, 1) := by decide +kernel
theorem d_Odds_meet_22 : decode prog_5_method_3_code 22 = .ok (.iconst 0, 1) := by decide +kernel
theorem d_Odds_meet_23 : decode prog_5_method_3_code 23 = .ok (.iastore, 1) := by decide +kernel
theorem d_Odds_meet_24 : decode prog_5_method_3_code 24 = .ok (.iload_n 2, 1) := by decide +kernel
theorem d_Odds_meet_25 : decode prog_5_method_3_code 25 = .ok (.aload_n 0, 1) := by decide +kernel
theorem d_Odds_meet_26 : decode prog_5_method_3_code 26 = .ok (.getfield 9, 3) := by decide +kernel
theorem d_Odds_meet_29 : decode prog_5_method_3_code 29 = .ok (.iload_n 1, 1) := by decide +kernel
theorem d_Odds_meet_30 : decode prog_5_method_3_code 30 = .ok (.iaload, 1) := by decide +kernel
theorem d_Odds_meet_31 : decode prog_5_method_3_code 31 = .ok (.if_icmp .ne 13, 3) := by decide +kernel
theorem d_Odds_meet_34 : decode prog_5_method_3_code 34 = .ok (.aload_n 0, 1) := by decide +kernel
theorem d_Odds_meet_35 : decode prog_5_method_3_code 35 = .ok (.getfield 15, 3) := by decide +kernel
theorem d_Odds_meet_38 : decode prog_5_method_3_code 38 = .ok (.iload_n 1, 1) := by decide +kernel
theorem d_Odds_meet_39 : decode prog_5_method_3_code 39 = .ok (.dup2, 1) := by decide +kernel
theorem d_Odds_meet_40 : decode prog_5_method_3_code 40 = .ok (.iaload, 1) := by decide +kernel
theorem d_Odds_meet_41 : decode prog_5_method_3_code 41 = .ok (.iconst 1, 1) := by decide +kernel
theorem d_Odds_meet_42 : decode prog_5_method_3_code 42 = .ok (.iadd, 1) := by decide +kernel
theorem d_Odds_meet_43 : decode prog_5_method_3_code 43 = .ok (.iastore, 1) := by decide +kernel
theorem d_Odds_meet_44 : decode prog_5_method_3_code 44 = .ok (.return_, 1) := by decide +kernel
abbrev m_s7_Odds_meet : Room := { frames := 0, cells := 0, slots := 0, locals := 0 }
set_option maxHeartbeats 4000000 in
set_option maxRecDepth 100000 in
theorem s7_Odds_meet (l : Launch) (G : zG) (b0 : Nat) (b1 : Int32) (b2 : Int32) (b3 : Nat) (b4 : Nat) (b5 : Int32) (b6 : Nat → Int32) (b7 : Nat → Int32) (hb1 : zI b1 0 19) (hb5 : zI b5 0 20) : zM l G y_Odds_meet prog_5_method_3_code 3 (Option.none : Option Jvm.ClassFile.FieldType) m_s7_Odds_meet [.ref b0, .int b1, .int b2] [(b0, .inr (11, [.ref b3, .ref b4, .int b5])), (b3, .inl (G.2 0, 20, .inl b6)), (b4, .inl (G.2 0, 20, .inl b7))] (fun v w => ∃ (e0 : Nat → Int32), ∃ (e1 : Nat → Int32), v = none ∧ w = [(b0, .inr (11, [.ref b3, .ref b4, .int b5])), (b3, .inl (G.2 0, 20, .inl e0)), (b4, .inl (G.2 0, 20, .inl e1))]) := by
  refine z_start (by decide +kernel) (Nat.le_of_ble_eq_true rfl) ?_
  intro p e s m below meth c A Z hr hnm hA hP hD hS ls hl
  have Z : zC p s m _ meth c prog_5_method_3_code 3 "TraceMachines$Odds" G := Z
  obtain ⟨hx, hb, hml, hown, hts, hK, hN, hlocks⟩ := id Z
  have hl : lv_has ls 3 [(0, .ref b0), (1, .int b1), (2, .int b2)] := hl
  refine lv_iload_n hx hb d_Odds_meet_0 rfl (lv_at hl 2 rfl) ?_
  refine lv_aload_n hx hb d_Odds_meet_1 rfl (lv_at hl 0 rfl) ?_
  refine va_get (D := G.1) (ci := 11) (v := .ref b3) (C := R_Odds) (T := F_Odds) (N := 3) hx hb hts i_Odds hown hK hP 0 rfl rfl 0 (by decide) (hts _ q402) (fun _ h9 => h9) rfl d_Odds_meet_2 ?_
  refine lv_iload_n hx hb d_Odds_meet_5 rfl (lv_at hl 1 rfl) ?_
  refine va_iald hx hb hK hP 1 0 rfl rfl (zI.inn hb1 (by decide)) d_Odds_meet_6 ?_
  refine lv_topi (fun v_1 ev_1 => ?_)
  refine lv_icmp_ge (tgt := 24) hx hb d_Odds_meet_7 (by decide) (fun hc_2 => ?_) (fun hc_2 => ?_)
  · have _nhc_2 := hc_2
    have ni_3 := (fa_le _ _).mp hc_2
    refine lv_iload_n hx hb d_Odds_meet_24 rfl (lv_at hl 2 rfl) ?_
    refine lv_aload_n hx hb d_Odds_meet_25 rfl (lv_at hl 0 rfl) ?_
    refine va_get (D := G.1) (ci := 11) (v := .ref b3) (C := R_Odds) (T := F_Odds) (N := 3) hx hb hts i_Odds hown hK hP 0 rfl rfl 0 (by decide) (hts _ q402) (fun _ h9 => h9) rfl d_Odds_meet_26 ?_
    refine lv_iload_n hx hb d_Odds_meet_29 rfl (lv_at hl 1 rfl) ?_
    refine va_iald hx hb hK hP 1 0 rfl rfl (zI.inn hb1 (by decide)) d_Odds_meet_30 ?_
    refine lv_topi (fun v_4 ev_4 => ?_)
    obtain rfl : v_1 = v_4 := ev_1.trans ev_4.symm
    refine lv_icmp_ne (tgt := 44) hx hb d_Odds_meet_31 (by decide) (fun hc_5 => ?_) (fun hc_5 => ?_)
    · have _nhc_5 := hc_5
      have ni_6 : ¬ (b2 : Int32).toInt = (v_1 : Int32).toInt := fun z => hc_5 ((fa_eq _ _).mpr z)
      exact z_vret hx hb hr hlocks hP hD hS (Nat.le_of_ble_eq_true rfl) (Nat.le_of_ble_eq_true rfl) d_Odds_meet_44 ⟨b6, b7, rfl, rfl⟩
    · have _nhc_5 := hc_5
      have ni_7 := (fa_eq _ _).mp hc_5
      refine lv_aload_n hx hb d_Odds_meet_34 rfl (lv_at hl 0 rfl) ?_
      refine va_get (D := G.1) (ci := 11) (v := .ref b4) (C := R_Odds) (T := F_Odds) (N := 3) hx hb hts i_Odds hown hK hP 0 rfl rfl 1 (by decide) (hts _ q404) (fun _ h9 => h9) rfl d_Odds_meet_35 ?_
      refine lv_iload_n hx hb d_Odds_meet_38 rfl (lv_at hl 1 rfl) ?_
      refine lv_dup2_11 hx hb d_Odds_meet_39 rfl rfl ?_
      refine va_iald hx hb hK hP 2 0 rfl rfl (zI.inn hb1 (by decide)) d_Odds_meet_40 ?_
      refine lv_topi (fun v_8 ev_8 => ?_)
      refine lv_iconst (v := 1) hx hb d_Odds_meet_41 (by decide) ?_
      refine lv_iadd hx hb d_Odds_meet_42 ?_
      refine lv_topi (fun v_9 ev_9 => ?_)
      refine va_iast hx hb hK hP hD hS 2 0 rfl rfl (zI.inn hb1 (by decide)) d_Odds_meet_43 (fun H locs hP hD hS => ?_)
      obtain ⟨f_10, gf_10, uf_10, hP, hD⟩ := z_newFu 2 hP hD rfl
      have hP : va_P G.1 classes [(b0, .inr (11, [.ref b3, .ref b4, .int b5])), (b3, .inl (G.2 0, 20, .inl b6)), (b4, .inl (G.2 0, 20, .inl f_10))] H := hP
      have hD := z_tie hP hD rfl
      exact z_vret hx hb hr hlocks hP hD hS (Nat.le_of_ble_eq_true rfl) (Nat.le_of_ble_eq_true rfl) d_Odds_meet_44 ⟨b6, f_10, rfl, rfl⟩
  · have _nhc_2 := hc_2
    have ni_11 := (fa_lt _ _).mp (zi_nle hc_2)
    have hv_12 : zI b2 (-2147483648) 2147483646 := zI.lt_l (zI_all b2) (zI_all v_1) (zi_nle hc_2) (by decide)
    have hv_13 : zI v_1 (-2147483647) 2147483647 := zI.lt_r (zI_all b2) (zI_all v_1) (zi_nle hc_2) (by decide)
    refine lv_aload_n hx hb d_Odds_meet_10 rfl (lv_at hl 0 rfl) ?_
    refine va_get (D := G.1) (ci := 11) (v := .ref b3) (C := R_Odds) (T := F_Odds) (N := 3) hx hb hts i_Odds hown hK hP 0 rfl rfl 0 (by decide) (hts _ q402) (fun _ h9 => h9) rfl d_Odds_meet_11 ?_
    refine lv_iload_n hx hb d_Odds_meet_14 rfl (lv_at hl 1 rfl) ?_
    refine lv_iload_n hx hb d_Odds_meet_15 rfl (lv_at hl 2 rfl) ?_
    refine va_iast hx hb hK hP hD hS 1 0 rfl rfl (zI.inn hb1 (by decide)) d_Odds_meet_16 (fun H locs hP hD hS => ?_)
    obtain ⟨f_14, gf_14, uf_14, hP, hD⟩ := z_newFu 1 hP hD rfl
    have hP : va_P G.1 classes [(b0, .inr (11, [.ref b3, .ref b4, .int b5])), (b3, .inl (G.2 0, 20, .inl f_14)), (b4, .inl (G.2 0, 20, .inl b7))] H := hP
    have hD := z_tie hP hD rfl
    refine lv_aload_n hx hb d_Odds_meet_17 rfl (lv_at hl 0 rfl) ?_
    refine va_get (D := G.1) (ci := 11) (v := .ref b4) (C := R_Odds) (T := F_Odds) (N := 3) hx hb hts i_Odds hown hK hP 0 rfl rfl 1 (by decide) (hts _ q404) (fun _ h9 => h9) rfl d_Odds_meet_18 ?_
    refine lv_iload_n hx hb d_Odds_meet_21 rfl (lv_at hl 1 rfl) ?_
    refine lv_iconst (v := 0) hx hb d_Odds_meet_22 (by decide) ?_
    refine va_iast hx hb hK hP hD hS 2 0 rfl rfl (zI.inn hb1 (by decide)) d_Odds_meet_23 (fun H locs hP hD hS => ?_)
    obtain ⟨f_15, gf_15, uf_15, hP, hD⟩ := z_newFu 2 hP hD rfl
    have hP : va_P G.1 classes [(b0, .inr (11, [.ref b3, .ref b4, .int b5])), (b3, .inl (G.2 0, 20, .inl f_14)), (b4, .inl (G.2 0, 20, .inl f_15))] H := hP
    have hD := z_tie hP hD rfl
    refine lv_iload_n hx hb d_Odds_meet_24 rfl (lv_at hl 2 rfl) ?_
    refine lv_aload_n hx hb d_Odds_meet_25 rfl (lv_at hl 0 rfl) ?_
    refine va_get (D := G.1) (ci := 11) (v := .ref b3) (C := R_Odds) (T := F_Odds) (N := 3) hx hb hts i_Odds hown hK hP 0 rfl rfl 0 (by decide) (hts _ q402) (fun _ h9 => h9) rfl d_Odds_meet_26 ?_
    refine lv_iload_n hx hb d_Odds_meet_29 rfl (lv_at hl 1 rfl) ?_
    refine va_iald hx hb hK hP 1 0 rfl rfl (zI.inn hb1 (by decide)) d_Odds_meet_30 ?_
    refine lv_topi (fun v_16 ev_16 => ?_)
    obtain rfl : b2 = v_16 := gf_14.symm.trans ev_16.symm
    refine lv_icmp_ne (tgt := 44) hx hb d_Odds_meet_31 (by decide) (fun hc_17 => ?_) (fun hc_17 => ?_)
    · have _nhc_17 := hc_17
      have ni_18 : ¬ (b2 : Int32).toInt = (b2 : Int32).toInt := fun z => hc_17 ((fa_eq _ _).mpr z)
      exact z_vret hx hb hr hlocks hP hD hS (Nat.le_of_ble_eq_true rfl) (Nat.le_of_ble_eq_true rfl) d_Odds_meet_44 ⟨f_14, f_15, rfl, rfl⟩
    · have _nhc_17 := hc_17
      have ni_19 := (fa_eq _ _).mp hc_17
      refine lv_aload_n hx hb d_Odds_meet_34 rfl (lv_at hl 0 rfl) ?_
      refine va_get (D := G.1) (ci := 11) (v := .ref b4) (C := R_Odds) (T := F_Odds) (N := 3) hx hb hts i_Odds hown hK hP 0 rfl rfl 1 (by decide) (hts _ q404) (fun _ h9 => h9) rfl d_Odds_meet_35 ?_
      refine lv_iload_n hx hb d_Odds_meet_38 rfl (lv_at hl 1 rfl) ?_
      refine lv_dup2_11 hx hb d_Odds_meet_39 rfl rfl ?_
      refine va_iald hx hb hK hP 2 0 rfl rfl (zI.inn hb1 (by decide)) d_Odds_meet_40 ?_
      refine lv_topi (fun v_20 ev_20 => ?_)
      obtain rfl : v_20 = 0 := ev_20.trans gf_15
      refine lv_iconst (v := 1) hx hb d_Odds_meet_41 (by decide) ?_
      refine lv_iadd hx hb d_Odds_meet_42 ?_
      refine z_topi (y := 1) (by decide +kernel) ?_
      refine va_iast hx hb hK hP hD hS 2 0 rfl rfl (zI.inn hb1 (by decide)) d_Odds_meet_43 (fun H locs hP hD hS => ?_)
      obtain ⟨f_21, gf_21, uf_21, hP, hD⟩ := z_newFu 2 hP hD rfl
      have hP : va_P G.1 classes [(b0, .inr (11, [.ref b3, .ref b4, .int b5])), (b3, .inl (G.2 0, 20, .inl f_14)), (b4, .inl (G.2 0, 20, .inl f_21))] H := hP
      have hD := z_tie hP hD rfl
      exact z_vret hx hb hr hlocks hP hD hS (Nat.le_of_ble_eq_true rfl) (Nat.le_of_ble_eq_true rfl) d_Odds_meet_44 ⟨f_14, f_21, rfl, rfl⟩
abbrev m_s1_Odds_weigh : Room := { frames := 1, cells := 0, slots := 0, locals := 22 }
set_option maxHeartbeats 4000000 in
set_option maxRecDepth 100000 in
theorem s1_Odds_weigh (l : Launch) (G : zG) (b0 : Nat) (b1 : Nat) (b2 : Nat) (b3 : Nat) (b4 : Nat) (b5 : Nat) (b6 : Int32) (b7 : Nat → Int32) (b8 : Nat → Int32) (b9 : Int32) (b10 : Int32) (b11 : Int32) (b12 : Nat) (b13 : Nat) (b14 : Nat) (b15 : Nat → Int32) (b16 : Int32) (b17 : Int32) (b18 : Int32) (b19 : Nat) (b20 : Nat) (b21 : Nat) (b22 : Nat) (b23 : Nat) (b24 : Nat) (b25 : Nat) (b26 : Nat) (b27 : Nat → Int32) (b28 : Int32) (b29 : Int32) (b30 : Nat) (b31 : Nat) (b32 : Nat) (b33 : Nat) (b34 : Nat) (b35 : Nat) (b36 : Int32) (b37 : Nat) (b38 : Nat) (b39 : Nat) (b40 : Nat) (b41 : Nat) (b42 : Nat) (b43 : Nat → Int32) (b44 : Nat → Int32) (hb6 : zI b6 0 20) (hb9 : zI b9 0 20) (hb10 : zI b10 0 3) (hb11 : zI b11 0 20) (hb16 : zI b16 0 1) (hb18 : zI b18 0 241) (hb28 : zI b28 0 1) (hb29 : zI b29 0 241) (hb36 : zI b36 0 240) (hb15 : zR b15 0 12) (hb27 : zqa qP b27) (hb44 : zR b44 0 239) : zM l G y_Odds_weigh prog_5_method_2_code 6 (Option.none : Option Jvm.ClassFile.FieldType) m_s1_Odds_weigh [.ref b0, .ref b1, .ref b2, .ref b3] [(b0, .inr (11, [.ref b4, .ref b5, .int b6])), (b4, .inl (G.2 0, 20, .inl b7)), (b5, .inl (G.2 0, 20, .inl b8)), (b1, .inr (2, [.int b9, .int b10, .int b11, .ref b12, .ref b13, .ref b14])), (b12, .inl (G.2 0, 20, .inl b15)), (b2, .inr (3, [.int b16, .int b17, .int b18, .ref b19, .ref b20, .ref b21, .ref b22, .ref b23, .ref b24, .ref b25, .ref b26])), (b26, .inl (G.2 0, 260, .inl b27)), (b3, .inr (5, [.int b28, .int b29, .ref b30, .ref b31, .ref b32, .ref b33, .ref b34, .ref b35, .int b36, .ref b37, .ref b38, .ref b39, .ref b40, .ref b41, .ref b42])), (b38, .inl (G.2 0, 240, .inl b43)), (b42, .inl (G.2 0, 241, .inl b44))] (fun v w => ∃ (e0 : Nat → Int32), ∃ (e1 : Nat → Int32), v = none ∧ w = [(b0, .inr (11, [.ref b4, .ref b5, .int b9])), (b4, .inl (G.2 0, 20, .inl e0)), (b5, .inl (G.2 0, 20, .inl e1)), (b1, .inr (2, [.int b9, .int b10, .int b11, .ref b12, .ref b13, .ref b14])), (b12, .inl (G.2 0, 20, .inl b15)), (b2, .inr (3, [.int b16, .int b17, .int b18, .ref b19, .ref b20, .ref b21, .ref b22, .ref b23, .ref b24, .ref b25, .ref b26])), (b26, .inl (G.2 0, 260, .inl b27)), (b3, .inr (5, [.int b28, .int b29, .ref b30, .ref b31, .ref b32, .ref b33, .ref b34, .ref b35, .int b36, .ref b37, .ref b38, .ref b39, .ref b40, .ref b41, .ref b42])), (b38, .inl (G.2 0, 240, .inl b43)), (b42, .inl (G.2 0, 241, .inl b44))]) := by
  refine z_start (by decide +kernel) (Nat.le_of_ble_eq_true rfl) ?_
  intro p e s m below meth c A Z hr hnm hA hP hD hS ls hl
  have Z : zC p s m _ meth c prog_5_method_2_code 6 "TraceMachines$Odds" G := Z
  obtain ⟨hx, hb, hml, hown, hts, hK, hN, hlocks⟩ := id Z
  have hl : lv_has ls 6 [(0, .ref b0), (1, .ref b1), (2, .ref b2), (3, .ref b3)] := hl
  refine lv_aload_n hx hb d_Odds_weigh_0 rfl (lv_at hl 0 rfl) ?_
  refine lv_aload_n hx hb d_Odds_weigh_1 rfl (lv_at hl 1 rfl) ?_
  refine va_get (D := G.1) (ci := 2) (v := .int b9) (C := R_Traces) (T := F_Traces) (N := 6) hx hb hts i_Traces hown hK hP 3 rfl rfl 0 (by decide) (hts _ q53) (fun _ h9 => h9) rfl d_Odds_weigh_2 ?_
  refine va_put (D := G.1) (ci := 11) (v := .int b9) (ty := .int) (C := R_Odds) (T := F_Odds) (N := 3) hx hb hts i_Odds t_Odds t_Odds_ok n_Odds hown hK hP hD hS 0 rfl rfl 2 (by decide) (hts _ q406) (fun _ h9 => h9) rfl (by decide +kernel) rfl rfl (Nat.le_of_ble_eq_true rfl) d_Odds_weigh_5 (fun H locs hP hD hS => ?_)
  have hP : va_P G.1 classes [(b0, .inr (11, [.ref b4, .ref b5, .int b9])), (b4, .inl (G.2 0, 20, .inl b7)), (b5, .inl (G.2 0, 20, .inl b8)), (b1, .inr (2, [.int b9, .int b10, .int b11, .ref b12, .ref b13, .ref b14])), (b12, .inl (G.2 0, 20, .inl b15)), (b2, .inr (3, [.int b16, .int b17, .int b18, .ref b19, .ref b20, .ref b21, .ref b22, .ref b23, .ref b24, .ref b25, .ref b26])), (b26, .inl (G.2 0, 260, .inl b27)), (b3, .inr (5, [.int b28, .int b29, .ref b30, .ref b31, .ref b32, .ref b33, .ref b34, .ref b35, .int b36, .ref b37, .ref b38, .ref b39, .ref b40, .ref b41, .ref b42])), (b38, .inl (G.2 0, 240, .inl b43)), (b42, .inl (G.2 0, 241, .inl b44))] H := hP
  have hD := z_tie hP hD rfl
  refine lv_iconst (v := 0) hx hb d_Odds_weigh_8 (by decide) ?_
  refine lv_istore (lv' := [(4, .int 0), (0, .ref b0), (1, .ref b1), (2, .ref b2), (3, .ref b3)]) hx hb d_Odds_weigh_9 hl (by decide) rfl (fun ls hl => ?_)
  suffices key : ∀ (k_986 : Nat) (y_987 : Int32) (y_988 : Nat → Int32) (y_989 : Nat → Int32) (H : Heap) (locs : List Loc) (ls : Array Slot), (zI y_987 0 20) → (20 : Int) - y_987.toInt < (k_986 : Int) → va_P G.1 classes [(b0, .inr (11, [.ref b4, .ref b5, .int b9])), (b4, .inl (G.2 0, 20, .inl y_988)), (b5, .inl (G.2 0, 20, .inl y_989)), (b1, .inr (2, [.int b9, .int b10, .int b11, .ref b12, .ref b13, .ref b14])), (b12, .inl (G.2 0, 20, .inl b15)), (b2, .inr (3, [.int b16, .int b17, .int b18, .ref b19, .ref b20, .ref b21, .ref b22, .ref b23, .ref b24, .ref b25, .ref b26])), (b26, .inl (G.2 0, 260, .inl b27)), (b3, .inr (5, [.int b28, .int b29, .ref b30, .ref b31, .ref b32, .ref b33, .ref b34, .ref b35, .int b36, .ref b37, .ref b38, .ref b39, .ref b40, .ref b41, .ref b42])), (b38, .inl (G.2 0, 240, .inl b43)), (b42, .inl (G.2 0, 241, .inl b44))] H → va_D A [(b0, .inr (11, [.ref b4, .ref b5, .int b9])), (b4, .inl (G.2 0, 20, .inl y_988)), (b5, .inl (G.2 0, 20, .inl y_989)), (b1, .inr (2, [.int b9, .int b10, .int b11, .ref b12, .ref b13, .ref b14])), (b12, .inl (G.2 0, 20, .inl b15)), (b2, .inr (3, [.int b16, .int b17, .int b18, .ref b19, .ref b20, .ref b21, .ref b22, .ref b23, .ref b24, .ref b25, .ref b26])), (b26, .inl (G.2 0, 260, .inl b27)), (b3, .inr (5, [.int b28, .int b29, .ref b30, .ref b31, .ref b32, .ref b33, .ref b34, .ref b35, .int b36, .ref b37, .ref b38, .ref b39, .ref b40, .ref b41, .ref b42])), (b38, .inl (G.2 0, 240, .inl b43)), (b42, .inl (G.2 0, 241, .inl b44))] → va_S A s.heap H locs → lv_has ls 6 [(4, .int y_987), (0, .ref b0), (1, .ref b1), (2, .ref b2), (3, .ref b3)] → W p l e m_s1_Odds_weigh s m ([.ref b0, .ref b1, .ref b2, .ref b3] : List Value).toArray below meth c H locs 0 0 (MQ below (zQ G (fun v w => ∃ (e0 : Nat → Int32), ∃ (e1 : Nat → Int32), v = none ∧ w = [(b0, .inr (11, [.ref b4, .ref b5, .int b9])), (b4, .inl (G.2 0, 20, .inl e0)), (b5, .inl (G.2 0, 20, .inl e1)), (b1, .inr (2, [.int b9, .int b10, .int b11, .ref b12, .ref b13, .ref b14])), (b12, .inl (G.2 0, 20, .inl b15)), (b2, .inr (3, [.int b16, .int b17, .int b18, .ref b19, .ref b20, .ref b21, .ref b22, .ref b23, .ref b24, .ref b25, .ref b26])), (b26, .inl (G.2 0, 260, .inl b27)), (b3, .inr (5, [.int b28, .int b29, .ref b30, .ref b31, .ref b32, .ref b33, .ref b34, .ref b35, .int b36, .ref b37, .ref b38, .ref b39, .ref b40, .ref b41, .ref b42])), (b38, .inl (G.2 0, 240, .inl b43)), (b42, .inl (G.2 0, 241, .inl b44))]) A) ([.ref b0, .ref b1, .ref b2, .ref b3] : List Value).toArray s m_s1_Odds_weigh.cells m_s1_Odds_weigh.slots A) (F0 m 11 ls []) by
    exact key 21 (0) (b7) (b8) _ _ _ (zI.wk (l' := 0) (h' := 20) zc_0 (by decide)) (zm_upi (zI.wk (l' := 0) (h' := 20) zc_0 (by decide)) (by decide)) hP hD hS (lv_sub hl [0, 1, 2, 3, 4] rfl)
  intro k_986
  induction k_986 with
  | zero =>
    intro y_987 y_988 y_989 H locs ls hy_987 hmk_986 hP hD hS hl
    exact (zm_up0 hy_987 hmk_986).elim
  | succ k_986 ihk_986 =>
    intro y_987 y_988 y_989 H locs ls hy_987 hmk_986 hP hD hS hl
    refine lv_iload hx hb d_Odds_weigh_11 (lv_at hl 0 rfl) ?_
    refine lv_aload_n hx hb d_Odds_weigh_13 rfl (lv_at hl 1 rfl) ?_
    refine va_get (D := G.1) (ci := 11) (v := .int b9) (C := R_Odds) (T := F_Odds) (N := 3) hx hb hts i_Odds hown hK hP 0 rfl rfl 2 (by decide) (hts _ q406) (fun _ h9 => h9) rfl d_Odds_weigh_14 ?_
    refine lv_icmp_ge (tgt := 89) hx hb d_Odds_weigh_17 (by decide) (fun hc_990 => ?_) (fun hc_990 => ?_)
    · have _nhc_990 := hc_990
      have ni_991 := (fa_le _ _).mp hc_990
      exact z_vret hx hb hr hlocks hP hD hS (Nat.le_of_ble_eq_true rfl) (Nat.le_of_ble_eq_true rfl) d_Odds_weigh_89 ⟨y_988, y_989, rfl, rfl⟩
    · have _nhc_990 := hc_990
      have ni_992 := (fa_lt _ _).mp (zi_nle hc_990)
      have hv_993 : zI y_987 0 19 := zI.lt_l hy_987 hb9 (zi_nle hc_990) (by decide)
      have hv_994 : zI b9 1 20 := zI.lt_r hy_987 hb9 (zi_nle hc_990) (by decide)
      refine lv_aload_n hx hb d_Odds_weigh_20 rfl (lv_at hl 1 rfl) ?_
      refine va_get (D := G.1) (ci := 11) (v := .ref b4) (C := R_Odds) (T := F_Odds) (N := 3) hx hb hts i_Odds hown hK hP 0 rfl rfl 0 (by decide) (hts _ q402) (fun _ h9 => h9) rfl d_Odds_weigh_21 ?_
      refine lv_iload hx hb d_Odds_weigh_24 (lv_at hl 0 rfl) ?_
      refine lv_sipush (v := 999) hx hb d_Odds_weigh_26 (by decide) ?_
      refine va_iast hx hb hK hP hD hS 1 0 rfl rfl (zI.inn hv_993 (by decide)) d_Odds_weigh_29 (fun H locs hP hD hS => ?_)
      obtain ⟨f_995, gf_995, uf_995, hP, hD⟩ := z_newFu 1 hP hD rfl
      have hP : va_P G.1 classes [(b0, .inr (11, [.ref b4, .ref b5, .int b9])), (b4, .inl (G.2 0, 20, .inl f_995)), (b5, .inl (G.2 0, 20, .inl y_989)), (b1, .inr (2, [.int b9, .int b10, .int b11, .ref b12, .ref b13, .ref b14])), (b12, .inl (G.2 0, 20, .inl b15)), (b2, .inr (3, [.int b16, .int b17, .int b18, .ref b19, .ref b20, .ref b21, .ref b22, .ref b23, .ref b24, .ref b25, .ref b26])), (b26, .inl (G.2 0, 260, .inl b27)), (b3, .inr (5, [.int b28, .int b29, .ref b30, .ref b31, .ref b32, .ref b33, .ref b34, .ref b35, .int b36, .ref b37, .ref b38, .ref b39, .ref b40, .ref b41, .ref b42])), (b38, .inl (G.2 0, 240, .inl b43)), (b42, .inl (G.2 0, 241, .inl b44))] H := hP
      have hD := z_tie hP hD rfl
      refine lv_aload_n hx hb d_Odds_weigh_30 rfl (lv_at hl 1 rfl) ?_
      refine va_get (D := G.1) (ci := 11) (v := .ref b5) (C := R_Odds) (T := F_Odds) (N := 3) hx hb hts i_Odds hown hK hP 0 rfl rfl 1 (by decide) (hts _ q404) (fun _ h9 => h9) rfl d_Odds_weigh_31 ?_
      refine lv_iload hx hb d_Odds_weigh_34 (lv_at hl 0 rfl) ?_
      refine lv_iconst (v := 0) hx hb d_Odds_weigh_36 (by decide) ?_
      refine va_iast hx hb hK hP hD hS 2 0 rfl rfl (zI.inn hv_993 (by decide)) d_Odds_weigh_37 (fun H locs hP hD hS => ?_)
      obtain ⟨f_996, gf_996, uf_996, hP, hD⟩ := z_newFu 2 hP hD rfl
      have hP : va_P G.1 classes [(b0, .inr (11, [.ref b4, .ref b5, .int b9])), (b4, .inl (G.2 0, 20, .inl f_995)), (b5, .inl (G.2 0, 20, .inl f_996)), (b1, .inr (2, [.int b9, .int b10, .int b11, .ref b12, .ref b13, .ref b14])), (b12, .inl (G.2 0, 20, .inl b15)), (b2, .inr (3, [.int b16, .int b17, .int b18, .ref b19, .ref b20, .ref b21, .ref b22, .ref b23, .ref b24, .ref b25, .ref b26])), (b26, .inl (G.2 0, 260, .inl b27)), (b3, .inr (5, [.int b28, .int b29, .ref b30, .ref b31, .ref b32, .ref b33, .ref b34, .ref b35, .int b36, .ref b37, .ref b38, .ref b39, .ref b40, .ref b41, .ref b42])), (b38, .inl (G.2 0, 240, .inl b43)), (b42, .inl (G.2 0, 241, .inl b44))] H := hP
      have hD := z_tie hP hD rfl
      refine lv_iconst (v := 1) hx hb d_Odds_weigh_38 (by decide) ?_
      refine lv_istore (lv' := [(5, .int 1), (4, .int y_987), (0, .ref b0), (1, .ref b1), (2, .ref b2), (3, .ref b3)]) hx hb d_Odds_weigh_39 hl (by decide) rfl (fun ls hl => ?_)
      suffices key : ∀ (k_1133 : Nat) (y_1134 : Int32) (y_1135 : Nat → Int32) (y_1136 : Nat → Int32) (H : Heap) (locs : List Loc) (ls : Array Slot), (zI y_1134 1 13) → (13 : Int) - y_1134.toInt < (k_1133 : Int) → va_P G.1 classes [(b0, .inr (11, [.ref b4, .ref b5, .int b9])), (b4, .inl (G.2 0, 20, .inl y_1135)), (b5, .inl (G.2 0, 20, .inl y_1136)), (b1, .inr (2, [.int b9, .int b10, .int b11, .ref b12, .ref b13, .ref b14])), (b12, .inl (G.2 0, 20, .inl b15)), (b2, .inr (3, [.int b16, .int b17, .int b18, .ref b19, .ref b20, .ref b21, .ref b22, .ref b23, .ref b24, .ref b25, .ref b26])), (b26, .inl (G.2 0, 260, .inl b27)), (b3, .inr (5, [.int b28, .int b29, .ref b30, .ref b31, .ref b32, .ref b33, .ref b34, .ref b35, .int b36, .ref b37, .ref b38, .ref b39, .ref b40, .ref b41, .ref b42])), (b38, .inl (G.2 0, 240, .inl b43)), (b42, .inl (G.2 0, 241, .inl b44))] H → va_D A [(b0, .inr (11, [.ref b4, .ref b5, .int b9])), (b4, .inl (G.2 0, 20, .inl y_1135)), (b5, .inl (G.2 0, 20, .inl y_1136)), (b1, .inr (2, [.int b9, .int b10, .int b11, .ref b12, .ref b13, .ref b14])), (b12, .inl (G.2 0, 20, .inl b15)), (b2, .inr (3, [.int b16, .int b17, .int b18, .ref b19, .ref b20, .ref b21, .ref b22, .ref b23, .ref b24, .ref b25, .ref b26])), (b26, .inl (G.2 0, 260, .inl b27)), (b3, .inr (5, [.int b28, .int b29, .ref b30, .ref b31, .ref b32, .ref b33, .ref b34, .ref b35, .int b36, .ref b37, .ref b38, .ref b39, .ref b40, .ref b41, .ref b42])), (b38, .inl (G.2 0, 240, .inl b43)), (b42, .inl (G.2 0, 241, .inl b44))] → va_S A s.heap H locs → lv_has ls 6 [(5, .int y_1134), (4, .int y_987), (0, .ref b0), (1, .ref b1), (2, .ref b2), (3, .ref b3)] → W p l e m_s1_Odds_weigh s m ([.ref b0, .ref b1, .ref b2, .ref b3] : List Value).toArray below meth c H locs 0 0 (MQ below (zQ G (fun v w => ∃ (e0 : Nat → Int32), ∃ (e1 : Nat → Int32), v = none ∧ w = [(b0, .inr (11, [.ref b4, .ref b5, .int b9])), (b4, .inl (G.2 0, 20, .inl e0)), (b5, .inl (G.2 0, 20, .inl e1)), (b1, .inr (2, [.int b9, .int b10, .int b11, .ref b12, .ref b13, .ref b14])), (b12, .inl (G.2 0, 20, .inl b15)), (b2, .inr (3, [.int b16, .int b17, .int b18, .ref b19, .ref b20, .ref b21, .ref b22, .ref b23, .ref b24, .ref b25, .ref b26])), (b26, .inl (G.2 0, 260, .inl b27)), (b3, .inr (5, [.int b28, .int b29, .ref b30, .ref b31, .ref b32, .ref b33, .ref b34, .ref b35, .int b36, .ref b37, .ref b38, .ref b39, .ref b40, .ref b41, .ref b42])), (b38, .inl (G.2 0, 240, .inl b43)), (b42, .inl (G.2 0, 241, .inl b44))]) A) ([.ref b0, .ref b1, .ref b2, .ref b3] : List Value).toArray s m_s1_Odds_weigh.cells m_s1_Odds_weigh.slots A) (F0 m 41 ls []) by
        exact key 13 (1) (f_995) (f_996) _ _ _ (zI.wk (l' := 1) (h' := 13) zc_1 (by decide)) (zm_upi (zI.wk (l' := 1) (h' := 13) zc_1 (by decide)) (by decide)) hP hD hS (lv_sub hl [0, 1, 2, 3, 4, 5] rfl)
      intro k_1133
      induction k_1133 with
      | zero =>
        intro y_1134 y_1135 y_1136 H locs ls hy_1134 hmk_1133 hP hD hS hl
        exact (zm_up0 hy_1134 hmk_1133).elim
      | succ k_1133 ihk_1133 =>
        intro y_1134 y_1135 y_1136 H locs ls hy_1134 hmk_1133 hP hD hS hl
        refine lv_iload hx hb d_Odds_weigh_41 (lv_at hl 0 rfl) ?_
        refine lv_aload_n hx hb d_Odds_weigh_43 rfl (lv_at hl 3 rfl) ?_
        refine va_get (D := G.1) (ci := 2) (v := .ref b12) (C := R_Traces) (T := F_Traces) (N := 6) hx hb hts i_Traces hown hK hP 3 rfl rfl 3 (by decide) (hts _ q64) (fun _ h9 => h9) rfl d_Odds_weigh_44 ?_
        refine lv_iload hx hb d_Odds_weigh_47 (lv_at hl 1 rfl) ?_
        refine va_iald hx hb hK hP 4 0 rfl rfl (zI.inn hv_993 (by decide)) d_Odds_weigh_49 ?_
        refine lv_topi (fun v_1137 ev_1137 => ?_)
        have hv_1137 : zI v_1137 0 12 := (hb15 _).eq ev_1137
        refine lv_icmp_gt (tgt := 83) hx hb d_Odds_weigh_50 (by decide) (fun hc_1138 => ?_) (fun hc_1138 => ?_)
        · have _nhc_1138 := hc_1138
          have ni_1139 := (fa_lt _ _).mp hc_1138
          obtain ⟨v_1140, ev_1140⟩ : ∃ z : Int32, z = y_987 + 1 := ⟨_, rfl⟩
          obtain ⟨qv_1140, hv_1140⟩ := zI_add (l := 1) (h := 20) hv_993 zc_1 ev_1140 (by decide)
          rw [li_1] at qv_1140
          refine lv_iinc (v := v_1140) (lv' := [(4, .int v_1140), (5, .int y_1134), (0, .ref b0), (1, .ref b1), (2, .ref b2), (3, .ref b3)]) hx hb d_Odds_weigh_83 hl (k := 1) rfl (by rw [ev_1140]; rfl) (by decide) rfl (fun ls hl => ?_)
          refine lv_goto (tgt := 11) hx hb d_Odds_weigh_86 (by decide) ?_
          exact ihk_986 (v_1140) (y_1135) (y_1136) _ _ _ (zI.wk (l' := 0) (h' := 20) hv_1140 (by decide)) (zm_up qv_1140 hmk_986 (by decide)) hP hD hS (lv_sub hl [0, 2, 3, 4, 5] rfl)
        · have _nhc_1138 := hc_1138
          have ni_1141 := (fa_le _ _).mp (zi_nlt hc_1138)
          have hv_1142 : zI y_1134 1 12 := zI.le_l hy_1134 hv_1137 (zi_nlt hc_1138) (by decide)
          have hv_1143 : zI v_1137 1 12 := zI.le_r hy_1134 hv_1137 (zi_nlt hc_1138) (by decide)
          refine lv_aload_n hx hb d_Odds_weigh_53 rfl (lv_at hl 2 rfl) ?_
          refine lv_iload hx hb d_Odds_weigh_54 (lv_at hl 1 rfl) ?_
          refine lv_aload_n hx hb d_Odds_weigh_56 rfl (lv_at hl 5 rfl) ?_
          refine va_get (D := G.1) (ci := 5) (v := .ref b38) (C := R_Machine) (T := F_Machine) (N := 15) hx hb hts i_Machine hown hK hP 7 rfl rfl 10 (by decide) (hts _ q188) (fun _ h9 => h9) rfl d_Odds_weigh_57 ?_
          refine lv_aload_n hx hb d_Odds_weigh_60 rfl (lv_at hl 5 rfl) ?_
          refine va_get (D := G.1) (ci := 5) (v := .ref b42) (C := R_Machine) (T := F_Machine) (N := 15) hx hb hts i_Machine hown hK hP 7 rfl rfl 14 (by decide) (hts _ q199) (fun _ h9 => h9) rfl d_Odds_weigh_61 ?_
          refine lv_aload_n hx hb d_Odds_weigh_64 rfl (lv_at hl 4 rfl) ?_
          refine lv_iload hx hb d_Odds_weigh_65 (lv_at hl 1 rfl) ?_
          refine lv_iload hx hb d_Odds_weigh_67 (lv_at hl 0 rfl) ?_
          refine z_callV (index := 36) (As := [.int y_987, .int y_1134]) (rest := [.ref b42, .ref b38, .int y_987, .ref b0]) (wr := [(b0, .inr (11, [.ref b4, .ref b5, .int b9])), (b4, .inl (G.2 0, 20, .inl y_1135)), (b5, .inl (G.2 0, 20, .inl y_1136)), (b1, .inr (2, [.int b9, .int b10, .int b11, .ref b12, .ref b13, .ref b14])), (b12, .inl (G.2 0, 20, .inl b15)), (b3, .inr (5, [.int b28, .int b29, .ref b30, .ref b31, .ref b32, .ref b33, .ref b34, .ref b35, .int b36, .ref b37, .ref b38, .ref b39, .ref b40, .ref b41, .ref b42])), (b38, .inl (G.2 0, 240, .inl b43)), (b42, .inl (G.2 0, 241, .inl b44))]) Z (s1_Tree_prefixAt l G (b2) (y_987) (y_1134) (b16) (b17) (b18) (b19) (b20) (b21) (b22) (b23) (b24) (b25) (b26) (b27) hv_993 (zI.wk (l' := 0) (h' := 12) hv_1142 (by decide)) hb16 hb18 hb27) hl.1 q965 q607 q608 q4 q609 ⟨by decide, by decide, by show _ = some 2; decide +kernel⟩ ⟨Nat.le_of_ble_eq_true rfl, Nat.le_of_ble_eq_true rfl⟩ ⟨Nat.le_of_ble_eq_true rfl, Nat.le_of_ble_eq_true rfl⟩ rfl (Nat.le_of_ble_eq_true rfl) d_Odds_weigh_69 hP hD hS hA 5 3 rfl rfl rfl [5, 6] [0, 1, 2, 3, 4, 7, 8, 9] rfl rfl rfl rfl (by decide) (fun v w1 H locs hw_1144 hP hD hS => ?_)
          obtain ⟨x_1145, rfl, rfl, hx_1145, hfx_1146, hfx_1147⟩ := hw_1144
          have hP : va_P G.1 classes [(b0, .inr (11, [.ref b4, .ref b5, .int b9])), (b4, .inl (G.2 0, 20, .inl y_1135)), (b5, .inl (G.2 0, 20, .inl y_1136)), (b1, .inr (2, [.int b9, .int b10, .int b11, .ref b12, .ref b13, .ref b14])), (b12, .inl (G.2 0, 20, .inl b15)), (b3, .inr (5, [.int b28, .int b29, .ref b30, .ref b31, .ref b32, .ref b33, .ref b34, .ref b35, .int b36, .ref b37, .ref b38, .ref b39, .ref b40, .ref b41, .ref b42])), (b38, .inl (G.2 0, 240, .inl b43)), (b42, .inl (G.2 0, 241, .inl b44)), (b2, .inr (3, [.int b16, .int b17, .int b18, .ref b19, .ref b20, .ref b21, .ref b22, .ref b23, .ref b24, .ref b25, .ref b26])), (b26, .inl (G.2 0, 260, .inl b27))] H := hP
          have hD := z_tie hP hD rfl
          refine W.widen (k := 0) (n := 0) (Nat.le_of_ble_eq_true rfl) (Nat.le_of_ble_eq_true rfl) ?_
          refine va_iald hx hb hK hP 7 0 rfl rfl (zI.inn hx_1145 (by decide)) d_Odds_weigh_72 ?_
          refine lv_topi (fun v_1148 ev_1148 => ?_)
          have hv_1148 : zI v_1148 0 239 := (hb44 _).eq ev_1148
          refine va_iald hx hb hK hP 6 0 rfl rfl (zI.inn hv_1148 (by decide)) d_Odds_weigh_73 ?_
          refine lv_topi (fun v_1149 ev_1149 => ?_)
          refine z_callV (index := 42) (As := [.int y_987, .int v_1149]) (rest := []) (wr := [(b1, .inr (2, [.int b9, .int b10, .int b11, .ref b12, .ref b13, .ref b14])), (b12, .inl (G.2 0, 20, .inl b15)), (b3, .inr (5, [.int b28, .int b29, .ref b30, .ref b31, .ref b32, .ref b33, .ref b34, .ref b35, .int b36, .ref b37, .ref b38, .ref b39, .ref b40, .ref b41, .ref b42])), (b38, .inl (G.2 0, 240, .inl b43)), (b42, .inl (G.2 0, 241, .inl b44)), (b2, .inr (3, [.int b16, .int b17, .int b18, .ref b19, .ref b20, .ref b21, .ref b22, .ref b23, .ref b24, .ref b25, .ref b26])), (b26, .inl (G.2 0, 260, .inl b27))]) Z (s7_Odds_meet l G (b0) (y_987) (v_1149) (b4) (b5) (b9) (y_1135) (y_1136) hv_993 (zI.wk (l' := 0) (h' := 20) hv_994 (by decide))) hl.1 q966 q968 qs38 q12 q969 ⟨by decide, by decide, by show _ = some 2; decide +kernel⟩ ⟨Nat.le_of_ble_eq_true rfl, Nat.le_of_ble_eq_true rfl⟩ ⟨Nat.le_of_ble_eq_true rfl, Nat.le_of_ble_eq_true rfl⟩ rfl (Nat.le_of_ble_eq_true rfl) d_Odds_weigh_74 hP hD hS hA 0 11 rfl rfl rfl [0, 1, 2] [3, 4, 5, 6, 7, 8, 9] rfl rfl rfl rfl (by decide) (fun v w1 H locs hw_1150 hP hD hS => ?_)
          obtain ⟨f_1151, f_1152, rfl, rfl⟩ := hw_1150
          have hP : va_P G.1 classes [(b1, .inr (2, [.int b9, .int b10, .int b11, .ref b12, .ref b13, .ref b14])), (b12, .inl (G.2 0, 20, .inl b15)), (b3, .inr (5, [.int b28, .int b29, .ref b30, .ref b31, .ref b32, .ref b33, .ref b34, .ref b35, .int b36, .ref b37, .ref b38, .ref b39, .ref b40, .ref b41, .ref b42])), (b38, .inl (G.2 0, 240, .inl b43)), (b42, .inl (G.2 0, 241, .inl b44)), (b2, .inr (3, [.int b16, .int b17, .int b18, .ref b19, .ref b20, .ref b21, .ref b22, .ref b23, .ref b24, .ref b25, .ref b26])), (b26, .inl (G.2 0, 260, .inl b27)), (b0, .inr (11, [.ref b4, .ref b5, .int b9])), (b4, .inl (G.2 0, 20, .inl f_1151)), (b5, .inl (G.2 0, 20, .inl f_1152))] H := hP
          have hD := z_tie hP hD rfl
          refine W.widen (k := 0) (n := 0) (Nat.le_of_ble_eq_true rfl) (Nat.le_of_ble_eq_true rfl) ?_
          obtain ⟨v_1153, ev_1153⟩ : ∃ z : Int32, z = y_1134 + 1 := ⟨_, rfl⟩
          obtain ⟨qv_1153, hv_1153⟩ := zI_add (l := 2) (h := 13) hv_1142 zc_1 ev_1153 (by decide)
          rw [li_1] at qv_1153
          refine lv_iinc (v := v_1153) (lv' := [(5, .int v_1153), (4, .int y_987), (0, .ref b0), (1, .ref b1), (2, .ref b2), (3, .ref b3)]) hx hb d_Odds_weigh_77 hl (k := 0) rfl (by rw [ev_1153]; rfl) (by decide) rfl (fun ls hl => ?_)
          refine lv_goto (tgt := 41) hx hb d_Odds_weigh_80 (by decide) ?_
          exact ihk_1133 (v_1153) (f_1151) (f_1152) _ _ _ (zI.wk (l' := 1) (h' := 13) hv_1153 (by decide)) (zm_up qv_1153 hmk_1133 (by decide)) (hP.sub [7, 8, 9, 0, 1, 5, 6, 2, 3, 4] rfl) (hD.sub [7, 8, 9, 0, 1, 5, 6, 2, 3, 4] (by decide) rfl) hS (lv_sub hl [0, 1, 2, 3, 4, 5] rfl)
theorem d_Cover_gather_0 : decode prog_2_method_3_code 0 = .ok (.aload_n 0, 1) := by decide +kernel
theorem d_Cover_gather_1 : decode prog_2_method_3_code 1 = .ok (.aload_n 3, 1) := by decide +kernel
theorem d_Cover_gather_2 : decode prog_2_method_3_code 2 = .ok (.getfield 42, 3) := by decide +kernel
theorem d_Cover_gather_5 : decode prog_2_method_3_code 5 = .ok (.putfield 47, 3) := by decide +kernel
theorem d_Cover_gather_8 : decode prog_2_method_3_code 8 = .ok (.aload_n 0, 1) := by decide +kernel
theorem d_Cover_gather_9 : decode prog_2_method_3_code 9 = .ok (.getfield 9, 3) := by decide +kernel
theorem d_Cover_gather_12 : decode prog_2_method_3_code 12 = .ok (.iconst 0, 1) := by decide +kernel
theorem d_Cover_gather_13 : decode prog_2_method_3_code 13 = .ok (.invokestatic 48, 3) := by decide +kernel
theorem d_Cover_gather_16 : decode prog_2_method_3_code 16 = .ok (.iconst 0, 1) := by decide +kernel
theorem d_Cover_gather_17 : decode prog_2_method_3_code 17 = .ok (.istore 4, 2) := by decide +kernel
theorem d_Cover_gather_19 : decode prog_2_method_3_code 19 = .ok (.iload 4, 2) := by decide +kernel
theorem d_Cover_gather_21 : decode prog_2_method_3_code 21 = .ok (.aload_n 1, 1) := by decide +kernel
theorem d_Cover_gather_22 : decode prog_2_method_3_code 22 = .ok (.getfield 26, 3) := by decide +kernel
theorem d_Cover_gather_25 : decode prog_2_method_3_code 25 = .ok (.if_icmp .ge 55, 3) := by decide +kernel
theorem d_Cover_gather_28 : decode prog_2_method_3_code 28 = .ok (.iconst 1, 1) := by decide +kernel
theorem d_Cover_gather_29 : decode prog_2_method_3_code 29 = .ok (.istore 5, 2) := by decide +kernel
theorem d_Cover_gather_31 : decode prog_2_method_3_code 31 = .ok (.iload 5, 2) := by decide +kernel
theorem d_Cover_gather_33 : decode prog_2_method_3_code 33 = .ok (.aload_n 1, 1) := by decide +kernel
theorem d_Cover_gather_34 : decode prog_2_method_3_code 34 = .ok (.getfield 54, 3) := by decide +kernel
theorem d_Cover_gather_37 : decode prog_2_method_3_code 37 = .ok (.iload 4, 2) := by decide +kernel
theorem d_Cover_gather_39 : decode prog_2_method_3_code 39 = .ok (.iaload, 1) := by decide +kernel
theorem d_Cover_gather_40 : decode prog_2_method_3_code 40 = .ok (.if_icmp .gt 34, 3) := by decide +kernel
theorem d_Cover_gather_43 : decode prog_2_method_3_code 43 = .ok (.aload_n 0, 1) := by decide +kernel
theorem d_Cover_gather_44 : decode prog_2_method_3_code 44 = .ok (.getfield 9, 3) := by decide +kernel
theorem d_Cover_gather_47 : decode prog_2_method_3_code 47 = .ok (.aload_n 3, 1) := by decide +kernel
theorem d_Cover_gather_48 : decode prog_2_method_3_code 48 = .ok (.getfield 57, 3) := by decide +kernel
theorem d_Cover_gather_51 : decode prog_2_method_3_code 51 = .ok (.aload_n 2, 1) := by decide +kernel
theorem d_Cover_gather_52 : decode prog_2_method_3_code 52 = .ok (.iload 4, 2) := by decide +kernel
theorem d_Cover_gather_54 : decode prog_2_method_3_code 54 = .ok (.iload 5, 2) := by decide +kernel
theorem d_Cover_gather_56 : decode prog_2_method_3_code 56 = .ok (.invokevirtual 60, 3) := by decide +kernel
theorem d_Cover_gather_59 : decode prog_2_method_3_code 59 = .ok (.iaload, 1) := by decide +kernel
theorem d_Cover_gather_60 : decode prog_2_method_3_code 60 = .ok (.dup2, 1) := by decide +kernel
theorem d_Cover_gather_61 : decode prog_2_method_3_code 61 = .ok (.iaload, 1) := by decide +kernel
theorem d_Cover_gather_62 : decode prog_2_method_3_code 62 = .ok (.iconst 1, 1) := by decide +kernel
theorem d_Cover_gather_63 : decode prog_2_method_3_code 63 = .ok (.iload 4, 2) := by decide +kernel
theorem d_Cover_gather_65 : decode prog_2_method_3_code 65 = .ok (.ishl, 1) := by decide +kernel
theorem d_Cover_gather_66 : decode prog_2_method_3_code 66 = .ok (.ior, 1) := by decide +kernel
theorem d_Cover_gather_67 : decode prog_2_method_3_code 67 = .ok (.iastore, 1) := by decide +kernel
theorem d_Cover_gather_68 : decode prog_2_method_3_code 68 = .ok (.iinc 5 1, 3) := by decide +kernel
theorem d_Cover_gather_71 : decode prog_2_method_3_code 71 = .ok (.goto (-40), 3) := by decide +kernel
theorem d_Cover_gather_74 : decode prog_2_method_3_code 74 = .ok (.iinc 4 1, 3) := by decide +kernel
theorem d_Cover_gather_77 : decode prog_2_method_3_code 77 = .ok (.goto (-58), 3) := by decide +kernel
theorem d_Cover_gather_80 : decode prog_2_method_3_code 80 = .ok (.return_, 1) := by decide +kernel
abbrev m_s1_Cover_gather : Room := { frames := 1, cells := 0, slots := 0, locals := 23 }
set_option maxHeartbeats 4000000 in
set_option maxRecDepth 100000 in
theorem s1_Cover_gather (l : Launch) (G : zG) (b0 : Nat) (b1 : Nat) (b2 : Nat) (b3 : Nat) (b4 : Int32) (b5 : Int32) (b6 : Int32) (b7 : Nat) (b8 : Int32) (b9 : Nat → Int32) (b10 : Int32) (b11 : Int32) (b12 : Int32) (b13 : Nat) (b14 : Nat) (b15 : Nat) (b16 : Nat → Int32) (b17 : Int32) (b18 : Int32) (b19 : Int32) (b20 : Nat) (b21 : Nat) (b22 : Nat) (b23 : Nat) (b24 : Nat) (b25 : Nat) (b26 : Nat) (b27 : Nat) (b28 : Nat → Int32) (b29 : Int32) (b30 : Int32) (b31 : Nat) (b32 : Nat) (b33 : Nat) (b34 : Nat) (b35 : Nat) (b36 : Nat) (b37 : Int32) (b38 : Nat) (b39 : Nat) (b40 : Nat) (b41 : Nat) (b42 : Nat) (b43 : Nat) (b44 : Nat → Int32) (hb4 : zI b4 0 1) (hb8 : zI b8 0 240) (hb10 : zI b10 0 20) (hb11 : zI b11 0 3) (hb12 : zI b12 0 20) (hb17 : zI b17 0 1) (hb19 : zI b19 0 241) (hb29 : zI b29 0 1) (hb30 : zI b30 0 241) (hb37 : zI b37 0 240) (hb16 : zR b16 0 12) (hb28 : zqa qP b28) (hb44 : zR b44 0 239) : zM l G y_Cover_gather prog_2_method_3_code 6 (Option.none : Option Jvm.ClassFile.FieldType) m_s1_Cover_gather [.ref b0, .ref b1, .ref b2, .ref b3] [(b0, .inr (9, [.int b4, .int b5, .int b6, .ref b7, .int b8])), (b7, .inl (G.2 0, 240, .inl b9)), (b1, .inr (2, [.int b10, .int b11, .int b12, .ref b13, .ref b14, .ref b15])), (b13, .inl (G.2 0, 20, .inl b16)), (b2, .inr (3, [.int b17, .int b18, .int b19, .ref b20, .ref b21, .ref b22, .ref b23, .ref b24, .ref b25, .ref b26, .ref b27])), (b27, .inl (G.2 0, 260, .inl b28)), (b3, .inr (5, [.int b29, .int b30, .ref b31, .ref b32, .ref b33, .ref b34, .ref b35, .ref b36, .int b37, .ref b38, .ref b39, .ref b40, .ref b41, .ref b42, .ref b43])), (b43, .inl (G.2 0, 241, .inl b44))] (fun v w => ∃ (e0 : Nat → Int32), v = none ∧ w = [(b0, .inr (9, [.int b4, .int b5, .int b6, .ref b7, .int b37])), (b7, .inl (G.2 0, 240, .inl e0)), (b1, .inr (2, [.int b10, .int b11, .int b12, .ref b13, .ref b14, .ref b15])), (b13, .inl (G.2 0, 20, .inl b16)), (b2, .inr (3, [.int b17, .int b18, .int b19, .ref b20, .ref b21, .ref b22, .ref b23, .ref b24, .ref b25, .ref b26, .ref b27])), (b27, .inl (G.2 0, 260, .inl b28)), (b3, .inr (5, [.int b29, .int b30, .ref b31, .ref b32, .ref b33, .ref b34, .ref b35, .ref b36, .int b37, .ref b38, .ref b39, .ref b40, .ref b41, .ref b42, .ref b43])), (b43, .inl (G.2 0, 241, .inl b44))]) := by
  refine z_start (by decide +kernel) (Nat.le_of_ble_eq_true rfl) ?_
  intro p e s m below meth c A Z hr hnm hA hP hD hS ls hl
  have Z : zC p s m _ meth c prog_2_method_3_code 6 "TraceMachines$Cover" G := Z
  obtain ⟨hx, hb, hml, hown, hts, hK, hN, hlocks⟩ := id Z
  have hl : lv_has ls 6 [(0, .ref b0), (1, .ref b1), (2, .ref b2), (3, .ref b3)] := hl
  refine lv_aload_n hx hb d_Cover_gather_0 rfl (lv_at hl 0 rfl) ?_
  refine lv_aload_n hx hb d_Cover_gather_1 rfl (lv_at hl 3 rfl) ?_
  refine va_get (D := G.1) (ci := 5) (v := .int b37) (C := R_Machine) (T := F_Machine) (N := 15) hx hb hts i_Machine hown hK hP 6 rfl rfl 8 (by decide) (hts _ q182) (fun _ h9 => h9) rfl d_Cover_gather_2 ?_
  refine va_put (D := G.1) (ci := 9) (v := .int b37) (ty := .int) (C := R_Cover) (T := F_Cover) (N := 5) hx hb hts i_Cover t_Cover t_Cover_ok n_Cover hown hK hP hD hS 0 rfl rfl 4 (by decide) (hts _ q345) (fun _ h9 => h9) rfl (by decide +kernel) rfl rfl (Nat.le_of_ble_eq_true rfl) d_Cover_gather_5 (fun H locs hP hD hS => ?_)
  have hP : va_P G.1 classes [(b0, .inr (9, [.int b4, .int b5, .int b6, .ref b7, .int b37])), (b7, .inl (G.2 0, 240, .inl b9)), (b1, .inr (2, [.int b10, .int b11, .int b12, .ref b13, .ref b14, .ref b15])), (b13, .inl (G.2 0, 20, .inl b16)), (b2, .inr (3, [.int b17, .int b18, .int b19, .ref b20, .ref b21, .ref b22, .ref b23, .ref b24, .ref b25, .ref b26, .ref b27])), (b27, .inl (G.2 0, 260, .inl b28)), (b3, .inr (5, [.int b29, .int b30, .ref b31, .ref b32, .ref b33, .ref b34, .ref b35, .ref b36, .int b37, .ref b38, .ref b39, .ref b40, .ref b41, .ref b42, .ref b43])), (b43, .inl (G.2 0, 241, .inl b44))] H := hP
  have hD := z_tie hP hD rfl
  refine lv_aload_n hx hb d_Cover_gather_8 rfl (lv_at hl 0 rfl) ?_
  refine va_get (D := G.1) (ci := 9) (v := .ref b7) (C := R_Cover) (T := F_Cover) (N := 5) hx hb hts i_Cover hown hK hP 0 rfl rfl 3 (by decide) (hts _ q344) (fun _ h9 => h9) rfl d_Cover_gather_9 ?_
  refine lv_iconst (v := 0) hx hb d_Cover_gather_12 (by decide) ?_
  refine z_callS (index := 48) (As := [.ref b7, .int 0]) (rest := []) (wr := [(b0, .inr (9, [.int b4, .int b5, .int b6, .ref b7, .int b37])), (b1, .inr (2, [.int b10, .int b11, .int b12, .ref b13, .ref b14, .ref b15])), (b13, .inl (G.2 0, 20, .inl b16)), (b2, .inr (3, [.int b17, .int b18, .int b19, .ref b20, .ref b21, .ref b22, .ref b23, .ref b24, .ref b25, .ref b26, .ref b27])), (b27, .inl (G.2 0, 260, .inl b28)), (b3, .inr (5, [.int b29, .int b30, .ref b31, .ref b32, .ref b33, .ref b34, .ref b35, .ref b36, .int b37, .ref b38, .ref b39, .ref b40, .ref b41, .ref b42, .ref b43])), (b43, .inl (G.2 0, 241, .inl b44))]) Z (c_fill_I l G (b7) (240) (b9) (0) (by decide)) hl.1 q771 q415 q13 q416 ⟨by decide, by decide, by show _ = some 2; decide +kernel⟩ ⟨Nat.le_of_ble_eq_true rfl, Nat.le_of_ble_eq_true rfl⟩ ⟨Nat.le_of_ble_eq_true rfl, Nat.le_of_ble_eq_true rfl⟩ rfl (Nat.le_of_ble_eq_true rfl) d_Cover_gather_13 hP hD hS hA [1] [0, 2, 3, 4, 5, 6, 7] rfl rfl rfl rfl (by decide) (fun v w1 H locs hw_1 hP hD hS => ?_)
  obtain ⟨rfl, rfl⟩ := hw_1
  have hP : va_P G.1 classes [(b0, .inr (9, [.int b4, .int b5, .int b6, .ref b7, .int b37])), (b1, .inr (2, [.int b10, .int b11, .int b12, .ref b13, .ref b14, .ref b15])), (b13, .inl (G.2 0, 20, .inl b16)), (b2, .inr (3, [.int b17, .int b18, .int b19, .ref b20, .ref b21, .ref b22, .ref b23, .ref b24, .ref b25, .ref b26, .ref b27])), (b27, .inl (G.2 0, 260, .inl b28)), (b3, .inr (5, [.int b29, .int b30, .ref b31, .ref b32, .ref b33, .ref b34, .ref b35, .ref b36, .int b37, .ref b38, .ref b39, .ref b40, .ref b41, .ref b42, .ref b43])), (b43, .inl (G.2 0, 241, .inl b44)), (b7, .inl (G.2 0, 240, .inl (fun _ => 0)))] H := hP
  have hD := z_tie hP hD rfl
  refine W.widen (k := 0) (n := 0) (Nat.le_of_ble_eq_true rfl) (Nat.le_of_ble_eq_true rfl) ?_
  refine lv_iconst (v := 0) hx hb d_Cover_gather_16 (by decide) ?_
  refine lv_istore (lv' := [(4, .int 0), (0, .ref b0), (1, .ref b1), (2, .ref b2), (3, .ref b3)]) hx hb d_Cover_gather_17 hl (by decide) rfl (fun ls hl => ?_)
  suffices key : ∀ (k_920 : Nat) (y_921 : Int32) (y_922 : Nat → Int32) (H : Heap) (locs : List Loc) (ls : Array Slot), (zI y_921 0 20) → (20 : Int) - y_921.toInt < (k_920 : Int) → va_P G.1 classes [(b0, .inr (9, [.int b4, .int b5, .int b6, .ref b7, .int b37])), (b1, .inr (2, [.int b10, .int b11, .int b12, .ref b13, .ref b14, .ref b15])), (b13, .inl (G.2 0, 20, .inl b16)), (b2, .inr (3, [.int b17, .int b18, .int b19, .ref b20, .ref b21, .ref b22, .ref b23, .ref b24, .ref b25, .ref b26, .ref b27])), (b27, .inl (G.2 0, 260, .inl b28)), (b3, .inr (5, [.int b29, .int b30, .ref b31, .ref b32, .ref b33, .ref b34, .ref b35, .ref b36, .int b37, .ref b38, .ref b39, .ref b40, .ref b41, .ref b42, .ref b43])), (b43, .inl (G.2 0, 241, .inl b44)), (b7, .inl (G.2 0, 240, .inl y_922))] H → va_D A [(b0, .inr (9, [.int b4, .int b5, .int b6, .ref b7, .int b37])), (b1, .inr (2, [.int b10, .int b11, .int b12, .ref b13, .ref b14, .ref b15])), (b13, .inl (G.2 0, 20, .inl b16)), (b2, .inr (3, [.int b17, .int b18, .int b19, .ref b20, .ref b21, .ref b22, .ref b23, .ref b24, .ref b25, .ref b26, .ref b27])), (b27, .inl (G.2 0, 260, .inl b28)), (b3, .inr (5, [.int b29, .int b30, .ref b31, .ref b32, .ref b33, .ref b34, .ref b35, .ref b36, .int b37, .ref b38, .ref b39, .ref b40, .ref b41, .ref b42, .ref b43])), (b43, .inl (G.2 0, 241, .inl b44)), (b7, .inl (G.2 0, 240, .inl y_922))] → va_S A s.heap H locs → lv_has ls 6 [(4, .int y_921), (0, .ref b0), (1, .ref b1), (2, .ref b2), (3, .ref b3)] → W p l e m_s1_Cover_gather s m ([.ref b0, .ref b1, .ref b2, .ref b3] : List Value).toArray below meth c H locs 0 0 (MQ below (zQ G (fun v w => ∃ (e0 : Nat → Int32), v = none ∧ w = [(b0, .inr (9, [.int b4, .int b5, .int b6, .ref b7, .int b37])), (b7, .inl (G.2 0, 240, .inl e0)), (b1, .inr (2, [.int b10, .int b11, .int b12, .ref b13, .ref b14, .ref b15])), (b13, .inl (G.2 0, 20, .inl b16)), (b2, .inr (3, [.int b17, .int b18, .int b19, .ref b20, .ref b21, .ref b22, .ref b23, .ref b24, .ref b25, .ref b26, .ref b27])), (b27, .inl (G.2 0, 260, .inl b28)), (b3, .inr (5, [.int b29, .int b30, .ref b31, .ref b32, .ref b33, .ref b34, .ref b35, .ref b36, .int b37, .ref b38, .ref b39, .ref b40, .ref b41, .ref b42, .ref b43])), (b43, .inl (G.2 0, 241, .inl b44))]) A) ([.ref b0, .ref b1, .ref b2, .ref b3] : List Value).toArray s m_s1_Cover_gather.cells m_s1_Cover_gather.slots A) (F0 m 19 ls []) by
    exact key 21 (0) ((fun _ => 0)) _ _ _ (zI.wk (l' := 0) (h' := 20) zc_0 (by decide)) (zm_upi (zI.wk (l' := 0) (h' := 20) zc_0 (by decide)) (by decide)) hP hD hS (lv_sub hl [0, 1, 2, 3, 4] rfl)
  intro k_920
  induction k_920 with
  | zero =>
    intro y_921 y_922 H locs ls hy_921 hmk_920 hP hD hS hl
    exact (zm_up0 hy_921 hmk_920).elim
  | succ k_920 ihk_920 =>
    intro y_921 y_922 H locs ls hy_921 hmk_920 hP hD hS hl
    refine lv_iload hx hb d_Cover_gather_19 (lv_at hl 0 rfl) ?_
    refine lv_aload_n hx hb d_Cover_gather_21 rfl (lv_at hl 2 rfl) ?_
    refine va_get (D := G.1) (ci := 2) (v := .int b10) (C := R_Traces) (T := F_Traces) (N := 6) hx hb hts i_Traces hown hK hP 1 rfl rfl 0 (by decide) (hts _ q54) (fun _ h9 => h9) rfl d_Cover_gather_22 ?_
    refine lv_icmp_ge (tgt := 80) hx hb d_Cover_gather_25 (by decide) (fun hc_923 => ?_) (fun hc_923 => ?_)
    · have _nhc_923 := hc_923
      have ni_924 := (fa_le _ _).mp hc_923
      exact z_vret hx hb hr hlocks (hP.sub [0, 7, 1, 2, 3, 4, 5, 6] rfl) (hD.sub [0, 7, 1, 2, 3, 4, 5, 6] (by decide) rfl) hS (Nat.le_of_ble_eq_true rfl) (Nat.le_of_ble_eq_true rfl) d_Cover_gather_80 ⟨y_922, rfl, rfl⟩
    · have _nhc_923 := hc_923
      have ni_925 := (fa_lt _ _).mp (zi_nle hc_923)
      have hv_926 : zI y_921 0 19 := zI.lt_l hy_921 hb10 (zi_nle hc_923) (by decide)
      have hv_927 : zI b10 1 20 := zI.lt_r hy_921 hb10 (zi_nle hc_923) (by decide)
      refine lv_iconst (v := 1) hx hb d_Cover_gather_28 (by decide) ?_
      refine lv_istore (lv' := [(5, .int 1), (4, .int y_921), (0, .ref b0), (1, .ref b1), (2, .ref b2), (3, .ref b3)]) hx hb d_Cover_gather_29 hl (by decide) rfl (fun ls hl => ?_)
      suffices key : ∀ (k_1058 : Nat) (y_1059 : Int32) (y_1060 : Nat → Int32) (H : Heap) (locs : List Loc) (ls : Array Slot), (zI y_1059 1 13) → (13 : Int) - y_1059.toInt < (k_1058 : Int) → va_P G.1 classes [(b0, .inr (9, [.int b4, .int b5, .int b6, .ref b7, .int b37])), (b1, .inr (2, [.int b10, .int b11, .int b12, .ref b13, .ref b14, .ref b15])), (b13, .inl (G.2 0, 20, .inl b16)), (b2, .inr (3, [.int b17, .int b18, .int b19, .ref b20, .ref b21, .ref b22, .ref b23, .ref b24, .ref b25, .ref b26, .ref b27])), (b27, .inl (G.2 0, 260, .inl b28)), (b3, .inr (5, [.int b29, .int b30, .ref b31, .ref b32, .ref b33, .ref b34, .ref b35, .ref b36, .int b37, .ref b38, .ref b39, .ref b40, .ref b41, .ref b42, .ref b43])), (b43, .inl (G.2 0, 241, .inl b44)), (b7, .inl (G.2 0, 240, .inl y_1060))] H → va_D A [(b0, .inr (9, [.int b4, .int b5, .int b6, .ref b7, .int b37])), (b1, .inr (2, [.int b10, .int b11, .int b12, .ref b13, .ref b14, .ref b15])), (b13, .inl (G.2 0, 20, .inl b16)), (b2, .inr (3, [.int b17, .int b18, .int b19, .ref b20, .ref b21, .ref b22, .ref b23, .ref b24, .ref b25, .ref b26, .ref b27])), (b27, .inl (G.2 0, 260, .inl b28)), (b3, .inr (5, [.int b29, .int b30, .ref b31, .ref b32, .ref b33, .ref b34, .ref b35, .ref b36, .int b37, .ref b38, .ref b39, .ref b40, .ref b41, .ref b42, .ref b43])), (b43, .inl (G.2 0, 241, .inl b44)), (b7, .inl (G.2 0, 240, .inl y_1060))] → va_S A s.heap H locs → lv_has ls 6 [(5, .int y_1059), (4, .int y_921), (0, .ref b0), (1, .ref b1), (2, .ref b2), (3, .ref b3)] → W p l e m_s1_Cover_gather s m ([.ref b0, .ref b1, .ref b2, .ref b3] : List Value).toArray below meth c H locs 0 0 (MQ below (zQ G (fun v w => ∃ (e0 : Nat → Int32), v = none ∧ w = [(b0, .inr (9, [.int b4, .int b5, .int b6, .ref b7, .int b37])), (b7, .inl (G.2 0, 240, .inl e0)), (b1, .inr (2, [.int b10, .int b11, .int b12, .ref b13, .ref b14, .ref b15])), (b13, .inl (G.2 0, 20, .inl b16)), (b2, .inr (3, [.int b17, .int b18, .int b19, .ref b20, .ref b21, .ref b22, .ref b23, .ref b24, .ref b25, .ref b26, .ref b27])), (b27, .inl (G.2 0, 260, .inl b28)), (b3, .inr (5, [.int b29, .int b30, .ref b31, .ref b32, .ref b33, .ref b34, .ref b35, .ref b36, .int b37, .ref b38, .ref b39, .ref b40, .ref b41, .ref b42, .ref b43])), (b43, .inl (G.2 0, 241, .inl b44))]) A) ([.ref b0, .ref b1, .ref b2, .ref b3] : List Value).toArray s m_s1_Cover_gather.cells m_s1_Cover_gather.slots A) (F0 m 31 ls []) by
        exact key 13 (1) (y_922) _ _ _ (zI.wk (l' := 1) (h' := 13) zc_1 (by decide)) (zm_upi (zI.wk (l' := 1) (h' := 13) zc_1 (by decide)) (by decide)) hP hD hS (lv_sub hl [0, 1, 2, 3, 4, 5] rfl)
      intro k_1058
      induction k_1058 with
      | zero =>
        intro y_1059 y_1060 H locs ls hy_1059 hmk_1058 hP hD hS hl
        exact (zm_up0 hy_1059 hmk_1058).elim
      | succ k_1058 ihk_1058 =>
        intro y_1059 y_1060 H locs ls hy_1059 hmk_1058 hP hD hS hl
        refine lv_iload hx hb d_Cover_gather_31 (lv_at hl 0 rfl) ?_
        refine lv_aload_n hx hb d_Cover_gather_33 rfl (lv_at hl 3 rfl) ?_
        refine va_get (D := G.1) (ci := 2) (v := .ref b13) (C := R_Traces) (T := F_Traces) (N := 6) hx hb hts i_Traces hown hK hP 1 rfl rfl 3 (by decide) (hts _ q66) (fun _ h9 => h9) rfl d_Cover_gather_34 ?_
        refine lv_iload hx hb d_Cover_gather_37 (lv_at hl 1 rfl) ?_
        refine va_iald hx hb hK hP 2 0 rfl rfl (zI.inn hv_926 (by decide)) d_Cover_gather_39 ?_
        refine lv_topi (fun v_1061 ev_1061 => ?_)
        have hv_1061 : zI v_1061 0 12 := (hb16 _).eq ev_1061
        refine lv_icmp_gt (tgt := 74) hx hb d_Cover_gather_40 (by decide) (fun hc_1062 => ?_) (fun hc_1062 => ?_)
        · have _nhc_1062 := hc_1062
          have ni_1063 := (fa_lt _ _).mp hc_1062
          obtain ⟨v_1064, ev_1064⟩ : ∃ z : Int32, z = y_921 + 1 := ⟨_, rfl⟩
          obtain ⟨qv_1064, hv_1064⟩ := zI_add (l := 1) (h := 20) hv_926 zc_1 ev_1064 (by decide)
          rw [li_1] at qv_1064
          refine lv_iinc (v := v_1064) (lv' := [(4, .int v_1064), (5, .int y_1059), (0, .ref b0), (1, .ref b1), (2, .ref b2), (3, .ref b3)]) hx hb d_Cover_gather_74 hl (k := 1) rfl (by rw [ev_1064]; rfl) (by decide) rfl (fun ls hl => ?_)
          refine lv_goto (tgt := 19) hx hb d_Cover_gather_77 (by decide) ?_
          exact ihk_920 (v_1064) (y_1060) _ _ _ (zI.wk (l' := 0) (h' := 20) hv_1064 (by decide)) (zm_up qv_1064 hmk_920 (by decide)) hP hD hS (lv_sub hl [0, 2, 3, 4, 5] rfl)
        · have _nhc_1062 := hc_1062
          have ni_1065 := (fa_le _ _).mp (zi_nlt hc_1062)
          have hv_1066 : zI y_1059 1 12 := zI.le_l hy_1059 hv_1061 (zi_nlt hc_1062) (by decide)
          have hv_1067 : zI v_1061 1 12 := zI.le_r hy_1059 hv_1061 (zi_nlt hc_1062) (by decide)
          refine lv_aload_n hx hb d_Cover_gather_43 rfl (lv_at hl 2 rfl) ?_
          refine va_get (D := G.1) (ci := 9) (v := .ref b7) (C := R_Cover) (T := F_Cover) (N := 5) hx hb hts i_Cover hown hK hP 0 rfl rfl 3 (by decide) (hts _ q344) (fun _ h9 => h9) rfl d_Cover_gather_44 ?_
          refine lv_aload_n hx hb d_Cover_gather_47 rfl (lv_at hl 5 rfl) ?_
          refine va_get (D := G.1) (ci := 5) (v := .ref b43) (C := R_Machine) (T := F_Machine) (N := 15) hx hb hts i_Machine hown hK hP 5 rfl rfl 14 (by decide) (hts _ q200) (fun _ h9 => h9) rfl d_Cover_gather_48 ?_
          refine lv_aload_n hx hb d_Cover_gather_51 rfl (lv_at hl 4 rfl) ?_
          refine lv_iload hx hb d_Cover_gather_52 (lv_at hl 1 rfl) ?_
          refine lv_iload hx hb d_Cover_gather_54 (lv_at hl 0 rfl) ?_
          refine z_callV (index := 60) (As := [.int y_921, .int y_1059]) (rest := [.ref b43, .ref b7]) (wr := [(b0, .inr (9, [.int b4, .int b5, .int b6, .ref b7, .int b37])), (b1, .inr (2, [.int b10, .int b11, .int b12, .ref b13, .ref b14, .ref b15])), (b13, .inl (G.2 0, 20, .inl b16)), (b3, .inr (5, [.int b29, .int b30, .ref b31, .ref b32, .ref b33, .ref b34, .ref b35, .ref b36, .int b37, .ref b38, .ref b39, .ref b40, .ref b41, .ref b42, .ref b43])), (b43, .inl (G.2 0, 241, .inl b44)), (b7, .inl (G.2 0, 240, .inl y_1060))]) Z (s1_Tree_prefixAt l G (b2) (y_921) (y_1059) (b17) (b18) (b19) (b20) (b21) (b22) (b23) (b24) (b25) (b26) (b27) (b28) hv_926 (zI.wk (l' := 0) (h' := 12) hv_1066 (by decide)) hb17 hb19 hb28) hl.1 q772 q607 q608 q4 q609 ⟨by decide, by decide, by show _ = some 2; decide +kernel⟩ ⟨Nat.le_of_ble_eq_true rfl, Nat.le_of_ble_eq_true rfl⟩ ⟨Nat.le_of_ble_eq_true rfl, Nat.le_of_ble_eq_true rfl⟩ rfl (Nat.le_of_ble_eq_true rfl) d_Cover_gather_56 hP hD hS hA 3 3 rfl rfl rfl [3, 4] [0, 1, 2, 5, 6, 7] rfl rfl rfl rfl (by decide) (fun v w1 H locs hw_1068 hP hD hS => ?_)
          obtain ⟨x_1069, rfl, rfl, hx_1069, hfx_1070, hfx_1071⟩ := hw_1068
          have hP : va_P G.1 classes [(b0, .inr (9, [.int b4, .int b5, .int b6, .ref b7, .int b37])), (b1, .inr (2, [.int b10, .int b11, .int b12, .ref b13, .ref b14, .ref b15])), (b13, .inl (G.2 0, 20, .inl b16)), (b3, .inr (5, [.int b29, .int b30, .ref b31, .ref b32, .ref b33, .ref b34, .ref b35, .ref b36, .int b37, .ref b38, .ref b39, .ref b40, .ref b41, .ref b42, .ref b43])), (b43, .inl (G.2 0, 241, .inl b44)), (b7, .inl (G.2 0, 240, .inl y_1060)), (b2, .inr (3, [.int b17, .int b18, .int b19, .ref b20, .ref b21, .ref b22, .ref b23, .ref b24, .ref b25, .ref b26, .ref b27])), (b27, .inl (G.2 0, 260, .inl b28))] H := hP
          have hD := z_tie hP hD rfl
          refine W.widen (k := 0) (n := 0) (Nat.le_of_ble_eq_true rfl) (Nat.le_of_ble_eq_true rfl) ?_
          refine va_iald hx hb hK hP 4 0 rfl rfl (zI.inn hx_1069 (by decide)) d_Cover_gather_59 ?_
          refine lv_topi (fun v_1072 ev_1072 => ?_)
          have hv_1072 : zI v_1072 0 239 := (hb44 _).eq ev_1072
          refine lv_dup2_11 hx hb d_Cover_gather_60 rfl rfl ?_
          refine va_iald hx hb hK hP 5 0 rfl rfl (zI.inn hv_1072 (by decide)) d_Cover_gather_61 ?_
          refine lv_topi (fun v_1073 ev_1073 => ?_)
          refine lv_iconst (v := 1) hx hb d_Cover_gather_62 (by decide) ?_
          refine lv_iload hx hb d_Cover_gather_63 (lv_at hl 1 rfl) ?_
          refine lv_ishl hx hb d_Cover_gather_65 ?_
          refine lv_topi (fun v_1074 ev_1074 => ?_)
          refine lv_ior hx hb d_Cover_gather_66 ?_
          refine lv_topi (fun v_1075 ev_1075 => ?_)
          refine va_iast hx hb hK hP hD hS 5 0 rfl rfl (zI.inn hv_1072 (by decide)) d_Cover_gather_67 (fun H locs hP hD hS => ?_)
          obtain ⟨f_1076, gf_1076, uf_1076, hP, hD⟩ := z_newFu 5 hP hD rfl
          have hP : va_P G.1 classes [(b0, .inr (9, [.int b4, .int b5, .int b6, .ref b7, .int b37])), (b1, .inr (2, [.int b10, .int b11, .int b12, .ref b13, .ref b14, .ref b15])), (b13, .inl (G.2 0, 20, .inl b16)), (b3, .inr (5, [.int b29, .int b30, .ref b31, .ref b32, .ref b33, .ref b34, .ref b35, .ref b36, .int b37, .ref b38, .ref b39, .ref b40, .ref b41, .ref b42, .ref b43])), (b43, .inl (G.2 0, 241, .inl b44)), (b7, .inl (G.2 0, 240, .inl f_1076)), (b2, .inr (3, [.int b17, .int b18, .int b19, .ref b20, .ref b21, .ref b22, .ref b23, .ref b24, .ref b25, .ref b26, .ref b27])), (b27, .inl (G.2 0, 260, .inl b28))] H := hP
          have hD := z_tie hP hD rfl
          obtain ⟨v_1077, ev_1077⟩ : ∃ z : Int32, z = y_1059 + 1 := ⟨_, rfl⟩
          obtain ⟨qv_1077, hv_1077⟩ := zI_add (l := 2) (h := 13) hv_1066 zc_1 ev_1077 (by decide)
          rw [li_1] at qv_1077
          refine lv_iinc (v := v_1077) (lv' := [(5, .int v_1077), (4, .int y_921), (0, .ref b0), (1, .ref b1), (2, .ref b2), (3, .ref b3)]) hx hb d_Cover_gather_68 hl (k := 0) rfl (by rw [ev_1077]; rfl) (by decide) rfl (fun ls hl => ?_)
          refine lv_goto (tgt := 31) hx hb d_Cover_gather_71 (by decide) ?_
          exact ihk_1058 (v_1077) (f_1076) _ _ _ (zI.wk (l' := 1) (h' := 13) hv_1077 (by decide)) (zm_up qv_1077 hmk_1058 (by decide)) (hP.sub [0, 1, 2, 6, 7, 3, 4, 5] rfl) (hD.sub [0, 1, 2, 6, 7, 3, 4, 5] (by decide) rfl) hS (lv_sub hl [0, 1, 2, 3, 4, 5] rfl)
theorem d_Cover_leaveOutImplied_0 : decode prog_2_method_4_code 0 = .ok (.iconst 0, 1) := by decide +kernel
theorem d_Cover_leaveOutImplied_1 : decode prog_2_method_4_code 1 = .ok (.istore_n 1, 1) := by decide +kernel
theorem d_Cover_leaveOutImplied_2 : decode prog_2_method_4_code 2 = .ok (.iconst 0, 1) := by decide +kernel
theorem d_Cover_leaveOutImplied_3 : decode prog_2_method_4_code 3 = .ok (.istore_n 2, 1) := by decide +kernel
theorem d_Cover_leaveOutImplied_4 : decode prog_2_method_4_code 4 = .ok (.iload_n 2, 1) := by decide +kernel
theorem d_Cover_leaveOutImplied_5 : decode prog_2_method_4_code 5 = .ok (.aload_n 0, 1) := by decide +kernel
theorem d_Cover_leaveOutImplied_6 : decode prog_2_method_4_code 6 = .ok (.getfield 47, 3) := by decide +kernel
theorem d_Cover_leaveOutImplied_9 : decode prog_2_method_4_code 9 = .ok (.if_icmp .ge 33, 3) := by decide +kernel
theorem d_Cover_leaveOutImplied_12 : decode prog_2_method_4_code 12 = .ok (.aload_n 0, 1) := by decide +kernel
theorem d_Cover_leaveOutImplied_13 : decode prog_2_method_4_code 13 = .ok (.iload_n 2, 1) := by decide +kernel
theorem d_Cover_leaveOutImplied_14 : decode prog_2_method_4_code 14 = .ok (.iload_n 1, 1) := by decide +kernel
theorem d_Cover_leaveOutImplied_15 : decode prog_2_method_4_code 15 = .ok (.invokevirtual 66, 3) := by decide +kernel
theorem d_Cover_leaveOutImplied_18 : decode prog_2_method_4_code 18 = .ok (.ifCond .ne 18, 3) := by decide +kernel
theorem d_Cover_leaveOutImplied_21 : decode prog_2_method_4_code 21 = .ok (.aload_n 0, 1) := by decide +kernel
theorem d_Cover_leaveOutImplied_22 : decode prog_2_method_4_code 22 = .ok (.getfield 9, 3) := by decide +kernel
theorem d_Cover_leaveOutImplied_25 : decode prog_2_method_4_code 25 = .ok (.iload_n 1, 1) := by decide +kernel
theorem d_Cover_leaveOutImplied_26 : decode prog_2_method_4_code 26 = .ok (.aload_n 0, 1) := by decide +kernel
theorem d_Cover_leaveOutImplied_27 : decode prog_2_method_4_code 27 = .ok (.getfield 9, 3) := by decide +kernel
theorem d_Cover_leaveOutImplied_30 : decode prog_2_method_4_code 30 = .ok (.iload_n 2, 1) := by decide +kernel
theorem d_Cover_leaveOutImplied_31 : decode prog_2_method_4_code 31 = .ok (.iaload, 1) := by decide +kernel
theorem d_Cover_leaveOutImplied_32 : decode prog_2_method_4_code 32 = .ok (.iastore, 1) := by decide +kernel
theorem d_Cover_leaveOutImplied_33 : decode prog_2_method_4_code 33 = .ok (.iinc 1 1, 3) := by decide +kernel
theorem d_Cover_leaveOutImplied_36 : decode prog_2_method_4_code 36 = .ok (.iinc 2 1, 3) := by decide +kernel
theorem d_Cover_leaveOutImplied_39 : decode prog_2_method_4_code 39 = .ok (.goto (-35), 3) := by decide +kernel
theorem d_Cover_leaveOutImplied_42 : decode prog_2_method_4_code 42 = .ok (.aload_n 0, 1) := by decide +kernel
theorem d_Cover_leaveOutImplied_43 : decode prog_2_method_4_code 43 = .ok (.iload_n 1, 1) := by decide +kernel
theorem d_Cover_leaveOutImplied_44 : decode prog_2_method_4_code 44 = .ok (.putfield 47, 3) := by decide +kernel
theorem d_Cover_leaveOutImplied_47 : decode prog_2_method_4_code 47 = .ok (.return_, 1) := by decide +kernel
theorem d_Cover_isImplied_0 : decode prog_2_method_5_code 0 = .ok (.iconst 0, 1) := by decide +kernel
theorem d_Cover_isImplied_1 : decode prog_2_method_5_code 1 = .ok (.istore_n 3, 1) := by decide +kernel
theorem d_Cover_isImplied_2 : decode prog_2_method_5_code 2 = .ok (.iload_n 3, 1) := by decide +kernel
theorem d_Cover_isImplied_3 : decode prog_2_method_5_code 3 = .ok (.iload_n 2, 1) := by decide +kernel
theorem d_Cover_isImplied_4 : decode prog_2_method_5_code 4 = .ok (.if_icmp .ge 29, 3) := by decide +kernel
theorem d_Cover_isImplied_7 : decode prog_2_method_5_code 7 = .ok (.aload_n 0, 1) := by decide +kernel
theorem d_Cover_isImplied_8 : decode prog_2_method_5_code 8 = .ok (.getfield 9, 3) := by decide +kernel
theorem d_Cover_isImplied_11 : decode prog_2_method_5_code 11 = .ok (.iload_n 3, 1) := by decide +kernel
theorem d_Cover_isImplied_12 : decode prog_2_method_5_code 12 = .ok (.iaload, 1) := by decide +kernel
theorem d_Cover_isImplied_13 : decode prog_2_method_5_code 13 = .ok (.aload_n 0, 1) := by decide +kernel
theorem d_Cover_isImplied_14 : decode prog_2_method_5_code 14 = .ok (.getfield 9, 3) := by decide +kernel
theorem d_Cover_isImplied_17 : decode prog_2_method_5_code 17 = .ok (.iload_n 1, 1) := by decide +kernel
theorem d_Cover_isImplied_18 : decode prog_2_method_5_code 18 = .ok (.iaload, 1) := by decide +kernel
theorem d_Cover_isImplied_19 : decode prog_2_method_5_code 19 = .ok (.iconst (-1), 1) := by decide +kernel
theorem d_Cover_isImplied_20 : decode prog_2_method_5_code 20 = .ok (.ixor, 1) := by decide +kernel
theorem d_Cover_isImplied_21 : decode prog_2_method_5_code 21 = .ok (.iand, 1) := by decide +kernel
theorem d_Cover_isImplied_22 : decode prog_2_method_5_code 22 = .ok (.ifCond .ne 5, 3) := by decide +kernel
theorem d_Cover_isImplied_25 : decode prog_2_method_5_code 25 = .ok (.iconst 1, 1) := by decide +kernel
theorem d_Cover_isImplied_26 : decode prog_2_method_5_code 26 = .ok (.ireturn, 1) := by decide +kernel
theorem d_Cover_isImplied_27 : decode prog_2_method_5_code 27 = .ok (.iinc 3 1, 3) := by decide +kernel
theorem d_Cover_isImplied_30 : decode prog_2_method_5_code 30 = .ok (.goto (-28), 3) := by decide +kernel
theorem d_Cover_isImplied_33 : decode prog_2_method_5_code 33 = .ok (.iload_n 1, 1) := by decide +kernel
theorem d_Cover_isImplied_34 : decode prog_2_method_5_code 34 = .ok (.iconst 1, 1) := by decide +kernel
theorem d_Cover_isImplied_35 : decode prog_2_method_5_code 35 = .ok (.iadd, 1) := by decide +kernel
theorem d_Cover_isImplied_36 : decode prog_2_method_5_code 36 = .ok (.istore_n 3, 1) := by decide +kernel
theorem d_Cover_isImplied_37 : decode prog_2_method_5_code 37 = .ok (.iload_n 3, 1) := by decide +kernel
theorem d_Cover_isImplied_38 : decode prog_2_method_5_code 38 = .ok (.aload_n 0, 1) := by decide +kernel
theorem d_Cover_isImplied_39 : decode prog_2_method_5_code 39 = .ok (.getfield 47, 3) := by decide +kernel
theorem d_Cover_isImplied_42 : decode prog_2_method_5_code 42 = .ok (.if_icmp .ge 44, 3) := by decide +kernel
theorem d_Cover_isImplied_45 : decode prog_2_method_5_code 45 = .ok (.aload_n 0, 1) := by decide +kernel
theorem d_Cover_isImplied_46 : decode prog_2_method_5_code 46 = .ok (.getfield 9, 3) := by decide +kernel
theorem d_Cover_isImplied_49 : decode prog_2_method_5_code 49 = .ok (.iload_n 3, 1) := by decide +kernel
theorem d_Cover_isImplied_50 : decode prog_2_method_5_code 50 = .ok (.iaload, 1) := by decide +kernel
theorem d_Cover_isImplied_51 : decode prog_2_method_5_code 51 = .ok (.aload_n 0, 1) := by decide +kernel
theorem d_Cover_isImplied_52 : decode prog_2_method_5_code 52 = .ok (.getfield 9, 3) := by decide +kernel
theorem d_Cover_isImplied_55 : decode prog_2_method_5_code 55 = .ok (.iload_n 1, 1) := by decide +kernel
theorem d_Cover_isImplied_56 : decode prog_2_method_5_code 56 = .ok (.iaload, 1) := by decide +kernel
theorem d_Cover_isImplied_57 : decode prog_2_method_5_code 57 = .ok (.iconst (-1), 1) := by decide +kernel
theorem d_Cover_isImplied_58 : decode prog_2_method_5_code 58 = .ok (.ixor, 1) := by decide +kernel
theorem d_Cover_isImplied_59 : decode prog_2_method_5_code 59 = .ok (.iand, 1) := by decide +kernel
theorem d_Cover_isImplied_60 : decode prog_2_method_5_code 60 = .ok (.ifCond .ne 20, 3) := by decide +kernel
theorem d_Cover_isImplied_63 : decode prog_2_method_5_code 63 = .ok (.aload_n 0, 1) := by decide +kernel
theorem d_Cover_isImplied_64 : decode prog_2_method_5_code 64 = .ok (.getfield 9, 3) := by decide +kernel
theorem d_Cover_isImplied_67 : decode prog_2_method_5_code 67 = .ok (.iload_n 3, 1) := by decide +kernel
theorem d_Cover_isImplied_68 : decode prog_2_method_5_code 68 = .ok (.iaload, 1) := by decide +kernel
theorem d_Cover_isImplied_69 : decode prog_2_method_5_code 69 = .ok (.aload_n 0, 1) := by decide +kernel
theorem d_Cover_isImplied_70 : decode prog_2_method_5_code 70 = .ok (.getfield 9, 3) := by decide +kernel
theorem d_Cover_isImplied_73 : decode prog_2_method_5_code 73 = .ok (.iload_n 1, 1) := by decide +kernel
theorem d_Cover_isImplied_74 : decode prog_2_method_5_code 74 = .ok (.iaload, 1) := by decide +kernel
theorem d_Cover_isImplied_75 : decode prog_2_method_5_code 75 = .ok (.if_icmp .eq 5, 3) := by decide +kernel
theorem d_Cover_isImplied_78 : decode prog_2_method_5_code 78 = .ok (.iconst 1, 1) := by decide +kernel
theorem d_Cover_isImplied_79 : decode prog_2_method_5_code 79 = .ok (.ireturn, 1) := by decide +kernel
theorem d_Cover_isImplied_80 : decode prog_2_method_5_code 80 = .ok (.iinc 3 1, 3) := by decide +kernel
theorem d_Cover_isImplied_83 : decode prog_2_method_5_code 83 = .ok (.goto (-46), 3) := by decide +kernel
theorem d_Cover_isImplied_86 : decode prog_2_method_5_code 86 = .ok (.iconst 0, 1) := by decide +kernel
theorem d_Cover_isImplied_87 : decode prog_2_method_5_code 87 = .ok (.ireturn, 1) := by decide +kernel
abbrev m_s2_Cover_isImplied : Room := { frames := 0, cells := 0, slots := 0, locals := 0 }
set_option maxHeartbeats 4000000 in
set_option maxRecDepth 100000 in
theorem s2_Cover_isImplied (l : Launch) (G : zG) (b0 : Nat) (b1 : Int32) (b2 : Int32) (b3 : Int32) (b4 : Int32) (b5 : Int32) (b6 : Nat) (b7 : Int32) (b8 : Nat → Int32) (hb1 : zI b1 0 239) (hb2 : zI b2 0 239) (hb3 : zI b3 0 1) (hb7 : zI b7 0 240) : zM l G y_Cover_isImplied prog_2_method_5_code 4 (Option.some Jvm.ClassFile.FieldType.boolean) m_s2_Cover_isImplied [.ref b0, .int b1, .int b2] [(b0, .inr (9, [.int b3, .int b4, .int b5, .ref b6, .int b7])), (b6, .inl (G.2 0, 240, .inl b8))] (fun v w => ∃ (e0 : Int32), v = some (.int e0) ∧ w = [(b0, .inr (9, [.int b3, .int b4, .int b5, .ref b6, .int b7])), (b6, .inl (G.2 0, 240, .inl b8))] ∧ (zI e0 0 1)) := by
  refine z_start (by decide +kernel) (Nat.le_of_ble_eq_true rfl) ?_
  intro p e s m below meth c A Z hr hnm hA hP hD hS ls hl
  have Z : zC p s m _ meth c prog_2_method_5_code 4 "TraceMachines$Cover" G := Z
  obtain ⟨hx, hb, hml, hown, hts, hK, hN, hlocks⟩ := id Z
  have hl : lv_has ls 4 [(0, .ref b0), (1, .int b1), (2, .int b2)] := hl
  refine lv_iconst (v := 0) hx hb d_Cover_isImplied_0 (by decide) ?_
  refine lv_istore_n (lv' := [(3, .int 0), (0, .ref b0), (1, .int b1), (2, .int b2)]) hx hb d_Cover_isImplied_1 rfl hl (by decide) rfl (fun ls hl => ?_)
  suffices key : ∀ (k_710 : Nat) (y_711 : Int32) (H : Heap) (locs : List Loc) (ls : Array Slot), (zI y_711 0 239) → (239 : Int) - y_711.toInt < (k_710 : Int) → va_P G.1 classes [(b0, .inr (9, [.int b3, .int b4, .int b5, .ref b6, .int b7])), (b6, .inl (G.2 0, 240, .inl b8))] H → va_D A [(b0, .inr (9, [.int b3, .int b4, .int b5, .ref b6, .int b7])), (b6, .inl (G.2 0, 240, .inl b8))] → va_S A s.heap H locs → lv_has ls 4 [(3, .int y_711), (0, .ref b0), (1, .int b1), (2, .int b2)] → W p l e m_s2_Cover_isImplied s m ([.ref b0, .int b1, .int b2] : List Value).toArray below meth c H locs 0 0 (MQ below (zQ G (fun v w => ∃ (e0 : Int32), v = some (.int e0) ∧ w = [(b0, .inr (9, [.int b3, .int b4, .int b5, .ref b6, .int b7])), (b6, .inl (G.2 0, 240, .inl b8))] ∧ (zI e0 0 1)) A) ([.ref b0, .int b1, .int b2] : List Value).toArray s m_s2_Cover_isImplied.cells m_s2_Cover_isImplied.slots A) (F0 m 2 ls []) by
    exact key 240 (0) _ _ _ (zI.wk (l' := 0) (h' := 239) zc_0 (by decide)) (zm_upi (zI.wk (l' := 0) (h' := 239) zc_0 (by decide)) (by decide)) hP hD hS (lv_sub hl [0, 1, 2, 3] rfl)
  intro k_710
  induction k_710 with
  | zero =>
    intro y_711 H locs ls hy_711 hmk_710 hP hD hS hl
    exact (zm_up0 hy_711 hmk_710).elim
  | succ k_710 ihk_710 =>
    intro y_711 H locs ls hy_711 hmk_710 hP hD hS hl
    refine lv_iload_n hx hb d_Cover_isImplied_2 rfl (lv_at hl 0 rfl) ?_
    refine lv_iload_n hx hb d_Cover_isImplied_3 rfl (lv_at hl 3 rfl) ?_
    refine lv_icmp_ge (tgt := 33) hx hb d_Cover_isImplied_4 (by decide) (fun hc_712 => ?_) (fun hc_712 => ?_)
    · have _nhc_712 := hc_712
      have ni_713 := (fa_le _ _).mp hc_712
      refine lv_iload_n hx hb d_Cover_isImplied_33 rfl (lv_at hl 2 rfl) ?_
      refine lv_iconst (v := 1) hx hb d_Cover_isImplied_34 (by decide) ?_
      refine lv_iadd hx hb d_Cover_isImplied_35 ?_
      refine lv_topi (fun v_714 ev_714 => ?_)
      obtain ⟨qv_714, hv_714⟩ := zI_add (l := 1) (h := 240) hb1 zc_1 ev_714 (by decide)
      rw [li_1] at qv_714
      refine lv_istore_n (lv' := [(3, .int v_714), (0, .ref b0), (1, .int b1), (2, .int b2)]) hx hb d_Cover_isImplied_36 rfl hl (by decide) rfl (fun ls hl => ?_)
      suffices key : ∀ (k_757 : Nat) (y_758 : Int32) (H : Heap) (locs : List Loc) (ls : Array Slot), (zI y_758 1 240) → (240 : Int) - y_758.toInt < (k_757 : Int) → va_P G.1 classes [(b0, .inr (9, [.int b3, .int b4, .int b5, .ref b6, .int b7])), (b6, .inl (G.2 0, 240, .inl b8))] H → va_D A [(b0, .inr (9, [.int b3, .int b4, .int b5, .ref b6, .int b7])), (b6, .inl (G.2 0, 240, .inl b8))] → va_S A s.heap H locs → lv_has ls 4 [(3, .int y_758), (0, .ref b0), (1, .int b1), (2, .int b2)] → W p l e m_s2_Cover_isImplied s m ([.ref b0, .int b1, .int b2] : List Value).toArray below meth c H locs 0 0 (MQ below (zQ G (fun v w => ∃ (e0 : Int32), v = some (.int e0) ∧ w = [(b0, .inr (9, [.int b3, .int b4, .int b5, .ref b6, .int b7])), (b6, .inl (G.2 0, 240, .inl b8))] ∧ (zI e0 0 1)) A) ([.ref b0, .int b1, .int b2] : List Value).toArray s m_s2_Cover_isImplied.cells m_s2_Cover_isImplied.slots A) (F0 m 37 ls []) by
        exact key 240 (v_714) _ _ _ hv_714 (zm_upi hv_714 (by decide)) hP hD hS (lv_sub hl [0, 1, 2, 3] rfl)
      intro k_757
      induction k_757 with
      | zero =>
        intro y_758 H locs ls hy_758 hmk_757 hP hD hS hl
        exact (zm_up0 hy_758 hmk_757).elim
      | succ k_757 ihk_757 =>
        intro y_758 H locs ls hy_758 hmk_757 hP hD hS hl
        refine lv_iload_n hx hb d_Cover_isImplied_37 rfl (lv_at hl 0 rfl) ?_
        refine lv_aload_n hx hb d_Cover_isImplied_38 rfl (lv_at hl 1 rfl) ?_
        refine va_get (D := G.1) (ci := 9) (v := .int b7) (C := R_Cover) (T := F_Cover) (N := 5) hx hb hts i_Cover hown hK hP 0 rfl rfl 4 (by decide) (hts _ q345) (fun _ h9 => h9) rfl d_Cover_isImplied_39 ?_
        refine lv_icmp_ge (tgt := 86) hx hb d_Cover_isImplied_42 (by decide) (fun hc_759 => ?_) (fun hc_759 => ?_)
        · have _nhc_759 := hc_759
          have ni_760 := (fa_le _ _).mp hc_759
          refine lv_iconst (v := 0) hx hb d_Cover_isImplied_86 (by decide) ?_
          exact z_zret hx hb hr hlocks rfl hP hD hS (Nat.le_of_ble_eq_true rfl) (Nat.le_of_ble_eq_true rfl) d_Cover_isImplied_87 ⟨0, rfl, rfl, (zI.wk (l' := 0) (h' := 1) zc_0 (by decide))⟩
        · have _nhc_759 := hc_759
          have ni_761 := (fa_lt _ _).mp (zi_nle hc_759)
          have hv_762 : zI y_758 1 239 := zI.lt_l hy_758 hb7 (zi_nle hc_759) (by decide)
          have hv_763 : zI b7 2 240 := zI.lt_r hy_758 hb7 (zi_nle hc_759) (by decide)
          refine lv_aload_n hx hb d_Cover_isImplied_45 rfl (lv_at hl 1 rfl) ?_
          refine va_get (D := G.1) (ci := 9) (v := .ref b6) (C := R_Cover) (T := F_Cover) (N := 5) hx hb hts i_Cover hown hK hP 0 rfl rfl 3 (by decide) (hts _ q344) (fun _ h9 => h9) rfl d_Cover_isImplied_46 ?_
          refine lv_iload_n hx hb d_Cover_isImplied_49 rfl (lv_at hl 0 rfl) ?_
          refine va_iald hx hb hK hP 1 0 rfl rfl (zI.inn hv_762 (by decide)) d_Cover_isImplied_50 ?_
          refine lv_topi (fun v_764 ev_764 => ?_)
          refine lv_aload_n hx hb d_Cover_isImplied_51 rfl (lv_at hl 1 rfl) ?_
          refine va_get (D := G.1) (ci := 9) (v := .ref b6) (C := R_Cover) (T := F_Cover) (N := 5) hx hb hts i_Cover hown hK hP 0 rfl rfl 3 (by decide) (hts _ q344) (fun _ h9 => h9) rfl d_Cover_isImplied_52 ?_
          refine lv_iload_n hx hb d_Cover_isImplied_55 rfl (lv_at hl 2 rfl) ?_
          refine va_iald hx hb hK hP 1 0 rfl rfl (zI.inn hb1 (by decide)) d_Cover_isImplied_56 ?_
          refine lv_topi (fun v_765 ev_765 => ?_)
          refine lv_iconst (v := (-1)) hx hb d_Cover_isImplied_57 (by decide) ?_
          refine lv_ixor hx hb d_Cover_isImplied_58 ?_
          refine lv_topi (fun v_766 ev_766 => ?_)
          refine lv_iand hx hb d_Cover_isImplied_59 ?_
          refine lv_topi (fun v_767 ev_767 => ?_)
          refine lv_if_ne (tgt := 80) hx hb d_Cover_isImplied_60 (by decide) (fun hc_768 => ?_) (fun hc_768 => ?_)
          · have _nhc_768 := hc_768
            have ni_769 : ¬ (v_767 : Int32).toInt = (0 : Int32).toInt := fun z => hc_768 ((fa_eq _ _).mpr z)
            simp only [li_0] at ni_769
            obtain ⟨v_770, ev_770⟩ : ∃ z : Int32, z = y_758 + 1 := ⟨_, rfl⟩
            obtain ⟨qv_770, hv_770⟩ := zI_add (l := 2) (h := 240) hv_762 zc_1 ev_770 (by decide)
            rw [li_1] at qv_770
            refine lv_iinc (v := v_770) (lv' := [(3, .int v_770), (0, .ref b0), (1, .int b1), (2, .int b2)]) hx hb d_Cover_isImplied_80 hl (k := 0) rfl (by rw [ev_770]; rfl) (by decide) rfl (fun ls hl => ?_)
            refine lv_goto (tgt := 37) hx hb d_Cover_isImplied_83 (by decide) ?_
            exact ihk_757 (v_770) _ _ _ (zI.wk (l' := 1) (h' := 240) hv_770 (by decide)) (zm_up qv_770 hmk_757 (by decide)) hP hD hS (lv_sub hl [0, 1, 2, 3] rfl)
          · have _nhc_768 := hc_768
            have ni_771 := (fa_eq _ _).mp hc_768
            rw [li_0] at ni_771
            have hv_772 : zI v_767 0 0 := zI.eq_l (zI_all v_767) zc_0 hc_768
            refine lv_aload_n hx hb d_Cover_isImplied_63 rfl (lv_at hl 1 rfl) ?_
            refine va_get (D := G.1) (ci := 9) (v := .ref b6) (C := R_Cover) (T := F_Cover) (N := 5) hx hb hts i_Cover hown hK hP 0 rfl rfl 3 (by decide) (hts _ q344) (fun _ h9 => h9) rfl d_Cover_isImplied_64 ?_
            refine lv_iload_n hx hb d_Cover_isImplied_67 rfl (lv_at hl 0 rfl) ?_
            refine va_iald hx hb hK hP 1 0 rfl rfl (zI.inn hv_762 (by decide)) d_Cover_isImplied_68 ?_
            refine lv_topi (fun v_773 ev_773 => ?_)
            obtain rfl : v_764 = v_773 := ev_764.trans ev_773.symm
            refine lv_aload_n hx hb d_Cover_isImplied_69 rfl (lv_at hl 1 rfl) ?_
            refine va_get (D := G.1) (ci := 9) (v := .ref b6) (C := R_Cover) (T := F_Cover) (N := 5) hx hb hts i_Cover hown hK hP 0 rfl rfl 3 (by decide) (hts _ q344) (fun _ h9 => h9) rfl d_Cover_isImplied_70 ?_
            refine lv_iload_n hx hb d_Cover_isImplied_73 rfl (lv_at hl 2 rfl) ?_
            refine va_iald hx hb hK hP 1 0 rfl rfl (zI.inn hb1 (by decide)) d_Cover_isImplied_74 ?_
            refine lv_topi (fun v_774 ev_774 => ?_)
            obtain rfl : v_765 = v_774 := ev_765.trans ev_774.symm
            refine lv_icmp_eq (tgt := 80) hx hb d_Cover_isImplied_75 (by decide) (fun hc_775 => ?_) (fun hc_775 => ?_)
            · have _nhc_775 := hc_775
              have ni_776 := (fa_eq _ _).mp hc_775
              obtain ⟨v_777, ev_777⟩ : ∃ z : Int32, z = y_758 + 1 := ⟨_, rfl⟩
              obtain ⟨qv_777, hv_777⟩ := zI_add (l := 2) (h := 240) hv_762 zc_1 ev_777 (by decide)
              rw [li_1] at qv_777
              refine lv_iinc (v := v_777) (lv' := [(3, .int v_777), (0, .ref b0), (1, .int b1), (2, .int b2)]) hx hb d_Cover_isImplied_80 hl (k := 0) rfl (by rw [ev_777]; rfl) (by decide) rfl (fun ls hl => ?_)
              refine lv_goto (tgt := 37) hx hb d_Cover_isImplied_83 (by decide) ?_
              exact ihk_757 (v_777) _ _ _ (zI.wk (l' := 1) (h' := 240) hv_777 (by decide)) (zm_up qv_777 hmk_757 (by decide)) hP hD hS (lv_sub hl [0, 1, 2, 3] rfl)
            · have _nhc_775 := hc_775
              have ni_778 : ¬ (v_764 : Int32).toInt = (v_765 : Int32).toInt := fun z => hc_775 ((fa_eq _ _).mpr z)
              refine lv_iconst (v := 1) hx hb d_Cover_isImplied_78 (by decide) ?_
              exact z_zret hx hb hr hlocks rfl hP hD hS (Nat.le_of_ble_eq_true rfl) (Nat.le_of_ble_eq_true rfl) d_Cover_isImplied_79 ⟨1, rfl, rfl, (zI.wk (l' := 0) (h' := 1) zc_1 (by decide))⟩
    · have _nhc_712 := hc_712
      have ni_779 := (fa_lt _ _).mp (zi_nle hc_712)
      have hv_780 : zI y_711 0 238 := zI.lt_l hy_711 hb2 (zi_nle hc_712) (by decide)
      have hv_781 : zI b2 1 239 := zI.lt_r hy_711 hb2 (zi_nle hc_712) (by decide)
      refine lv_aload_n hx hb d_Cover_isImplied_7 rfl (lv_at hl 1 rfl) ?_
      refine va_get (D := G.1) (ci := 9) (v := .ref b6) (C := R_Cover) (T := F_Cover) (N := 5) hx hb hts i_Cover hown hK hP 0 rfl rfl 3 (by decide) (hts _ q344) (fun _ h9 => h9) rfl d_Cover_isImplied_8 ?_
      refine lv_iload_n hx hb d_Cover_isImplied_11 rfl (lv_at hl 0 rfl) ?_
      refine va_iald hx hb hK hP 1 0 rfl rfl (zI.inn hv_780 (by decide)) d_Cover_isImplied_12 ?_
      refine lv_topi (fun v_782 ev_782 => ?_)
      refine lv_aload_n hx hb d_Cover_isImplied_13 rfl (lv_at hl 1 rfl) ?_
      refine va_get (D := G.1) (ci := 9) (v := .ref b6) (C := R_Cover) (T := F_Cover) (N := 5) hx hb hts i_Cover hown hK hP 0 rfl rfl 3 (by decide) (hts _ q344) (fun _ h9 => h9) rfl d_Cover_isImplied_14 ?_
      refine lv_iload_n hx hb d_Cover_isImplied_17 rfl (lv_at hl 2 rfl) ?_
      refine va_iald hx hb hK hP 1 0 rfl rfl (zI.inn hb1 (by decide)) d_Cover_isImplied_18 ?_
      refine lv_topi (fun v_783 ev_783 => ?_)
      refine lv_iconst (v := (-1)) hx hb d_Cover_isImplied_19 (by decide) ?_
      refine lv_ixor hx hb d_Cover_isImplied_20 ?_
      refine lv_topi (fun v_784 ev_784 => ?_)
      refine lv_iand hx hb d_Cover_isImplied_21 ?_
      refine lv_topi (fun v_785 ev_785 => ?_)
      refine lv_if_ne (tgt := 27) hx hb d_Cover_isImplied_22 (by decide) (fun hc_786 => ?_) (fun hc_786 => ?_)
      · have _nhc_786 := hc_786
        have ni_787 : ¬ (v_785 : Int32).toInt = (0 : Int32).toInt := fun z => hc_786 ((fa_eq _ _).mpr z)
        simp only [li_0] at ni_787
        obtain ⟨v_788, ev_788⟩ : ∃ z : Int32, z = y_711 + 1 := ⟨_, rfl⟩
        obtain ⟨qv_788, hv_788⟩ := zI_add (l := 1) (h := 239) hv_780 zc_1 ev_788 (by decide)
        rw [li_1] at qv_788
        refine lv_iinc (v := v_788) (lv' := [(3, .int v_788), (0, .ref b0), (1, .int b1), (2, .int b2)]) hx hb d_Cover_isImplied_27 hl (k := 0) rfl (by rw [ev_788]; rfl) (by decide) rfl (fun ls hl => ?_)
        refine lv_goto (tgt := 2) hx hb d_Cover_isImplied_30 (by decide) ?_
        exact ihk_710 (v_788) _ _ _ (zI.wk (l' := 0) (h' := 239) hv_788 (by decide)) (zm_up qv_788 hmk_710 (by decide)) hP hD hS (lv_sub hl [0, 1, 2, 3] rfl)
      · have _nhc_786 := hc_786
        have ni_789 := (fa_eq _ _).mp hc_786
        rw [li_0] at ni_789
        have hv_790 : zI v_785 0 0 := zI.eq_l (zI_all v_785) zc_0 hc_786
        refine lv_iconst (v := 1) hx hb d_Cover_isImplied_25 (by decide) ?_
        exact z_zret hx hb hr hlocks rfl hP hD hS (Nat.le_of_ble_eq_true rfl) (Nat.le_of_ble_eq_true rfl) d_Cover_isImplied_26 ⟨1, rfl, rfl, (zI.wk (l' := 0) (h' := 1) zc_1 (by decide))⟩
abbrev m_s1_Cover_leaveOutImplied : Room := { frames := 1, cells := 0, slots := 0, locals := 23 }
set_option maxHeartbeats 4000000 in
set_option maxRecDepth 100000 in
theorem s1_Cover_leaveOutImplied (l : Launch) (G : zG) (b0 : Nat) (b1 : Int32) (b2 : Int32) (b3 : Int32) (b4 : Nat) (b5 : Int32) (b6 : Nat → Int32) (hb1 : zI b1 0 1) (hb5 : zI b5 0 240) : zM l G y_Cover_leaveOutImplied prog_2_method_4_code 3 (Option.none : Option Jvm.ClassFile.FieldType) m_s1_Cover_leaveOutImplied [.ref b0] [(b0, .inr (9, [.int b1, .int b2, .int b3, .ref b4, .int b5])), (b4, .inl (G.2 0, 240, .inl b6))] (fun v w => ∃ (e0 : Int32), ∃ (e1 : Nat → Int32), v = none ∧ w = [(b0, .inr (9, [.int b1, .int b2, .int b3, .ref b4, .int e0])), (b4, .inl (G.2 0, 240, .inl e1))] ∧ (zI e0 0 240)) := by
  refine z_start (by decide +kernel) (Nat.le_of_ble_eq_true rfl) ?_
  intro p e s m below meth c A Z hr hnm hA hP hD hS ls hl
  have Z : zC p s m _ meth c prog_2_method_4_code 3 "TraceMachines$Cover" G := Z
  obtain ⟨hx, hb, hml, hown, hts, hK, hN, hlocks⟩ := id Z
  have hl : lv_has ls 3 [(0, .ref b0)] := hl
  refine lv_iconst (v := 0) hx hb d_Cover_leaveOutImplied_0 (by decide) ?_
  refine lv_istore_n (lv' := [(1, .int 0), (0, .ref b0)]) hx hb d_Cover_leaveOutImplied_1 rfl hl (by decide) rfl (fun ls hl => ?_)
  refine lv_iconst (v := 0) hx hb d_Cover_leaveOutImplied_2 (by decide) ?_
  refine lv_istore_n (lv' := [(2, .int 0), (1, .int 0), (0, .ref b0)]) hx hb d_Cover_leaveOutImplied_3 rfl hl (by decide) rfl (fun ls hl => ?_)
  suffices key : ∀ (k_156 : Nat) (y_157 : Int32) (y_158 : Int32) (y_159 : Nat → Int32) (H : Heap) (locs : List Loc) (ls : Array Slot), (zI y_157 0 240) → (zI y_158 0 240) → (y_158.toInt ≤ y_157.toInt) → (240 : Int) - y_157.toInt < (k_156 : Int) → va_P G.1 classes [(b0, .inr (9, [.int b1, .int b2, .int b3, .ref b4, .int b5])), (b4, .inl (G.2 0, 240, .inl y_159))] H → va_D A [(b0, .inr (9, [.int b1, .int b2, .int b3, .ref b4, .int b5])), (b4, .inl (G.2 0, 240, .inl y_159))] → va_S A s.heap H locs → lv_has ls 3 [(2, .int y_157), (1, .int y_158), (0, .ref b0)] → W p l e m_s1_Cover_leaveOutImplied s m ([.ref b0] : List Value).toArray below meth c H locs 0 0 (MQ below (zQ G (fun v w => ∃ (e0 : Int32), ∃ (e1 : Nat → Int32), v = none ∧ w = [(b0, .inr (9, [.int b1, .int b2, .int b3, .ref b4, .int e0])), (b4, .inl (G.2 0, 240, .inl e1))] ∧ (zI e0 0 240)) A) ([.ref b0] : List Value).toArray s m_s1_Cover_leaveOutImplied.cells m_s1_Cover_leaveOutImplied.slots A) (F0 m 4 ls []) by
    exact key 241 (0) (0) (b6) _ _ _ (zI.wk (l' := 0) (h' := 240) zc_0 (by decide)) (zI.wk (l' := 0) (h' := 240) zc_0 (by decide)) (by have _l0 := li_0; have _l1 := li_0; omega) (zm_upi (zI.wk (l' := 0) (h' := 240) zc_0 (by decide)) (by decide)) hP hD hS (lv_sub hl [0, 1, 2] rfl)
  intro k_156
  induction k_156 with
  | zero =>
    intro y_157 y_158 y_159 H locs ls hy_157 hy_158 hli_160 hmk_156 hP hD hS hl
    exact (zm_up0 hy_157 hmk_156).elim
  | succ k_156 ihk_156 =>
    intro y_157 y_158 y_159 H locs ls hy_157 hy_158 hli_160 hmk_156 hP hD hS hl
    refine lv_iload_n hx hb d_Cover_leaveOutImplied_4 rfl (lv_at hl 0 rfl) ?_
    refine lv_aload_n hx hb d_Cover_leaveOutImplied_5 rfl (lv_at hl 2 rfl) ?_
    refine va_get (D := G.1) (ci := 9) (v := .int b5) (C := R_Cover) (T := F_Cover) (N := 5) hx hb hts i_Cover hown hK hP 0 rfl rfl 4 (by decide) (hts _ q345) (fun _ h9 => h9) rfl d_Cover_leaveOutImplied_6 ?_
    refine lv_icmp_ge (tgt := 42) hx hb d_Cover_leaveOutImplied_9 (by decide) (fun hc_161 => ?_) (fun hc_161 => ?_)
    · have _nhc_161 := hc_161
      have ni_162 := (fa_le _ _).mp hc_161
      refine lv_aload_n hx hb d_Cover_leaveOutImplied_42 rfl (lv_at hl 2 rfl) ?_
      refine lv_iload_n hx hb d_Cover_leaveOutImplied_43 rfl (lv_at hl 1 rfl) ?_
      refine va_put (D := G.1) (ci := 9) (v := .int y_158) (ty := .int) (C := R_Cover) (T := F_Cover) (N := 5) hx hb hts i_Cover t_Cover t_Cover_ok n_Cover hown hK hP hD hS 0 rfl rfl 4 (by decide) (hts _ q345) (fun _ h9 => h9) rfl (by decide +kernel) rfl rfl (Nat.le_of_ble_eq_true rfl) d_Cover_leaveOutImplied_44 (fun H locs hP hD hS => ?_)
      have hP : va_P G.1 classes [(b0, .inr (9, [.int b1, .int b2, .int b3, .ref b4, .int y_158])), (b4, .inl (G.2 0, 240, .inl y_159))] H := hP
      have hD := z_tie hP hD rfl
      exact z_vret hx hb hr hlocks hP hD hS (Nat.le_of_ble_eq_true rfl) (Nat.le_of_ble_eq_true rfl) d_Cover_leaveOutImplied_47 ⟨y_158, y_159, rfl, rfl, hy_158⟩
    · have _nhc_161 := hc_161
      have ni_163 := (fa_lt _ _).mp (zi_nle hc_161)
      have hv_164 : zI y_157 0 239 := zI.lt_l hy_157 hb5 (zi_nle hc_161) (by decide)
      have hv_165 : zI b5 1 240 := zI.lt_r hy_157 hb5 (zi_nle hc_161) (by decide)
      have hv_166 : zI y_158 0 239 := ⟨by omega, by omega⟩
      refine lv_aload_n hx hb d_Cover_leaveOutImplied_12 rfl (lv_at hl 2 rfl) ?_
      refine lv_iload_n hx hb d_Cover_leaveOutImplied_13 rfl (lv_at hl 0 rfl) ?_
      refine lv_iload_n hx hb d_Cover_leaveOutImplied_14 rfl (lv_at hl 1 rfl) ?_
      refine z_callV (index := 66) (As := [.int y_157, .int y_158]) (rest := []) (wr := []) Z (s2_Cover_isImplied l G (b0) (y_157) (y_158) (b1) (b2) (b3) (b4) (b5) (y_159) hv_164 hv_166 hb1 (zI.wk (l' := 0) (h' := 240) hv_165 (by decide))) hl.1 q777 q779 qs19 q10 q780 ⟨by decide, by decide, by show _ = some 2; decide +kernel⟩ ⟨Nat.le_of_ble_eq_true rfl, Nat.le_of_ble_eq_true rfl⟩ ⟨Nat.le_of_ble_eq_true rfl, Nat.le_of_ble_eq_true rfl⟩ rfl (Nat.le_of_ble_eq_true rfl) d_Cover_leaveOutImplied_15 hP hD hS hA 0 9 rfl rfl rfl [0, 1] [] rfl rfl rfl rfl (by decide) (fun v w1 H locs hw_167 hP hD hS => ?_)
      obtain ⟨x_168, rfl, rfl, hx_168⟩ := hw_167
      have hP : va_P G.1 classes [(b0, .inr (9, [.int b1, .int b2, .int b3, .ref b4, .int b5])), (b4, .inl (G.2 0, 240, .inl y_159))] H := hP
      have hD := z_tie hP hD rfl
      refine W.widen (k := 0) (n := 0) (Nat.le_of_ble_eq_true rfl) (Nat.le_of_ble_eq_true rfl) ?_
      refine lv_if_ne (tgt := 36) hx hb d_Cover_leaveOutImplied_18 (by decide) (fun hc_169 => ?_) (fun hc_169 => ?_)
      · have _nhc_169 := hc_169
        have ni_170 : ¬ (x_168 : Int32).toInt = (0 : Int32).toInt := fun z => hc_169 ((fa_eq _ _).mpr z)
        simp only [li_0] at ni_170
        have hv_171 : zI x_168 1 1 := zI.ne_lo hx_168 zc_0 hc_169 (by decide)
        obtain ⟨v_172, ev_172⟩ : ∃ z : Int32, z = y_157 + 1 := ⟨_, rfl⟩
        obtain ⟨qv_172, hv_172⟩ := zI_add (l := 1) (h := 240) hv_164 zc_1 ev_172 (by decide)
        rw [li_1] at qv_172
        refine lv_iinc (v := v_172) (lv' := [(2, .int v_172), (1, .int y_158), (0, .ref b0)]) hx hb d_Cover_leaveOutImplied_36 hl (k := 0) rfl (by rw [ev_172]; rfl) (by decide) rfl (fun ls hl => ?_)
        refine lv_goto (tgt := 4) hx hb d_Cover_leaveOutImplied_39 (by decide) ?_
        exact ihk_156 (v_172) (y_158) (y_159) _ _ _ (zI.wk (l' := 0) (h' := 240) hv_172 (by decide)) (zI.wk (l' := 0) (h' := 240) hv_166 (by decide)) (by omega) (zm_up qv_172 hmk_156 (by decide)) hP hD hS (lv_sub hl [0, 1, 2] rfl)
      · have _nhc_169 := hc_169
        have ni_173 := (fa_eq _ _).mp hc_169
        rw [li_0] at ni_173
        have hv_174 : zI x_168 0 0 := zI.eq_l hx_168 zc_0 hc_169
        refine lv_aload_n hx hb d_Cover_leaveOutImplied_21 rfl (lv_at hl 2 rfl) ?_
        refine va_get (D := G.1) (ci := 9) (v := .ref b4) (C := R_Cover) (T := F_Cover) (N := 5) hx hb hts i_Cover hown hK hP 0 rfl rfl 3 (by decide) (hts _ q344) (fun _ h9 => h9) rfl d_Cover_leaveOutImplied_22 ?_
        refine lv_iload_n hx hb d_Cover_leaveOutImplied_25 rfl (lv_at hl 1 rfl) ?_
        refine lv_aload_n hx hb d_Cover_leaveOutImplied_26 rfl (lv_at hl 2 rfl) ?_
        refine va_get (D := G.1) (ci := 9) (v := .ref b4) (C := R_Cover) (T := F_Cover) (N := 5) hx hb hts i_Cover hown hK hP 0 rfl rfl 3 (by decide) (hts _ q344) (fun _ h9 => h9) rfl d_Cover_leaveOutImplied_27 ?_
        refine lv_iload_n hx hb d_Cover_leaveOutImplied_30 rfl (lv_at hl 0 rfl) ?_
        refine va_iald hx hb hK hP 1 0 rfl rfl (zI.inn hv_164 (by decide)) d_Cover_leaveOutImplied_31 ?_
        refine lv_topi (fun v_175 ev_175 => ?_)
        refine va_iast hx hb hK hP hD hS 1 0 rfl rfl (zI.inn hv_166 (by decide)) d_Cover_leaveOutImplied_32 (fun H locs hP hD hS => ?_)
        obtain ⟨f_176, gf_176, uf_176, hP, hD⟩ := z_newFu 1 hP hD rfl
        have hP : va_P G.1 classes [(b0, .inr (9, [.int b1, .int b2, .int b3, .ref b4, .int b5])), (b4, .inl (G.2 0, 240, .inl f_176))] H := hP
        have hD := z_tie hP hD rfl
        obtain ⟨v_177, ev_177⟩ : ∃ z : Int32, z = y_158 + 1 := ⟨_, rfl⟩
        obtain ⟨qv_177, hv_177⟩ := zI_add (l := 1) (h := 240) hv_166 zc_1 ev_177 (by decide)
        rw [li_1] at qv_177
        refine lv_iinc (v := v_177) (lv' := [(1, .int v_177), (2, .int y_157), (0, .ref b0)]) hx hb d_Cover_leaveOutImplied_33 hl (k := 1) rfl (by rw [ev_177]; rfl) (by decide) rfl (fun ls hl => ?_)
        obtain ⟨v_178, ev_178⟩ : ∃ z : Int32, z = y_157 + 1 := ⟨_, rfl⟩
        obtain ⟨qv_178, hv_178⟩ := zI_add (l := 1) (h := 240) hv_164 zc_1 ev_178 (by decide)
        rw [li_1] at qv_178
        refine lv_iinc (v := v_178) (lv' := [(2, .int v_178), (1, .int v_177), (0, .ref b0)]) hx hb d_Cover_leaveOutImplied_36 hl (k := 1) rfl (by rw [ev_178]; rfl) (by decide) rfl (fun ls hl => ?_)
        refine lv_goto (tgt := 4) hx hb d_Cover_leaveOutImplied_39 (by decide) ?_
        exact ihk_156 (v_178) (v_177) (f_176) _ _ _ (zI.wk (l' := 0) (h' := 240) hv_178 (by decide)) (zI.wk (l' := 0) (h' := 240) hv_177 (by decide)) (by omega) (zm_up qv_178 hmk_156 (by decide)) hP hD hS (lv_sub hl [0, 1, 2] rfl)
theorem d_Cover_hardest_0 : decode prog_2_method_7_code 0 = .ok (.iconst (-1), 1) := by decide +kernel
theorem d_Cover_hardest_1 : decode prog_2_method_7_code 1 = .ok (.istore_n 3, 1) := by decide +kernel
theorem d_Cover_hardest_2 : decode prog_2_method_7_code 2 = .ok (.bipush 21, 2) := by decide +kernel
theorem d_Cover_hardest_4 : decode prog_2_method_7_code 4 = .ok (.istore 4, 2) := by decide +kernel
theorem d_Cover_hardest_6 : decode prog_2_method_7_code 6 = .ok (.iconst 0, 1) := by decide +kernel
theorem d_Cover_hardest_7 : decode prog_2_method_7_code 7 = .ok (.istore 5, 2) := by decide +kernel
theorem d_Cover_hardest_9 : decode prog_2_method_7_code 9 = .ok (.iload 5, 2) := by decide +kernel
theorem d_Cover_hardest_11 : decode prog_2_method_7_code 11 = .ok (.aload_n 0, 1) := by decide +kernel
theorem d_Cover_hardest_12 : decode prog_2_method_7_code 12 = .ok (.getfield 47, 3) := by decide +kernel
theorem d_Cover_hardest_15 : decode prog_2_method_7_code 15 = .ok (.if_icmp .ge 51, 3) := by decide +kernel
theorem d_Cover_hardest_18 : decode prog_2_method_7_code 18 = .ok (.aload_n 0, 1) := by decide +kernel
theorem d_Cover_hardest_19 : decode prog_2_method_7_code 19 = .ok (.getfield 9, 3) := by decide +kernel
theorem d_Cover_hardest_22 : decode prog_2_method_7_code 22 = .ok (.iload 5, 2) := by decide +kernel
theorem d_Cover_hardest_24 : decode prog_2_method_7_code 24 = .ok (.iaload, 1) := by decide +kernel
theorem d_Cover_hardest_25 : decode prog_2_method_7_code 25 = .ok (.iload_n 1, 1) := by decide +kernel
theorem d_Cover_hardest_26 : decode prog_2_method_7_code 26 = .ok (.iand, 1) := by decide +kernel
theorem d_Cover_hardest_27 : decode prog_2_method_7_code 27 = .ok (.ifCond .ne 33, 3) := by decide +kernel
theorem d_Cover_hardest_30 : decode prog_2_method_7_code 30 = .ok (.aload_n 0, 1) := by decide +kernel
theorem d_Cover_hardest_31 : decode prog_2_method_7_code 31 = .ok (.getfield 9, 3) := by decide +kernel
theorem d_Cover_hardest_34 : decode prog_2_method_7_code 34 = .ok (.iload 5, 2) := by decide +kernel
theorem d_Cover_hardest_36 : decode prog_2_method_7_code 36 = .ok (.iaload, 1) := by decide +kernel
theorem d_Cover_hardest_37 : decode prog_2_method_7_code 37 = .ok (.iload_n 2, 1) := by decide +kernel
theorem d_Cover_hardest_38 : decode prog_2_method_7_code 38 = .ok (.iconst (-1), 1) := by decide +kernel
theorem d_Cover_hardest_39 : decode prog_2_method_7_code 39 = .ok (.ixor, 1) := by decide +kernel
theorem d_Cover_hardest_40 : decode prog_2_method_7_code 40 = .ok (.iand, 1) := by decide +kernel
theorem d_Cover_hardest_41 : decode prog_2_method_7_code 41 = .ok (.invokestatic 73, 3) := by decide +kernel
theorem d_Cover_hardest_44 : decode prog_2_method_7_code 44 = .ok (.istore 6, 2) := by decide +kernel
theorem d_Cover_hardest_46 : decode prog_2_method_7_code 46 = .ok (.iload 6, 2) := by decide +kernel
theorem d_Cover_hardest_48 : decode prog_2_method_7_code 48 = .ok (.iload 4, 2) := by decide +kernel
theorem d_Cover_hardest_50 : decode prog_2_method_7_code 50 = .ok (.if_icmp .ge 10, 3) := by decide +kernel
theorem d_Cover_hardest_53 : decode prog_2_method_7_code 53 = .ok (.iload 6, 2) := by decide +kernel
theorem d_Cover_hardest_55 : decode prog_2_method_7_code 55 = .ok (.istore 4, 2) := by decide +kernel
theorem d_Cover_hardest_57 : decode prog_2_method_7_code 57 = .ok (.iload 5, 2) := by decide +kernel
theorem d_Cover_hardest_59 : decode prog_2_method_7_code 59 = .ok (.istore_n 3, 1) := by decide +kernel
theorem d_Cover_hardest_60 : decode prog_2_method_7_code 60 = .ok (.iinc 5 1, 3) := by decide +kernel
theorem d_Cover_hardest_63 : decode prog_2_method_7_code 63 = .ok (.goto (-54), 3) := by decide +kernel
theorem d_Cover_hardest_66 : decode prog_2_method_7_code 66 = .ok (.iload_n 3, 1) := by decide +kernel
theorem d_Cover_hardest_67 : decode prog_2_method_7_code 67 = .ok (.ireturn, 1) := by decide +kernel
theorem d_Integer_bitCount_0 : decode prog_17_method_49_code 0 = .ok (.iload_n 0, 1) := by decide +kernel
theorem d_Integer_bitCount_1 : decode prog_17_method_49_code 1 = .ok (.iload_n 0, 1) := by decide +kernel
theorem d_Integer_bitCount_2 : decode prog_17_method_49_code 2 = .ok (.iconst 1, 1) := by decide +kernel
theorem d_Integer_bitCount_3 : decode prog_17_method_49_code 3 = .ok (.iushr, 1) := by decide +kernel
theorem d_Integer_bitCount_4 : decode prog_17_method_49_code 4 = .ok (.ldc_w 265, 3) := by decide +kernel
theorem d_Integer_bitCount_7 : decode prog_17_method_49_code 7 = .ok (.iand, 1) := by decide +kernel
theorem d_Integer_bitCount_8 : decode prog_17_method_49_code 8 = .ok (.isub, 1) := by decide +kernel
theorem d_Integer_bitCount_9 : decode prog_17_method_49_code 9 = .ok (.istore_n 0, 1) := by decide +kernel
theorem d_Integer_bitCount_10 : decode prog_17_method_49_code 10 = .ok (.iload_n 0, 1) := by decide +kernel
theorem d_Integer_bitCount_11 : decode prog_17_method_49_code 11 = .ok (.ldc_w 266, 3) := by decide +kernel
theorem d_Integer_bitCount_14 : decode prog_17_method_49_code 14 = .ok (.iand, 1) := by decide +kernel
theorem d_Integer_bitCount_15 : decode prog_17_method_49_code 15 = .ok (.iload_n 0, 1) := by decide +kernel
theorem d_Integer_bitCount_16 : decode prog_17_method_49_code 16 = .ok (.iconst 2, 1) := by decide +kernel
theorem d_Integer_bitCount_17 : decode prog_17_method_49_code 17 = .ok (.iushr, 1) := by decide +kernel
theorem d_Integer_bitCount_18 : decode prog_17_method_49_code 18 = .ok (.ldc_w 266, 3) := by decide +kernel
theorem d_Integer_bitCount_21 : decode prog_17_method_49_code 21 = .ok (.iand, 1) := by decide +kernel
theorem d_Integer_bitCount_22 : decode prog_17_method_49_code 22 = .ok (.iadd, 1) := by decide +kernel
theorem d_Integer_bitCount_23 : decode prog_17_method_49_code 23 = .ok (.istore_n 0, 1) := by decide +kernel
theorem d_Integer_bitCount_24 : decode prog_17_method_49_code 24 = .ok (.iload_n 0, 1) := by decide +kernel
theorem d_Integer_bitCount_25 : decode prog_17_method_49_code 25 = .ok (.iload_n 0, 1) := by decide +kernel
theorem d_Integer_bitCount_26 : decode prog_17_method_49_code 26 = .ok (.iconst 4, 1) := by decide +kernel
theorem d_Integer_bitCount_27 : decode prog_17_method_49_code 27 = .ok (.iushr, 1) := by decide +kernel
theorem d_Integer_bitCount_28 : decode prog_17_method_49_code 28 = .ok (.iadd, 1) := by decide +kernel
theorem d_Integer_bitCount_29 : decode prog_17_method_49_code 29 = .ok (.ldc_w 267, 3) := by decide +kernel
theorem d_Integer_bitCount_32 : decode prog_17_method_49_code 32 = .ok (.iand, 1) := by decide +kernel
theorem d_Integer_bitCount_33 : decode prog_17_method_49_code 33 = .ok (.istore_n 0, 1) := by decide +kernel
theorem d_Integer_bitCount_34 : decode prog_17_method_49_code 34 = .ok (.iload_n 0, 1) := by decide +kernel
theorem d_Integer_bitCount_35 : decode prog_17_method_49_code 35 = .ok (.iload_n 0, 1) := by decide +kernel
theorem d_Integer_bitCount_36 : decode prog_17_method_49_code 36 = .ok (.bipush 8, 2) := by decide +kernel
theorem d_Integer_bitCount_38 : decode prog_17_method_49_code 38 = .ok (.iushr, 1) := by decide +kernel
theorem d_Integer_bitCount_39 : decode prog_17_method_49_code 39 = .ok (.iadd, 1) := by decide +kernel
theorem d_Integer_bitCount_40 : decode prog_17_method_49_code 40 = .ok (.istore_n 0, 1) := by decide +kernel
theorem d_Integer_bitCount_41 : decode prog_17_method_49_code 41 = .ok (.iload_n 0, 1) := by decide +kernel
theorem d_Integer_bitCount_42 : decode prog_17_method_49_code 42 = .ok (.iload_n 0, 1) := by decide +kernel
theorem d_Integer_bitCount_43 : decode prog_17_method_49_code 43 = .ok (.bipush 16, 2) := by decide +kernel
theorem d_Integer_bitCount_45 : decode prog_17_method_49_code 45 = .ok (.iushr, 1) := by decide +kernel
theorem d_Integer_bitCount_46 : decode prog_17_method_49_code 46 = .ok (.iadd, 1) := by decide +kernel
theorem d_Integer_bitCount_47 : decode prog_17_method_49_code 47 = .ok (.istore_n 0, 1) := by decide +kernel
theorem d_Integer_bitCount_48 : decode prog_17_method_49_code 48 = .ok (.iload_n 0, 1) := by decide +kernel
theorem d_Integer_bitCount_49 : decode prog_17_method_49_code 49 = .ok (.bipush 63, 2) := by decide +kernel
theorem d_Integer_bitCount_51 : decode prog_17_method_49_code 51 = .ok (.iand, 1) := by decide +kernel
theorem d_Integer_bitCount_52 : decode prog_17_method_49_code 52 = .ok (.ireturn, 1) := by decide +kernel
theorem zc_21 : zI 21 21 21 := ⟨by decide +kernel, by decide +kernel⟩
theorem li_21 : (21 : Int32).toInt = 21 := by decide +kernel
abbrev m_s2_Integer_bitCount : Room := { frames := 0, cells := 0, slots := 0, locals := 0 }
set_option maxHeartbeats 4000000 in
set_option maxRecDepth 100000 in
theorem s2_Integer_bitCount (l : Launch) (G : zG) (b0 : Int32)  : zM l G y_Integer_bitCount prog_17_method_49_code 1 (Option.some Jvm.ClassFile.FieldType.int) m_s2_Integer_bitCount [.int b0] [] (fun v w => ∃ (e0 : Int32), v = some (.int e0) ∧ w = [] ∧ (zI e0 0 63)) := by
  refine z_start (by decide +kernel) (Nat.le_of_ble_eq_true rfl) ?_
  intro p e s m below meth c A Z hr hnm hA hP hD hS ls hl
  have Z : zC p s m _ meth c prog_17_method_49_code 1 "java/lang/Integer" G := Z
  obtain ⟨hx, hb, hml, hown, hts, hK, hN, hlocks⟩ := id Z
  have hl : lv_has ls 1 [(0, .int b0)] := hl
  refine lv_iload_n hx hb d_Integer_bitCount_0 rfl (lv_at hl 0 rfl) ?_
  refine lv_iload_n hx hb d_Integer_bitCount_1 rfl (lv_at hl 0 rfl) ?_
  refine lv_iconst (v := 1) hx hb d_Integer_bitCount_2 (by decide) ?_
  obtain ⟨v_1, ev_1⟩ : ∃ z : Int32, z = ((b0).toUInt32 >>> ((1 : Int32).toUInt32 &&& Int32.toUInt32 31)).toInt32 := ⟨_, rfl⟩
  refine lv_iushr (v := v_1) hx hb d_Integer_bitCount_3 ev_1.symm ?_
  refine lv_ldcw hx hb hown (hts _ q792) d_Integer_bitCount_4 ?_
  refine lv_iand hx hb d_Integer_bitCount_7 ?_
  refine lv_topi (fun v_2 ev_2 => ?_)
  refine lv_isub hx hb d_Integer_bitCount_8 ?_
  refine lv_topi (fun v_3 ev_3 => ?_)
  refine lv_istore_n (lv' := [(0, .int v_3)]) hx hb d_Integer_bitCount_9 rfl hl (by decide) rfl (fun ls hl => ?_)
  refine lv_iload_n hx hb d_Integer_bitCount_10 rfl (lv_at hl 0 rfl) ?_
  refine lv_ldcw hx hb hown (hts _ q793) d_Integer_bitCount_11 ?_
  refine lv_iand hx hb d_Integer_bitCount_14 ?_
  refine lv_topi (fun v_4 ev_4 => ?_)
  refine lv_iload_n hx hb d_Integer_bitCount_15 rfl (lv_at hl 0 rfl) ?_
  refine lv_iconst (v := 2) hx hb d_Integer_bitCount_16 (by decide) ?_
  obtain ⟨v_5, ev_5⟩ : ∃ z : Int32, z = ((v_3).toUInt32 >>> ((2 : Int32).toUInt32 &&& Int32.toUInt32 31)).toInt32 := ⟨_, rfl⟩
  refine lv_iushr (v := v_5) hx hb d_Integer_bitCount_17 ev_5.symm ?_
  refine lv_ldcw hx hb hown (hts _ q793) d_Integer_bitCount_18 ?_
  refine lv_iand hx hb d_Integer_bitCount_21 ?_
  refine lv_topi (fun v_6 ev_6 => ?_)
  refine lv_iadd hx hb d_Integer_bitCount_22 ?_
  refine lv_topi (fun v_7 ev_7 => ?_)
  refine lv_istore_n (lv' := [(0, .int v_7)]) hx hb d_Integer_bitCount_23 rfl hl (by decide) rfl (fun ls hl => ?_)
  refine lv_iload_n hx hb d_Integer_bitCount_24 rfl (lv_at hl 0 rfl) ?_
  refine lv_iload_n hx hb d_Integer_bitCount_25 rfl (lv_at hl 0 rfl) ?_
  refine lv_iconst (v := 4) hx hb d_Integer_bitCount_26 (by decide) ?_
  obtain ⟨v_8, ev_8⟩ : ∃ z : Int32, z = ((v_7).toUInt32 >>> ((4 : Int32).toUInt32 &&& Int32.toUInt32 31)).toInt32 := ⟨_, rfl⟩
  refine lv_iushr (v := v_8) hx hb d_Integer_bitCount_27 ev_8.symm ?_
  refine lv_iadd hx hb d_Integer_bitCount_28 ?_
  refine lv_topi (fun v_9 ev_9 => ?_)
  refine lv_ldcw hx hb hown (hts _ q794) d_Integer_bitCount_29 ?_
  refine lv_iand hx hb d_Integer_bitCount_32 ?_
  refine lv_topi (fun v_10 ev_10 => ?_)
  refine lv_istore_n (lv' := [(0, .int v_10)]) hx hb d_Integer_bitCount_33 rfl hl (by decide) rfl (fun ls hl => ?_)
  refine lv_iload_n hx hb d_Integer_bitCount_34 rfl (lv_at hl 0 rfl) ?_
  refine lv_iload_n hx hb d_Integer_bitCount_35 rfl (lv_at hl 0 rfl) ?_
  refine lv_bipush (v := 8) hx hb d_Integer_bitCount_36 (by decide) ?_
  obtain ⟨v_11, ev_11⟩ : ∃ z : Int32, z = ((v_10).toUInt32 >>> ((8 : Int32).toUInt32 &&& Int32.toUInt32 31)).toInt32 := ⟨_, rfl⟩
  refine lv_iushr (v := v_11) hx hb d_Integer_bitCount_38 ev_11.symm ?_
  refine lv_iadd hx hb d_Integer_bitCount_39 ?_
  refine lv_topi (fun v_12 ev_12 => ?_)
  refine lv_istore_n (lv' := [(0, .int v_12)]) hx hb d_Integer_bitCount_40 rfl hl (by decide) rfl (fun ls hl => ?_)
  refine lv_iload_n hx hb d_Integer_bitCount_41 rfl (lv_at hl 0 rfl) ?_
  refine lv_iload_n hx hb d_Integer_bitCount_42 rfl (lv_at hl 0 rfl) ?_
  refine lv_bipush (v := 16) hx hb d_Integer_bitCount_43 (by decide) ?_
  obtain ⟨v_13, ev_13⟩ : ∃ z : Int32, z = ((v_12).toUInt32 >>> ((16 : Int32).toUInt32 &&& Int32.toUInt32 31)).toInt32 := ⟨_, rfl⟩
  refine lv_iushr (v := v_13) hx hb d_Integer_bitCount_45 ev_13.symm ?_
  refine lv_iadd hx hb d_Integer_bitCount_46 ?_
  refine lv_topi (fun v_14 ev_14 => ?_)
  refine lv_istore_n (lv' := [(0, .int v_14)]) hx hb d_Integer_bitCount_47 rfl hl (by decide) rfl (fun ls hl => ?_)
  refine lv_iload_n hx hb d_Integer_bitCount_48 rfl (lv_at hl 0 rfl) ?_
  refine lv_bipush (v := 63) hx hb d_Integer_bitCount_49 (by decide) ?_
  refine lv_iand hx hb d_Integer_bitCount_51 ?_
  refine lv_topi (fun v_15 ev_15 => ?_)
  have hv_15 := zI_and (k := 6) (h := 63) (by decide +kernel) ev_15 (by decide)
  exact z_iret hx hb hr hlocks hP hD hS (Nat.le_of_ble_eq_true rfl) (Nat.le_of_ble_eq_true rfl) d_Integer_bitCount_52 ⟨v_15, rfl, rfl, hv_15⟩
abbrev m_s1_Cover_hardest : Room := { frames := 1, cells := 0, slots := 0, locals := 20 }
set_option maxHeartbeats 4000000 in
set_option maxRecDepth 100000 in
theorem s1_Cover_hardest (l : Launch) (G : zG) (b0 : Nat) (b1 : Int32) (b2 : Int32) (b3 : Int32) (b4 : Int32) (b5 : Int32) (b6 : Nat) (b7 : Int32) (b8 : Nat → Int32) (hb3 : zI b3 0 1) (hb7 : zI b7 0 240) : zM l G y_Cover_hardest prog_2_method_7_code 7 (Option.some Jvm.ClassFile.FieldType.int) m_s1_Cover_hardest [.ref b0, .int b1, .int b2] [(b0, .inr (9, [.int b3, .int b4, .int b5, .ref b6, .int b7])), (b6, .inl (G.2 0, 240, .inl b8))] (fun v w => ∃ (e0 : Int32), v = some (.int e0) ∧ w = [(b0, .inr (9, [.int b3, .int b4, .int b5, .ref b6, .int b7])), (b6, .inl (G.2 0, 240, .inl b8))] ∧ (zI e0 (-1) 239)) := by
  refine z_start (by decide +kernel) (Nat.le_of_ble_eq_true rfl) ?_
  intro p e s m below meth c A Z hr hnm hA hP hD hS ls hl
  have Z : zC p s m _ meth c prog_2_method_7_code 7 "TraceMachines$Cover" G := Z
  obtain ⟨hx, hb, hml, hown, hts, hK, hN, hlocks⟩ := id Z
  have hl : lv_has ls 7 [(0, .ref b0), (1, .int b1), (2, .int b2)] := hl
  refine lv_iconst (v := (-1)) hx hb d_Cover_hardest_0 (by decide) ?_
  refine lv_istore_n (lv' := [(3, .int (-1)), (0, .ref b0), (1, .int b1), (2, .int b2)]) hx hb d_Cover_hardest_1 rfl hl (by decide) rfl (fun ls hl => ?_)
  refine lv_bipush (v := 21) hx hb d_Cover_hardest_2 (by decide) ?_
  refine lv_istore (lv' := [(4, .int 21), (3, .int (-1)), (0, .ref b0), (1, .int b1), (2, .int b2)]) hx hb d_Cover_hardest_4 hl (by decide) rfl (fun ls hl => ?_)
  refine lv_iconst (v := 0) hx hb d_Cover_hardest_6 (by decide) ?_
  refine lv_istore (lv' := [(5, .int 0), (4, .int 21), (3, .int (-1)), (0, .ref b0), (1, .int b1), (2, .int b2)]) hx hb d_Cover_hardest_7 hl (by decide) rfl (fun ls hl => ?_)
  suffices key : ∀ (k_265 : Nat) (y_266 : Int32) (y_267 : Int32) (y_268 : Int32) (H : Heap) (locs : List Loc) (ls : Array Slot), (zI y_266 0 240) → (zI y_267 0 21) → (zI y_268 (-1) 239) → (240 : Int) - y_266.toInt < (k_265 : Int) → va_P G.1 classes [(b0, .inr (9, [.int b3, .int b4, .int b5, .ref b6, .int b7])), (b6, .inl (G.2 0, 240, .inl b8))] H → va_D A [(b0, .inr (9, [.int b3, .int b4, .int b5, .ref b6, .int b7])), (b6, .inl (G.2 0, 240, .inl b8))] → va_S A s.heap H locs → lv_has ls 7 [(5, .int y_266), (4, .int y_267), (3, .int y_268), (0, .ref b0), (1, .int b1), (2, .int b2)] → W p l e m_s1_Cover_hardest s m ([.ref b0, .int b1, .int b2] : List Value).toArray below meth c H locs 0 0 (MQ below (zQ G (fun v w => ∃ (e0 : Int32), v = some (.int e0) ∧ w = [(b0, .inr (9, [.int b3, .int b4, .int b5, .ref b6, .int b7])), (b6, .inl (G.2 0, 240, .inl b8))] ∧ (zI e0 (-1) 239)) A) ([.ref b0, .int b1, .int b2] : List Value).toArray s m_s1_Cover_hardest.cells m_s1_Cover_hardest.slots A) (F0 m 9 ls []) by
    exact key 241 (0) (21) ((-1)) _ _ _ (zI.wk (l' := 0) (h' := 240) zc_0 (by decide)) (zI.wk (l' := 0) (h' := 21) zc_21 (by decide)) (zI.wk (l' := (-1)) (h' := 239) zc_m1 (by decide)) (zm_upi (zI.wk (l' := 0) (h' := 240) zc_0 (by decide)) (by decide)) hP hD hS (lv_sub hl [0, 1, 2, 3, 4, 5] rfl)
  intro k_265
  induction k_265 with
  | zero =>
    intro y_266 y_267 y_268 H locs ls hy_266 hy_267 hy_268 hmk_265 hP hD hS hl
    exact (zm_up0 hy_266 hmk_265).elim
  | succ k_265 ihk_265 =>
    intro y_266 y_267 y_268 H locs ls hy_266 hy_267 hy_268 hmk_265 hP hD hS hl
    refine lv_iload hx hb d_Cover_hardest_9 (lv_at hl 0 rfl) ?_
    refine lv_aload_n hx hb d_Cover_hardest_11 rfl (lv_at hl 3 rfl) ?_
    refine va_get (D := G.1) (ci := 9) (v := .int b7) (C := R_Cover) (T := F_Cover) (N := 5) hx hb hts i_Cover hown hK hP 0 rfl rfl 4 (by decide) (hts _ q345) (fun _ h9 => h9) rfl d_Cover_hardest_12 ?_
    refine lv_icmp_ge (tgt := 66) hx hb d_Cover_hardest_15 (by decide) (fun hc_269 => ?_) (fun hc_269 => ?_)
    · have _nhc_269 := hc_269
      have ni_270 := (fa_le _ _).mp hc_269
      refine lv_iload_n hx hb d_Cover_hardest_66 rfl (lv_at hl 2 rfl) ?_
      exact z_iret hx hb hr hlocks hP hD hS (Nat.le_of_ble_eq_true rfl) (Nat.le_of_ble_eq_true rfl) d_Cover_hardest_67 ⟨y_268, rfl, rfl, hy_268⟩
    · have _nhc_269 := hc_269
      have ni_271 := (fa_lt _ _).mp (zi_nle hc_269)
      have hv_272 : zI y_266 0 239 := zI.lt_l hy_266 hb7 (zi_nle hc_269) (by decide)
      have hv_273 : zI b7 1 240 := zI.lt_r hy_266 hb7 (zi_nle hc_269) (by decide)
      refine lv_aload_n hx hb d_Cover_hardest_18 rfl (lv_at hl 3 rfl) ?_
      refine va_get (D := G.1) (ci := 9) (v := .ref b6) (C := R_Cover) (T := F_Cover) (N := 5) hx hb hts i_Cover hown hK hP 0 rfl rfl 3 (by decide) (hts _ q344) (fun _ h9 => h9) rfl d_Cover_hardest_19 ?_
      refine lv_iload hx hb d_Cover_hardest_22 (lv_at hl 0 rfl) ?_
      refine va_iald hx hb hK hP 1 0 rfl rfl (zI.inn hv_272 (by decide)) d_Cover_hardest_24 ?_
      refine lv_topi (fun v_274 ev_274 => ?_)
      refine lv_iload_n hx hb d_Cover_hardest_25 rfl (lv_at hl 4 rfl) ?_
      refine lv_iand hx hb d_Cover_hardest_26 ?_
      refine lv_topi (fun v_275 ev_275 => ?_)
      refine lv_if_ne (tgt := 60) hx hb d_Cover_hardest_27 (by decide) (fun hc_276 => ?_) (fun hc_276 => ?_)
      · have _nhc_276 := hc_276
        have ni_277 : ¬ (v_275 : Int32).toInt = (0 : Int32).toInt := fun z => hc_276 ((fa_eq _ _).mpr z)
        simp only [li_0] at ni_277
        obtain ⟨v_278, ev_278⟩ : ∃ z : Int32, z = y_266 + 1 := ⟨_, rfl⟩
        obtain ⟨qv_278, hv_278⟩ := zI_add (l := 1) (h := 240) hv_272 zc_1 ev_278 (by decide)
        rw [li_1] at qv_278
        refine lv_iinc (v := v_278) (lv' := [(5, .int v_278), (4, .int y_267), (3, .int y_268), (0, .ref b0), (1, .int b1), (2, .int b2)]) hx hb d_Cover_hardest_60 hl (k := 0) rfl (by rw [ev_278]; rfl) (by decide) rfl (fun ls hl => ?_)
        refine lv_goto (tgt := 9) hx hb d_Cover_hardest_63 (by decide) ?_
        exact ihk_265 (v_278) (y_267) (y_268) _ _ _ (zI.wk (l' := 0) (h' := 240) hv_278 (by decide)) hy_267 hy_268 (zm_up qv_278 hmk_265 (by decide)) hP hD hS (lv_sub hl [0, 1, 2, 3, 4, 5] rfl)
      · have _nhc_276 := hc_276
        have ni_279 := (fa_eq _ _).mp hc_276
        rw [li_0] at ni_279
        have hv_280 : zI v_275 0 0 := zI.eq_l (zI_all v_275) zc_0 hc_276
        refine lv_aload_n hx hb d_Cover_hardest_30 rfl (lv_at hl 3 rfl) ?_
        refine va_get (D := G.1) (ci := 9) (v := .ref b6) (C := R_Cover) (T := F_Cover) (N := 5) hx hb hts i_Cover hown hK hP 0 rfl rfl 3 (by decide) (hts _ q344) (fun _ h9 => h9) rfl d_Cover_hardest_31 ?_
        refine lv_iload hx hb d_Cover_hardest_34 (lv_at hl 0 rfl) ?_
        refine va_iald hx hb hK hP 1 0 rfl rfl (zI.inn hv_272 (by decide)) d_Cover_hardest_36 ?_
        refine lv_topi (fun v_281 ev_281 => ?_)
        obtain rfl : v_274 = v_281 := ev_274.trans ev_281.symm
        refine lv_iload_n hx hb d_Cover_hardest_37 rfl (lv_at hl 5 rfl) ?_
        refine lv_iconst (v := (-1)) hx hb d_Cover_hardest_38 (by decide) ?_
        refine lv_ixor hx hb d_Cover_hardest_39 ?_
        refine lv_topi (fun v_282 ev_282 => ?_)
        refine lv_iand hx hb d_Cover_hardest_40 ?_
        refine lv_topi (fun v_283 ev_283 => ?_)
        refine z_callS (index := 73) (As := [.int v_283]) (rest := []) (wr := [(b0, .inr (9, [.int b3, .int b4, .int b5, .ref b6, .int b7])), (b6, .inl (G.2 0, 240, .inl b8))]) Z (s2_Integer_bitCount l G (v_283)) hl.1 q789 q790 q22 q791 ⟨by decide, by decide, by show _ = some 1; decide +kernel⟩ ⟨Nat.le_of_ble_eq_true rfl, Nat.le_of_ble_eq_true rfl⟩ ⟨Nat.le_of_ble_eq_true rfl, Nat.le_of_ble_eq_true rfl⟩ rfl (Nat.le_of_ble_eq_true rfl) d_Cover_hardest_41 hP hD hS hA [] [0, 1] rfl rfl rfl rfl (by decide) (fun v w1 H locs hw_284 hP hD hS => ?_)
        obtain ⟨x_285, rfl, rfl, hx_285⟩ := hw_284
        have hP : va_P G.1 classes [(b0, .inr (9, [.int b3, .int b4, .int b5, .ref b6, .int b7])), (b6, .inl (G.2 0, 240, .inl b8))] H := hP
        have hD := z_tie hP hD rfl
        refine W.widen (k := 0) (n := 0) (Nat.le_of_ble_eq_true rfl) (Nat.le_of_ble_eq_true rfl) ?_
        refine lv_istore (lv' := [(6, .int x_285), (5, .int y_266), (4, .int y_267), (3, .int y_268), (0, .ref b0), (1, .int b1), (2, .int b2)]) hx hb d_Cover_hardest_44 hl (by decide) rfl (fun ls hl => ?_)
        refine lv_iload hx hb d_Cover_hardest_46 (lv_at hl 0 rfl) ?_
        refine lv_iload hx hb d_Cover_hardest_48 (lv_at hl 2 rfl) ?_
        refine lv_icmp_ge (tgt := 60) hx hb d_Cover_hardest_50 (by decide) (fun hc_286 => ?_) (fun hc_286 => ?_)
        · have _nhc_286 := hc_286
          have ni_287 := (fa_le _ _).mp hc_286
          obtain ⟨v_288, ev_288⟩ : ∃ z : Int32, z = y_266 + 1 := ⟨_, rfl⟩
          obtain ⟨qv_288, hv_288⟩ := zI_add (l := 1) (h := 240) hv_272 zc_1 ev_288 (by decide)
          rw [li_1] at qv_288
          refine lv_iinc (v := v_288) (lv' := [(5, .int v_288), (6, .int x_285), (4, .int y_267), (3, .int y_268), (0, .ref b0), (1, .int b1), (2, .int b2)]) hx hb d_Cover_hardest_60 hl (k := 1) rfl (by rw [ev_288]; rfl) (by decide) rfl (fun ls hl => ?_)
          refine lv_goto (tgt := 9) hx hb d_Cover_hardest_63 (by decide) ?_
          exact ihk_265 (v_288) (y_267) (y_268) _ _ _ (zI.wk (l' := 0) (h' := 240) hv_288 (by decide)) hy_267 hy_268 (zm_up qv_288 hmk_265 (by decide)) hP hD hS (lv_sub hl [0, 2, 3, 4, 5, 6] rfl)
        · have _nhc_286 := hc_286
          have ni_289 := (fa_lt _ _).mp (zi_nle hc_286)
          have hv_290 : zI x_285 0 20 := zI.lt_l hx_285 hy_267 (zi_nle hc_286) (by decide)
          have hv_291 : zI y_267 1 21 := zI.lt_r hx_285 hy_267 (zi_nle hc_286) (by decide)
          refine lv_iload hx hb d_Cover_hardest_53 (lv_at hl 0 rfl) ?_
          refine lv_istore (lv' := [(4, .int x_285), (6, .int x_285), (5, .int y_266), (3, .int y_268), (0, .ref b0), (1, .int b1), (2, .int b2)]) hx hb d_Cover_hardest_55 hl (by decide) rfl (fun ls hl => ?_)
          refine lv_iload hx hb d_Cover_hardest_57 (lv_at hl 2 rfl) ?_
          refine lv_istore_n (lv' := [(3, .int y_266), (4, .int x_285), (6, .int x_285), (5, .int y_266), (0, .ref b0), (1, .int b1), (2, .int b2)]) hx hb d_Cover_hardest_59 rfl hl (by decide) rfl (fun ls hl => ?_)
          obtain ⟨v_292, ev_292⟩ : ∃ z : Int32, z = y_266 + 1 := ⟨_, rfl⟩
          obtain ⟨qv_292, hv_292⟩ := zI_add (l := 1) (h := 240) hv_272 zc_1 ev_292 (by decide)
          rw [li_1] at qv_292
          refine lv_iinc (v := v_292) (lv' := [(5, .int v_292), (3, .int y_266), (4, .int x_285), (6, .int x_285), (0, .ref b0), (1, .int b1), (2, .int b2)]) hx hb d_Cover_hardest_60 hl (k := 3) rfl (by rw [ev_292]; rfl) (by decide) rfl (fun ls hl => ?_)
          refine lv_goto (tgt := 9) hx hb d_Cover_hardest_63 (by decide) ?_
          exact ihk_265 (v_292) (x_285) (y_266) _ _ _ (zI.wk (l' := 0) (h' := 240) hv_292 (by decide)) (zI.wk (l' := 0) (h' := 21) hv_290 (by decide)) (zI.wk (l' := (-1)) (h' := 239) hv_272 (by decide)) (zm_up qv_292 hmk_265 (by decide)) hP hD hS (lv_sub hl [0, 2, 1, 4, 5, 6] rfl)
theorem d_Text_parse_0 : decode prog_9_method_4_code 0 = .ok (.iconst 0, 1) := by decide +kernel
theorem d_Text_parse_1 : decode prog_9_method_4_code 1 = .ok (.istore_n 3, 1) := by decide +kernel
theorem d_Text_parse_2 : decode prog_9_method_4_code 2 = .ok (.iconst 0, 1) := by decide +kernel
theorem d_Text_parse_3 : decode prog_9_method_4_code 3 = .ok (.istore 4, 2) := by decide +kernel
theorem d_Text_parse_5 : decode prog_9_method_4_code 5 = .ok (.iconst 0, 1) := by decide +kernel
theorem d_Text_parse_6 : decode prog_9_method_4_code 6 = .ok (.istore 5, 2) := by decide +kernel
theorem d_Text_parse_8 : decode prog_9_method_4_code 8 = .ok (.iload 5, 2) := by decide +kernel
theorem d_Text_parse_10 : decode prog_9_method_4_code 10 = .ok (.aload_n 0, 1) := by decide +kernel
theorem d_Text_parse_11 : decode prog_9_method_4_code 11 = .ok (.getfield 15, 3) := by decide +kernel
theorem d_Text_parse_14 : decode prog_9_method_4_code 14 = .ok (.if_icmp .ge 129, 3) := by decide +kernel
theorem d_Text_parse_17 : decode prog_9_method_4_code 17 = .ok (.aload_n 0, 1) := by decide +kernel
theorem d_Text_parse_18 : decode prog_9_method_4_code 18 = .ok (.getfield 9, 3) := by decide +kernel
theorem d_Text_parse_21 : decode prog_9_method_4_code 21 = .ok (.iload 5, 2) := by decide +kernel
theorem d_Text_parse_23 : decode prog_9_method_4_code 23 = .ok (.caload, 1) := by decide +kernel
theorem d_Text_parse_24 : decode prog_9_method_4_code 24 = .ok (.istore 6, 2) := by decide +kernel
theorem d_Text_parse_26 : decode prog_9_method_4_code 26 = .ok (.iload 4, 2) := by decide +kernel
theorem d_Text_parse_28 : decode prog_9_method_4_code 28 = .ok (.ifCond .le 32, 3) := by decide +kernel
theorem d_Text_parse_31 : decode prog_9_method_4_code 31 = .ok (.iload 6, 2) := by decide +kernel
theorem d_Text_parse_33 : decode prog_9_method_4_code 33 = .ok (.bipush 48, 2) := by decide +kernel
theorem d_Text_parse_35 : decode prog_9_method_4_code 35 = .ok (.if_icmp .lt 25, 3) := by decide +kernel
theorem d_Text_parse_38 : decode prog_9_method_4_code 38 = .ok (.iload 6, 2) := by decide +kernel
theorem d_Text_parse_40 : decode prog_9_method_4_code 40 = .ok (.bipush 57, 2) := by decide +kernel
theorem d_Text_parse_42 : decode prog_9_method_4_code 42 = .ok (.if_icmp .gt 18, 3) := by decide +kernel
theorem d_Text_parse_45 : decode prog_9_method_4_code 45 = .ok (.aload_n 1, 1) := by decide +kernel
theorem d_Text_parse_46 : decode prog_9_method_4_code 46 = .ok (.iload 6, 2) := by decide +kernel
theorem d_Text_parse_48 : decode prog_9_method_4_code 48 = .ok (.bipush 48, 2) := by decide +kernel
theorem d_Text_parse_50 : decode prog_9_method_4_code 50 = .ok (.isub, 1) := by decide +kernel
theorem d_Text_parse_51 : decode prog_9_method_4_code 51 = .ok (.invokevirtual 19, 3) := by decide +kernel
theorem d_Text_parse_54 : decode prog_9_method_4_code 54 = .ok (.iinc 4 (-1), 3) := by decide +kernel
theorem d_Text_parse_57 : decode prog_9_method_4_code 57 = .ok (.goto 80, 3) := by decide +kernel
theorem d_Text_parse_60 : decode prog_9_method_4_code 60 = .ok (.iconst 0, 1) := by decide +kernel
theorem d_Text_parse_61 : decode prog_9_method_4_code 61 = .ok (.istore 4, 2) := by decide +kernel
theorem d_Text_parse_63 : decode prog_9_method_4_code 63 = .ok (.iload 6, 2) := by decide +kernel
theorem d_Text_parse_65 : decode prog_9_method_4_code 65 = .ok (.bipush 32, 2) := by decide +kernel
theorem d_Text_parse_67 : decode prog_9_method_4_code 67 = .ok (.if_icmp .ne 6, 3) := by decide +kernel
theorem d_Text_parse_70 : decode prog_9_method_4_code 70 = .ok (.goto 67, 3) := by decide +kernel
theorem d_Text_parse_73 : decode prog_9_method_4_code 73 = .ok (.iload_n 3, 1) := by decide +kernel
theorem d_Text_parse_74 : decode prog_9_method_4_code 74 = .ok (.ifCond .ne 13, 3) := by decide +kernel
theorem d_Text_parse_77 : decode prog_9_method_4_code 77 = .ok (.aload_n 1, 1) := by decide +kernel
theorem d_Text_parse_78 : decode prog_9_method_4_code 78 = .ok (.invokevirtual 25, 3) := by decide +kernel
theorem d_Text_parse_81 : decode prog_9_method_4_code 81 = .ok (.ifCond .ne 6, 3) := by decide +kernel
theorem d_Text_parse_84 : decode prog_9_method_4_code 84 = .ok (.iload 5, 2) := by decide +kernel
theorem d_Text_parse_87 : decode prog_9_method_4_code 87 = .ok (.iconst 1, 1) := by decide +kernel
theorem d_Text_parse_88 : decode prog_9_method_4_code 88 = .ok (.istore_n 3, 1) := by decide +kernel
theorem d_Text_parse_89 : decode prog_9_method_4_code 89 = .ok (.iload 6, 2) := by decide +kernel
theorem d_Text_parse_91 : decode prog_9_method_4_code 91 = .ok (.bipush 59, 2) := by decide +kernel
theorem d_Text_parse_93 : decode prog_9_method_4_code 93 = .ok (.if_icmp .ne 12, 3) := by decide +kernel
theorem d_Text_parse_96 : decode prog_9_method_4_code 96 = .ok (.iload_n 2, 1) := by decide +kernel
theorem d_Text_parse_97 : decode prog_9_method_4_code 97 = .ok (.ifCond .ne 8, 3) := by decide +kernel
theorem d_Text_parse_100 : decode prog_9_method_4_code 100 = .ok (.iconst 0, 1) := by decide +kernel
theorem d_Text_parse_101 : decode prog_9_method_4_code 101 = .ok (.istore_n 3, 1) := by decide +kernel
theorem d_Text_parse_102 : decode prog_9_method_4_code 102 = .ok (.goto 35, 3) := by decide +kernel
theorem d_Text_parse_105 : decode prog_9_method_4_code 105 = .ok (.iload 6, 2) := by decide +kernel
theorem d_Text_parse_107 : decode prog_9_method_4_code 107 = .ok (.bipush 97, 2) := by decide +kernel
theorem d_Text_parse_109 : decode prog_9_method_4_code 109 = .ok (.isub, 1) := by decide +kernel
theorem d_Text_parse_110 : decode prog_9_method_4_code 110 = .ok (.invokestatic 29, 3) := by decide +kernel
theorem d_Text_parse_113 : decode prog_9_method_4_code 113 = .ok (.ifCond .eq 21, 3) := by decide +kernel
theorem d_Text_parse_116 : decode prog_9_method_4_code 116 = .ok (.aload_n 1, 1) := by decide +kernel
theorem d_Text_parse_117 : decode prog_9_method_4_code 117 = .ok (.iload 6, 2) := by decide +kernel
theorem d_Text_parse_119 : decode prog_9_method_4_code 119 = .ok (.bipush 97, 2) := by decide +kernel
theorem d_Text_parse_121 : decode prog_9_method_4_code 121 = .ok (.isub, 1) := by decide +kernel
theorem d_Text_parse_122 : decode prog_9_method_4_code 122 = .ok (.invokevirtual 33, 3) := by decide +kernel
theorem d_Text_parse_125 : decode prog_9_method_4_code 125 = .ok (.ifCond .eq 9, 3) := by decide +kernel
theorem d_Text_parse_128 : decode prog_9_method_4_code 128 = .ok (.iconst 2, 1) := by decide +kernel
theorem d_Text_parse_129 : decode prog_9_method_4_code 129 = .ok (.istore 4, 2) := by decide +kernel
theorem d_Text_parse_131 : decode prog_9_method_4_code 131 = .ok (.goto 6, 3) := by decide +kernel
theorem d_Text_parse_134 : decode prog_9_method_4_code 134 = .ok (.iload 5, 2) := by decide +kernel
theorem d_Text_parse_137 : decode prog_9_method_4_code 137 = .ok (.iinc 5 1, 3) := by decide +kernel
theorem d_Text_parse_140 : decode prog_9_method_4_code 140 = .ok (.goto (-132), 3) := by decide +kernel
theorem d_Text_parse_143 : decode prog_9_method_4_code 143 = .ok (.iload_n 3, 1) := by decide +kernel
theorem d_Text_parse_144 : decode prog_9_method_4_code 144 = .ok (.ifCond .ne 10, 3) := by decide +kernel
theorem d_Text_parse_147 : decode prog_9_method_4_code 147 = .ok (.aload_n 1, 1) := by decide +kernel
theorem d_Text_parse_148 : decode prog_9_method_4_code 148 = .ok (.invokevirtual 25, 3) := by decide +kernel
theorem d_Text_parse_151 : decode prog_9_method_4_code 151 = .ok (.ifCond .eq 7, 3) := by decide +kernel
theorem d_Text_parse_154 : decode prog_9_method_4_code 154 = .ok (.iconst (-1), 1) := by decide +kernel
theorem d_Text_parse_155 : decode prog_9_method_4_code 155 = .ok (.goto 7, 3) := by decide +kernel
theorem d_Text_parse_158 : decode prog_9_method_4_code 158 = .ok (.aload_n 0, 1) := by decide +kernel
theorem d_Text_parse_159 : decode prog_9_method_4_code 159 = .ok (.getfield 15, 3) := by decide +kernel
theorem d_Text_parse_162 : decode prog_9_method_4_code 162 = .ok (.ireturn, 1) := by decide +kernel
theorem d_X_isLetter_0 : decode prog_1_method_32_code 0 = .ok (.iload_n 0, 1) := by decide +kernel
theorem d_X_isLetter_1 : decode prog_1_method_32_code 1 = .ok (.ifCond .lt 13, 3) := by decide +kernel
theorem d_X_isLetter_4 : decode prog_1_method_32_code 4 = .ok (.iload_n 0, 1) := by decide +kernel
theorem d_X_isLetter_5 : decode prog_1_method_32_code 5 = .ok (.bipush 10, 2) := by decide +kernel
theorem d_X_isLetter_7 : decode prog_1_method_32_code 7 = .ok (.if_icmp .ge 7, 3) := by decide +kernel
theorem d_X_isLetter_10 : decode prog_1_method_32_code 10 = .ok (.iconst 1, 1) := by decide +kernel
theorem d_X_isLetter_11 : decode prog_1_method_32_code 11 = .ok (.goto 4, 3) := by decide +kernel
theorem d_X_isLetter_14 : decode prog_1_method_32_code 14 = .ok (.iconst 0, 1) := by decide +kernel
theorem d_X_isLetter_15 : decode prog_1_method_32_code 15 = .ok (.ireturn, 1) := by decide +kernel
theorem zc_32 : zI 32 32 32 := ⟨by decide +kernel, by decide +kernel⟩
theorem li_32 : (32 : Int32).toInt = 32 := by decide +kernel
theorem zc_59 : zI 59 59 59 := ⟨by decide +kernel, by decide +kernel⟩
theorem li_59 : (59 : Int32).toInt = 59 := by decide +kernel
theorem zc_97 : zI 97 97 97 := ⟨by decide +kernel, by decide +kernel⟩
theorem li_97 : (97 : Int32).toInt = 97 := by decide +kernel
theorem zc_48 : zI 48 48 48 := ⟨by decide +kernel, by decide +kernel⟩
theorem li_48 : (48 : Int32).toInt = 48 := by decide +kernel
theorem zc_57 : zI 57 57 57 := ⟨by decide +kernel, by decide +kernel⟩
theorem li_57 : (57 : Int32).toInt = 57 := by decide +kernel
abbrev m_s2_X_isLetter : Room := { frames := 0, cells := 0, slots := 0, locals := 0 }
set_option maxHeartbeats 4000000 in
set_option maxRecDepth 100000 in
theorem s2_X_isLetter (l : Launch) (G : zG) (b0 : Int32)  : zM l G y_X_isLetter prog_1_method_32_code 1 (Option.some Jvm.ClassFile.FieldType.boolean) m_s2_X_isLetter [.int b0] [] (fun v w => (v = some (.int 0) ∧ w = [] ∧ b0.toInt < 0) ∨ (v = some (.int 0) ∧ w = [] ∧ 0 ≤ b0.toInt ∧ 10 ≤ b0.toInt) ∨ (v = some (.int 1) ∧ w = [] ∧ 0 ≤ b0.toInt ∧ b0.toInt < 10)) := by
  refine z_start (by decide +kernel) (Nat.le_of_ble_eq_true rfl) ?_
  intro p e s m below meth c A Z hr hnm hA hP hD hS ls hl
  have Z : zC p s m _ meth c prog_1_method_32_code 1 "TraceMachines" G := Z
  obtain ⟨hx, hb, hml, hown, hts, hK, hN, hlocks⟩ := id Z
  have hl : lv_has ls 1 [(0, .int b0)] := hl
  refine lv_iload_n hx hb d_X_isLetter_0 rfl (lv_at hl 0 rfl) ?_
  refine lv_if_lt (tgt := 14) hx hb d_X_isLetter_1 (by decide) (fun hc_1 => ?_) (fun hc_1 => ?_)
  · have _nhc_1 := hc_1
    have ni_2 := (fa_lt _ _).mp hc_1
    rw [li_0] at ni_2
    have hv_3 : zI b0 (-2147483648) (-1) := zI.lt_l (zI_all b0) zc_0 hc_1 (by decide)
    refine lv_iconst (v := 0) hx hb d_X_isLetter_14 (by decide) ?_
    exact z_zret hx hb hr hlocks rfl hP hD hS (Nat.le_of_ble_eq_true rfl) (Nat.le_of_ble_eq_true rfl) d_X_isLetter_15 (Or.inl ⟨rfl, rfl, by omega⟩)
  · have _nhc_1 := hc_1
    have ni_4 := (fa_le _ _).mp (zi_nlt hc_1)
    rw [li_0] at ni_4
    have hv_5 : zI b0 0 2147483647 := zI.le_r zc_0 (zI_all b0) (zi_nlt hc_1) (by decide)
    refine lv_iload_n hx hb d_X_isLetter_4 rfl (lv_at hl 0 rfl) ?_
    refine lv_bipush (v := 10) hx hb d_X_isLetter_5 (by decide) ?_
    refine lv_icmp_ge (tgt := 14) hx hb d_X_isLetter_7 (by decide) (fun hc_6 => ?_) (fun hc_6 => ?_)
    · have _nhc_6 := hc_6
      have ni_7 := (fa_le _ _).mp hc_6
      rw [li_10] at ni_7
      have hv_8 : zI b0 10 2147483647 := zI.le_r zc_10 hv_5 hc_6 (by decide)
      refine lv_iconst (v := 0) hx hb d_X_isLetter_14 (by decide) ?_
      exact z_zret hx hb hr hlocks rfl hP hD hS (Nat.le_of_ble_eq_true rfl) (Nat.le_of_ble_eq_true rfl) d_X_isLetter_15 (Or.inr (Or.inl ⟨rfl, rfl, by omega, by omega⟩))
    · have _nhc_6 := hc_6
      have ni_9 := (fa_lt _ _).mp (zi_nle hc_6)
      rw [li_10] at ni_9
      have hv_10 : zI b0 0 9 := zI.lt_l hv_5 zc_10 (zi_nle hc_6) (by decide)
      refine lv_iconst (v := 1) hx hb d_X_isLetter_10 (by decide) ?_
      refine lv_goto (tgt := 15) hx hb d_X_isLetter_11 (by decide) ?_
      exact z_zret hx hb hr hlocks rfl hP hD hS (Nat.le_of_ble_eq_true rfl) (Nat.le_of_ble_eq_true rfl) d_X_isLetter_15 (Or.inr (Or.inr (⟨rfl, rfl, by omega, by omega⟩)))
theorem d_Text_parse_86 : decode prog_9_method_4_code 86 = .ok (.ireturn, 1) := by decide +kernel
theorem d_Text_parse_136 : decode prog_9_method_4_code 136 = .ok (.ireturn, 1) := by decide +kernel
theorem zc_2 : zI 2 2 2 := ⟨by decide +kernel, by decide +kernel⟩
abbrev m_s1_Text_parse : Room := { frames := 1, cells := 0, slots := 0, locals := 23 }
set_option maxHeartbeats 4000000 in
set_option maxRecDepth 100000 in
theorem s1_Text_parse (l : Launch) (G : zG) (b0 : Nat) (b1 : Nat) (b2 : Int32) (b3 : Int32) (b4 : Nat) (b5 : Nat → Int32) (b6 : Int32) (b7 : Int32) (b8 : Int32) (b9 : Nat) (b10 : Nat) (b11 : Nat) (b12 : Nat → Int32) (b13 : Nat → Int32) (b14 : Nat → Int32) (hb2 : zI b2 0 1) (hb3 : zI b3 0 240) (hb6 : zI b6 0 20) (hb7 : zI b7 0 3) (hb8 : zI b8 0 20) (hb12 : zR b12 0 12) (hb13 : zR b13 0 9) : zM l G y_Text_parse prog_9_method_4_code 7 (Option.some Jvm.ClassFile.FieldType.int) m_s1_Text_parse [.ref b0, .ref b1, .int b2] [(b0, .inr (1, [.int b3, .ref b4])), (b4, .inl (G.2 2, 240, .inl b5)), (b1, .inr (2, [.int b6, .int b7, .int b8, .ref b9, .ref b10, .ref b11])), (b9, .inl (G.2 0, 20, .inl b12)), (b10, .inl (G.2 0, 240, .inl b13)), (b11, .inl (G.2 0, 240, .inl b14))] (fun v w => ∃ (e0 : Int32), ∃ (e1 : Int32), ∃ (e2 : Nat → Int32), ∃ (e3 : Nat → Int32), ∃ (e4 : Nat → Int32), v = some (.int e0) ∧ w = [(b0, .inr (1, [.int b3, .ref b4])), (b4, .inl (G.2 2, 240, .inl b5)), (b1, .inr (2, [.int e1, .int b7, .int b8, .ref b9, .ref b10, .ref b11])), (b9, .inl (G.2 0, 20, .inl e2)), (b10, .inl (G.2 0, 240, .inl e3)), (b11, .inl (G.2 0, 240, .inl e4))] ∧ (zI e0 (-1) 240) ∧ (zI e1 0 20) ∧ (zR e2 0 12) ∧ (zR e3 0 9)) := by
  refine z_start (by decide +kernel) (Nat.le_of_ble_eq_true rfl) ?_
  intro p e s m below meth c A Z hr hnm hA hP hD hS ls hl
  have Z : zC p s m _ meth c prog_9_method_4_code 7 "TraceMachines$Text" G := Z
  obtain ⟨hx, hb, hml, hown, hts, hK, hN, hlocks⟩ := id Z
  have hl : lv_has ls 7 [(0, .ref b0), (1, .ref b1), (2, .int b2)] := hl
  refine lv_iconst (v := 0) hx hb d_Text_parse_0 (by decide) ?_
  refine lv_istore_n (lv' := [(3, .int 0), (0, .ref b0), (1, .ref b1), (2, .int b2)]) hx hb d_Text_parse_1 rfl hl (by decide) rfl (fun ls hl => ?_)
  refine lv_iconst (v := 0) hx hb d_Text_parse_2 (by decide) ?_
  refine lv_istore (lv' := [(4, .int 0), (3, .int 0), (0, .ref b0), (1, .ref b1), (2, .int b2)]) hx hb d_Text_parse_3 hl (by decide) rfl (fun ls hl => ?_)
  refine lv_iconst (v := 0) hx hb d_Text_parse_5 (by decide) ?_
  refine lv_istore (lv' := [(5, .int 0), (4, .int 0), (3, .int 0), (0, .ref b0), (1, .ref b1), (2, .int b2)]) hx hb d_Text_parse_6 hl (by decide) rfl (fun ls hl => ?_)
  suffices key : ∀ (k_2245 : Nat) (y_2246 : Int32) (y_2247 : Int32) (y_2248 : Int32) (y_2249 : Int32) (y_2250 : Nat → Int32) (y_2251 : Nat → Int32) (y_2252 : Nat → Int32) (H : Heap) (locs : List Loc) (ls : Array Slot), (zI y_2246 0 240) → (zI y_2247 0 2) → (zI y_2248 0 1) → (zI y_2249 0 20) → (zR y_2250 0 9) → (zR y_2252 0 12) → (240 : Int) - y_2246.toInt < (k_2245 : Int) → va_P G.1 classes [(b0, .inr (1, [.int b3, .ref b4])), (b4, .inl (G.2 2, 240, .inl b5)), (b1, .inr (2, [.int y_2249, .int b7, .int b8, .ref b9, .ref b10, .ref b11])), (b9, .inl (G.2 0, 20, .inl y_2252)), (b10, .inl (G.2 0, 240, .inl y_2250)), (b11, .inl (G.2 0, 240, .inl y_2251))] H → va_D A [(b0, .inr (1, [.int b3, .ref b4])), (b4, .inl (G.2 2, 240, .inl b5)), (b1, .inr (2, [.int y_2249, .int b7, .int b8, .ref b9, .ref b10, .ref b11])), (b9, .inl (G.2 0, 20, .inl y_2252)), (b10, .inl (G.2 0, 240, .inl y_2250)), (b11, .inl (G.2 0, 240, .inl y_2251))] → va_S A s.heap H locs → lv_has ls 7 [(5, .int y_2246), (4, .int y_2247), (3, .int y_2248), (0, .ref b0), (1, .ref b1), (2, .int b2)] → W p l e m_s1_Text_parse s m ([.ref b0, .ref b1, .int b2] : List Value).toArray below meth c H locs 0 0 (MQ below (zQ G (fun v w => ∃ (e0 : Int32), ∃ (e1 : Int32), ∃ (e2 : Nat → Int32), ∃ (e3 : Nat → Int32), ∃ (e4 : Nat → Int32), v = some (.int e0) ∧ w = [(b0, .inr (1, [.int b3, .ref b4])), (b4, .inl (G.2 2, 240, .inl b5)), (b1, .inr (2, [.int e1, .int b7, .int b8, .ref b9, .ref b10, .ref b11])), (b9, .inl (G.2 0, 20, .inl e2)), (b10, .inl (G.2 0, 240, .inl e3)), (b11, .inl (G.2 0, 240, .inl e4))] ∧ (zI e0 (-1) 240) ∧ (zI e1 0 20) ∧ (zR e2 0 12) ∧ (zR e3 0 9)) A) ([.ref b0, .ref b1, .int b2] : List Value).toArray s m_s1_Text_parse.cells m_s1_Text_parse.slots A) (F0 m 8 ls []) by
    exact key 241 (0) (0) (0) (b6) (b13) (b14) (b12) _ _ _ (zI.wk (l' := 0) (h' := 240) zc_0 (by decide)) (zI.wk (l' := 0) (h' := 2) zc_0 (by decide)) (zI.wk (l' := 0) (h' := 1) zc_0 (by decide)) hb6 hb13 hb12 (zm_upi (zI.wk (l' := 0) (h' := 240) zc_0 (by decide)) (by decide)) hP hD hS (lv_sub hl [0, 1, 2, 3, 4, 5] rfl)
  intro k_2245
  induction k_2245 with
  | zero =>
    intro y_2246 y_2247 y_2248 y_2249 y_2250 y_2251 y_2252 H locs ls hy_2246 hy_2247 hy_2248 hy_2249 hy_2250 hy_2252 hmk_2245 hP hD hS hl
    exact (zm_up0 hy_2246 hmk_2245).elim
  | succ k_2245 ihk_2245 =>
    intro y_2246 y_2247 y_2248 y_2249 y_2250 y_2251 y_2252 H locs ls hy_2246 hy_2247 hy_2248 hy_2249 hy_2250 hy_2252 hmk_2245 hP hD hS hl
    refine lv_iload hx hb d_Text_parse_8 (lv_at hl 0 rfl) ?_
    refine lv_aload_n hx hb d_Text_parse_10 rfl (lv_at hl 3 rfl) ?_
    refine va_get (D := G.1) (ci := 1) (v := .int b3) (C := R_Text) (T := F_Text) (N := 2) hx hb hts i_Text hown hK hP 0 rfl rfl 0 (by decide) (hts _ q37) (fun _ h9 => h9) rfl d_Text_parse_11 ?_
    refine lv_icmp_ge (tgt := 143) hx hb d_Text_parse_14 (by decide) (fun hc_2253 => ?_) (fun hc_2253 => ?_)
    · have _nhc_2253 := hc_2253
      have ni_2254 := (fa_le _ _).mp hc_2253
      refine lv_iload_n hx hb d_Text_parse_143 rfl (lv_at hl 2 rfl) ?_
      refine lv_if_ne (tgt := 154) hx hb d_Text_parse_144 (by decide) (fun hc_2255 => ?_) (fun hc_2255 => ?_)
      · have _nhc_2255 := hc_2255
        have ni_2256 : ¬ (y_2248 : Int32).toInt = (0 : Int32).toInt := fun z => hc_2255 ((fa_eq _ _).mpr z)
        simp only [li_0] at ni_2256
        have hv_2257 : zI y_2248 1 1 := zI.ne_lo hy_2248 zc_0 hc_2255 (by decide)
        refine lv_iconst (v := (-1)) hx hb d_Text_parse_154 (by decide) ?_
        refine lv_goto (tgt := 162) hx hb d_Text_parse_155 (by decide) ?_
        exact z_iret hx hb hr hlocks hP hD hS (Nat.le_of_ble_eq_true rfl) (Nat.le_of_ble_eq_true rfl) d_Text_parse_162 ⟨(-1), y_2249, y_2252, y_2250, y_2251, rfl, rfl, (zI.wk (l' := (-1)) (h' := 240) zc_m1 (by decide)), hy_2249, hy_2252, hy_2250⟩
      · have _nhc_2255 := hc_2255
        have ni_2258 := (fa_eq _ _).mp hc_2255
        rw [li_0] at ni_2258
        have hv_2259 : zI y_2248 0 0 := zI.eq_l hy_2248 zc_0 hc_2255
        refine lv_aload_n hx hb d_Text_parse_147 rfl (lv_at hl 4 rfl) ?_
        refine z_callV (index := 25) (As := []) (rest := []) (wr := [(b0, .inr (1, [.int b3, .ref b4])), (b4, .inl (G.2 2, 240, .inl b5)), (b10, .inl (G.2 0, 240, .inl y_2250)), (b11, .inl (G.2 0, 240, .inl y_2251))]) Z (s1_Traces_open l G (b1) (y_2249) (b7) (b8) (b9) (b10) (b11) (y_2252) hy_2249 hb7 hb8 hy_2252) hl.1 q513 q514 q515 q3 q516 ⟨by decide, by decide, by show _ = some 0; decide +kernel⟩ ⟨Nat.le_of_ble_eq_true rfl, Nat.le_of_ble_eq_true rfl⟩ ⟨Nat.le_of_ble_eq_true rfl, Nat.le_of_ble_eq_true rfl⟩ rfl (Nat.le_of_ble_eq_true rfl) d_Text_parse_148 hP hD hS hA 2 2 rfl rfl rfl [2, 3] [0, 1, 4, 5] rfl rfl rfl rfl (by decide) (fun v w1 H locs hw_2260 hP hD hS => ?_)
        obtain ⟨x_2261, x_2262, f_2263, rfl, rfl, hx_2261, hx_2262, hf_2263⟩ := hw_2260
        have hP : va_P G.1 classes [(b0, .inr (1, [.int b3, .ref b4])), (b4, .inl (G.2 2, 240, .inl b5)), (b10, .inl (G.2 0, 240, .inl y_2250)), (b11, .inl (G.2 0, 240, .inl y_2251)), (b1, .inr (2, [.int x_2262, .int b7, .int b8, .ref b9, .ref b10, .ref b11])), (b9, .inl (G.2 0, 20, .inl f_2263))] H := hP
        have hD := z_tie hP hD rfl
        refine W.widen (k := 0) (n := 0) (Nat.le_of_ble_eq_true rfl) (Nat.le_of_ble_eq_true rfl) ?_
        refine lv_if_eq (tgt := 158) hx hb d_Text_parse_151 (by decide) (fun hc_2264 => ?_) (fun hc_2264 => ?_)
        · have _nhc_2264 := hc_2264
          have ni_2265 := (fa_eq _ _).mp hc_2264
          rw [li_0] at ni_2265
          have hv_2266 : zI x_2261 0 0 := zI.eq_l hx_2261 zc_0 hc_2264
          refine lv_aload_n hx hb d_Text_parse_158 rfl (lv_at hl 3 rfl) ?_
          refine va_get (D := G.1) (ci := 1) (v := .int b3) (C := R_Text) (T := F_Text) (N := 2) hx hb hts i_Text hown hK hP 0 rfl rfl 0 (by decide) (hts _ q37) (fun _ h9 => h9) rfl d_Text_parse_159 ?_
          exact z_iret hx hb hr hlocks (hP.sub [0, 1, 4, 5, 2, 3] rfl) (hD.sub [0, 1, 4, 5, 2, 3] (by decide) rfl) hS (Nat.le_of_ble_eq_true rfl) (Nat.le_of_ble_eq_true rfl) d_Text_parse_162 ⟨b3, x_2262, f_2263, y_2250, y_2251, rfl, rfl, (zI.wk (l' := (-1)) (h' := 240) hb3 (by decide)), hx_2262, hf_2263, hy_2250⟩
        · have _nhc_2264 := hc_2264
          have ni_2267 : ¬ (x_2261 : Int32).toInt = (0 : Int32).toInt := fun z => hc_2264 ((fa_eq _ _).mpr z)
          simp only [li_0] at ni_2267
          have hv_2268 : zI x_2261 1 1 := zI.ne_lo hx_2261 zc_0 hc_2264 (by decide)
          refine lv_iconst (v := (-1)) hx hb d_Text_parse_154 (by decide) ?_
          refine lv_goto (tgt := 162) hx hb d_Text_parse_155 (by decide) ?_
          exact z_iret hx hb hr hlocks (hP.sub [0, 1, 4, 5, 2, 3] rfl) (hD.sub [0, 1, 4, 5, 2, 3] (by decide) rfl) hS (Nat.le_of_ble_eq_true rfl) (Nat.le_of_ble_eq_true rfl) d_Text_parse_162 ⟨(-1), x_2262, f_2263, y_2250, y_2251, rfl, rfl, (zI.wk (l' := (-1)) (h' := 240) zc_m1 (by decide)), hx_2262, hf_2263, hy_2250⟩
    · have _nhc_2253 := hc_2253
      have ni_2269 := (fa_lt _ _).mp (zi_nle hc_2253)
      have hv_2270 : zI y_2246 0 239 := zI.lt_l hy_2246 hb3 (zi_nle hc_2253) (by decide)
      have hv_2271 : zI b3 1 240 := zI.lt_r hy_2246 hb3 (zi_nle hc_2253) (by decide)
      refine lv_aload_n hx hb d_Text_parse_17 rfl (lv_at hl 3 rfl) ?_
      refine va_get (D := G.1) (ci := 1) (v := .ref b4) (C := R_Text) (T := F_Text) (N := 2) hx hb hts i_Text hown hK hP 0 rfl rfl 1 (by decide) (hts _ q39) (fun _ h9 => h9) rfl d_Text_parse_18 ?_
      refine lv_iload hx hb d_Text_parse_21 (lv_at hl 0 rfl) ?_
      refine va_cald hx hb hK hP 1 2 rfl rfl (zI.inn hv_2270 (by decide)) d_Text_parse_23 ?_
      refine lv_topi (fun v_2272 ev_2272 => ?_)
      refine lv_istore (lv' := [(6, .int v_2272), (5, .int y_2246), (4, .int y_2247), (3, .int y_2248), (0, .ref b0), (1, .ref b1), (2, .int b2)]) hx hb d_Text_parse_24 hl (by decide) rfl (fun ls hl => ?_)
      refine lv_iload hx hb d_Text_parse_26 (lv_at hl 2 rfl) ?_
      refine lv_if_le (tgt := 60) hx hb d_Text_parse_28 (by decide) (fun hc_2273 => ?_) (fun hc_2273 => ?_)
      · have _nhc_2273 := hc_2273
        have ni_2274 := (fa_le _ _).mp hc_2273
        rw [li_0] at ni_2274
        have hv_2275 : zI y_2247 0 0 := zI.le_l hy_2247 zc_0 hc_2273 (by decide)
        refine lv_iconst (v := 0) hx hb d_Text_parse_60 (by decide) ?_
        refine lv_istore (lv' := [(4, .int 0), (6, .int v_2272), (5, .int y_2246), (3, .int y_2248), (0, .ref b0), (1, .ref b1), (2, .int b2)]) hx hb d_Text_parse_61 hl (by decide) rfl (fun ls hl => ?_)
        refine lv_iload hx hb d_Text_parse_63 (lv_at hl 1 rfl) ?_
        refine lv_bipush (v := 32) hx hb d_Text_parse_65 (by decide) ?_
        refine lv_icmp_ne (tgt := 73) hx hb d_Text_parse_67 (by decide) (fun hc_2276 => ?_) (fun hc_2276 => ?_)
        · have _nhc_2276 := hc_2276
          have ni_2277 : ¬ (v_2272 : Int32).toInt = (32 : Int32).toInt := fun z => hc_2276 ((fa_eq _ _).mpr z)
          simp only [li_32] at ni_2277
          refine lv_iload_n hx hb d_Text_parse_73 rfl (lv_at hl 3 rfl) ?_
          refine lv_if_ne (tgt := 87) hx hb d_Text_parse_74 (by decide) (fun hc_2278 => ?_) (fun hc_2278 => ?_)
          · have _nhc_2278 := hc_2278
            have ni_2279 : ¬ (y_2248 : Int32).toInt = (0 : Int32).toInt := fun z => hc_2278 ((fa_eq _ _).mpr z)
            simp only [li_0] at ni_2279
            have hv_2280 : zI y_2248 1 1 := zI.ne_lo hy_2248 zc_0 hc_2278 (by decide)
            refine lv_iconst (v := 1) hx hb d_Text_parse_87 (by decide) ?_
            refine lv_istore_n (lv' := [(3, .int 1), (4, .int 0), (6, .int v_2272), (5, .int y_2246), (0, .ref b0), (1, .ref b1), (2, .int b2)]) hx hb d_Text_parse_88 rfl hl (by decide) rfl (fun ls hl => ?_)
            refine lv_iload hx hb d_Text_parse_89 (lv_at hl 2 rfl) ?_
            refine lv_bipush (v := 59) hx hb d_Text_parse_91 (by decide) ?_
            refine lv_icmp_ne (tgt := 105) hx hb d_Text_parse_93 (by decide) (fun hc_2281 => ?_) (fun hc_2281 => ?_)
            · have _nhc_2281 := hc_2281
              have ni_2282 : ¬ (v_2272 : Int32).toInt = (59 : Int32).toInt := fun z => hc_2281 ((fa_eq _ _).mpr z)
              simp only [li_59] at ni_2282
              refine lv_iload hx hb d_Text_parse_105 (lv_at hl 2 rfl) ?_
              refine lv_bipush (v := 97) hx hb d_Text_parse_107 (by decide) ?_
              refine lv_isub hx hb d_Text_parse_109 ?_
              refine lv_topi (fun v_2283 ev_2283 => ?_)
              refine z_callSN (host := "TraceMachines") (index := 29) (As := [.int v_2283]) (rest := []) (wr := [(b0, .inr (1, [.int b3, .ref b4])), (b4, .inl (G.2 2, 240, .inl b5)), (b1, .inr (2, [.int y_2249, .int b7, .int b8, .ref b9, .ref b10, .ref b11])), (b9, .inl (G.2 0, 20, .inl y_2252)), (b10, .inl (G.2 0, 240, .inl y_2250)), (b11, .inl (G.2 0, 240, .inl y_2251))]) Z (s2_X_isLetter l G (v_2283)) hl.1 (by decide +kernel) q518 q1 q519 ⟨by decide, by decide, by show _ = some 1; decide +kernel⟩ ⟨Nat.le_of_ble_eq_true rfl, Nat.le_of_ble_eq_true rfl⟩ ⟨Nat.le_of_ble_eq_true rfl, Nat.le_of_ble_eq_true rfl⟩ rfl (Nat.le_of_ble_eq_true rfl) d_Text_parse_110 hP hD hS hA [] [0, 1, 2, 3, 4, 5] rfl rfl rfl rfl (by decide) (fun v w1 H locs hw_2284 hP hD hS => ?_)
              rcases hw_2284 with ⟨rfl, rfl, hq_2285⟩ | ⟨rfl, rfl, hq_2286, hq_2287⟩ | ⟨rfl, rfl, hq_2288, hq_2289⟩
              · have hP : va_P G.1 classes [(b0, .inr (1, [.int b3, .ref b4])), (b4, .inl (G.2 2, 240, .inl b5)), (b1, .inr (2, [.int y_2249, .int b7, .int b8, .ref b9, .ref b10, .ref b11])), (b9, .inl (G.2 0, 20, .inl y_2252)), (b10, .inl (G.2 0, 240, .inl y_2250)), (b11, .inl (G.2 0, 240, .inl y_2251))] H := hP
                have hD := z_tie hP hD rfl
                have hv_2290 : zI v_2283 (-2147483648) (-1) := by have _a := hq_2285; have _b := (zI_all v_2283); have _c := zc_0; exact ⟨by omega, by omega⟩
                refine W.widen (k := 0) (n := 0) (Nat.le_of_ble_eq_true rfl) (Nat.le_of_ble_eq_true rfl) ?_
                refine lv_if_eq (tgt := 134) hx hb d_Text_parse_113 (by decide) (fun _ => ?_) (fun hc => absurd hc (by decide +kernel))
                refine lv_iload hx hb d_Text_parse_134 (lv_at hl 3 rfl) ?_
                exact z_iret hx hb hr hlocks hP hD hS (Nat.le_of_ble_eq_true rfl) (Nat.le_of_ble_eq_true rfl) d_Text_parse_136 ⟨y_2246, y_2249, y_2252, y_2250, y_2251, rfl, rfl, (zI.wk (l' := (-1)) (h' := 240) hv_2270 (by decide)), hy_2249, hy_2252, hy_2250⟩
              · have hP : va_P G.1 classes [(b0, .inr (1, [.int b3, .ref b4])), (b4, .inl (G.2 2, 240, .inl b5)), (b1, .inr (2, [.int y_2249, .int b7, .int b8, .ref b9, .ref b10, .ref b11])), (b9, .inl (G.2 0, 20, .inl y_2252)), (b10, .inl (G.2 0, 240, .inl y_2250)), (b11, .inl (G.2 0, 240, .inl y_2251))] H := hP
                have hD := z_tie hP hD rfl
                have hv_2291 : zI v_2283 0 2147483647 := by have _a := hq_2286; have _b := (zI_all v_2283); have _c := zc_0; exact ⟨by omega, by omega⟩
                have hv_2292 : zI v_2283 10 2147483647 := by have _a := hq_2287; have _b := hv_2291; have _c := zc_10; exact ⟨by omega, by omega⟩
                refine W.widen (k := 0) (n := 0) (Nat.le_of_ble_eq_true rfl) (Nat.le_of_ble_eq_true rfl) ?_
                refine lv_if_eq (tgt := 134) hx hb d_Text_parse_113 (by decide) (fun _ => ?_) (fun hc => absurd hc (by decide +kernel))
                refine lv_iload hx hb d_Text_parse_134 (lv_at hl 3 rfl) ?_
                exact z_iret hx hb hr hlocks hP hD hS (Nat.le_of_ble_eq_true rfl) (Nat.le_of_ble_eq_true rfl) d_Text_parse_136 ⟨y_2246, y_2249, y_2252, y_2250, y_2251, rfl, rfl, (zI.wk (l' := (-1)) (h' := 240) hv_2270 (by decide)), hy_2249, hy_2252, hy_2250⟩
              · have hP : va_P G.1 classes [(b0, .inr (1, [.int b3, .ref b4])), (b4, .inl (G.2 2, 240, .inl b5)), (b1, .inr (2, [.int y_2249, .int b7, .int b8, .ref b9, .ref b10, .ref b11])), (b9, .inl (G.2 0, 20, .inl y_2252)), (b10, .inl (G.2 0, 240, .inl y_2250)), (b11, .inl (G.2 0, 240, .inl y_2251))] H := hP
                have hD := z_tie hP hD rfl
                have hv_2293 : zI v_2283 0 2147483647 := by have _a := hq_2288; have _b := (zI_all v_2283); have _c := zc_0; exact ⟨by omega, by omega⟩
                have hv_2294 : zI v_2283 0 9 := by have _a := hq_2289; have _b := hv_2293; have _c := zc_10; exact ⟨by omega, by omega⟩
                refine W.widen (k := 0) (n := 0) (Nat.le_of_ble_eq_true rfl) (Nat.le_of_ble_eq_true rfl) ?_
                refine lv_if_eq (tgt := 134) hx hb d_Text_parse_113 (by decide) (fun hc => absurd hc (by decide +kernel)) (fun _ => ?_)
                refine lv_aload_n hx hb d_Text_parse_116 rfl (lv_at hl 5 rfl) ?_
                refine lv_iload hx hb d_Text_parse_117 (lv_at hl 2 rfl) ?_
                refine lv_bipush (v := 97) hx hb d_Text_parse_119 (by decide) ?_
                refine lv_isub hx hb d_Text_parse_121 ?_
                refine lv_topi (fun v_2295 ev_2295 => ?_)
                obtain rfl : v_2283 = v_2295 := ev_2283.trans ev_2295.symm
                refine z_callV (index := 33) (As := [.int v_2283]) (rest := []) (wr := [(b0, .inr (1, [.int b3, .ref b4])), (b4, .inl (G.2 2, 240, .inl b5))]) Z (s1_Traces_add l G (b1) (v_2283) (y_2249) (b7) (b8) (b9) (b10) (b11) (y_2252) (y_2250) (y_2251) hv_2294 hy_2249 hb7 hb8 hy_2252 hy_2250) hl.1 q520 q521 q522 q3 q523 ⟨by decide, by decide, by show _ = some 1; decide +kernel⟩ ⟨Nat.le_of_ble_eq_true rfl, Nat.le_of_ble_eq_true rfl⟩ ⟨Nat.le_of_ble_eq_true rfl, Nat.le_of_ble_eq_true rfl⟩ rfl (Nat.le_of_ble_eq_true rfl) d_Text_parse_122 hP hD hS hA 2 2 rfl rfl rfl [2, 3, 4, 5] [0, 1] rfl rfl rfl rfl (by decide) (fun v w1 H locs hw_2296 hP hD hS => ?_)
                obtain ⟨x_2297, f_2298, f_2299, f_2300, rfl, rfl, hx_2297, hf_2298, hf_2299⟩ := hw_2296
                have hP : va_P G.1 classes [(b0, .inr (1, [.int b3, .ref b4])), (b4, .inl (G.2 2, 240, .inl b5)), (b1, .inr (2, [.int y_2249, .int b7, .int b8, .ref b9, .ref b10, .ref b11])), (b9, .inl (G.2 0, 20, .inl f_2298)), (b10, .inl (G.2 0, 240, .inl f_2299)), (b11, .inl (G.2 0, 240, .inl f_2300))] H := hP
                have hD := z_tie hP hD rfl
                refine W.widen (k := 0) (n := 0) (Nat.le_of_ble_eq_true rfl) (Nat.le_of_ble_eq_true rfl) ?_
                refine lv_if_eq (tgt := 134) hx hb d_Text_parse_125 (by decide) (fun hc_2301 => ?_) (fun hc_2301 => ?_)
                · have _nhc_2301 := hc_2301
                  have ni_2302 := (fa_eq _ _).mp hc_2301
                  rw [li_0] at ni_2302
                  have hv_2303 : zI x_2297 0 0 := zI.eq_l hx_2297 zc_0 hc_2301
                  refine lv_iload hx hb d_Text_parse_134 (lv_at hl 3 rfl) ?_
                  exact z_iret hx hb hr hlocks hP hD hS (Nat.le_of_ble_eq_true rfl) (Nat.le_of_ble_eq_true rfl) d_Text_parse_136 ⟨y_2246, y_2249, f_2298, f_2299, f_2300, rfl, rfl, (zI.wk (l' := (-1)) (h' := 240) hv_2270 (by decide)), hy_2249, hf_2298, hf_2299⟩
                · have _nhc_2301 := hc_2301
                  have ni_2304 : ¬ (x_2297 : Int32).toInt = (0 : Int32).toInt := fun z => hc_2301 ((fa_eq _ _).mpr z)
                  simp only [li_0] at ni_2304
                  have hv_2305 : zI x_2297 1 1 := zI.ne_lo hx_2297 zc_0 hc_2301 (by decide)
                  refine lv_iconst (v := 2) hx hb d_Text_parse_128 (by decide) ?_
                  refine lv_istore (lv' := [(4, .int 2), (3, .int 1), (6, .int v_2272), (5, .int y_2246), (0, .ref b0), (1, .ref b1), (2, .int b2)]) hx hb d_Text_parse_129 hl (by decide) rfl (fun ls hl => ?_)
                  refine lv_goto (tgt := 137) hx hb d_Text_parse_131 (by decide) ?_
                  obtain ⟨v_2306, ev_2306⟩ : ∃ z : Int32, z = y_2246 + 1 := ⟨_, rfl⟩
                  obtain ⟨qv_2306, hv_2306⟩ := zI_add (l := 1) (h := 240) hv_2270 zc_1 ev_2306 (by decide)
                  rw [li_1] at qv_2306
                  refine lv_iinc (v := v_2306) (lv' := [(5, .int v_2306), (4, .int 2), (3, .int 1), (6, .int v_2272), (0, .ref b0), (1, .ref b1), (2, .int b2)]) hx hb d_Text_parse_137 hl (k := 3) rfl (by rw [ev_2306]; rfl) (by decide) rfl (fun ls hl => ?_)
                  refine lv_goto (tgt := 8) hx hb d_Text_parse_140 (by decide) ?_
                  exact ihk_2245 (v_2306) (2) (1) (y_2249) (f_2299) (f_2300) (f_2298) _ _ _ (zI.wk (l' := 0) (h' := 240) hv_2306 (by decide)) (zI.wk (l' := 0) (h' := 2) zc_2 (by decide)) (zI.wk (l' := 0) (h' := 1) zc_1 (by decide)) hy_2249 hf_2299 hf_2298 (zm_up qv_2306 hmk_2245 (by decide)) hP hD hS (lv_sub hl [0, 1, 2, 4, 5, 6] rfl)
            · have _nhc_2281 := hc_2281
              have ni_2307 := (fa_eq _ _).mp hc_2281
              rw [li_59] at ni_2307
              have hv_2308 : zI v_2272 59 59 := zI.eq_l (zI_all v_2272) zc_59 hc_2281
              refine lv_iload_n hx hb d_Text_parse_96 rfl (lv_at hl 6 rfl) ?_
              refine lv_if_ne (tgt := 105) hx hb d_Text_parse_97 (by decide) (fun hc_2309 => ?_) (fun hc_2309 => ?_)
              · have _nhc_2309 := hc_2309
                have ni_2310 : ¬ (b2 : Int32).toInt = (0 : Int32).toInt := fun z => hc_2309 ((fa_eq _ _).mpr z)
                simp only [li_0] at ni_2310
                have hv_2311 : zI b2 1 1 := zI.ne_lo hb2 zc_0 hc_2309 (by decide)
                refine lv_iload hx hb d_Text_parse_105 (lv_at hl 2 rfl) ?_
                refine lv_bipush (v := 97) hx hb d_Text_parse_107 (by decide) ?_
                refine lv_isub hx hb d_Text_parse_109 ?_
                refine lv_topi (fun v_2312 ev_2312 => ?_)
                obtain ⟨qv_2312, hv_2312⟩ := zI_sub (l := -38) (h := -38) hv_2308 zc_97 ev_2312 (by decide)
                rw [li_97] at qv_2312
                refine z_callSN (host := "TraceMachines") (index := 29) (As := [.int v_2312]) (rest := []) (wr := [(b0, .inr (1, [.int b3, .ref b4])), (b4, .inl (G.2 2, 240, .inl b5)), (b1, .inr (2, [.int y_2249, .int b7, .int b8, .ref b9, .ref b10, .ref b11])), (b9, .inl (G.2 0, 20, .inl y_2252)), (b10, .inl (G.2 0, 240, .inl y_2250)), (b11, .inl (G.2 0, 240, .inl y_2251))]) Z (s2_X_isLetter l G (v_2312)) hl.1 (by decide +kernel) q518 q1 q519 ⟨by decide, by decide, by show _ = some 1; decide +kernel⟩ ⟨Nat.le_of_ble_eq_true rfl, Nat.le_of_ble_eq_true rfl⟩ ⟨Nat.le_of_ble_eq_true rfl, Nat.le_of_ble_eq_true rfl⟩ rfl (Nat.le_of_ble_eq_true rfl) d_Text_parse_110 hP hD hS hA [] [0, 1, 2, 3, 4, 5] rfl rfl rfl rfl (by decide) (fun v w1 H locs hw_2313 hP hD hS => ?_)
                rcases hw_2313 with ⟨rfl, rfl, hq_2314⟩ | ⟨rfl, rfl, hq_2315, hq_2316⟩ | ⟨rfl, rfl, hq_2317, hq_2318⟩
                · have hP : va_P G.1 classes [(b0, .inr (1, [.int b3, .ref b4])), (b4, .inl (G.2 2, 240, .inl b5)), (b1, .inr (2, [.int y_2249, .int b7, .int b8, .ref b9, .ref b10, .ref b11])), (b9, .inl (G.2 0, 20, .inl y_2252)), (b10, .inl (G.2 0, 240, .inl y_2250)), (b11, .inl (G.2 0, 240, .inl y_2251))] H := hP
                  have hD := z_tie hP hD rfl
                  refine W.widen (k := 0) (n := 0) (Nat.le_of_ble_eq_true rfl) (Nat.le_of_ble_eq_true rfl) ?_
                  refine lv_if_eq (tgt := 134) hx hb d_Text_parse_113 (by decide) (fun _ => ?_) (fun hc => absurd hc (by decide +kernel))
                  refine lv_iload hx hb d_Text_parse_134 (lv_at hl 3 rfl) ?_
                  exact z_iret hx hb hr hlocks hP hD hS (Nat.le_of_ble_eq_true rfl) (Nat.le_of_ble_eq_true rfl) d_Text_parse_136 ⟨y_2246, y_2249, y_2252, y_2250, y_2251, rfl, rfl, (zI.wk (l' := (-1)) (h' := 240) hv_2270 (by decide)), hy_2249, hy_2252, hy_2250⟩
                · exfalso; have _q := hq_2315; have _u0 := hv_2312; omega
                · exfalso; have _q := hq_2317; have _u0 := hv_2312; omega
              · have _nhc_2309 := hc_2309
                have ni_2319 := (fa_eq _ _).mp hc_2309
                rw [li_0] at ni_2319
                have hv_2320 : zI b2 0 0 := zI.eq_l hb2 zc_0 hc_2309
                refine lv_iconst (v := 0) hx hb d_Text_parse_100 (by decide) ?_
                refine lv_istore_n (lv' := [(3, .int 0), (4, .int 0), (6, .int v_2272), (5, .int y_2246), (0, .ref b0), (1, .ref b1), (2, .int b2)]) hx hb d_Text_parse_101 rfl hl (by decide) rfl (fun ls hl => ?_)
                refine lv_goto (tgt := 137) hx hb d_Text_parse_102 (by decide) ?_
                obtain ⟨v_2321, ev_2321⟩ : ∃ z : Int32, z = y_2246 + 1 := ⟨_, rfl⟩
                obtain ⟨qv_2321, hv_2321⟩ := zI_add (l := 1) (h := 240) hv_2270 zc_1 ev_2321 (by decide)
                rw [li_1] at qv_2321
                refine lv_iinc (v := v_2321) (lv' := [(5, .int v_2321), (3, .int 0), (4, .int 0), (6, .int v_2272), (0, .ref b0), (1, .ref b1), (2, .int b2)]) hx hb d_Text_parse_137 hl (k := 3) rfl (by rw [ev_2321]; rfl) (by decide) rfl (fun ls hl => ?_)
                refine lv_goto (tgt := 8) hx hb d_Text_parse_140 (by decide) ?_
                exact ihk_2245 (v_2321) (0) (0) (y_2249) (y_2250) (y_2251) (y_2252) _ _ _ (zI.wk (l' := 0) (h' := 240) hv_2321 (by decide)) (zI.wk (l' := 0) (h' := 2) zc_0 (by decide)) (zI.wk (l' := 0) (h' := 1) zc_0 (by decide)) hy_2249 hy_2250 hy_2252 (zm_up qv_2321 hmk_2245 (by decide)) hP hD hS (lv_sub hl [0, 2, 1, 4, 5, 6] rfl)
          · have _nhc_2278 := hc_2278
            have ni_2322 := (fa_eq _ _).mp hc_2278
            rw [li_0] at ni_2322
            have hv_2323 : zI y_2248 0 0 := zI.eq_l hy_2248 zc_0 hc_2278
            refine lv_aload_n hx hb d_Text_parse_77 rfl (lv_at hl 5 rfl) ?_
            refine z_callV (index := 25) (As := []) (rest := []) (wr := [(b0, .inr (1, [.int b3, .ref b4])), (b4, .inl (G.2 2, 240, .inl b5)), (b10, .inl (G.2 0, 240, .inl y_2250)), (b11, .inl (G.2 0, 240, .inl y_2251))]) Z (s1_Traces_open l G (b1) (y_2249) (b7) (b8) (b9) (b10) (b11) (y_2252) hy_2249 hb7 hb8 hy_2252) hl.1 q513 q514 q515 q3 q516 ⟨by decide, by decide, by show _ = some 0; decide +kernel⟩ ⟨Nat.le_of_ble_eq_true rfl, Nat.le_of_ble_eq_true rfl⟩ ⟨Nat.le_of_ble_eq_true rfl, Nat.le_of_ble_eq_true rfl⟩ rfl (Nat.le_of_ble_eq_true rfl) d_Text_parse_78 hP hD hS hA 2 2 rfl rfl rfl [2, 3] [0, 1, 4, 5] rfl rfl rfl rfl (by decide) (fun v w1 H locs hw_2324 hP hD hS => ?_)
            obtain ⟨x_2325, x_2326, f_2327, rfl, rfl, hx_2325, hx_2326, hf_2327⟩ := hw_2324
            have hP : va_P G.1 classes [(b0, .inr (1, [.int b3, .ref b4])), (b4, .inl (G.2 2, 240, .inl b5)), (b10, .inl (G.2 0, 240, .inl y_2250)), (b11, .inl (G.2 0, 240, .inl y_2251)), (b1, .inr (2, [.int x_2326, .int b7, .int b8, .ref b9, .ref b10, .ref b11])), (b9, .inl (G.2 0, 20, .inl f_2327))] H := hP
            have hD := z_tie hP hD rfl
            refine W.widen (k := 0) (n := 0) (Nat.le_of_ble_eq_true rfl) (Nat.le_of_ble_eq_true rfl) ?_
            refine lv_if_ne (tgt := 87) hx hb d_Text_parse_81 (by decide) (fun hc_2328 => ?_) (fun hc_2328 => ?_)
            · have _nhc_2328 := hc_2328
              have ni_2329 : ¬ (x_2325 : Int32).toInt = (0 : Int32).toInt := fun z => hc_2328 ((fa_eq _ _).mpr z)
              simp only [li_0] at ni_2329
              have hv_2330 : zI x_2325 1 1 := zI.ne_lo hx_2325 zc_0 hc_2328 (by decide)
              refine lv_iconst (v := 1) hx hb d_Text_parse_87 (by decide) ?_
              refine lv_istore_n (lv' := [(3, .int 1), (4, .int 0), (6, .int v_2272), (5, .int y_2246), (0, .ref b0), (1, .ref b1), (2, .int b2)]) hx hb d_Text_parse_88 rfl hl (by decide) rfl (fun ls hl => ?_)
              refine lv_iload hx hb d_Text_parse_89 (lv_at hl 2 rfl) ?_
              refine lv_bipush (v := 59) hx hb d_Text_parse_91 (by decide) ?_
              refine lv_icmp_ne (tgt := 105) hx hb d_Text_parse_93 (by decide) (fun hc_2331 => ?_) (fun hc_2331 => ?_)
              · have _nhc_2331 := hc_2331
                have ni_2332 : ¬ (v_2272 : Int32).toInt = (59 : Int32).toInt := fun z => hc_2331 ((fa_eq _ _).mpr z)
                simp only [li_59] at ni_2332
                refine lv_iload hx hb d_Text_parse_105 (lv_at hl 2 rfl) ?_
                refine lv_bipush (v := 97) hx hb d_Text_parse_107 (by decide) ?_
                refine lv_isub hx hb d_Text_parse_109 ?_
                refine lv_topi (fun v_2333 ev_2333 => ?_)
                refine z_callSN (host := "TraceMachines") (index := 29) (As := [.int v_2333]) (rest := []) (wr := [(b0, .inr (1, [.int b3, .ref b4])), (b4, .inl (G.2 2, 240, .inl b5)), (b10, .inl (G.2 0, 240, .inl y_2250)), (b11, .inl (G.2 0, 240, .inl y_2251)), (b1, .inr (2, [.int x_2326, .int b7, .int b8, .ref b9, .ref b10, .ref b11])), (b9, .inl (G.2 0, 20, .inl f_2327))]) Z (s2_X_isLetter l G (v_2333)) hl.1 (by decide +kernel) q518 q1 q519 ⟨by decide, by decide, by show _ = some 1; decide +kernel⟩ ⟨Nat.le_of_ble_eq_true rfl, Nat.le_of_ble_eq_true rfl⟩ ⟨Nat.le_of_ble_eq_true rfl, Nat.le_of_ble_eq_true rfl⟩ rfl (Nat.le_of_ble_eq_true rfl) d_Text_parse_110 hP hD hS hA [] [0, 1, 2, 3, 4, 5] rfl rfl rfl rfl (by decide) (fun v w1 H locs hw_2334 hP hD hS => ?_)
                rcases hw_2334 with ⟨rfl, rfl, hq_2335⟩ | ⟨rfl, rfl, hq_2336, hq_2337⟩ | ⟨rfl, rfl, hq_2338, hq_2339⟩
                · have hP : va_P G.1 classes [(b0, .inr (1, [.int b3, .ref b4])), (b4, .inl (G.2 2, 240, .inl b5)), (b10, .inl (G.2 0, 240, .inl y_2250)), (b11, .inl (G.2 0, 240, .inl y_2251)), (b1, .inr (2, [.int x_2326, .int b7, .int b8, .ref b9, .ref b10, .ref b11])), (b9, .inl (G.2 0, 20, .inl f_2327))] H := hP
                  have hD := z_tie hP hD rfl
                  have hv_2340 : zI v_2333 (-2147483648) (-1) := by have _a := hq_2335; have _b := (zI_all v_2333); have _c := zc_0; exact ⟨by omega, by omega⟩
                  refine W.widen (k := 0) (n := 0) (Nat.le_of_ble_eq_true rfl) (Nat.le_of_ble_eq_true rfl) ?_
                  refine lv_if_eq (tgt := 134) hx hb d_Text_parse_113 (by decide) (fun _ => ?_) (fun hc => absurd hc (by decide +kernel))
                  refine lv_iload hx hb d_Text_parse_134 (lv_at hl 3 rfl) ?_
                  exact z_iret hx hb hr hlocks (hP.sub [0, 1, 4, 5, 2, 3] rfl) (hD.sub [0, 1, 4, 5, 2, 3] (by decide) rfl) hS (Nat.le_of_ble_eq_true rfl) (Nat.le_of_ble_eq_true rfl) d_Text_parse_136 ⟨y_2246, x_2326, f_2327, y_2250, y_2251, rfl, rfl, (zI.wk (l' := (-1)) (h' := 240) hv_2270 (by decide)), hx_2326, hf_2327, hy_2250⟩
                · have hP : va_P G.1 classes [(b0, .inr (1, [.int b3, .ref b4])), (b4, .inl (G.2 2, 240, .inl b5)), (b10, .inl (G.2 0, 240, .inl y_2250)), (b11, .inl (G.2 0, 240, .inl y_2251)), (b1, .inr (2, [.int x_2326, .int b7, .int b8, .ref b9, .ref b10, .ref b11])), (b9, .inl (G.2 0, 20, .inl f_2327))] H := hP
                  have hD := z_tie hP hD rfl
                  have hv_2341 : zI v_2333 0 2147483647 := by have _a := hq_2336; have _b := (zI_all v_2333); have _c := zc_0; exact ⟨by omega, by omega⟩
                  have hv_2342 : zI v_2333 10 2147483647 := by have _a := hq_2337; have _b := hv_2341; have _c := zc_10; exact ⟨by omega, by omega⟩
                  refine W.widen (k := 0) (n := 0) (Nat.le_of_ble_eq_true rfl) (Nat.le_of_ble_eq_true rfl) ?_
                  refine lv_if_eq (tgt := 134) hx hb d_Text_parse_113 (by decide) (fun _ => ?_) (fun hc => absurd hc (by decide +kernel))
                  refine lv_iload hx hb d_Text_parse_134 (lv_at hl 3 rfl) ?_
                  exact z_iret hx hb hr hlocks (hP.sub [0, 1, 4, 5, 2, 3] rfl) (hD.sub [0, 1, 4, 5, 2, 3] (by decide) rfl) hS (Nat.le_of_ble_eq_true rfl) (Nat.le_of_ble_eq_true rfl) d_Text_parse_136 ⟨y_2246, x_2326, f_2327, y_2250, y_2251, rfl, rfl, (zI.wk (l' := (-1)) (h' := 240) hv_2270 (by decide)), hx_2326, hf_2327, hy_2250⟩
                · have hP : va_P G.1 classes [(b0, .inr (1, [.int b3, .ref b4])), (b4, .inl (G.2 2, 240, .inl b5)), (b10, .inl (G.2 0, 240, .inl y_2250)), (b11, .inl (G.2 0, 240, .inl y_2251)), (b1, .inr (2, [.int x_2326, .int b7, .int b8, .ref b9, .ref b10, .ref b11])), (b9, .inl (G.2 0, 20, .inl f_2327))] H := hP
                  have hD := z_tie hP hD rfl
                  have hv_2343 : zI v_2333 0 2147483647 := by have _a := hq_2338; have _b := (zI_all v_2333); have _c := zc_0; exact ⟨by omega, by omega⟩
                  have hv_2344 : zI v_2333 0 9 := by have _a := hq_2339; have _b := hv_2343; have _c := zc_10; exact ⟨by omega, by omega⟩
                  refine W.widen (k := 0) (n := 0) (Nat.le_of_ble_eq_true rfl) (Nat.le_of_ble_eq_true rfl) ?_
                  refine lv_if_eq (tgt := 134) hx hb d_Text_parse_113 (by decide) (fun hc => absurd hc (by decide +kernel)) (fun _ => ?_)
                  refine lv_aload_n hx hb d_Text_parse_116 rfl (lv_at hl 5 rfl) ?_
                  refine lv_iload hx hb d_Text_parse_117 (lv_at hl 2 rfl) ?_
                  refine lv_bipush (v := 97) hx hb d_Text_parse_119 (by decide) ?_
                  refine lv_isub hx hb d_Text_parse_121 ?_
                  refine lv_topi (fun v_2345 ev_2345 => ?_)
                  obtain rfl : v_2333 = v_2345 := ev_2333.trans ev_2345.symm
                  refine z_callV (index := 33) (As := [.int v_2333]) (rest := []) (wr := [(b0, .inr (1, [.int b3, .ref b4])), (b4, .inl (G.2 2, 240, .inl b5))]) Z (s1_Traces_add l G (b1) (v_2333) (x_2326) (b7) (b8) (b9) (b10) (b11) (f_2327) (y_2250) (y_2251) hv_2344 hx_2326 hb7 hb8 hf_2327 hy_2250) hl.1 q520 q521 q522 q3 q523 ⟨by decide, by decide, by show _ = some 1; decide +kernel⟩ ⟨Nat.le_of_ble_eq_true rfl, Nat.le_of_ble_eq_true rfl⟩ ⟨Nat.le_of_ble_eq_true rfl, Nat.le_of_ble_eq_true rfl⟩ rfl (Nat.le_of_ble_eq_true rfl) d_Text_parse_122 hP hD hS hA 4 2 rfl rfl rfl [4, 5, 2, 3] [0, 1] rfl rfl rfl rfl (by decide) (fun v w1 H locs hw_2346 hP hD hS => ?_)
                  obtain ⟨x_2347, f_2348, f_2349, f_2350, rfl, rfl, hx_2347, hf_2348, hf_2349⟩ := hw_2346
                  have hP : va_P G.1 classes [(b0, .inr (1, [.int b3, .ref b4])), (b4, .inl (G.2 2, 240, .inl b5)), (b1, .inr (2, [.int x_2326, .int b7, .int b8, .ref b9, .ref b10, .ref b11])), (b9, .inl (G.2 0, 20, .inl f_2348)), (b10, .inl (G.2 0, 240, .inl f_2349)), (b11, .inl (G.2 0, 240, .inl f_2350))] H := hP
                  have hD := z_tie hP hD rfl
                  refine W.widen (k := 0) (n := 0) (Nat.le_of_ble_eq_true rfl) (Nat.le_of_ble_eq_true rfl) ?_
                  refine lv_if_eq (tgt := 134) hx hb d_Text_parse_125 (by decide) (fun hc_2351 => ?_) (fun hc_2351 => ?_)
                  · have _nhc_2351 := hc_2351
                    have ni_2352 := (fa_eq _ _).mp hc_2351
                    rw [li_0] at ni_2352
                    have hv_2353 : zI x_2347 0 0 := zI.eq_l hx_2347 zc_0 hc_2351
                    refine lv_iload hx hb d_Text_parse_134 (lv_at hl 3 rfl) ?_
                    exact z_iret hx hb hr hlocks hP hD hS (Nat.le_of_ble_eq_true rfl) (Nat.le_of_ble_eq_true rfl) d_Text_parse_136 ⟨y_2246, x_2326, f_2348, f_2349, f_2350, rfl, rfl, (zI.wk (l' := (-1)) (h' := 240) hv_2270 (by decide)), hx_2326, hf_2348, hf_2349⟩
                  · have _nhc_2351 := hc_2351
                    have ni_2354 : ¬ (x_2347 : Int32).toInt = (0 : Int32).toInt := fun z => hc_2351 ((fa_eq _ _).mpr z)
                    simp only [li_0] at ni_2354
                    have hv_2355 : zI x_2347 1 1 := zI.ne_lo hx_2347 zc_0 hc_2351 (by decide)
                    refine lv_iconst (v := 2) hx hb d_Text_parse_128 (by decide) ?_
                    refine lv_istore (lv' := [(4, .int 2), (3, .int 1), (6, .int v_2272), (5, .int y_2246), (0, .ref b0), (1, .ref b1), (2, .int b2)]) hx hb d_Text_parse_129 hl (by decide) rfl (fun ls hl => ?_)
                    refine lv_goto (tgt := 137) hx hb d_Text_parse_131 (by decide) ?_
                    obtain ⟨v_2356, ev_2356⟩ : ∃ z : Int32, z = y_2246 + 1 := ⟨_, rfl⟩
                    obtain ⟨qv_2356, hv_2356⟩ := zI_add (l := 1) (h := 240) hv_2270 zc_1 ev_2356 (by decide)
                    rw [li_1] at qv_2356
                    refine lv_iinc (v := v_2356) (lv' := [(5, .int v_2356), (4, .int 2), (3, .int 1), (6, .int v_2272), (0, .ref b0), (1, .ref b1), (2, .int b2)]) hx hb d_Text_parse_137 hl (k := 3) rfl (by rw [ev_2356]; rfl) (by decide) rfl (fun ls hl => ?_)
                    refine lv_goto (tgt := 8) hx hb d_Text_parse_140 (by decide) ?_
                    exact ihk_2245 (v_2356) (2) (1) (x_2326) (f_2349) (f_2350) (f_2348) _ _ _ (zI.wk (l' := 0) (h' := 240) hv_2356 (by decide)) (zI.wk (l' := 0) (h' := 2) zc_2 (by decide)) (zI.wk (l' := 0) (h' := 1) zc_1 (by decide)) hx_2326 hf_2349 hf_2348 (zm_up qv_2356 hmk_2245 (by decide)) hP hD hS (lv_sub hl [0, 1, 2, 4, 5, 6] rfl)
              · have _nhc_2331 := hc_2331
                have ni_2357 := (fa_eq _ _).mp hc_2331
                rw [li_59] at ni_2357
                have hv_2358 : zI v_2272 59 59 := zI.eq_l (zI_all v_2272) zc_59 hc_2331
                refine lv_iload_n hx hb d_Text_parse_96 rfl (lv_at hl 6 rfl) ?_
                refine lv_if_ne (tgt := 105) hx hb d_Text_parse_97 (by decide) (fun hc_2359 => ?_) (fun hc_2359 => ?_)
                · have _nhc_2359 := hc_2359
                  have ni_2360 : ¬ (b2 : Int32).toInt = (0 : Int32).toInt := fun z => hc_2359 ((fa_eq _ _).mpr z)
                  simp only [li_0] at ni_2360
                  have hv_2361 : zI b2 1 1 := zI.ne_lo hb2 zc_0 hc_2359 (by decide)
                  refine lv_iload hx hb d_Text_parse_105 (lv_at hl 2 rfl) ?_
                  refine lv_bipush (v := 97) hx hb d_Text_parse_107 (by decide) ?_
                  refine lv_isub hx hb d_Text_parse_109 ?_
                  refine lv_topi (fun v_2362 ev_2362 => ?_)
                  obtain ⟨qv_2362, hv_2362⟩ := zI_sub (l := -38) (h := -38) hv_2358 zc_97 ev_2362 (by decide)
                  rw [li_97] at qv_2362
                  refine z_callSN (host := "TraceMachines") (index := 29) (As := [.int v_2362]) (rest := []) (wr := [(b0, .inr (1, [.int b3, .ref b4])), (b4, .inl (G.2 2, 240, .inl b5)), (b10, .inl (G.2 0, 240, .inl y_2250)), (b11, .inl (G.2 0, 240, .inl y_2251)), (b1, .inr (2, [.int x_2326, .int b7, .int b8, .ref b9, .ref b10, .ref b11])), (b9, .inl (G.2 0, 20, .inl f_2327))]) Z (s2_X_isLetter l G (v_2362)) hl.1 (by decide +kernel) q518 q1 q519 ⟨by decide, by decide, by show _ = some 1; decide +kernel⟩ ⟨Nat.le_of_ble_eq_true rfl, Nat.le_of_ble_eq_true rfl⟩ ⟨Nat.le_of_ble_eq_true rfl, Nat.le_of_ble_eq_true rfl⟩ rfl (Nat.le_of_ble_eq_true rfl) d_Text_parse_110 hP hD hS hA [] [0, 1, 2, 3, 4, 5] rfl rfl rfl rfl (by decide) (fun v w1 H locs hw_2363 hP hD hS => ?_)
                  rcases hw_2363 with ⟨rfl, rfl, hq_2364⟩ | ⟨rfl, rfl, hq_2365, hq_2366⟩ | ⟨rfl, rfl, hq_2367, hq_2368⟩
                  · have hP : va_P G.1 classes [(b0, .inr (1, [.int b3, .ref b4])), (b4, .inl (G.2 2, 240, .inl b5)), (b10, .inl (G.2 0, 240, .inl y_2250)), (b11, .inl (G.2 0, 240, .inl y_2251)), (b1, .inr (2, [.int x_2326, .int b7, .int b8, .ref b9, .ref b10, .ref b11])), (b9, .inl (G.2 0, 20, .inl f_2327))] H := hP
                    have hD := z_tie hP hD rfl
                    refine W.widen (k := 0) (n := 0) (Nat.le_of_ble_eq_true rfl) (Nat.le_of_ble_eq_true rfl) ?_
                    refine lv_if_eq (tgt := 134) hx hb d_Text_parse_113 (by decide) (fun _ => ?_) (fun hc => absurd hc (by decide +kernel))
                    refine lv_iload hx hb d_Text_parse_134 (lv_at hl 3 rfl) ?_
                    exact z_iret hx hb hr hlocks (hP.sub [0, 1, 4, 5, 2, 3] rfl) (hD.sub [0, 1, 4, 5, 2, 3] (by decide) rfl) hS (Nat.le_of_ble_eq_true rfl) (Nat.le_of_ble_eq_true rfl) d_Text_parse_136 ⟨y_2246, x_2326, f_2327, y_2250, y_2251, rfl, rfl, (zI.wk (l' := (-1)) (h' := 240) hv_2270 (by decide)), hx_2326, hf_2327, hy_2250⟩
                  · exfalso; have _q := hq_2365; have _u0 := hv_2362; omega
                  · exfalso; have _q := hq_2367; have _u0 := hv_2362; omega
                · have _nhc_2359 := hc_2359
                  have ni_2369 := (fa_eq _ _).mp hc_2359
                  rw [li_0] at ni_2369
                  have hv_2370 : zI b2 0 0 := zI.eq_l hb2 zc_0 hc_2359
                  refine lv_iconst (v := 0) hx hb d_Text_parse_100 (by decide) ?_
                  refine lv_istore_n (lv' := [(3, .int 0), (4, .int 0), (6, .int v_2272), (5, .int y_2246), (0, .ref b0), (1, .ref b1), (2, .int b2)]) hx hb d_Text_parse_101 rfl hl (by decide) rfl (fun ls hl => ?_)
                  refine lv_goto (tgt := 137) hx hb d_Text_parse_102 (by decide) ?_
                  obtain ⟨v_2371, ev_2371⟩ : ∃ z : Int32, z = y_2246 + 1 := ⟨_, rfl⟩
                  obtain ⟨qv_2371, hv_2371⟩ := zI_add (l := 1) (h := 240) hv_2270 zc_1 ev_2371 (by decide)
                  rw [li_1] at qv_2371
                  refine lv_iinc (v := v_2371) (lv' := [(5, .int v_2371), (3, .int 0), (4, .int 0), (6, .int v_2272), (0, .ref b0), (1, .ref b1), (2, .int b2)]) hx hb d_Text_parse_137 hl (k := 3) rfl (by rw [ev_2371]; rfl) (by decide) rfl (fun ls hl => ?_)
                  refine lv_goto (tgt := 8) hx hb d_Text_parse_140 (by decide) ?_
                  exact ihk_2245 (v_2371) (0) (0) (x_2326) (y_2250) (y_2251) (f_2327) _ _ _ (zI.wk (l' := 0) (h' := 240) hv_2371 (by decide)) (zI.wk (l' := 0) (h' := 2) zc_0 (by decide)) (zI.wk (l' := 0) (h' := 1) zc_0 (by decide)) hx_2326 hy_2250 hf_2327 (zm_up qv_2371 hmk_2245 (by decide)) (hP.sub [0, 1, 4, 5, 2, 3] rfl) (hD.sub [0, 1, 4, 5, 2, 3] (by decide) rfl) hS (lv_sub hl [0, 2, 1, 4, 5, 6] rfl)
            · have _nhc_2328 := hc_2328
              have ni_2372 := (fa_eq _ _).mp hc_2328
              rw [li_0] at ni_2372
              have hv_2373 : zI x_2325 0 0 := zI.eq_l hx_2325 zc_0 hc_2328
              refine lv_iload hx hb d_Text_parse_84 (lv_at hl 2 rfl) ?_
              exact z_iret hx hb hr hlocks (hP.sub [0, 1, 4, 5, 2, 3] rfl) (hD.sub [0, 1, 4, 5, 2, 3] (by decide) rfl) hS (Nat.le_of_ble_eq_true rfl) (Nat.le_of_ble_eq_true rfl) d_Text_parse_86 ⟨y_2246, x_2326, f_2327, y_2250, y_2251, rfl, rfl, (zI.wk (l' := (-1)) (h' := 240) hv_2270 (by decide)), hx_2326, hf_2327, hy_2250⟩
        · have _nhc_2276 := hc_2276
          have ni_2374 := (fa_eq _ _).mp hc_2276
          rw [li_32] at ni_2374
          have hv_2375 : zI v_2272 32 32 := zI.eq_l (zI_all v_2272) zc_32 hc_2276
          refine lv_goto (tgt := 137) hx hb d_Text_parse_70 (by decide) ?_
          obtain ⟨v_2376, ev_2376⟩ : ∃ z : Int32, z = y_2246 + 1 := ⟨_, rfl⟩
          obtain ⟨qv_2376, hv_2376⟩ := zI_add (l := 1) (h := 240) hv_2270 zc_1 ev_2376 (by decide)
          rw [li_1] at qv_2376
          refine lv_iinc (v := v_2376) (lv' := [(5, .int v_2376), (4, .int 0), (6, .int v_2272), (3, .int y_2248), (0, .ref b0), (1, .ref b1), (2, .int b2)]) hx hb d_Text_parse_137 hl (k := 2) rfl (by rw [ev_2376]; rfl) (by decide) rfl (fun ls hl => ?_)
          refine lv_goto (tgt := 8) hx hb d_Text_parse_140 (by decide) ?_
          exact ihk_2245 (v_2376) (0) (y_2248) (y_2249) (y_2250) (y_2251) (y_2252) _ _ _ (zI.wk (l' := 0) (h' := 240) hv_2376 (by decide)) (zI.wk (l' := 0) (h' := 2) zc_0 (by decide)) hy_2248 hy_2249 hy_2250 hy_2252 (zm_up qv_2376 hmk_2245 (by decide)) hP hD hS (lv_sub hl [0, 1, 3, 4, 5, 6] rfl)
      · have _nhc_2273 := hc_2273
        have ni_2377 := (fa_lt _ _).mp (zi_nle hc_2273)
        rw [li_0] at ni_2377
        have hv_2378 : zI y_2247 1 2 := zI.lt_r zc_0 hy_2247 (zi_nle hc_2273) (by decide)
        refine lv_iload hx hb d_Text_parse_31 (lv_at hl 0 rfl) ?_
        refine lv_bipush (v := 48) hx hb d_Text_parse_33 (by decide) ?_
        refine lv_icmp_lt (tgt := 60) hx hb d_Text_parse_35 (by decide) (fun hc_2379 => ?_) (fun hc_2379 => ?_)
        · have _nhc_2379 := hc_2379
          have ni_2380 := (fa_lt _ _).mp hc_2379
          rw [li_48] at ni_2380
          have hv_2381 : zI v_2272 (-2147483648) 47 := zI.lt_l (zI_all v_2272) zc_48 hc_2379 (by decide)
          refine lv_iconst (v := 0) hx hb d_Text_parse_60 (by decide) ?_
          refine lv_istore (lv' := [(4, .int 0), (6, .int v_2272), (5, .int y_2246), (3, .int y_2248), (0, .ref b0), (1, .ref b1), (2, .int b2)]) hx hb d_Text_parse_61 hl (by decide) rfl (fun ls hl => ?_)
          refine lv_iload hx hb d_Text_parse_63 (lv_at hl 1 rfl) ?_
          refine lv_bipush (v := 32) hx hb d_Text_parse_65 (by decide) ?_
          refine lv_icmp_ne (tgt := 73) hx hb d_Text_parse_67 (by decide) (fun hc_2382 => ?_) (fun hc_2382 => ?_)
          · have _nhc_2382 := hc_2382
            have ni_2383 : ¬ (v_2272 : Int32).toInt = (32 : Int32).toInt := fun z => hc_2382 ((fa_eq _ _).mpr z)
            simp only [li_32] at ni_2383
            refine lv_iload_n hx hb d_Text_parse_73 rfl (lv_at hl 3 rfl) ?_
            refine lv_if_ne (tgt := 87) hx hb d_Text_parse_74 (by decide) (fun hc_2384 => ?_) (fun hc_2384 => ?_)
            · have _nhc_2384 := hc_2384
              have ni_2385 : ¬ (y_2248 : Int32).toInt = (0 : Int32).toInt := fun z => hc_2384 ((fa_eq _ _).mpr z)
              simp only [li_0] at ni_2385
              have hv_2386 : zI y_2248 1 1 := zI.ne_lo hy_2248 zc_0 hc_2384 (by decide)
              refine lv_iconst (v := 1) hx hb d_Text_parse_87 (by decide) ?_
              refine lv_istore_n (lv' := [(3, .int 1), (4, .int 0), (6, .int v_2272), (5, .int y_2246), (0, .ref b0), (1, .ref b1), (2, .int b2)]) hx hb d_Text_parse_88 rfl hl (by decide) rfl (fun ls hl => ?_)
              refine lv_iload hx hb d_Text_parse_89 (lv_at hl 2 rfl) ?_
              refine lv_bipush (v := 59) hx hb d_Text_parse_91 (by decide) ?_
              refine lv_icmp_ne (tgt := 105) hx hb d_Text_parse_93 (by decide) (fun _ => ?_) (fun hc => zI.no_eq hv_2381 zc_59 hc (by decide))
              refine lv_iload hx hb d_Text_parse_105 (lv_at hl 2 rfl) ?_
              refine lv_bipush (v := 97) hx hb d_Text_parse_107 (by decide) ?_
              refine lv_isub hx hb d_Text_parse_109 ?_
              refine lv_topi (fun v_2387 ev_2387 => ?_)
              refine z_callSN (host := "TraceMachines") (index := 29) (As := [.int v_2387]) (rest := []) (wr := [(b0, .inr (1, [.int b3, .ref b4])), (b4, .inl (G.2 2, 240, .inl b5)), (b1, .inr (2, [.int y_2249, .int b7, .int b8, .ref b9, .ref b10, .ref b11])), (b9, .inl (G.2 0, 20, .inl y_2252)), (b10, .inl (G.2 0, 240, .inl y_2250)), (b11, .inl (G.2 0, 240, .inl y_2251))]) Z (s2_X_isLetter l G (v_2387)) hl.1 (by decide +kernel) q518 q1 q519 ⟨by decide, by decide, by show _ = some 1; decide +kernel⟩ ⟨Nat.le_of_ble_eq_true rfl, Nat.le_of_ble_eq_true rfl⟩ ⟨Nat.le_of_ble_eq_true rfl, Nat.le_of_ble_eq_true rfl⟩ rfl (Nat.le_of_ble_eq_true rfl) d_Text_parse_110 hP hD hS hA [] [0, 1, 2, 3, 4, 5] rfl rfl rfl rfl (by decide) (fun v w1 H locs hw_2388 hP hD hS => ?_)
              rcases hw_2388 with ⟨rfl, rfl, hq_2389⟩ | ⟨rfl, rfl, hq_2390, hq_2391⟩ | ⟨rfl, rfl, hq_2392, hq_2393⟩
              · have hP : va_P G.1 classes [(b0, .inr (1, [.int b3, .ref b4])), (b4, .inl (G.2 2, 240, .inl b5)), (b1, .inr (2, [.int y_2249, .int b7, .int b8, .ref b9, .ref b10, .ref b11])), (b9, .inl (G.2 0, 20, .inl y_2252)), (b10, .inl (G.2 0, 240, .inl y_2250)), (b11, .inl (G.2 0, 240, .inl y_2251))] H := hP
                have hD := z_tie hP hD rfl
                have hv_2394 : zI v_2387 (-2147483648) (-1) := by have _a := hq_2389; have _b := (zI_all v_2387); have _c := zc_0; exact ⟨by omega, by omega⟩
                refine W.widen (k := 0) (n := 0) (Nat.le_of_ble_eq_true rfl) (Nat.le_of_ble_eq_true rfl) ?_
                refine lv_if_eq (tgt := 134) hx hb d_Text_parse_113 (by decide) (fun _ => ?_) (fun hc => absurd hc (by decide +kernel))
                refine lv_iload hx hb d_Text_parse_134 (lv_at hl 3 rfl) ?_
                exact z_iret hx hb hr hlocks hP hD hS (Nat.le_of_ble_eq_true rfl) (Nat.le_of_ble_eq_true rfl) d_Text_parse_136 ⟨y_2246, y_2249, y_2252, y_2250, y_2251, rfl, rfl, (zI.wk (l' := (-1)) (h' := 240) hv_2270 (by decide)), hy_2249, hy_2252, hy_2250⟩
              · have hP : va_P G.1 classes [(b0, .inr (1, [.int b3, .ref b4])), (b4, .inl (G.2 2, 240, .inl b5)), (b1, .inr (2, [.int y_2249, .int b7, .int b8, .ref b9, .ref b10, .ref b11])), (b9, .inl (G.2 0, 20, .inl y_2252)), (b10, .inl (G.2 0, 240, .inl y_2250)), (b11, .inl (G.2 0, 240, .inl y_2251))] H := hP
                have hD := z_tie hP hD rfl
                have hv_2395 : zI v_2387 0 2147483647 := by have _a := hq_2390; have _b := (zI_all v_2387); have _c := zc_0; exact ⟨by omega, by omega⟩
                have hv_2396 : zI v_2387 10 2147483647 := by have _a := hq_2391; have _b := hv_2395; have _c := zc_10; exact ⟨by omega, by omega⟩
                refine W.widen (k := 0) (n := 0) (Nat.le_of_ble_eq_true rfl) (Nat.le_of_ble_eq_true rfl) ?_
                refine lv_if_eq (tgt := 134) hx hb d_Text_parse_113 (by decide) (fun _ => ?_) (fun hc => absurd hc (by decide +kernel))
                refine lv_iload hx hb d_Text_parse_134 (lv_at hl 3 rfl) ?_
                exact z_iret hx hb hr hlocks hP hD hS (Nat.le_of_ble_eq_true rfl) (Nat.le_of_ble_eq_true rfl) d_Text_parse_136 ⟨y_2246, y_2249, y_2252, y_2250, y_2251, rfl, rfl, (zI.wk (l' := (-1)) (h' := 240) hv_2270 (by decide)), hy_2249, hy_2252, hy_2250⟩
              · have hP : va_P G.1 classes [(b0, .inr (1, [.int b3, .ref b4])), (b4, .inl (G.2 2, 240, .inl b5)), (b1, .inr (2, [.int y_2249, .int b7, .int b8, .ref b9, .ref b10, .ref b11])), (b9, .inl (G.2 0, 20, .inl y_2252)), (b10, .inl (G.2 0, 240, .inl y_2250)), (b11, .inl (G.2 0, 240, .inl y_2251))] H := hP
                have hD := z_tie hP hD rfl
                have hv_2397 : zI v_2387 0 2147483647 := by have _a := hq_2392; have _b := (zI_all v_2387); have _c := zc_0; exact ⟨by omega, by omega⟩
                have hv_2398 : zI v_2387 0 9 := by have _a := hq_2393; have _b := hv_2397; have _c := zc_10; exact ⟨by omega, by omega⟩
                refine W.widen (k := 0) (n := 0) (Nat.le_of_ble_eq_true rfl) (Nat.le_of_ble_eq_true rfl) ?_
                refine lv_if_eq (tgt := 134) hx hb d_Text_parse_113 (by decide) (fun hc => absurd hc (by decide +kernel)) (fun _ => ?_)
                refine lv_aload_n hx hb d_Text_parse_116 rfl (lv_at hl 5 rfl) ?_
                refine lv_iload hx hb d_Text_parse_117 (lv_at hl 2 rfl) ?_
                refine lv_bipush (v := 97) hx hb d_Text_parse_119 (by decide) ?_
                refine lv_isub hx hb d_Text_parse_121 ?_
                refine lv_topi (fun v_2399 ev_2399 => ?_)
                obtain rfl : v_2387 = v_2399 := ev_2387.trans ev_2399.symm
                refine z_callV (index := 33) (As := [.int v_2387]) (rest := []) (wr := [(b0, .inr (1, [.int b3, .ref b4])), (b4, .inl (G.2 2, 240, .inl b5))]) Z (s1_Traces_add l G (b1) (v_2387) (y_2249) (b7) (b8) (b9) (b10) (b11) (y_2252) (y_2250) (y_2251) hv_2398 hy_2249 hb7 hb8 hy_2252 hy_2250) hl.1 q520 q521 q522 q3 q523 ⟨by decide, by decide, by show _ = some 1; decide +kernel⟩ ⟨Nat.le_of_ble_eq_true rfl, Nat.le_of_ble_eq_true rfl⟩ ⟨Nat.le_of_ble_eq_true rfl, Nat.le_of_ble_eq_true rfl⟩ rfl (Nat.le_of_ble_eq_true rfl) d_Text_parse_122 hP hD hS hA 2 2 rfl rfl rfl [2, 3, 4, 5] [0, 1] rfl rfl rfl rfl (by decide) (fun v w1 H locs hw_2400 hP hD hS => ?_)
                obtain ⟨x_2401, f_2402, f_2403, f_2404, rfl, rfl, hx_2401, hf_2402, hf_2403⟩ := hw_2400
                have hP : va_P G.1 classes [(b0, .inr (1, [.int b3, .ref b4])), (b4, .inl (G.2 2, 240, .inl b5)), (b1, .inr (2, [.int y_2249, .int b7, .int b8, .ref b9, .ref b10, .ref b11])), (b9, .inl (G.2 0, 20, .inl f_2402)), (b10, .inl (G.2 0, 240, .inl f_2403)), (b11, .inl (G.2 0, 240, .inl f_2404))] H := hP
                have hD := z_tie hP hD rfl
                refine W.widen (k := 0) (n := 0) (Nat.le_of_ble_eq_true rfl) (Nat.le_of_ble_eq_true rfl) ?_
                refine lv_if_eq (tgt := 134) hx hb d_Text_parse_125 (by decide) (fun hc_2405 => ?_) (fun hc_2405 => ?_)
                · have _nhc_2405 := hc_2405
                  have ni_2406 := (fa_eq _ _).mp hc_2405
                  rw [li_0] at ni_2406
                  have hv_2407 : zI x_2401 0 0 := zI.eq_l hx_2401 zc_0 hc_2405
                  refine lv_iload hx hb d_Text_parse_134 (lv_at hl 3 rfl) ?_
                  exact z_iret hx hb hr hlocks hP hD hS (Nat.le_of_ble_eq_true rfl) (Nat.le_of_ble_eq_true rfl) d_Text_parse_136 ⟨y_2246, y_2249, f_2402, f_2403, f_2404, rfl, rfl, (zI.wk (l' := (-1)) (h' := 240) hv_2270 (by decide)), hy_2249, hf_2402, hf_2403⟩
                · have _nhc_2405 := hc_2405
                  have ni_2408 : ¬ (x_2401 : Int32).toInt = (0 : Int32).toInt := fun z => hc_2405 ((fa_eq _ _).mpr z)
                  simp only [li_0] at ni_2408
                  have hv_2409 : zI x_2401 1 1 := zI.ne_lo hx_2401 zc_0 hc_2405 (by decide)
                  refine lv_iconst (v := 2) hx hb d_Text_parse_128 (by decide) ?_
                  refine lv_istore (lv' := [(4, .int 2), (3, .int 1), (6, .int v_2272), (5, .int y_2246), (0, .ref b0), (1, .ref b1), (2, .int b2)]) hx hb d_Text_parse_129 hl (by decide) rfl (fun ls hl => ?_)
                  refine lv_goto (tgt := 137) hx hb d_Text_parse_131 (by decide) ?_
                  obtain ⟨v_2410, ev_2410⟩ : ∃ z : Int32, z = y_2246 + 1 := ⟨_, rfl⟩
                  obtain ⟨qv_2410, hv_2410⟩ := zI_add (l := 1) (h := 240) hv_2270 zc_1 ev_2410 (by decide)
                  rw [li_1] at qv_2410
                  refine lv_iinc (v := v_2410) (lv' := [(5, .int v_2410), (4, .int 2), (3, .int 1), (6, .int v_2272), (0, .ref b0), (1, .ref b1), (2, .int b2)]) hx hb d_Text_parse_137 hl (k := 3) rfl (by rw [ev_2410]; rfl) (by decide) rfl (fun ls hl => ?_)
                  refine lv_goto (tgt := 8) hx hb d_Text_parse_140 (by decide) ?_
                  exact ihk_2245 (v_2410) (2) (1) (y_2249) (f_2403) (f_2404) (f_2402) _ _ _ (zI.wk (l' := 0) (h' := 240) hv_2410 (by decide)) (zI.wk (l' := 0) (h' := 2) zc_2 (by decide)) (zI.wk (l' := 0) (h' := 1) zc_1 (by decide)) hy_2249 hf_2403 hf_2402 (zm_up qv_2410 hmk_2245 (by decide)) hP hD hS (lv_sub hl [0, 1, 2, 4, 5, 6] rfl)
            · have _nhc_2384 := hc_2384
              have ni_2411 := (fa_eq _ _).mp hc_2384
              rw [li_0] at ni_2411
              have hv_2412 : zI y_2248 0 0 := zI.eq_l hy_2248 zc_0 hc_2384
              refine lv_aload_n hx hb d_Text_parse_77 rfl (lv_at hl 5 rfl) ?_
              refine z_callV (index := 25) (As := []) (rest := []) (wr := [(b0, .inr (1, [.int b3, .ref b4])), (b4, .inl (G.2 2, 240, .inl b5)), (b10, .inl (G.2 0, 240, .inl y_2250)), (b11, .inl (G.2 0, 240, .inl y_2251))]) Z (s1_Traces_open l G (b1) (y_2249) (b7) (b8) (b9) (b10) (b11) (y_2252) hy_2249 hb7 hb8 hy_2252) hl.1 q513 q514 q515 q3 q516 ⟨by decide, by decide, by show _ = some 0; decide +kernel⟩ ⟨Nat.le_of_ble_eq_true rfl, Nat.le_of_ble_eq_true rfl⟩ ⟨Nat.le_of_ble_eq_true rfl, Nat.le_of_ble_eq_true rfl⟩ rfl (Nat.le_of_ble_eq_true rfl) d_Text_parse_78 hP hD hS hA 2 2 rfl rfl rfl [2, 3] [0, 1, 4, 5] rfl rfl rfl rfl (by decide) (fun v w1 H locs hw_2413 hP hD hS => ?_)
              obtain ⟨x_2414, x_2415, f_2416, rfl, rfl, hx_2414, hx_2415, hf_2416⟩ := hw_2413
              have hP : va_P G.1 classes [(b0, .inr (1, [.int b3, .ref b4])), (b4, .inl (G.2 2, 240, .inl b5)), (b10, .inl (G.2 0, 240, .inl y_2250)), (b11, .inl (G.2 0, 240, .inl y_2251)), (b1, .inr (2, [.int x_2415, .int b7, .int b8, .ref b9, .ref b10, .ref b11])), (b9, .inl (G.2 0, 20, .inl f_2416))] H := hP
              have hD := z_tie hP hD rfl
              refine W.widen (k := 0) (n := 0) (Nat.le_of_ble_eq_true rfl) (Nat.le_of_ble_eq_true rfl) ?_
              refine lv_if_ne (tgt := 87) hx hb d_Text_parse_81 (by decide) (fun hc_2417 => ?_) (fun hc_2417 => ?_)
              · have _nhc_2417 := hc_2417
                have ni_2418 : ¬ (x_2414 : Int32).toInt = (0 : Int32).toInt := fun z => hc_2417 ((fa_eq _ _).mpr z)
                simp only [li_0] at ni_2418
                have hv_2419 : zI x_2414 1 1 := zI.ne_lo hx_2414 zc_0 hc_2417 (by decide)
                refine lv_iconst (v := 1) hx hb d_Text_parse_87 (by decide) ?_
                refine lv_istore_n (lv' := [(3, .int 1), (4, .int 0), (6, .int v_2272), (5, .int y_2246), (0, .ref b0), (1, .ref b1), (2, .int b2)]) hx hb d_Text_parse_88 rfl hl (by decide) rfl (fun ls hl => ?_)
                refine lv_iload hx hb d_Text_parse_89 (lv_at hl 2 rfl) ?_
                refine lv_bipush (v := 59) hx hb d_Text_parse_91 (by decide) ?_
                refine lv_icmp_ne (tgt := 105) hx hb d_Text_parse_93 (by decide) (fun _ => ?_) (fun hc => zI.no_eq hv_2381 zc_59 hc (by decide))
                refine lv_iload hx hb d_Text_parse_105 (lv_at hl 2 rfl) ?_
                refine lv_bipush (v := 97) hx hb d_Text_parse_107 (by decide) ?_
                refine lv_isub hx hb d_Text_parse_109 ?_
                refine lv_topi (fun v_2420 ev_2420 => ?_)
                refine z_callSN (host := "TraceMachines") (index := 29) (As := [.int v_2420]) (rest := []) (wr := [(b0, .inr (1, [.int b3, .ref b4])), (b4, .inl (G.2 2, 240, .inl b5)), (b10, .inl (G.2 0, 240, .inl y_2250)), (b11, .inl (G.2 0, 240, .inl y_2251)), (b1, .inr (2, [.int x_2415, .int b7, .int b8, .ref b9, .ref b10, .ref b11])), (b9, .inl (G.2 0, 20, .inl f_2416))]) Z (s2_X_isLetter l G (v_2420)) hl.1 (by decide +kernel) q518 q1 q519 ⟨by decide, by decide, by show _ = some 1; decide +kernel⟩ ⟨Nat.le_of_ble_eq_true rfl, Nat.le_of_ble_eq_true rfl⟩ ⟨Nat.le_of_ble_eq_true rfl, Nat.le_of_ble_eq_true rfl⟩ rfl (Nat.le_of_ble_eq_true rfl) d_Text_parse_110 hP hD hS hA [] [0, 1, 2, 3, 4, 5] rfl rfl rfl rfl (by decide) (fun v w1 H locs hw_2421 hP hD hS => ?_)
                rcases hw_2421 with ⟨rfl, rfl, hq_2422⟩ | ⟨rfl, rfl, hq_2423, hq_2424⟩ | ⟨rfl, rfl, hq_2425, hq_2426⟩
                · have hP : va_P G.1 classes [(b0, .inr (1, [.int b3, .ref b4])), (b4, .inl (G.2 2, 240, .inl b5)), (b10, .inl (G.2 0, 240, .inl y_2250)), (b11, .inl (G.2 0, 240, .inl y_2251)), (b1, .inr (2, [.int x_2415, .int b7, .int b8, .ref b9, .ref b10, .ref b11])), (b9, .inl (G.2 0, 20, .inl f_2416))] H := hP
                  have hD := z_tie hP hD rfl
                  have hv_2427 : zI v_2420 (-2147483648) (-1) := by have _a := hq_2422; have _b := (zI_all v_2420); have _c := zc_0; exact ⟨by omega, by omega⟩
                  refine W.widen (k := 0) (n := 0) (Nat.le_of_ble_eq_true rfl) (Nat.le_of_ble_eq_true rfl) ?_
                  refine lv_if_eq (tgt := 134) hx hb d_Text_parse_113 (by decide) (fun _ => ?_) (fun hc => absurd hc (by decide +kernel))
                  refine lv_iload hx hb d_Text_parse_134 (lv_at hl 3 rfl) ?_
                  exact z_iret hx hb hr hlocks (hP.sub [0, 1, 4, 5, 2, 3] rfl) (hD.sub [0, 1, 4, 5, 2, 3] (by decide) rfl) hS (Nat.le_of_ble_eq_true rfl) (Nat.le_of_ble_eq_true rfl) d_Text_parse_136 ⟨y_2246, x_2415, f_2416, y_2250, y_2251, rfl, rfl, (zI.wk (l' := (-1)) (h' := 240) hv_2270 (by decide)), hx_2415, hf_2416, hy_2250⟩
                · have hP : va_P G.1 classes [(b0, .inr (1, [.int b3, .ref b4])), (b4, .inl (G.2 2, 240, .inl b5)), (b10, .inl (G.2 0, 240, .inl y_2250)), (b11, .inl (G.2 0, 240, .inl y_2251)), (b1, .inr (2, [.int x_2415, .int b7, .int b8, .ref b9, .ref b10, .ref b11])), (b9, .inl (G.2 0, 20, .inl f_2416))] H := hP
                  have hD := z_tie hP hD rfl
                  have hv_2428 : zI v_2420 0 2147483647 := by have _a := hq_2423; have _b := (zI_all v_2420); have _c := zc_0; exact ⟨by omega, by omega⟩
                  have hv_2429 : zI v_2420 10 2147483647 := by have _a := hq_2424; have _b := hv_2428; have _c := zc_10; exact ⟨by omega, by omega⟩
                  refine W.widen (k := 0) (n := 0) (Nat.le_of_ble_eq_true rfl) (Nat.le_of_ble_eq_true rfl) ?_
                  refine lv_if_eq (tgt := 134) hx hb d_Text_parse_113 (by decide) (fun _ => ?_) (fun hc => absurd hc (by decide +kernel))
                  refine lv_iload hx hb d_Text_parse_134 (lv_at hl 3 rfl) ?_
                  exact z_iret hx hb hr hlocks (hP.sub [0, 1, 4, 5, 2, 3] rfl) (hD.sub [0, 1, 4, 5, 2, 3] (by decide) rfl) hS (Nat.le_of_ble_eq_true rfl) (Nat.le_of_ble_eq_true rfl) d_Text_parse_136 ⟨y_2246, x_2415, f_2416, y_2250, y_2251, rfl, rfl, (zI.wk (l' := (-1)) (h' := 240) hv_2270 (by decide)), hx_2415, hf_2416, hy_2250⟩
                · have hP : va_P G.1 classes [(b0, .inr (1, [.int b3, .ref b4])), (b4, .inl (G.2 2, 240, .inl b5)), (b10, .inl (G.2 0, 240, .inl y_2250)), (b11, .inl (G.2 0, 240, .inl y_2251)), (b1, .inr (2, [.int x_2415, .int b7, .int b8, .ref b9, .ref b10, .ref b11])), (b9, .inl (G.2 0, 20, .inl f_2416))] H := hP
                  have hD := z_tie hP hD rfl
                  have hv_2430 : zI v_2420 0 2147483647 := by have _a := hq_2425; have _b := (zI_all v_2420); have _c := zc_0; exact ⟨by omega, by omega⟩
                  have hv_2431 : zI v_2420 0 9 := by have _a := hq_2426; have _b := hv_2430; have _c := zc_10; exact ⟨by omega, by omega⟩
                  refine W.widen (k := 0) (n := 0) (Nat.le_of_ble_eq_true rfl) (Nat.le_of_ble_eq_true rfl) ?_
                  refine lv_if_eq (tgt := 134) hx hb d_Text_parse_113 (by decide) (fun hc => absurd hc (by decide +kernel)) (fun _ => ?_)
                  refine lv_aload_n hx hb d_Text_parse_116 rfl (lv_at hl 5 rfl) ?_
                  refine lv_iload hx hb d_Text_parse_117 (lv_at hl 2 rfl) ?_
                  refine lv_bipush (v := 97) hx hb d_Text_parse_119 (by decide) ?_
                  refine lv_isub hx hb d_Text_parse_121 ?_
                  refine lv_topi (fun v_2432 ev_2432 => ?_)
                  obtain rfl : v_2420 = v_2432 := ev_2420.trans ev_2432.symm
                  refine z_callV (index := 33) (As := [.int v_2420]) (rest := []) (wr := [(b0, .inr (1, [.int b3, .ref b4])), (b4, .inl (G.2 2, 240, .inl b5))]) Z (s1_Traces_add l G (b1) (v_2420) (x_2415) (b7) (b8) (b9) (b10) (b11) (f_2416) (y_2250) (y_2251) hv_2431 hx_2415 hb7 hb8 hf_2416 hy_2250) hl.1 q520 q521 q522 q3 q523 ⟨by decide, by decide, by show _ = some 1; decide +kernel⟩ ⟨Nat.le_of_ble_eq_true rfl, Nat.le_of_ble_eq_true rfl⟩ ⟨Nat.le_of_ble_eq_true rfl, Nat.le_of_ble_eq_true rfl⟩ rfl (Nat.le_of_ble_eq_true rfl) d_Text_parse_122 hP hD hS hA 4 2 rfl rfl rfl [4, 5, 2, 3] [0, 1] rfl rfl rfl rfl (by decide) (fun v w1 H locs hw_2433 hP hD hS => ?_)
                  obtain ⟨x_2434, f_2435, f_2436, f_2437, rfl, rfl, hx_2434, hf_2435, hf_2436⟩ := hw_2433
                  have hP : va_P G.1 classes [(b0, .inr (1, [.int b3, .ref b4])), (b4, .inl (G.2 2, 240, .inl b5)), (b1, .inr (2, [.int x_2415, .int b7, .int b8, .ref b9, .ref b10, .ref b11])), (b9, .inl (G.2 0, 20, .inl f_2435)), (b10, .inl (G.2 0, 240, .inl f_2436)), (b11, .inl (G.2 0, 240, .inl f_2437))] H := hP
                  have hD := z_tie hP hD rfl
                  refine W.widen (k := 0) (n := 0) (Nat.le_of_ble_eq_true rfl) (Nat.le_of_ble_eq_true rfl) ?_
                  refine lv_if_eq (tgt := 134) hx hb d_Text_parse_125 (by decide) (fun hc_2438 => ?_) (fun hc_2438 => ?_)
                  · have _nhc_2438 := hc_2438
                    have ni_2439 := (fa_eq _ _).mp hc_2438
                    rw [li_0] at ni_2439
                    have hv_2440 : zI x_2434 0 0 := zI.eq_l hx_2434 zc_0 hc_2438
                    refine lv_iload hx hb d_Text_parse_134 (lv_at hl 3 rfl) ?_
                    exact z_iret hx hb hr hlocks hP hD hS (Nat.le_of_ble_eq_true rfl) (Nat.le_of_ble_eq_true rfl) d_Text_parse_136 ⟨y_2246, x_2415, f_2435, f_2436, f_2437, rfl, rfl, (zI.wk (l' := (-1)) (h' := 240) hv_2270 (by decide)), hx_2415, hf_2435, hf_2436⟩
                  · have _nhc_2438 := hc_2438
                    have ni_2441 : ¬ (x_2434 : Int32).toInt = (0 : Int32).toInt := fun z => hc_2438 ((fa_eq _ _).mpr z)
                    simp only [li_0] at ni_2441
                    have hv_2442 : zI x_2434 1 1 := zI.ne_lo hx_2434 zc_0 hc_2438 (by decide)
                    refine lv_iconst (v := 2) hx hb d_Text_parse_128 (by decide) ?_
                    refine lv_istore (lv' := [(4, .int 2), (3, .int 1), (6, .int v_2272), (5, .int y_2246), (0, .ref b0), (1, .ref b1), (2, .int b2)]) hx hb d_Text_parse_129 hl (by decide) rfl (fun ls hl => ?_)
                    refine lv_goto (tgt := 137) hx hb d_Text_parse_131 (by decide) ?_
                    obtain ⟨v_2443, ev_2443⟩ : ∃ z : Int32, z = y_2246 + 1 := ⟨_, rfl⟩
                    obtain ⟨qv_2443, hv_2443⟩ := zI_add (l := 1) (h := 240) hv_2270 zc_1 ev_2443 (by decide)
                    rw [li_1] at qv_2443
                    refine lv_iinc (v := v_2443) (lv' := [(5, .int v_2443), (4, .int 2), (3, .int 1), (6, .int v_2272), (0, .ref b0), (1, .ref b1), (2, .int b2)]) hx hb d_Text_parse_137 hl (k := 3) rfl (by rw [ev_2443]; rfl) (by decide) rfl (fun ls hl => ?_)
                    refine lv_goto (tgt := 8) hx hb d_Text_parse_140 (by decide) ?_
                    exact ihk_2245 (v_2443) (2) (1) (x_2415) (f_2436) (f_2437) (f_2435) _ _ _ (zI.wk (l' := 0) (h' := 240) hv_2443 (by decide)) (zI.wk (l' := 0) (h' := 2) zc_2 (by decide)) (zI.wk (l' := 0) (h' := 1) zc_1 (by decide)) hx_2415 hf_2436 hf_2435 (zm_up qv_2443 hmk_2245 (by decide)) hP hD hS (lv_sub hl [0, 1, 2, 4, 5, 6] rfl)
              · have _nhc_2417 := hc_2417
                have ni_2444 := (fa_eq _ _).mp hc_2417
                rw [li_0] at ni_2444
                have hv_2445 : zI x_2414 0 0 := zI.eq_l hx_2414 zc_0 hc_2417
                refine lv_iload hx hb d_Text_parse_84 (lv_at hl 2 rfl) ?_
                exact z_iret hx hb hr hlocks (hP.sub [0, 1, 4, 5, 2, 3] rfl) (hD.sub [0, 1, 4, 5, 2, 3] (by decide) rfl) hS (Nat.le_of_ble_eq_true rfl) (Nat.le_of_ble_eq_true rfl) d_Text_parse_86 ⟨y_2246, x_2415, f_2416, y_2250, y_2251, rfl, rfl, (zI.wk (l' := (-1)) (h' := 240) hv_2270 (by decide)), hx_2415, hf_2416, hy_2250⟩
          · have _nhc_2382 := hc_2382
            have ni_2446 := (fa_eq _ _).mp hc_2382
            rw [li_32] at ni_2446
            have hv_2447 : zI v_2272 32 32 := zI.eq_l hv_2381 zc_32 hc_2382
            refine lv_goto (tgt := 137) hx hb d_Text_parse_70 (by decide) ?_
            obtain ⟨v_2448, ev_2448⟩ : ∃ z : Int32, z = y_2246 + 1 := ⟨_, rfl⟩
            obtain ⟨qv_2448, hv_2448⟩ := zI_add (l := 1) (h := 240) hv_2270 zc_1 ev_2448 (by decide)
            rw [li_1] at qv_2448
            refine lv_iinc (v := v_2448) (lv' := [(5, .int v_2448), (4, .int 0), (6, .int v_2272), (3, .int y_2248), (0, .ref b0), (1, .ref b1), (2, .int b2)]) hx hb d_Text_parse_137 hl (k := 2) rfl (by rw [ev_2448]; rfl) (by decide) rfl (fun ls hl => ?_)
            refine lv_goto (tgt := 8) hx hb d_Text_parse_140 (by decide) ?_
            exact ihk_2245 (v_2448) (0) (y_2248) (y_2249) (y_2250) (y_2251) (y_2252) _ _ _ (zI.wk (l' := 0) (h' := 240) hv_2448 (by decide)) (zI.wk (l' := 0) (h' := 2) zc_0 (by decide)) hy_2248 hy_2249 hy_2250 hy_2252 (zm_up qv_2448 hmk_2245 (by decide)) hP hD hS (lv_sub hl [0, 1, 3, 4, 5, 6] rfl)
        · have _nhc_2379 := hc_2379
          have ni_2449 := (fa_le _ _).mp (zi_nlt hc_2379)
          rw [li_48] at ni_2449
          have hv_2450 : zI v_2272 48 2147483647 := zI.le_r zc_48 (zI_all v_2272) (zi_nlt hc_2379) (by decide)
          refine lv_iload hx hb d_Text_parse_38 (lv_at hl 0 rfl) ?_
          refine lv_bipush (v := 57) hx hb d_Text_parse_40 (by decide) ?_
          refine lv_icmp_gt (tgt := 60) hx hb d_Text_parse_42 (by decide) (fun hc_2451 => ?_) (fun hc_2451 => ?_)
          · have _nhc_2451 := hc_2451
            have ni_2452 := (fa_lt _ _).mp hc_2451
            rw [li_57] at ni_2452
            have hv_2453 : zI v_2272 58 2147483647 := zI.lt_r zc_57 hv_2450 hc_2451 (by decide)
            refine lv_iconst (v := 0) hx hb d_Text_parse_60 (by decide) ?_
            refine lv_istore (lv' := [(4, .int 0), (6, .int v_2272), (5, .int y_2246), (3, .int y_2248), (0, .ref b0), (1, .ref b1), (2, .int b2)]) hx hb d_Text_parse_61 hl (by decide) rfl (fun ls hl => ?_)
            refine lv_iload hx hb d_Text_parse_63 (lv_at hl 1 rfl) ?_
            refine lv_bipush (v := 32) hx hb d_Text_parse_65 (by decide) ?_
            refine lv_icmp_ne (tgt := 73) hx hb d_Text_parse_67 (by decide) (fun _ => ?_) (fun hc => zI.no_eq hv_2453 zc_32 hc (by decide))
            refine lv_iload_n hx hb d_Text_parse_73 rfl (lv_at hl 3 rfl) ?_
            refine lv_if_ne (tgt := 87) hx hb d_Text_parse_74 (by decide) (fun hc_2454 => ?_) (fun hc_2454 => ?_)
            · have _nhc_2454 := hc_2454
              have ni_2455 : ¬ (y_2248 : Int32).toInt = (0 : Int32).toInt := fun z => hc_2454 ((fa_eq _ _).mpr z)
              simp only [li_0] at ni_2455
              have hv_2456 : zI y_2248 1 1 := zI.ne_lo hy_2248 zc_0 hc_2454 (by decide)
              refine lv_iconst (v := 1) hx hb d_Text_parse_87 (by decide) ?_
              refine lv_istore_n (lv' := [(3, .int 1), (4, .int 0), (6, .int v_2272), (5, .int y_2246), (0, .ref b0), (1, .ref b1), (2, .int b2)]) hx hb d_Text_parse_88 rfl hl (by decide) rfl (fun ls hl => ?_)
              refine lv_iload hx hb d_Text_parse_89 (lv_at hl 2 rfl) ?_
              refine lv_bipush (v := 59) hx hb d_Text_parse_91 (by decide) ?_
              refine lv_icmp_ne (tgt := 105) hx hb d_Text_parse_93 (by decide) (fun hc_2457 => ?_) (fun hc_2457 => ?_)
              · have _nhc_2457 := hc_2457
                have ni_2458 : ¬ (v_2272 : Int32).toInt = (59 : Int32).toInt := fun z => hc_2457 ((fa_eq _ _).mpr z)
                simp only [li_59] at ni_2458
                refine lv_iload hx hb d_Text_parse_105 (lv_at hl 2 rfl) ?_
                refine lv_bipush (v := 97) hx hb d_Text_parse_107 (by decide) ?_
                refine lv_isub hx hb d_Text_parse_109 ?_
                refine lv_topi (fun v_2459 ev_2459 => ?_)
                obtain ⟨qv_2459, hv_2459⟩ := zI_sub (l := -39) (h := 2147483550) hv_2453 zc_97 ev_2459 (by decide)
                rw [li_97] at qv_2459
                refine z_callSN (host := "TraceMachines") (index := 29) (As := [.int v_2459]) (rest := []) (wr := [(b0, .inr (1, [.int b3, .ref b4])), (b4, .inl (G.2 2, 240, .inl b5)), (b1, .inr (2, [.int y_2249, .int b7, .int b8, .ref b9, .ref b10, .ref b11])), (b9, .inl (G.2 0, 20, .inl y_2252)), (b10, .inl (G.2 0, 240, .inl y_2250)), (b11, .inl (G.2 0, 240, .inl y_2251))]) Z (s2_X_isLetter l G (v_2459)) hl.1 (by decide +kernel) q518 q1 q519 ⟨by decide, by decide, by show _ = some 1; decide +kernel⟩ ⟨Nat.le_of_ble_eq_true rfl, Nat.le_of_ble_eq_true rfl⟩ ⟨Nat.le_of_ble_eq_true rfl, Nat.le_of_ble_eq_true rfl⟩ rfl (Nat.le_of_ble_eq_true rfl) d_Text_parse_110 hP hD hS hA [] [0, 1, 2, 3, 4, 5] rfl rfl rfl rfl (by decide) (fun v w1 H locs hw_2460 hP hD hS => ?_)
                rcases hw_2460 with ⟨rfl, rfl, hq_2461⟩ | ⟨rfl, rfl, hq_2462, hq_2463⟩ | ⟨rfl, rfl, hq_2464, hq_2465⟩
                · have hP : va_P G.1 classes [(b0, .inr (1, [.int b3, .ref b4])), (b4, .inl (G.2 2, 240, .inl b5)), (b1, .inr (2, [.int y_2249, .int b7, .int b8, .ref b9, .ref b10, .ref b11])), (b9, .inl (G.2 0, 20, .inl y_2252)), (b10, .inl (G.2 0, 240, .inl y_2250)), (b11, .inl (G.2 0, 240, .inl y_2251))] H := hP
                  have hD := z_tie hP hD rfl
                  have hv_2466 : zI v_2459 (-39) (-1) := by have _a := hq_2461; have _b := hv_2459; have _c := zc_0; exact ⟨by omega, by omega⟩
                  refine W.widen (k := 0) (n := 0) (Nat.le_of_ble_eq_true rfl) (Nat.le_of_ble_eq_true rfl) ?_
                  refine lv_if_eq (tgt := 134) hx hb d_Text_parse_113 (by decide) (fun _ => ?_) (fun hc => absurd hc (by decide +kernel))
                  refine lv_iload hx hb d_Text_parse_134 (lv_at hl 3 rfl) ?_
                  exact z_iret hx hb hr hlocks hP hD hS (Nat.le_of_ble_eq_true rfl) (Nat.le_of_ble_eq_true rfl) d_Text_parse_136 ⟨y_2246, y_2249, y_2252, y_2250, y_2251, rfl, rfl, (zI.wk (l' := (-1)) (h' := 240) hv_2270 (by decide)), hy_2249, hy_2252, hy_2250⟩
                · have hP : va_P G.1 classes [(b0, .inr (1, [.int b3, .ref b4])), (b4, .inl (G.2 2, 240, .inl b5)), (b1, .inr (2, [.int y_2249, .int b7, .int b8, .ref b9, .ref b10, .ref b11])), (b9, .inl (G.2 0, 20, .inl y_2252)), (b10, .inl (G.2 0, 240, .inl y_2250)), (b11, .inl (G.2 0, 240, .inl y_2251))] H := hP
                  have hD := z_tie hP hD rfl
                  have hv_2467 : zI v_2459 0 2147483550 := by have _a := hq_2462; have _b := hv_2459; have _c := zc_0; exact ⟨by omega, by omega⟩
                  have hv_2468 : zI v_2459 10 2147483550 := by have _a := hq_2463; have _b := hv_2467; have _c := zc_10; exact ⟨by omega, by omega⟩
                  refine W.widen (k := 0) (n := 0) (Nat.le_of_ble_eq_true rfl) (Nat.le_of_ble_eq_true rfl) ?_
                  refine lv_if_eq (tgt := 134) hx hb d_Text_parse_113 (by decide) (fun _ => ?_) (fun hc => absurd hc (by decide +kernel))
                  refine lv_iload hx hb d_Text_parse_134 (lv_at hl 3 rfl) ?_
                  exact z_iret hx hb hr hlocks hP hD hS (Nat.le_of_ble_eq_true rfl) (Nat.le_of_ble_eq_true rfl) d_Text_parse_136 ⟨y_2246, y_2249, y_2252, y_2250, y_2251, rfl, rfl, (zI.wk (l' := (-1)) (h' := 240) hv_2270 (by decide)), hy_2249, hy_2252, hy_2250⟩
                · have hP : va_P G.1 classes [(b0, .inr (1, [.int b3, .ref b4])), (b4, .inl (G.2 2, 240, .inl b5)), (b1, .inr (2, [.int y_2249, .int b7, .int b8, .ref b9, .ref b10, .ref b11])), (b9, .inl (G.2 0, 20, .inl y_2252)), (b10, .inl (G.2 0, 240, .inl y_2250)), (b11, .inl (G.2 0, 240, .inl y_2251))] H := hP
                  have hD := z_tie hP hD rfl
                  have hv_2469 : zI v_2459 0 2147483550 := by have _a := hq_2464; have _b := hv_2459; have _c := zc_0; exact ⟨by omega, by omega⟩
                  have hv_2470 : zI v_2459 0 9 := by have _a := hq_2465; have _b := hv_2469; have _c := zc_10; exact ⟨by omega, by omega⟩
                  refine W.widen (k := 0) (n := 0) (Nat.le_of_ble_eq_true rfl) (Nat.le_of_ble_eq_true rfl) ?_
                  refine lv_if_eq (tgt := 134) hx hb d_Text_parse_113 (by decide) (fun hc => absurd hc (by decide +kernel)) (fun _ => ?_)
                  refine lv_aload_n hx hb d_Text_parse_116 rfl (lv_at hl 5 rfl) ?_
                  refine lv_iload hx hb d_Text_parse_117 (lv_at hl 2 rfl) ?_
                  refine lv_bipush (v := 97) hx hb d_Text_parse_119 (by decide) ?_
                  refine lv_isub hx hb d_Text_parse_121 ?_
                  refine lv_topi (fun v_2471 ev_2471 => ?_)
                  obtain rfl : v_2459 = v_2471 := ev_2459.trans ev_2471.symm
                  refine z_callV (index := 33) (As := [.int v_2459]) (rest := []) (wr := [(b0, .inr (1, [.int b3, .ref b4])), (b4, .inl (G.2 2, 240, .inl b5))]) Z (s1_Traces_add l G (b1) (v_2459) (y_2249) (b7) (b8) (b9) (b10) (b11) (y_2252) (y_2250) (y_2251) hv_2470 hy_2249 hb7 hb8 hy_2252 hy_2250) hl.1 q520 q521 q522 q3 q523 ⟨by decide, by decide, by show _ = some 1; decide +kernel⟩ ⟨Nat.le_of_ble_eq_true rfl, Nat.le_of_ble_eq_true rfl⟩ ⟨Nat.le_of_ble_eq_true rfl, Nat.le_of_ble_eq_true rfl⟩ rfl (Nat.le_of_ble_eq_true rfl) d_Text_parse_122 hP hD hS hA 2 2 rfl rfl rfl [2, 3, 4, 5] [0, 1] rfl rfl rfl rfl (by decide) (fun v w1 H locs hw_2472 hP hD hS => ?_)
                  obtain ⟨x_2473, f_2474, f_2475, f_2476, rfl, rfl, hx_2473, hf_2474, hf_2475⟩ := hw_2472
                  have hP : va_P G.1 classes [(b0, .inr (1, [.int b3, .ref b4])), (b4, .inl (G.2 2, 240, .inl b5)), (b1, .inr (2, [.int y_2249, .int b7, .int b8, .ref b9, .ref b10, .ref b11])), (b9, .inl (G.2 0, 20, .inl f_2474)), (b10, .inl (G.2 0, 240, .inl f_2475)), (b11, .inl (G.2 0, 240, .inl f_2476))] H := hP
                  have hD := z_tie hP hD rfl
                  refine W.widen (k := 0) (n := 0) (Nat.le_of_ble_eq_true rfl) (Nat.le_of_ble_eq_true rfl) ?_
                  refine lv_if_eq (tgt := 134) hx hb d_Text_parse_125 (by decide) (fun hc_2477 => ?_) (fun hc_2477 => ?_)
                  · have _nhc_2477 := hc_2477
                    have ni_2478 := (fa_eq _ _).mp hc_2477
                    rw [li_0] at ni_2478
                    have hv_2479 : zI x_2473 0 0 := zI.eq_l hx_2473 zc_0 hc_2477
                    refine lv_iload hx hb d_Text_parse_134 (lv_at hl 3 rfl) ?_
                    exact z_iret hx hb hr hlocks hP hD hS (Nat.le_of_ble_eq_true rfl) (Nat.le_of_ble_eq_true rfl) d_Text_parse_136 ⟨y_2246, y_2249, f_2474, f_2475, f_2476, rfl, rfl, (zI.wk (l' := (-1)) (h' := 240) hv_2270 (by decide)), hy_2249, hf_2474, hf_2475⟩
                  · have _nhc_2477 := hc_2477
                    have ni_2480 : ¬ (x_2473 : Int32).toInt = (0 : Int32).toInt := fun z => hc_2477 ((fa_eq _ _).mpr z)
                    simp only [li_0] at ni_2480
                    have hv_2481 : zI x_2473 1 1 := zI.ne_lo hx_2473 zc_0 hc_2477 (by decide)
                    refine lv_iconst (v := 2) hx hb d_Text_parse_128 (by decide) ?_
                    refine lv_istore (lv' := [(4, .int 2), (3, .int 1), (6, .int v_2272), (5, .int y_2246), (0, .ref b0), (1, .ref b1), (2, .int b2)]) hx hb d_Text_parse_129 hl (by decide) rfl (fun ls hl => ?_)
                    refine lv_goto (tgt := 137) hx hb d_Text_parse_131 (by decide) ?_
                    obtain ⟨v_2482, ev_2482⟩ : ∃ z : Int32, z = y_2246 + 1 := ⟨_, rfl⟩
                    obtain ⟨qv_2482, hv_2482⟩ := zI_add (l := 1) (h := 240) hv_2270 zc_1 ev_2482 (by decide)
                    rw [li_1] at qv_2482
                    refine lv_iinc (v := v_2482) (lv' := [(5, .int v_2482), (4, .int 2), (3, .int 1), (6, .int v_2272), (0, .ref b0), (1, .ref b1), (2, .int b2)]) hx hb d_Text_parse_137 hl (k := 3) rfl (by rw [ev_2482]; rfl) (by decide) rfl (fun ls hl => ?_)
                    refine lv_goto (tgt := 8) hx hb d_Text_parse_140 (by decide) ?_
                    exact ihk_2245 (v_2482) (2) (1) (y_2249) (f_2475) (f_2476) (f_2474) _ _ _ (zI.wk (l' := 0) (h' := 240) hv_2482 (by decide)) (zI.wk (l' := 0) (h' := 2) zc_2 (by decide)) (zI.wk (l' := 0) (h' := 1) zc_1 (by decide)) hy_2249 hf_2475 hf_2474 (zm_up qv_2482 hmk_2245 (by decide)) hP hD hS (lv_sub hl [0, 1, 2, 4, 5, 6] rfl)
              · have _nhc_2457 := hc_2457
                have ni_2483 := (fa_eq _ _).mp hc_2457
                rw [li_59] at ni_2483
                have hv_2484 : zI v_2272 59 59 := zI.eq_l hv_2453 zc_59 hc_2457
                refine lv_iload_n hx hb d_Text_parse_96 rfl (lv_at hl 6 rfl) ?_
                refine lv_if_ne (tgt := 105) hx hb d_Text_parse_97 (by decide) (fun hc_2485 => ?_) (fun hc_2485 => ?_)
                · have _nhc_2485 := hc_2485
                  have ni_2486 : ¬ (b2 : Int32).toInt = (0 : Int32).toInt := fun z => hc_2485 ((fa_eq _ _).mpr z)
                  simp only [li_0] at ni_2486
                  have hv_2487 : zI b2 1 1 := zI.ne_lo hb2 zc_0 hc_2485 (by decide)
                  refine lv_iload hx hb d_Text_parse_105 (lv_at hl 2 rfl) ?_
                  refine lv_bipush (v := 97) hx hb d_Text_parse_107 (by decide) ?_
                  refine lv_isub hx hb d_Text_parse_109 ?_
                  refine lv_topi (fun v_2488 ev_2488 => ?_)
                  obtain ⟨qv_2488, hv_2488⟩ := zI_sub (l := -38) (h := -38) hv_2484 zc_97 ev_2488 (by decide)
                  rw [li_97] at qv_2488
                  refine z_callSN (host := "TraceMachines") (index := 29) (As := [.int v_2488]) (rest := []) (wr := [(b0, .inr (1, [.int b3, .ref b4])), (b4, .inl (G.2 2, 240, .inl b5)), (b1, .inr (2, [.int y_2249, .int b7, .int b8, .ref b9, .ref b10, .ref b11])), (b9, .inl (G.2 0, 20, .inl y_2252)), (b10, .inl (G.2 0, 240, .inl y_2250)), (b11, .inl (G.2 0, 240, .inl y_2251))]) Z (s2_X_isLetter l G (v_2488)) hl.1 (by decide +kernel) q518 q1 q519 ⟨by decide, by decide, by show _ = some 1; decide +kernel⟩ ⟨Nat.le_of_ble_eq_true rfl, Nat.le_of_ble_eq_true rfl⟩ ⟨Nat.le_of_ble_eq_true rfl, Nat.le_of_ble_eq_true rfl⟩ rfl (Nat.le_of_ble_eq_true rfl) d_Text_parse_110 hP hD hS hA [] [0, 1, 2, 3, 4, 5] rfl rfl rfl rfl (by decide) (fun v w1 H locs hw_2489 hP hD hS => ?_)
                  rcases hw_2489 with ⟨rfl, rfl, hq_2490⟩ | ⟨rfl, rfl, hq_2491, hq_2492⟩ | ⟨rfl, rfl, hq_2493, hq_2494⟩
                  · have hP : va_P G.1 classes [(b0, .inr (1, [.int b3, .ref b4])), (b4, .inl (G.2 2, 240, .inl b5)), (b1, .inr (2, [.int y_2249, .int b7, .int b8, .ref b9, .ref b10, .ref b11])), (b9, .inl (G.2 0, 20, .inl y_2252)), (b10, .inl (G.2 0, 240, .inl y_2250)), (b11, .inl (G.2 0, 240, .inl y_2251))] H := hP
                    have hD := z_tie hP hD rfl
                    refine W.widen (k := 0) (n := 0) (Nat.le_of_ble_eq_true rfl) (Nat.le_of_ble_eq_true rfl) ?_
                    refine lv_if_eq (tgt := 134) hx hb d_Text_parse_113 (by decide) (fun _ => ?_) (fun hc => absurd hc (by decide +kernel))
                    refine lv_iload hx hb d_Text_parse_134 (lv_at hl 3 rfl) ?_
                    exact z_iret hx hb hr hlocks hP hD hS (Nat.le_of_ble_eq_true rfl) (Nat.le_of_ble_eq_true rfl) d_Text_parse_136 ⟨y_2246, y_2249, y_2252, y_2250, y_2251, rfl, rfl, (zI.wk (l' := (-1)) (h' := 240) hv_2270 (by decide)), hy_2249, hy_2252, hy_2250⟩
                  · exfalso; have _q := hq_2491; have _u0 := hv_2488; omega
                  · exfalso; have _q := hq_2493; have _u0 := hv_2488; omega
                · have _nhc_2485 := hc_2485
                  have ni_2495 := (fa_eq _ _).mp hc_2485
                  rw [li_0] at ni_2495
                  have hv_2496 : zI b2 0 0 := zI.eq_l hb2 zc_0 hc_2485
                  refine lv_iconst (v := 0) hx hb d_Text_parse_100 (by decide) ?_
                  refine lv_istore_n (lv' := [(3, .int 0), (4, .int 0), (6, .int v_2272), (5, .int y_2246), (0, .ref b0), (1, .ref b1), (2, .int b2)]) hx hb d_Text_parse_101 rfl hl (by decide) rfl (fun ls hl => ?_)
                  refine lv_goto (tgt := 137) hx hb d_Text_parse_102 (by decide) ?_
                  obtain ⟨v_2497, ev_2497⟩ : ∃ z : Int32, z = y_2246 + 1 := ⟨_, rfl⟩
                  obtain ⟨qv_2497, hv_2497⟩ := zI_add (l := 1) (h := 240) hv_2270 zc_1 ev_2497 (by decide)
                  rw [li_1] at qv_2497
                  refine lv_iinc (v := v_2497) (lv' := [(5, .int v_2497), (3, .int 0), (4, .int 0), (6, .int v_2272), (0, .ref b0), (1, .ref b1), (2, .int b2)]) hx hb d_Text_parse_137 hl (k := 3) rfl (by rw [ev_2497]; rfl) (by decide) rfl (fun ls hl => ?_)
                  refine lv_goto (tgt := 8) hx hb d_Text_parse_140 (by decide) ?_
                  exact ihk_2245 (v_2497) (0) (0) (y_2249) (y_2250) (y_2251) (y_2252) _ _ _ (zI.wk (l' := 0) (h' := 240) hv_2497 (by decide)) (zI.wk (l' := 0) (h' := 2) zc_0 (by decide)) (zI.wk (l' := 0) (h' := 1) zc_0 (by decide)) hy_2249 hy_2250 hy_2252 (zm_up qv_2497 hmk_2245 (by decide)) hP hD hS (lv_sub hl [0, 2, 1, 4, 5, 6] rfl)
            · have _nhc_2454 := hc_2454
              have ni_2498 := (fa_eq _ _).mp hc_2454
              rw [li_0] at ni_2498
              have hv_2499 : zI y_2248 0 0 := zI.eq_l hy_2248 zc_0 hc_2454
              refine lv_aload_n hx hb d_Text_parse_77 rfl (lv_at hl 5 rfl) ?_
              refine z_callV (index := 25) (As := []) (rest := []) (wr := [(b0, .inr (1, [.int b3, .ref b4])), (b4, .inl (G.2 2, 240, .inl b5)), (b10, .inl (G.2 0, 240, .inl y_2250)), (b11, .inl (G.2 0, 240, .inl y_2251))]) Z (s1_Traces_open l G (b1) (y_2249) (b7) (b8) (b9) (b10) (b11) (y_2252) hy_2249 hb7 hb8 hy_2252) hl.1 q513 q514 q515 q3 q516 ⟨by decide, by decide, by show _ = some 0; decide +kernel⟩ ⟨Nat.le_of_ble_eq_true rfl, Nat.le_of_ble_eq_true rfl⟩ ⟨Nat.le_of_ble_eq_true rfl, Nat.le_of_ble_eq_true rfl⟩ rfl (Nat.le_of_ble_eq_true rfl) d_Text_parse_78 hP hD hS hA 2 2 rfl rfl rfl [2, 3] [0, 1, 4, 5] rfl rfl rfl rfl (by decide) (fun v w1 H locs hw_2500 hP hD hS => ?_)
              obtain ⟨x_2501, x_2502, f_2503, rfl, rfl, hx_2501, hx_2502, hf_2503⟩ := hw_2500
              have hP : va_P G.1 classes [(b0, .inr (1, [.int b3, .ref b4])), (b4, .inl (G.2 2, 240, .inl b5)), (b10, .inl (G.2 0, 240, .inl y_2250)), (b11, .inl (G.2 0, 240, .inl y_2251)), (b1, .inr (2, [.int x_2502, .int b7, .int b8, .ref b9, .ref b10, .ref b11])), (b9, .inl (G.2 0, 20, .inl f_2503))] H := hP
              have hD := z_tie hP hD rfl
              refine W.widen (k := 0) (n := 0) (Nat.le_of_ble_eq_true rfl) (Nat.le_of_ble_eq_true rfl) ?_
              refine lv_if_ne (tgt := 87) hx hb d_Text_parse_81 (by decide) (fun hc_2504 => ?_) (fun hc_2504 => ?_)
              · have _nhc_2504 := hc_2504
                have ni_2505 : ¬ (x_2501 : Int32).toInt = (0 : Int32).toInt := fun z => hc_2504 ((fa_eq _ _).mpr z)
                simp only [li_0] at ni_2505
                have hv_2506 : zI x_2501 1 1 := zI.ne_lo hx_2501 zc_0 hc_2504 (by decide)
                refine lv_iconst (v := 1) hx hb d_Text_parse_87 (by decide) ?_
                refine lv_istore_n (lv' := [(3, .int 1), (4, .int 0), (6, .int v_2272), (5, .int y_2246), (0, .ref b0), (1, .ref b1), (2, .int b2)]) hx hb d_Text_parse_88 rfl hl (by decide) rfl (fun ls hl => ?_)
                refine lv_iload hx hb d_Text_parse_89 (lv_at hl 2 rfl) ?_
                refine lv_bipush (v := 59) hx hb d_Text_parse_91 (by decide) ?_
                refine lv_icmp_ne (tgt := 105) hx hb d_Text_parse_93 (by decide) (fun hc_2507 => ?_) (fun hc_2507 => ?_)
                · have _nhc_2507 := hc_2507
                  have ni_2508 : ¬ (v_2272 : Int32).toInt = (59 : Int32).toInt := fun z => hc_2507 ((fa_eq _ _).mpr z)
                  simp only [li_59] at ni_2508
                  refine lv_iload hx hb d_Text_parse_105 (lv_at hl 2 rfl) ?_
                  refine lv_bipush (v := 97) hx hb d_Text_parse_107 (by decide) ?_
                  refine lv_isub hx hb d_Text_parse_109 ?_
                  refine lv_topi (fun v_2509 ev_2509 => ?_)
                  obtain ⟨qv_2509, hv_2509⟩ := zI_sub (l := -39) (h := 2147483550) hv_2453 zc_97 ev_2509 (by decide)
                  rw [li_97] at qv_2509
                  refine z_callSN (host := "TraceMachines") (index := 29) (As := [.int v_2509]) (rest := []) (wr := [(b0, .inr (1, [.int b3, .ref b4])), (b4, .inl (G.2 2, 240, .inl b5)), (b10, .inl (G.2 0, 240, .inl y_2250)), (b11, .inl (G.2 0, 240, .inl y_2251)), (b1, .inr (2, [.int x_2502, .int b7, .int b8, .ref b9, .ref b10, .ref b11])), (b9, .inl (G.2 0, 20, .inl f_2503))]) Z (s2_X_isLetter l G (v_2509)) hl.1 (by decide +kernel) q518 q1 q519 ⟨by decide, by decide, by show _ = some 1; decide +kernel⟩ ⟨Nat.le_of_ble_eq_true rfl, Nat.le_of_ble_eq_true rfl⟩ ⟨Nat.le_of_ble_eq_true rfl, Nat.le_of_ble_eq_true rfl⟩ rfl (Nat.le_of_ble_eq_true rfl) d_Text_parse_110 hP hD hS hA [] [0, 1, 2, 3, 4, 5] rfl rfl rfl rfl (by decide) (fun v w1 H locs hw_2510 hP hD hS => ?_)
                  rcases hw_2510 with ⟨rfl, rfl, hq_2511⟩ | ⟨rfl, rfl, hq_2512, hq_2513⟩ | ⟨rfl, rfl, hq_2514, hq_2515⟩
                  · have hP : va_P G.1 classes [(b0, .inr (1, [.int b3, .ref b4])), (b4, .inl (G.2 2, 240, .inl b5)), (b10, .inl (G.2 0, 240, .inl y_2250)), (b11, .inl (G.2 0, 240, .inl y_2251)), (b1, .inr (2, [.int x_2502, .int b7, .int b8, .ref b9, .ref b10, .ref b11])), (b9, .inl (G.2 0, 20, .inl f_2503))] H := hP
                    have hD := z_tie hP hD rfl
                    have hv_2516 : zI v_2509 (-39) (-1) := by have _a := hq_2511; have _b := hv_2509; have _c := zc_0; exact ⟨by omega, by omega⟩
                    refine W.widen (k := 0) (n := 0) (Nat.le_of_ble_eq_true rfl) (Nat.le_of_ble_eq_true rfl) ?_
                    refine lv_if_eq (tgt := 134) hx hb d_Text_parse_113 (by decide) (fun _ => ?_) (fun hc => absurd hc (by decide +kernel))
                    refine lv_iload hx hb d_Text_parse_134 (lv_at hl 3 rfl) ?_
                    exact z_iret hx hb hr hlocks (hP.sub [0, 1, 4, 5, 2, 3] rfl) (hD.sub [0, 1, 4, 5, 2, 3] (by decide) rfl) hS (Nat.le_of_ble_eq_true rfl) (Nat.le_of_ble_eq_true rfl) d_Text_parse_136 ⟨y_2246, x_2502, f_2503, y_2250, y_2251, rfl, rfl, (zI.wk (l' := (-1)) (h' := 240) hv_2270 (by decide)), hx_2502, hf_2503, hy_2250⟩
                  · have hP : va_P G.1 classes [(b0, .inr (1, [.int b3, .ref b4])), (b4, .inl (G.2 2, 240, .inl b5)), (b10, .inl (G.2 0, 240, .inl y_2250)), (b11, .inl (G.2 0, 240, .inl y_2251)), (b1, .inr (2, [.int x_2502, .int b7, .int b8, .ref b9, .ref b10, .ref b11])), (b9, .inl (G.2 0, 20, .inl f_2503))] H := hP
                    have hD := z_tie hP hD rfl
                    have hv_2517 : zI v_2509 0 2147483550 := by have _a := hq_2512; have _b := hv_2509; have _c := zc_0; exact ⟨by omega, by omega⟩
                    have hv_2518 : zI v_2509 10 2147483550 := by have _a := hq_2513; have _b := hv_2517; have _c := zc_10; exact ⟨by omega, by omega⟩
                    refine W.widen (k := 0) (n := 0) (Nat.le_of_ble_eq_true rfl) (Nat.le_of_ble_eq_true rfl) ?_
                    refine lv_if_eq (tgt := 134) hx hb d_Text_parse_113 (by decide) (fun _ => ?_) (fun hc => absurd hc (by decide +kernel))
                    refine lv_iload hx hb d_Text_parse_134 (lv_at hl 3 rfl) ?_
                    exact z_iret hx hb hr hlocks (hP.sub [0, 1, 4, 5, 2, 3] rfl) (hD.sub [0, 1, 4, 5, 2, 3] (by decide) rfl) hS (Nat.le_of_ble_eq_true rfl) (Nat.le_of_ble_eq_true rfl) d_Text_parse_136 ⟨y_2246, x_2502, f_2503, y_2250, y_2251, rfl, rfl, (zI.wk (l' := (-1)) (h' := 240) hv_2270 (by decide)), hx_2502, hf_2503, hy_2250⟩
                  · have hP : va_P G.1 classes [(b0, .inr (1, [.int b3, .ref b4])), (b4, .inl (G.2 2, 240, .inl b5)), (b10, .inl (G.2 0, 240, .inl y_2250)), (b11, .inl (G.2 0, 240, .inl y_2251)), (b1, .inr (2, [.int x_2502, .int b7, .int b8, .ref b9, .ref b10, .ref b11])), (b9, .inl (G.2 0, 20, .inl f_2503))] H := hP
                    have hD := z_tie hP hD rfl
                    have hv_2519 : zI v_2509 0 2147483550 := by have _a := hq_2514; have _b := hv_2509; have _c := zc_0; exact ⟨by omega, by omega⟩
                    have hv_2520 : zI v_2509 0 9 := by have _a := hq_2515; have _b := hv_2519; have _c := zc_10; exact ⟨by omega, by omega⟩
                    refine W.widen (k := 0) (n := 0) (Nat.le_of_ble_eq_true rfl) (Nat.le_of_ble_eq_true rfl) ?_
                    refine lv_if_eq (tgt := 134) hx hb d_Text_parse_113 (by decide) (fun hc => absurd hc (by decide +kernel)) (fun _ => ?_)
                    refine lv_aload_n hx hb d_Text_parse_116 rfl (lv_at hl 5 rfl) ?_
                    refine lv_iload hx hb d_Text_parse_117 (lv_at hl 2 rfl) ?_
                    refine lv_bipush (v := 97) hx hb d_Text_parse_119 (by decide) ?_
                    refine lv_isub hx hb d_Text_parse_121 ?_
                    refine lv_topi (fun v_2521 ev_2521 => ?_)
                    obtain rfl : v_2509 = v_2521 := ev_2509.trans ev_2521.symm
                    refine z_callV (index := 33) (As := [.int v_2509]) (rest := []) (wr := [(b0, .inr (1, [.int b3, .ref b4])), (b4, .inl (G.2 2, 240, .inl b5))]) Z (s1_Traces_add l G (b1) (v_2509) (x_2502) (b7) (b8) (b9) (b10) (b11) (f_2503) (y_2250) (y_2251) hv_2520 hx_2502 hb7 hb8 hf_2503 hy_2250) hl.1 q520 q521 q522 q3 q523 ⟨by decide, by decide, by show _ = some 1; decide +kernel⟩ ⟨Nat.le_of_ble_eq_true rfl, Nat.le_of_ble_eq_true rfl⟩ ⟨Nat.le_of_ble_eq_true rfl, Nat.le_of_ble_eq_true rfl⟩ rfl (Nat.le_of_ble_eq_true rfl) d_Text_parse_122 hP hD hS hA 4 2 rfl rfl rfl [4, 5, 2, 3] [0, 1] rfl rfl rfl rfl (by decide) (fun v w1 H locs hw_2522 hP hD hS => ?_)
                    obtain ⟨x_2523, f_2524, f_2525, f_2526, rfl, rfl, hx_2523, hf_2524, hf_2525⟩ := hw_2522
                    have hP : va_P G.1 classes [(b0, .inr (1, [.int b3, .ref b4])), (b4, .inl (G.2 2, 240, .inl b5)), (b1, .inr (2, [.int x_2502, .int b7, .int b8, .ref b9, .ref b10, .ref b11])), (b9, .inl (G.2 0, 20, .inl f_2524)), (b10, .inl (G.2 0, 240, .inl f_2525)), (b11, .inl (G.2 0, 240, .inl f_2526))] H := hP
                    have hD := z_tie hP hD rfl
                    refine W.widen (k := 0) (n := 0) (Nat.le_of_ble_eq_true rfl) (Nat.le_of_ble_eq_true rfl) ?_
                    refine lv_if_eq (tgt := 134) hx hb d_Text_parse_125 (by decide) (fun hc_2527 => ?_) (fun hc_2527 => ?_)
                    · have _nhc_2527 := hc_2527
                      have ni_2528 := (fa_eq _ _).mp hc_2527
                      rw [li_0] at ni_2528
                      have hv_2529 : zI x_2523 0 0 := zI.eq_l hx_2523 zc_0 hc_2527
                      refine lv_iload hx hb d_Text_parse_134 (lv_at hl 3 rfl) ?_
                      exact z_iret hx hb hr hlocks hP hD hS (Nat.le_of_ble_eq_true rfl) (Nat.le_of_ble_eq_true rfl) d_Text_parse_136 ⟨y_2246, x_2502, f_2524, f_2525, f_2526, rfl, rfl, (zI.wk (l' := (-1)) (h' := 240) hv_2270 (by decide)), hx_2502, hf_2524, hf_2525⟩
                    · have _nhc_2527 := hc_2527
                      have ni_2530 : ¬ (x_2523 : Int32).toInt = (0 : Int32).toInt := fun z => hc_2527 ((fa_eq _ _).mpr z)
                      simp only [li_0] at ni_2530
                      have hv_2531 : zI x_2523 1 1 := zI.ne_lo hx_2523 zc_0 hc_2527 (by decide)
                      refine lv_iconst (v := 2) hx hb d_Text_parse_128 (by decide) ?_
                      refine lv_istore (lv' := [(4, .int 2), (3, .int 1), (6, .int v_2272), (5, .int y_2246), (0, .ref b0), (1, .ref b1), (2, .int b2)]) hx hb d_Text_parse_129 hl (by decide) rfl (fun ls hl => ?_)
                      refine lv_goto (tgt := 137) hx hb d_Text_parse_131 (by decide) ?_
                      obtain ⟨v_2532, ev_2532⟩ : ∃ z : Int32, z = y_2246 + 1 := ⟨_, rfl⟩
                      obtain ⟨qv_2532, hv_2532⟩ := zI_add (l := 1) (h := 240) hv_2270 zc_1 ev_2532 (by decide)
                      rw [li_1] at qv_2532
                      refine lv_iinc (v := v_2532) (lv' := [(5, .int v_2532), (4, .int 2), (3, .int 1), (6, .int v_2272), (0, .ref b0), (1, .ref b1), (2, .int b2)]) hx hb d_Text_parse_137 hl (k := 3) rfl (by rw [ev_2532]; rfl) (by decide) rfl (fun ls hl => ?_)
                      refine lv_goto (tgt := 8) hx hb d_Text_parse_140 (by decide) ?_
                      exact ihk_2245 (v_2532) (2) (1) (x_2502) (f_2525) (f_2526) (f_2524) _ _ _ (zI.wk (l' := 0) (h' := 240) hv_2532 (by decide)) (zI.wk (l' := 0) (h' := 2) zc_2 (by decide)) (zI.wk (l' := 0) (h' := 1) zc_1 (by decide)) hx_2502 hf_2525 hf_2524 (zm_up qv_2532 hmk_2245 (by decide)) hP hD hS (lv_sub hl [0, 1, 2, 4, 5, 6] rfl)
                · have _nhc_2507 := hc_2507
                  have ni_2533 := (fa_eq _ _).mp hc_2507
                  rw [li_59] at ni_2533
                  have hv_2534 : zI v_2272 59 59 := zI.eq_l hv_2453 zc_59 hc_2507
                  refine lv_iload_n hx hb d_Text_parse_96 rfl (lv_at hl 6 rfl) ?_
                  refine lv_if_ne (tgt := 105) hx hb d_Text_parse_97 (by decide) (fun hc_2535 => ?_) (fun hc_2535 => ?_)
                  · have _nhc_2535 := hc_2535
                    have ni_2536 : ¬ (b2 : Int32).toInt = (0 : Int32).toInt := fun z => hc_2535 ((fa_eq _ _).mpr z)
                    simp only [li_0] at ni_2536
                    have hv_2537 : zI b2 1 1 := zI.ne_lo hb2 zc_0 hc_2535 (by decide)
                    refine lv_iload hx hb d_Text_parse_105 (lv_at hl 2 rfl) ?_
                    refine lv_bipush (v := 97) hx hb d_Text_parse_107 (by decide) ?_
                    refine lv_isub hx hb d_Text_parse_109 ?_
                    refine lv_topi (fun v_2538 ev_2538 => ?_)
                    obtain ⟨qv_2538, hv_2538⟩ := zI_sub (l := -38) (h := -38) hv_2534 zc_97 ev_2538 (by decide)
                    rw [li_97] at qv_2538
                    refine z_callSN (host := "TraceMachines") (index := 29) (As := [.int v_2538]) (rest := []) (wr := [(b0, .inr (1, [.int b3, .ref b4])), (b4, .inl (G.2 2, 240, .inl b5)), (b10, .inl (G.2 0, 240, .inl y_2250)), (b11, .inl (G.2 0, 240, .inl y_2251)), (b1, .inr (2, [.int x_2502, .int b7, .int b8, .ref b9, .ref b10, .ref b11])), (b9, .inl (G.2 0, 20, .inl f_2503))]) Z (s2_X_isLetter l G (v_2538)) hl.1 (by decide +kernel) q518 q1 q519 ⟨by decide, by decide, by show _ = some 1; decide +kernel⟩ ⟨Nat.le_of_ble_eq_true rfl, Nat.le_of_ble_eq_true rfl⟩ ⟨Nat.le_of_ble_eq_true rfl, Nat.le_of_ble_eq_true rfl⟩ rfl (Nat.le_of_ble_eq_true rfl) d_Text_parse_110 hP hD hS hA [] [0, 1, 2, 3, 4, 5] rfl rfl rfl rfl (by decide) (fun v w1 H locs hw_2539 hP hD hS => ?_)
                    rcases hw_2539 with ⟨rfl, rfl, hq_2540⟩ | ⟨rfl, rfl, hq_2541, hq_2542⟩ | ⟨rfl, rfl, hq_2543, hq_2544⟩
                    · have hP : va_P G.1 classes [(b0, .inr (1, [.int b3, .ref b4])), (b4, .inl (G.2 2, 240, .inl b5)), (b10, .inl (G.2 0, 240, .inl y_2250)), (b11, .inl (G.2 0, 240, .inl y_2251)), (b1, .inr (2, [.int x_2502, .int b7, .int b8, .ref b9, .ref b10, .ref b11])), (b9, .inl (G.2 0, 20, .inl f_2503))] H := hP
                      have hD := z_tie hP hD rfl
                      refine W.widen (k := 0) (n := 0) (Nat.le_of_ble_eq_true rfl) (Nat.le_of_ble_eq_true rfl) ?_
                      refine lv_if_eq (tgt := 134) hx hb d_Text_parse_113 (by decide) (fun _ => ?_) (fun hc => absurd hc (by decide +kernel))
                      refine lv_iload hx hb d_Text_parse_134 (lv_at hl 3 rfl) ?_
                      exact z_iret hx hb hr hlocks (hP.sub [0, 1, 4, 5, 2, 3] rfl) (hD.sub [0, 1, 4, 5, 2, 3] (by decide) rfl) hS (Nat.le_of_ble_eq_true rfl) (Nat.le_of_ble_eq_true rfl) d_Text_parse_136 ⟨y_2246, x_2502, f_2503, y_2250, y_2251, rfl, rfl, (zI.wk (l' := (-1)) (h' := 240) hv_2270 (by decide)), hx_2502, hf_2503, hy_2250⟩
                    · exfalso; have _q := hq_2541; have _u0 := hv_2538; omega
                    · exfalso; have _q := hq_2543; have _u0 := hv_2538; omega
                  · have _nhc_2535 := hc_2535
                    have ni_2545 := (fa_eq _ _).mp hc_2535
                    rw [li_0] at ni_2545
                    have hv_2546 : zI b2 0 0 := zI.eq_l hb2 zc_0 hc_2535
                    refine lv_iconst (v := 0) hx hb d_Text_parse_100 (by decide) ?_
                    refine lv_istore_n (lv' := [(3, .int 0), (4, .int 0), (6, .int v_2272), (5, .int y_2246), (0, .ref b0), (1, .ref b1), (2, .int b2)]) hx hb d_Text_parse_101 rfl hl (by decide) rfl (fun ls hl => ?_)
                    refine lv_goto (tgt := 137) hx hb d_Text_parse_102 (by decide) ?_
                    obtain ⟨v_2547, ev_2547⟩ : ∃ z : Int32, z = y_2246 + 1 := ⟨_, rfl⟩
                    obtain ⟨qv_2547, hv_2547⟩ := zI_add (l := 1) (h := 240) hv_2270 zc_1 ev_2547 (by decide)
                    rw [li_1] at qv_2547
                    refine lv_iinc (v := v_2547) (lv' := [(5, .int v_2547), (3, .int 0), (4, .int 0), (6, .int v_2272), (0, .ref b0), (1, .ref b1), (2, .int b2)]) hx hb d_Text_parse_137 hl (k := 3) rfl (by rw [ev_2547]; rfl) (by decide) rfl (fun ls hl => ?_)
                    refine lv_goto (tgt := 8) hx hb d_Text_parse_140 (by decide) ?_
                    exact ihk_2245 (v_2547) (0) (0) (x_2502) (y_2250) (y_2251) (f_2503) _ _ _ (zI.wk (l' := 0) (h' := 240) hv_2547 (by decide)) (zI.wk (l' := 0) (h' := 2) zc_0 (by decide)) (zI.wk (l' := 0) (h' := 1) zc_0 (by decide)) hx_2502 hy_2250 hf_2503 (zm_up qv_2547 hmk_2245 (by decide)) (hP.sub [0, 1, 4, 5, 2, 3] rfl) (hD.sub [0, 1, 4, 5, 2, 3] (by decide) rfl) hS (lv_sub hl [0, 2, 1, 4, 5, 6] rfl)
              · have _nhc_2504 := hc_2504
                have ni_2548 := (fa_eq _ _).mp hc_2504
                rw [li_0] at ni_2548
                have hv_2549 : zI x_2501 0 0 := zI.eq_l hx_2501 zc_0 hc_2504
                refine lv_iload hx hb d_Text_parse_84 (lv_at hl 2 rfl) ?_
                exact z_iret hx hb hr hlocks (hP.sub [0, 1, 4, 5, 2, 3] rfl) (hD.sub [0, 1, 4, 5, 2, 3] (by decide) rfl) hS (Nat.le_of_ble_eq_true rfl) (Nat.le_of_ble_eq_true rfl) d_Text_parse_86 ⟨y_2246, x_2502, f_2503, y_2250, y_2251, rfl, rfl, (zI.wk (l' := (-1)) (h' := 240) hv_2270 (by decide)), hx_2502, hf_2503, hy_2250⟩
          · have _nhc_2451 := hc_2451
            have ni_2550 := (fa_le _ _).mp (zi_nlt hc_2451)
            rw [li_57] at ni_2550
            have hv_2551 : zI v_2272 48 57 := zI.le_l hv_2450 zc_57 (zi_nlt hc_2451) (by decide)
            refine lv_aload_n hx hb d_Text_parse_45 rfl (lv_at hl 5 rfl) ?_
            refine lv_iload hx hb d_Text_parse_46 (lv_at hl 0 rfl) ?_
            refine lv_bipush (v := 48) hx hb d_Text_parse_48 (by decide) ?_
            refine lv_isub hx hb d_Text_parse_50 ?_
            refine lv_topi (fun v_2552 ev_2552 => ?_)
            obtain ⟨qv_2552, hv_2552⟩ := zI_sub (l := 0) (h := 9) hv_2551 zc_48 ev_2552 (by decide)
            rw [li_48] at qv_2552
            refine z_callV (index := 19) (As := [.int v_2552]) (rest := []) (wr := [(b0, .inr (1, [.int b3, .ref b4])), (b4, .inl (G.2 2, 240, .inl b5)), (b10, .inl (G.2 0, 240, .inl y_2250))]) Z (s1_Traces_addDigit l G (b1) (v_2552) (y_2249) (b7) (b8) (b9) (b10) (b11) (y_2252) (y_2251) hv_2552 hy_2249 hb7 hb8 hy_2252) hl.1 q509 q510 q511 q3 q512 ⟨by decide, by decide, by show _ = some 1; decide +kernel⟩ ⟨Nat.le_of_ble_eq_true rfl, Nat.le_of_ble_eq_true rfl⟩ ⟨Nat.le_of_ble_eq_true rfl, Nat.le_of_ble_eq_true rfl⟩ rfl (Nat.le_of_ble_eq_true rfl) d_Text_parse_51 hP hD hS hA 2 2 rfl rfl rfl [2, 3, 5] [0, 1, 4] rfl rfl rfl rfl (by decide) (fun v w1 H locs hw_2553 hP hD hS => ?_)
            obtain ⟨f_2554, rfl, rfl⟩ := hw_2553
            have hP : va_P G.1 classes [(b0, .inr (1, [.int b3, .ref b4])), (b4, .inl (G.2 2, 240, .inl b5)), (b10, .inl (G.2 0, 240, .inl y_2250)), (b1, .inr (2, [.int y_2249, .int b7, .int b8, .ref b9, .ref b10, .ref b11])), (b9, .inl (G.2 0, 20, .inl y_2252)), (b11, .inl (G.2 0, 240, .inl f_2554))] H := hP
            have hD := z_tie hP hD rfl
            refine W.widen (k := 0) (n := 0) (Nat.le_of_ble_eq_true rfl) (Nat.le_of_ble_eq_true rfl) ?_
            obtain ⟨v_2555, ev_2555⟩ : ∃ z : Int32, z = y_2247 + (-1) := ⟨_, rfl⟩
            obtain ⟨qv_2555, hv_2555⟩ := zI_add (l := 0) (h := 1) hv_2378 zc_m1 ev_2555 (by decide)
            rw [li_m1] at qv_2555
            refine lv_iinc (v := v_2555) (lv' := [(4, .int v_2555), (6, .int v_2272), (5, .int y_2246), (3, .int y_2248), (0, .ref b0), (1, .ref b1), (2, .int b2)]) hx hb d_Text_parse_54 hl (k := 2) rfl (by rw [ev_2555]; rfl) (by decide) rfl (fun ls hl => ?_)
            refine lv_goto (tgt := 137) hx hb d_Text_parse_57 (by decide) ?_
            obtain ⟨v_2556, ev_2556⟩ : ∃ z : Int32, z = y_2246 + 1 := ⟨_, rfl⟩
            obtain ⟨qv_2556, hv_2556⟩ := zI_add (l := 1) (h := 240) hv_2270 zc_1 ev_2556 (by decide)
            rw [li_1] at qv_2556
            refine lv_iinc (v := v_2556) (lv' := [(5, .int v_2556), (4, .int v_2555), (6, .int v_2272), (3, .int y_2248), (0, .ref b0), (1, .ref b1), (2, .int b2)]) hx hb d_Text_parse_137 hl (k := 2) rfl (by rw [ev_2556]; rfl) (by decide) rfl (fun ls hl => ?_)
            refine lv_goto (tgt := 8) hx hb d_Text_parse_140 (by decide) ?_
            exact ihk_2245 (v_2556) (v_2555) (y_2248) (y_2249) (y_2250) (f_2554) (y_2252) _ _ _ (zI.wk (l' := 0) (h' := 240) hv_2556 (by decide)) (zI.wk (l' := 0) (h' := 2) hv_2555 (by decide)) hy_2248 hy_2249 hy_2250 hy_2252 (zm_up qv_2556 hmk_2245 (by decide)) (hP.sub [0, 1, 3, 4, 2, 5] rfl) (hD.sub [0, 1, 3, 4, 2, 5] (by decide) rfl) hS (lv_sub hl [0, 1, 3, 4, 5, 6] rfl)
theorem d_Traces_copyFrom_0 : decode prog_10_method_2_code 0 = .ok (.aload_n 0, 1) := by decide +kernel
theorem d_Traces_copyFrom_1 : decode prog_10_method_2_code 1 = .ok (.aload_n 1, 1) := by decide +kernel
theorem d_Traces_copyFrom_2 : decode prog_10_method_2_code 2 = .ok (.getfield 25, 3) := by decide +kernel
theorem d_Traces_copyFrom_5 : decode prog_10_method_2_code 5 = .ok (.putfield 25, 3) := by decide +kernel
theorem d_Traces_copyFrom_8 : decode prog_10_method_2_code 8 = .ok (.aload_n 0, 1) := by decide +kernel
theorem d_Traces_copyFrom_9 : decode prog_10_method_2_code 9 = .ok (.aload_n 1, 1) := by decide +kernel
theorem d_Traces_copyFrom_10 : decode prog_10_method_2_code 10 = .ok (.getfield 9, 3) := by decide +kernel
theorem d_Traces_copyFrom_13 : decode prog_10_method_2_code 13 = .ok (.putfield 9, 3) := by decide +kernel
theorem d_Traces_copyFrom_16 : decode prog_10_method_2_code 16 = .ok (.aload_n 0, 1) := by decide +kernel
theorem d_Traces_copyFrom_17 : decode prog_10_method_2_code 17 = .ok (.aload_n 1, 1) := by decide +kernel
theorem d_Traces_copyFrom_18 : decode prog_10_method_2_code 18 = .ok (.getfield 28, 3) := by decide +kernel
theorem d_Traces_copyFrom_21 : decode prog_10_method_2_code 21 = .ok (.putfield 28, 3) := by decide +kernel
theorem d_Traces_copyFrom_24 : decode prog_10_method_2_code 24 = .ok (.aload_n 1, 1) := by decide +kernel
theorem d_Traces_copyFrom_25 : decode prog_10_method_2_code 25 = .ok (.getfield 15, 3) := by decide +kernel
theorem d_Traces_copyFrom_28 : decode prog_10_method_2_code 28 = .ok (.iconst 0, 1) := by decide +kernel
theorem d_Traces_copyFrom_29 : decode prog_10_method_2_code 29 = .ok (.aload_n 0, 1) := by decide +kernel
theorem d_Traces_copyFrom_30 : decode prog_10_method_2_code 30 = .ok (.getfield 15, 3) := by decide +kernel
theorem d_Traces_copyFrom_33 : decode prog_10_method_2_code 33 = .ok (.iconst 0, 1) := by decide +kernel
theorem d_Traces_copyFrom_34 : decode prog_10_method_2_code 34 = .ok (.aload_n 0, 1) := by decide +kernel
theorem d_Traces_copyFrom_35 : decode prog_10_method_2_code 35 = .ok (.getfield 25, 3) := by decide +kernel
theorem d_Traces_copyFrom_38 : decode prog_10_method_2_code 38 = .ok (.invokestatic 31, 3) := by decide +kernel
theorem d_Traces_copyFrom_41 : decode prog_10_method_2_code 41 = .ok (.aload_n 1, 1) := by decide +kernel
theorem d_Traces_copyFrom_42 : decode prog_10_method_2_code 42 = .ok (.getfield 19, 3) := by decide +kernel
theorem d_Traces_copyFrom_45 : decode prog_10_method_2_code 45 = .ok (.iconst 0, 1) := by decide +kernel
theorem d_Traces_copyFrom_46 : decode prog_10_method_2_code 46 = .ok (.aload_n 0, 1) := by decide +kernel
theorem d_Traces_copyFrom_47 : decode prog_10_method_2_code 47 = .ok (.getfield 19, 3) := by decide +kernel
theorem d_Traces_copyFrom_50 : decode prog_10_method_2_code 50 = .ok (.iconst 0, 1) := by decide +kernel
theorem d_Traces_copyFrom_51 : decode prog_10_method_2_code 51 = .ok (.aload_n 0, 1) := by decide +kernel
theorem d_Traces_copyFrom_52 : decode prog_10_method_2_code 52 = .ok (.getfield 25, 3) := by decide +kernel
theorem d_Traces_copyFrom_55 : decode prog_10_method_2_code 55 = .ok (.bipush 12, 2) := by decide +kernel
theorem d_Traces_copyFrom_57 : decode prog_10_method_2_code 57 = .ok (.imul, 1) := by decide +kernel
theorem d_Traces_copyFrom_58 : decode prog_10_method_2_code 58 = .ok (.invokestatic 31, 3) := by decide +kernel
theorem d_Traces_copyFrom_61 : decode prog_10_method_2_code 61 = .ok (.aload_n 1, 1) := by decide +kernel
theorem d_Traces_copyFrom_62 : decode prog_10_method_2_code 62 = .ok (.getfield 22, 3) := by decide +kernel
theorem d_Traces_copyFrom_65 : decode prog_10_method_2_code 65 = .ok (.iconst 0, 1) := by decide +kernel
theorem d_Traces_copyFrom_66 : decode prog_10_method_2_code 66 = .ok (.aload_n 0, 1) := by decide +kernel
theorem d_Traces_copyFrom_67 : decode prog_10_method_2_code 67 = .ok (.getfield 22, 3) := by decide +kernel
theorem d_Traces_copyFrom_70 : decode prog_10_method_2_code 70 = .ok (.iconst 0, 1) := by decide +kernel
theorem d_Traces_copyFrom_71 : decode prog_10_method_2_code 71 = .ok (.aload_n 0, 1) := by decide +kernel
theorem d_Traces_copyFrom_72 : decode prog_10_method_2_code 72 = .ok (.getfield 25, 3) := by decide +kernel
theorem d_Traces_copyFrom_75 : decode prog_10_method_2_code 75 = .ok (.bipush 12, 2) := by decide +kernel
theorem d_Traces_copyFrom_77 : decode prog_10_method_2_code 77 = .ok (.imul, 1) := by decide +kernel
theorem d_Traces_copyFrom_78 : decode prog_10_method_2_code 78 = .ok (.invokestatic 31, 3) := by decide +kernel
theorem d_Traces_copyFrom_81 : decode prog_10_method_2_code 81 = .ok (.return_, 1) := by decide +kernel
abbrev m_s1_Traces_copyFrom : Room := { frames := 1, cells := 0, slots := 0, locals := 18 }
set_option maxHeartbeats 4000000 in
set_option maxRecDepth 100000 in
theorem s1_Traces_copyFrom (l : Launch) (G : zG) (b0 : Nat) (b1 : Int32) (b2 : Int32) (b3 : Int32) (b4 : Nat) (b5 : Nat) (b6 : Nat) (b7 : Nat → Int32) (b8 : Nat → Int32) (b9 : Nat → Int32) (hb1 : zI b1 0 20) (hb2 : zI b2 0 3) (hb3 : zI b3 0 20) (hb7 : zR b7 0 12) (hb8 : zR b8 0 9) : zM l G y_Traces_copyFrom prog_10_method_2_code 2 (Option.none : Option Jvm.ClassFile.FieldType) m_s1_Traces_copyFrom [.ref b0, .ref b0] [(b0, .inr (2, [.int b1, .int b2, .int b3, .ref b4, .ref b5, .ref b6])), (b4, .inl (G.2 0, 20, .inl b7)), (b5, .inl (G.2 0, 240, .inl b8)), (b6, .inl (G.2 0, 240, .inl b9))] (fun v w => ∃ (e0 : Nat → Int32), ∃ (e1 : Nat → Int32), ∃ (e2 : Nat → Int32), v = none ∧ w = [(b0, .inr (2, [.int b1, .int b2, .int b3, .ref b4, .ref b5, .ref b6])), (b4, .inl (G.2 0, 20, .inl e0)), (b5, .inl (G.2 0, 240, .inl e1)), (b6, .inl (G.2 0, 240, .inl e2))] ∧ (zR e0 0 12) ∧ (zR e1 0 9)) := by
  refine z_start (by decide +kernel) (Nat.le_of_ble_eq_true rfl) ?_
  intro p e s m below meth c A Z hr hnm hA hP hD hS ls hl
  have Z : zC p s m _ meth c prog_10_method_2_code 2 "TraceMachines$Traces" G := Z
  obtain ⟨hx, hb, hml, hown, hts, hK, hN, hlocks⟩ := id Z
  have hl : lv_has ls 2 [(0, .ref b0), (1, .ref b0)] := hl
  refine lv_aload_n hx hb d_Traces_copyFrom_0 rfl (lv_at hl 0 rfl) ?_
  refine lv_aload_n hx hb d_Traces_copyFrom_1 rfl (lv_at hl 1 rfl) ?_
  refine va_get (D := G.1) (ci := 2) (v := .int b1) (C := R_Traces) (T := F_Traces) (N := 6) hx hb hts i_Traces hown hK hP 0 rfl rfl 0 (by decide) (hts _ q52) (fun _ h9 => h9) rfl d_Traces_copyFrom_2 ?_
  refine va_put (D := G.1) (ci := 2) (v := .int b1) (ty := .int) (C := R_Traces) (T := F_Traces) (N := 6) hx hb hts i_Traces t_Traces t_Traces_ok n_Traces hown hK hP hD hS 0 rfl rfl 0 (by decide) (hts _ q52) (fun _ h9 => h9) rfl (by decide +kernel) rfl rfl (Nat.le_of_ble_eq_true rfl) d_Traces_copyFrom_5 (fun H locs hP hD hS => ?_)
  have hP : va_P G.1 classes [(b0, .inr (2, [.int b1, .int b2, .int b3, .ref b4, .ref b5, .ref b6])), (b4, .inl (G.2 0, 20, .inl b7)), (b5, .inl (G.2 0, 240, .inl b8)), (b6, .inl (G.2 0, 240, .inl b9))] H := hP
  have hD := z_tie hP hD rfl
  refine lv_aload_n hx hb d_Traces_copyFrom_8 rfl (lv_at hl 0 rfl) ?_
  refine lv_aload_n hx hb d_Traces_copyFrom_9 rfl (lv_at hl 1 rfl) ?_
  refine va_get (D := G.1) (ci := 2) (v := .int b2) (C := R_Traces) (T := F_Traces) (N := 6) hx hb hts i_Traces hown hK hP 0 rfl rfl 1 (by decide) (hts _ q59) (fun _ h9 => h9) rfl d_Traces_copyFrom_10 ?_
  refine va_put (D := G.1) (ci := 2) (v := .int b2) (ty := .int) (C := R_Traces) (T := F_Traces) (N := 6) hx hb hts i_Traces t_Traces t_Traces_ok n_Traces hown hK hP hD hS 0 rfl rfl 1 (by decide) (hts _ q59) (fun _ h9 => h9) rfl (by decide +kernel) rfl rfl (Nat.le_of_ble_eq_true rfl) d_Traces_copyFrom_13 (fun H locs hP hD hS => ?_)
  have hP : va_P G.1 classes [(b0, .inr (2, [.int b1, .int b2, .int b3, .ref b4, .ref b5, .ref b6])), (b4, .inl (G.2 0, 20, .inl b7)), (b5, .inl (G.2 0, 240, .inl b8)), (b6, .inl (G.2 0, 240, .inl b9))] H := hP
  have hD := z_tie hP hD rfl
  refine lv_aload_n hx hb d_Traces_copyFrom_16 rfl (lv_at hl 0 rfl) ?_
  refine lv_aload_n hx hb d_Traces_copyFrom_17 rfl (lv_at hl 1 rfl) ?_
  refine va_get (D := G.1) (ci := 2) (v := .int b3) (C := R_Traces) (T := F_Traces) (N := 6) hx hb hts i_Traces hown hK hP 0 rfl rfl 2 (by decide) (hts _ q61) (fun _ h9 => h9) rfl d_Traces_copyFrom_18 ?_
  refine va_put (D := G.1) (ci := 2) (v := .int b3) (ty := .int) (C := R_Traces) (T := F_Traces) (N := 6) hx hb hts i_Traces t_Traces t_Traces_ok n_Traces hown hK hP hD hS 0 rfl rfl 2 (by decide) (hts _ q61) (fun _ h9 => h9) rfl (by decide +kernel) rfl rfl (Nat.le_of_ble_eq_true rfl) d_Traces_copyFrom_21 (fun H locs hP hD hS => ?_)
  have hP : va_P G.1 classes [(b0, .inr (2, [.int b1, .int b2, .int b3, .ref b4, .ref b5, .ref b6])), (b4, .inl (G.2 0, 20, .inl b7)), (b5, .inl (G.2 0, 240, .inl b8)), (b6, .inl (G.2 0, 240, .inl b9))] H := hP
  have hD := z_tie hP hD rfl
  refine lv_aload_n hx hb d_Traces_copyFrom_24 rfl (lv_at hl 1 rfl) ?_
  refine va_get (D := G.1) (ci := 2) (v := .ref b4) (C := R_Traces) (T := F_Traces) (N := 6) hx hb hts i_Traces hown hK hP 0 rfl rfl 3 (by decide) (hts _ q63) (fun _ h9 => h9) rfl d_Traces_copyFrom_25 ?_
  refine lv_iconst (v := 0) hx hb d_Traces_copyFrom_28 (by decide) ?_
  refine lv_aload_n hx hb d_Traces_copyFrom_29 rfl (lv_at hl 0 rfl) ?_
  refine va_get (D := G.1) (ci := 2) (v := .ref b4) (C := R_Traces) (T := F_Traces) (N := 6) hx hb hts i_Traces hown hK hP 0 rfl rfl 3 (by decide) (hts _ q63) (fun _ h9 => h9) rfl d_Traces_copyFrom_30 ?_
  refine lv_iconst (v := 0) hx hb d_Traces_copyFrom_33 (by decide) ?_
  refine lv_aload_n hx hb d_Traces_copyFrom_34 rfl (lv_at hl 0 rfl) ?_
  refine va_get (D := G.1) (ci := 2) (v := .int b1) (C := R_Traces) (T := F_Traces) (N := 6) hx hb hts i_Traces hown hK hP 0 rfl rfl 0 (by decide) (hts _ q52) (fun _ h9 => h9) rfl d_Traces_copyFrom_35 ?_
  refine va_copyi hx hb (hml.trans hl.1.symm) hown (hts _ q502) (hts _ q504) (hts _ q503) (hts _ q15) hK hP hD hS 1 1 0 0 rfl rfl rfl rfl rfl (zi_nn zc_0 (by decide)) (zi_nn zc_0 (by decide)) (zi_nn hb1 (by decide)) (zi_cp zc_0 hb1 (by decide) (by decide) (by decide)) (zi_cp zc_0 hb1 (by decide) (by decide) (by decide)) (fun _ _ => rfl) (Nat.le_of_ble_eq_true rfl) (Nat.le_of_ble_eq_true rfl) d_Traces_copyFrom_38 (fun H locs hP hD hS => ?_)
  obtain ⟨f_1, hf_1, hP, hD⟩ := z_newf 1 hP hD rfl (zR.cpy hb7 hb7)
  have hP : va_P G.1 classes [(b0, .inr (2, [.int b1, .int b2, .int b3, .ref b4, .ref b5, .ref b6])), (b4, .inl (G.2 0, 20, .inl f_1)), (b5, .inl (G.2 0, 240, .inl b8)), (b6, .inl (G.2 0, 240, .inl b9))] H := hP
  have hD := z_tie hP hD rfl
  refine lv_aload_n hx hb d_Traces_copyFrom_41 rfl (lv_at hl 1 rfl) ?_
  refine va_get (D := G.1) (ci := 2) (v := .ref b5) (C := R_Traces) (T := F_Traces) (N := 6) hx hb hts i_Traces hown hK hP 0 rfl rfl 4 (by decide) (hts _ q72) (fun _ h9 => h9) rfl d_Traces_copyFrom_42 ?_
  refine lv_iconst (v := 0) hx hb d_Traces_copyFrom_45 (by decide) ?_
  refine lv_aload_n hx hb d_Traces_copyFrom_46 rfl (lv_at hl 0 rfl) ?_
  refine va_get (D := G.1) (ci := 2) (v := .ref b5) (C := R_Traces) (T := F_Traces) (N := 6) hx hb hts i_Traces hown hK hP 0 rfl rfl 4 (by decide) (hts _ q72) (fun _ h9 => h9) rfl d_Traces_copyFrom_47 ?_
  refine lv_iconst (v := 0) hx hb d_Traces_copyFrom_50 (by decide) ?_
  refine lv_aload_n hx hb d_Traces_copyFrom_51 rfl (lv_at hl 0 rfl) ?_
  refine va_get (D := G.1) (ci := 2) (v := .int b1) (C := R_Traces) (T := F_Traces) (N := 6) hx hb hts i_Traces hown hK hP 0 rfl rfl 0 (by decide) (hts _ q52) (fun _ h9 => h9) rfl d_Traces_copyFrom_52 ?_
  refine lv_bipush (v := 12) hx hb d_Traces_copyFrom_55 (by decide) ?_
  refine lv_imul hx hb d_Traces_copyFrom_57 ?_
  refine lv_topi (fun v_2 ev_2 => ?_)
  obtain ⟨qv_2, hv_2⟩ := zI_mul (l := 0) (h := 240) hb1 zc_12 ev_2 (by decide)
  rw [li_12] at qv_2
  refine va_copyi hx hb (hml.trans hl.1.symm) hown (hts _ q502) (hts _ q504) (hts _ q503) (hts _ q15) hK hP hD hS 2 2 0 0 rfl rfl rfl rfl rfl (zi_nn zc_0 (by decide)) (zi_nn zc_0 (by decide)) (zi_nn hv_2 (by decide)) (zi_cp zc_0 hv_2 (by decide) (by decide) (by decide)) (zi_cp zc_0 hv_2 (by decide) (by decide) (by decide)) (fun _ _ => rfl) (Nat.le_of_ble_eq_true rfl) (Nat.le_of_ble_eq_true rfl) d_Traces_copyFrom_58 (fun H locs hP hD hS => ?_)
  obtain ⟨f_3, hf_3, hP, hD⟩ := z_newf 2 hP hD rfl (zR.cpy hb8 hb8)
  have hP : va_P G.1 classes [(b0, .inr (2, [.int b1, .int b2, .int b3, .ref b4, .ref b5, .ref b6])), (b4, .inl (G.2 0, 20, .inl f_1)), (b5, .inl (G.2 0, 240, .inl f_3)), (b6, .inl (G.2 0, 240, .inl b9))] H := hP
  have hD := z_tie hP hD rfl
  refine lv_aload_n hx hb d_Traces_copyFrom_61 rfl (lv_at hl 1 rfl) ?_
  refine va_get (D := G.1) (ci := 2) (v := .ref b6) (C := R_Traces) (T := F_Traces) (N := 6) hx hb hts i_Traces hown hK hP 0 rfl rfl 5 (by decide) (hts _ q73) (fun _ h9 => h9) rfl d_Traces_copyFrom_62 ?_
  refine lv_iconst (v := 0) hx hb d_Traces_copyFrom_65 (by decide) ?_
  refine lv_aload_n hx hb d_Traces_copyFrom_66 rfl (lv_at hl 0 rfl) ?_
  refine va_get (D := G.1) (ci := 2) (v := .ref b6) (C := R_Traces) (T := F_Traces) (N := 6) hx hb hts i_Traces hown hK hP 0 rfl rfl 5 (by decide) (hts _ q73) (fun _ h9 => h9) rfl d_Traces_copyFrom_67 ?_
  refine lv_iconst (v := 0) hx hb d_Traces_copyFrom_70 (by decide) ?_
  refine lv_aload_n hx hb d_Traces_copyFrom_71 rfl (lv_at hl 0 rfl) ?_
  refine va_get (D := G.1) (ci := 2) (v := .int b1) (C := R_Traces) (T := F_Traces) (N := 6) hx hb hts i_Traces hown hK hP 0 rfl rfl 0 (by decide) (hts _ q52) (fun _ h9 => h9) rfl d_Traces_copyFrom_72 ?_
  refine lv_bipush (v := 12) hx hb d_Traces_copyFrom_75 (by decide) ?_
  refine lv_imul hx hb d_Traces_copyFrom_77 ?_
  refine lv_topi (fun v_4 ev_4 => ?_)
  obtain rfl : v_2 = v_4 := ev_2.trans ev_4.symm
  refine va_copyi hx hb (hml.trans hl.1.symm) hown (hts _ q502) (hts _ q504) (hts _ q503) (hts _ q15) hK hP hD hS 3 3 0 0 rfl rfl rfl rfl rfl (zi_nn zc_0 (by decide)) (zi_nn zc_0 (by decide)) (zi_nn hv_2 (by decide)) (zi_cp zc_0 hv_2 (by decide) (by decide) (by decide)) (zi_cp zc_0 hv_2 (by decide) (by decide) (by decide)) (fun _ _ => rfl) (Nat.le_of_ble_eq_true rfl) (Nat.le_of_ble_eq_true rfl) d_Traces_copyFrom_78 (fun H locs hP hD hS => ?_)
  obtain ⟨f_5, hP, hD⟩ := z_newF 3 hP hD rfl
  have hP : va_P G.1 classes [(b0, .inr (2, [.int b1, .int b2, .int b3, .ref b4, .ref b5, .ref b6])), (b4, .inl (G.2 0, 20, .inl f_1)), (b5, .inl (G.2 0, 240, .inl f_3)), (b6, .inl (G.2 0, 240, .inl f_5))] H := hP
  have hD := z_tie hP hD rfl
  exact z_vret hx hb hr hlocks hP hD hS (Nat.le_of_ble_eq_true rfl) (Nat.le_of_ble_eq_true rfl) d_Traces_copyFrom_81 ⟨f_1, f_3, f_5, rfl, rfl, hf_1, hf_3⟩
theorem d_Sets_forget_0 : decode prog_8_method_2_code 0 = .ok (.aload_n 0, 1) := by decide +kernel
theorem d_Sets_forget_1 : decode prog_8_method_2_code 1 = .ok (.iconst 0, 1) := by decide +kernel
theorem d_Sets_forget_2 : decode prog_8_method_2_code 2 = .ok (.putfield 26, 3) := by decide +kernel
theorem d_Sets_forget_5 : decode prog_8_method_2_code 5 = .ok (.aload_n 0, 1) := by decide +kernel
theorem d_Sets_forget_6 : decode prog_8_method_2_code 6 = .ok (.getfield 22, 3) := by decide +kernel
theorem d_Sets_forget_9 : decode prog_8_method_2_code 9 = .ok (.iconst (-1), 1) := by decide +kernel
theorem d_Sets_forget_10 : decode prog_8_method_2_code 10 = .ok (.invokestatic 29, 3) := by decide +kernel
theorem d_Sets_forget_13 : decode prog_8_method_2_code 13 = .ok (.return_, 1) := by decide +kernel
abbrev m_s1_Sets_forget : Room := { frames := 1, cells := 0, slots := 0, locals := 23 }
set_option maxHeartbeats 4000000 in
set_option maxRecDepth 100000 in
theorem s1_Sets_forget (l : Launch) (G : zG) (b0 : Nat) (b1 : Int32) (b2 : Nat) (b3 : Nat) (b4 : Nat → Int32) (hb1 : zI b1 0 2) (hb4 : zR b4 (-1) 1) : zM l G y_Sets_forget prog_8_method_2_code 1 (Option.none : Option Jvm.ClassFile.FieldType) m_s1_Sets_forget [.ref b0] [(b0, .inr (6, [.int b1, .int 4, .int 2, .ref b2, .ref b3])), (b3, .inl (G.2 0, 4, .inl b4))] (fun v w => ∃ (e0 : Nat → Int32), v = none ∧ w = [(b0, .inr (6, [.int 0, .int 4, .int 2, .ref b2, .ref b3])), (b3, .inl (G.2 0, 4, .inl e0))] ∧ (zR e0 (-1) 1)) := by
  refine z_start (by decide +kernel) (Nat.le_of_ble_eq_true rfl) ?_
  intro p e s m below meth c A Z hr hnm hA hP hD hS ls hl
  have Z : zC p s m _ meth c prog_8_method_2_code 1 "TraceMachines$StateSets" G := Z
  obtain ⟨hx, hb, hml, hown, hts, hK, hN, hlocks⟩ := id Z
  have hl : lv_has ls 1 [(0, .ref b0)] := hl
  refine lv_aload_n hx hb d_Sets_forget_0 rfl (lv_at hl 0 rfl) ?_
  refine lv_iconst (v := 0) hx hb d_Sets_forget_1 (by decide) ?_
  refine va_put (D := G.1) (ci := 6) (v := .int 0) (ty := .int) (C := R_Sets) (T := F_Sets) (N := 5) hx hb hts i_Sets t_Sets t_Sets_ok n_Sets hown hK hP hD hS 0 rfl rfl 0 (by decide) (hts _ q239) (fun _ h9 => h9) rfl (by decide +kernel) rfl rfl (Nat.le_of_ble_eq_true rfl) d_Sets_forget_2 (fun H locs hP hD hS => ?_)
  have hP : va_P G.1 classes [(b0, .inr (6, [.int 0, .int 4, .int 2, .ref b2, .ref b3])), (b3, .inl (G.2 0, 4, .inl b4))] H := hP
  have hD := z_tie hP hD rfl
  refine lv_aload_n hx hb d_Sets_forget_5 rfl (lv_at hl 0 rfl) ?_
  refine va_get (D := G.1) (ci := 6) (v := .ref b3) (C := R_Sets) (T := F_Sets) (N := 5) hx hb hts i_Sets hown hK hP 0 rfl rfl 4 (by decide) (hts _ q245) (fun _ h9 => h9) rfl d_Sets_forget_6 ?_
  refine lv_iconst (v := (-1)) hx hb d_Sets_forget_9 (by decide) ?_
  refine z_callS (index := 29) (As := [.ref b3, .int (-1)]) (rest := []) (wr := [(b0, .inr (6, [.int 0, .int 4, .int 2, .ref b2, .ref b3]))]) Z (c_fill_I l G (b3) (4) (b4) ((-1)) (by decide)) hl.1 q829 q415 q13 q416 ⟨by decide, by decide, by show _ = some 2; decide +kernel⟩ ⟨Nat.le_of_ble_eq_true rfl, Nat.le_of_ble_eq_true rfl⟩ ⟨Nat.le_of_ble_eq_true rfl, Nat.le_of_ble_eq_true rfl⟩ rfl (Nat.le_of_ble_eq_true rfl) d_Sets_forget_10 hP hD hS hA [1] [0] rfl rfl rfl rfl (by decide) (fun v w1 H locs hw_1 hP hD hS => ?_)
  obtain ⟨rfl, rfl⟩ := hw_1
  have hP : va_P G.1 classes [(b0, .inr (6, [.int 0, .int 4, .int 2, .ref b2, .ref b3])), (b3, .inl (G.2 0, 4, .inl (fun _ => (-1))))] H := hP
  have hD := z_tie hP hD rfl
  refine W.widen (k := 0) (n := 0) (Nat.le_of_ble_eq_true rfl) (Nat.le_of_ble_eq_true rfl) ?_
  exact z_vret hx hb hr hlocks hP hD hS (Nat.le_of_ble_eq_true rfl) (Nat.le_of_ble_eq_true rfl) d_Sets_forget_13 ⟨(fun _ => (-1)), rfl, rfl, (zR_c (zI.wk (l' := (-1)) (h' := 1) zc_m1 (by decide)))⟩
theorem d_Sets_clear_0 : decode prog_8_method_3_code 0 = .ok (.aload_n 0, 1) := by decide +kernel
theorem d_Sets_clear_1 : decode prog_8_method_3_code 1 = .ok (.getfield 18, 3) := by decide +kernel
theorem d_Sets_clear_4 : decode prog_8_method_3_code 4 = .ok (.lconst 0, 1) := by decide +kernel
theorem d_Sets_clear_5 : decode prog_8_method_3_code 5 = .ok (.invokestatic 35, 3) := by decide +kernel
theorem d_Sets_clear_8 : decode prog_8_method_3_code 8 = .ok (.return_, 1) := by decide +kernel
abbrev m_s1_Sets_clear : Room := { frames := 1, cells := 0, slots := 0, locals := 24 }
set_option maxHeartbeats 4000000 in
set_option maxRecDepth 100000 in
theorem s1_Sets_clear (l : Launch) (G : zG) (b0 : Nat) (b1 : Int32) (b2 : Nat) (b3 : Nat) (b4 : Nat → Int64) (hb1 : zI b1 0 2) (hb4 : zqa qB b4) : zM l G y_Sets_clear prog_8_method_3_code 1 (Option.none : Option Jvm.ClassFile.FieldType) m_s1_Sets_clear [.ref b0] [(b0, .inr (6, [.int b1, .int 4, .int 2, .ref b2, .ref b3])), (b2, .inl (G.2 1, 8, .inr (.inl b4)))] (fun v w => ∃ (e0 : Nat → Int64), v = none ∧ w = [(b0, .inr (6, [.int b1, .int 4, .int 2, .ref b2, .ref b3])), (b2, .inl (G.2 1, 8, .inr (.inl e0)))] ∧ (zqa qB e0)) := by
  refine z_start (by decide +kernel) (Nat.le_of_ble_eq_true rfl) ?_
  intro p e s m below meth c A Z hr hnm hA hP hD hS ls hl
  have Z : zC p s m _ meth c prog_8_method_3_code 1 "TraceMachines$StateSets" G := Z
  obtain ⟨hx, hb, hml, hown, hts, hK, hN, hlocks⟩ := id Z
  have hl : lv_has ls 1 [(0, .ref b0)] := hl
  refine lv_aload_n hx hb d_Sets_clear_0 rfl (lv_at hl 0 rfl) ?_
  refine va_get (D := G.1) (ci := 6) (v := .ref b2) (C := R_Sets) (T := F_Sets) (N := 5) hx hb hts i_Sets hown hK hP 0 rfl rfl 3 (by decide) (hts _ q244) (fun _ h9 => h9) rfl d_Sets_clear_1 ?_
  refine lv_lconst (v := 0) hx hb d_Sets_clear_4 (by decide) ?_
  refine z_callS (index := 35) (As := [.ref b2, .long 0]) (rest := []) (wr := [(b0, .inr (6, [.int b1, .int 4, .int 2, .ref b2, .ref b3]))]) Z (c_fill_J l G (b2) (8) (b4) (0) (by decide)) hl.1 q708 q623 q13 q624 ⟨by decide, by decide, by show _ = some 2; decide +kernel⟩ ⟨Nat.le_of_ble_eq_true rfl, Nat.le_of_ble_eq_true rfl⟩ ⟨Nat.le_of_ble_eq_true rfl, Nat.le_of_ble_eq_true rfl⟩ rfl (Nat.le_of_ble_eq_true rfl) d_Sets_clear_5 hP hD hS hA [1] [0] rfl rfl rfl rfl (by decide) (fun v w1 H locs hw_1 hP hD hS => ?_)
  obtain ⟨rfl, rfl⟩ := hw_1
  have hP : va_P G.1 classes [(b0, .inr (6, [.int b1, .int 4, .int 2, .ref b2, .ref b3])), (b2, .inl (G.2 1, 8, .inr (.inl (fun _ => 0))))] H := hP
  have hD := z_tie hP hD rfl
  refine W.widen (k := 0) (n := 0) (Nat.le_of_ble_eq_true rfl) (Nat.le_of_ble_eq_true rfl) ?_
  exact z_vret hx hb hr hlocks hP hD hS (Nat.le_of_ble_eq_true rfl) (Nat.le_of_ble_eq_true rfl) d_Sets_clear_8 ⟨(fun _ => 0), rfl, rfl, zQB_c⟩
theorem d_Sets_size_0 : decode prog_8_method_6_code 0 = .ok (.iconst 0, 1) := by decide +kernel
theorem d_Sets_size_1 : decode prog_8_method_6_code 1 = .ok (.istore_n 2, 1) := by decide +kernel
theorem d_Sets_size_2 : decode prog_8_method_6_code 2 = .ok (.iconst 0, 1) := by decide +kernel
theorem d_Sets_size_3 : decode prog_8_method_6_code 3 = .ok (.istore_n 3, 1) := by decide +kernel
theorem d_Sets_size_4 : decode prog_8_method_6_code 4 = .ok (.iload_n 3, 1) := by decide +kernel
theorem d_Sets_size_5 : decode prog_8_method_6_code 5 = .ok (.aload_n 0, 1) := by decide +kernel
theorem d_Sets_size_6 : decode prog_8_method_6_code 6 = .ok (.getfield 15, 3) := by decide +kernel
theorem d_Sets_size_9 : decode prog_8_method_6_code 9 = .ok (.if_icmp .ge 28, 3) := by decide +kernel
theorem d_Sets_size_12 : decode prog_8_method_6_code 12 = .ok (.iload_n 2, 1) := by decide +kernel
theorem d_Sets_size_13 : decode prog_8_method_6_code 13 = .ok (.aload_n 0, 1) := by decide +kernel
theorem d_Sets_size_14 : decode prog_8_method_6_code 14 = .ok (.getfield 18, 3) := by decide +kernel
theorem d_Sets_size_17 : decode prog_8_method_6_code 17 = .ok (.iload_n 1, 1) := by decide +kernel
theorem d_Sets_size_18 : decode prog_8_method_6_code 18 = .ok (.aload_n 0, 1) := by decide +kernel
theorem d_Sets_size_19 : decode prog_8_method_6_code 19 = .ok (.getfield 15, 3) := by decide +kernel
theorem d_Sets_size_22 : decode prog_8_method_6_code 22 = .ok (.imul, 1) := by decide +kernel
theorem d_Sets_size_23 : decode prog_8_method_6_code 23 = .ok (.iload_n 3, 1) := by decide +kernel
theorem d_Sets_size_24 : decode prog_8_method_6_code 24 = .ok (.iadd, 1) := by decide +kernel
theorem d_Sets_size_25 : decode prog_8_method_6_code 25 = .ok (.laload, 1) := by decide +kernel
theorem d_Sets_size_26 : decode prog_8_method_6_code 26 = .ok (.invokestatic 38, 3) := by decide +kernel
theorem d_Sets_size_29 : decode prog_8_method_6_code 29 = .ok (.iadd, 1) := by decide +kernel
theorem d_Sets_size_30 : decode prog_8_method_6_code 30 = .ok (.istore_n 2, 1) := by decide +kernel
theorem d_Sets_size_31 : decode prog_8_method_6_code 31 = .ok (.iinc 3 1, 3) := by decide +kernel
theorem d_Sets_size_34 : decode prog_8_method_6_code 34 = .ok (.goto (-30), 3) := by decide +kernel
theorem d_Sets_size_37 : decode prog_8_method_6_code 37 = .ok (.iload_n 2, 1) := by decide +kernel
theorem d_Sets_size_38 : decode prog_8_method_6_code 38 = .ok (.ireturn, 1) := by decide +kernel
theorem d_Long_bitCount_0 : decode prog_18_method_50_code 0 = .ok (.lload_n 0, 1) := by decide +kernel
theorem d_Long_bitCount_1 : decode prog_18_method_50_code 1 = .ok (.lload_n 0, 1) := by decide +kernel
theorem d_Long_bitCount_2 : decode prog_18_method_50_code 2 = .ok (.iconst 1, 1) := by decide +kernel
theorem d_Long_bitCount_3 : decode prog_18_method_50_code 3 = .ok (.lushr, 1) := by decide +kernel
theorem d_Long_bitCount_4 : decode prog_18_method_50_code 4 = .ok (.ldc2_w 314, 3) := by decide +kernel
theorem d_Long_bitCount_7 : decode prog_18_method_50_code 7 = .ok (.land, 1) := by decide +kernel
theorem d_Long_bitCount_8 : decode prog_18_method_50_code 8 = .ok (.lsub, 1) := by decide +kernel
theorem d_Long_bitCount_9 : decode prog_18_method_50_code 9 = .ok (.lstore_n 0, 1) := by decide +kernel
theorem d_Long_bitCount_10 : decode prog_18_method_50_code 10 = .ok (.lload_n 0, 1) := by decide +kernel
theorem d_Long_bitCount_11 : decode prog_18_method_50_code 11 = .ok (.ldc2_w 316, 3) := by decide +kernel
theorem d_Long_bitCount_14 : decode prog_18_method_50_code 14 = .ok (.land, 1) := by decide +kernel
theorem d_Long_bitCount_15 : decode prog_18_method_50_code 15 = .ok (.lload_n 0, 1) := by decide +kernel
theorem d_Long_bitCount_16 : decode prog_18_method_50_code 16 = .ok (.iconst 2, 1) := by decide +kernel
theorem d_Long_bitCount_17 : decode prog_18_method_50_code 17 = .ok (.lushr, 1) := by decide +kernel
theorem d_Long_bitCount_18 : decode prog_18_method_50_code 18 = .ok (.ldc2_w 316, 3) := by decide +kernel
theorem d_Long_bitCount_21 : decode prog_18_method_50_code 21 = .ok (.land, 1) := by decide +kernel
theorem d_Long_bitCount_22 : decode prog_18_method_50_code 22 = .ok (.ladd, 1) := by decide +kernel
theorem d_Long_bitCount_23 : decode prog_18_method_50_code 23 = .ok (.lstore_n 0, 1) := by decide +kernel
theorem d_Long_bitCount_24 : decode prog_18_method_50_code 24 = .ok (.lload_n 0, 1) := by decide +kernel
theorem d_Long_bitCount_25 : decode prog_18_method_50_code 25 = .ok (.lload_n 0, 1) := by decide +kernel
theorem d_Long_bitCount_26 : decode prog_18_method_50_code 26 = .ok (.iconst 4, 1) := by decide +kernel
theorem d_Long_bitCount_27 : decode prog_18_method_50_code 27 = .ok (.lushr, 1) := by decide +kernel
theorem d_Long_bitCount_28 : decode prog_18_method_50_code 28 = .ok (.ladd, 1) := by decide +kernel
theorem d_Long_bitCount_29 : decode prog_18_method_50_code 29 = .ok (.ldc2_w 318, 3) := by decide +kernel
theorem d_Long_bitCount_32 : decode prog_18_method_50_code 32 = .ok (.land, 1) := by decide +kernel
theorem d_Long_bitCount_33 : decode prog_18_method_50_code 33 = .ok (.lstore_n 0, 1) := by decide +kernel
theorem d_Long_bitCount_34 : decode prog_18_method_50_code 34 = .ok (.lload_n 0, 1) := by decide +kernel
theorem d_Long_bitCount_35 : decode prog_18_method_50_code 35 = .ok (.lload_n 0, 1) := by decide +kernel
theorem d_Long_bitCount_36 : decode prog_18_method_50_code 36 = .ok (.bipush 8, 2) := by decide +kernel
theorem d_Long_bitCount_38 : decode prog_18_method_50_code 38 = .ok (.lushr, 1) := by decide +kernel
theorem d_Long_bitCount_39 : decode prog_18_method_50_code 39 = .ok (.ladd, 1) := by decide +kernel
theorem d_Long_bitCount_40 : decode prog_18_method_50_code 40 = .ok (.lstore_n 0, 1) := by decide +kernel
theorem d_Long_bitCount_41 : decode prog_18_method_50_code 41 = .ok (.lload_n 0, 1) := by decide +kernel
theorem d_Long_bitCount_42 : decode prog_18_method_50_code 42 = .ok (.lload_n 0, 1) := by decide +kernel
theorem d_Long_bitCount_43 : decode prog_18_method_50_code 43 = .ok (.bipush 16, 2) := by decide +kernel
theorem d_Long_bitCount_45 : decode prog_18_method_50_code 45 = .ok (.lushr, 1) := by decide +kernel
theorem d_Long_bitCount_46 : decode prog_18_method_50_code 46 = .ok (.ladd, 1) := by decide +kernel
theorem d_Long_bitCount_47 : decode prog_18_method_50_code 47 = .ok (.lstore_n 0, 1) := by decide +kernel
theorem d_Long_bitCount_48 : decode prog_18_method_50_code 48 = .ok (.lload_n 0, 1) := by decide +kernel
theorem d_Long_bitCount_49 : decode prog_18_method_50_code 49 = .ok (.lload_n 0, 1) := by decide +kernel
theorem d_Long_bitCount_50 : decode prog_18_method_50_code 50 = .ok (.bipush 32, 2) := by decide +kernel
theorem d_Long_bitCount_52 : decode prog_18_method_50_code 52 = .ok (.lushr, 1) := by decide +kernel
theorem d_Long_bitCount_53 : decode prog_18_method_50_code 53 = .ok (.ladd, 1) := by decide +kernel
theorem d_Long_bitCount_54 : decode prog_18_method_50_code 54 = .ok (.lstore_n 0, 1) := by decide +kernel
theorem d_Long_bitCount_55 : decode prog_18_method_50_code 55 = .ok (.lload_n 0, 1) := by decide +kernel
theorem d_Long_bitCount_56 : decode prog_18_method_50_code 56 = .ok (.l2i, 1) := by decide +kernel
theorem d_Long_bitCount_57 : decode prog_18_method_50_code 57 = .ok (.bipush 127, 2) := by decide +kernel
theorem d_Long_bitCount_59 : decode prog_18_method_50_code 59 = .ok (.iand, 1) := by decide +kernel
theorem d_Long_bitCount_60 : decode prog_18_method_50_code 60 = .ok (.ireturn, 1) := by decide +kernel
abbrev m_s2_Long_bitCount : Room := { frames := 0, cells := 0, slots := 0, locals := 0 }
set_option maxHeartbeats 4000000 in
set_option maxRecDepth 100000 in
theorem s2_Long_bitCount (l : Launch) (G : zG) (b0 : Int64)  : zM l G y_Long_bitCount prog_18_method_50_code 2 (Option.some Jvm.ClassFile.FieldType.int) m_s2_Long_bitCount [.long b0] [] (fun v w => ∃ (e0 : Int32), v = some (.int e0) ∧ w = [] ∧ (zI e0 0 127) ∧ (e0 = zpop b0)) := by
  refine z_start (by decide +kernel) (Nat.le_of_ble_eq_true rfl) ?_
  intro p e s m below meth c A Z hr hnm hA hP hD hS ls hl
  have Z : zC p s m _ meth c prog_18_method_50_code 2 "java/lang/Long" G := Z
  obtain ⟨hx, hb, hml, hown, hts, hK, hN, hlocks⟩ := id Z
  have hl : lv_has ls 2 [(0, .long b0)] := hl
  refine lv_lload_n hx hb d_Long_bitCount_0 rfl (lv_at hl 0 rfl) ?_
  refine lv_lload_n hx hb d_Long_bitCount_1 rfl (lv_at hl 0 rfl) ?_
  refine lv_iconst (v := 1) hx hb d_Long_bitCount_2 (by decide) ?_
  obtain ⟨v_1, ev_1⟩ : ∃ z : Int64, z = ((b0).toUInt64 >>> ((1 : Int32).toInt64.toUInt64 &&& Int64.toUInt64 63)).toInt64 := ⟨_, rfl⟩
  refine lv_lushr (v := v_1) hx hb d_Long_bitCount_3 ev_1.symm ?_
  refine lv_ldc2 hx hb hown (hts _ q729) d_Long_bitCount_4 ?_
  refine lv_land hx hb d_Long_bitCount_7 ?_
  refine lv_topl (fun v_2 ev_2 => ?_)
  refine lv_lsub hx hb d_Long_bitCount_8 ?_
  refine lv_topl (fun v_3 ev_3 => ?_)
  refine lv_lstore_n (lv' := [(0, .long v_3)]) hx hb d_Long_bitCount_9 rfl hl (by decide) rfl (fun ls hl => ?_)
  refine lv_lload_n hx hb d_Long_bitCount_10 rfl (lv_at hl 0 rfl) ?_
  refine lv_ldc2 hx hb hown (hts _ q730) d_Long_bitCount_11 ?_
  refine lv_land hx hb d_Long_bitCount_14 ?_
  refine lv_topl (fun v_4 ev_4 => ?_)
  refine lv_lload_n hx hb d_Long_bitCount_15 rfl (lv_at hl 0 rfl) ?_
  refine lv_iconst (v := 2) hx hb d_Long_bitCount_16 (by decide) ?_
  obtain ⟨v_5, ev_5⟩ : ∃ z : Int64, z = ((v_3).toUInt64 >>> ((2 : Int32).toInt64.toUInt64 &&& Int64.toUInt64 63)).toInt64 := ⟨_, rfl⟩
  refine lv_lushr (v := v_5) hx hb d_Long_bitCount_17 ev_5.symm ?_
  refine lv_ldc2 hx hb hown (hts _ q730) d_Long_bitCount_18 ?_
  refine lv_land hx hb d_Long_bitCount_21 ?_
  refine lv_topl (fun v_6 ev_6 => ?_)
  refine lv_ladd hx hb d_Long_bitCount_22 ?_
  refine lv_topl (fun v_7 ev_7 => ?_)
  refine lv_lstore_n (lv' := [(0, .long v_7)]) hx hb d_Long_bitCount_23 rfl hl (by decide) rfl (fun ls hl => ?_)
  refine lv_lload_n hx hb d_Long_bitCount_24 rfl (lv_at hl 0 rfl) ?_
  refine lv_lload_n hx hb d_Long_bitCount_25 rfl (lv_at hl 0 rfl) ?_
  refine lv_iconst (v := 4) hx hb d_Long_bitCount_26 (by decide) ?_
  obtain ⟨v_8, ev_8⟩ : ∃ z : Int64, z = ((v_7).toUInt64 >>> ((4 : Int32).toInt64.toUInt64 &&& Int64.toUInt64 63)).toInt64 := ⟨_, rfl⟩
  refine lv_lushr (v := v_8) hx hb d_Long_bitCount_27 ev_8.symm ?_
  refine lv_ladd hx hb d_Long_bitCount_28 ?_
  refine lv_topl (fun v_9 ev_9 => ?_)
  refine lv_ldc2 hx hb hown (hts _ q731) d_Long_bitCount_29 ?_
  refine lv_land hx hb d_Long_bitCount_32 ?_
  refine lv_topl (fun v_10 ev_10 => ?_)
  refine lv_lstore_n (lv' := [(0, .long v_10)]) hx hb d_Long_bitCount_33 rfl hl (by decide) rfl (fun ls hl => ?_)
  refine lv_lload_n hx hb d_Long_bitCount_34 rfl (lv_at hl 0 rfl) ?_
  refine lv_lload_n hx hb d_Long_bitCount_35 rfl (lv_at hl 0 rfl) ?_
  refine lv_bipush (v := 8) hx hb d_Long_bitCount_36 (by decide) ?_
  obtain ⟨v_11, ev_11⟩ : ∃ z : Int64, z = ((v_10).toUInt64 >>> ((8 : Int32).toInt64.toUInt64 &&& Int64.toUInt64 63)).toInt64 := ⟨_, rfl⟩
  refine lv_lushr (v := v_11) hx hb d_Long_bitCount_38 ev_11.symm ?_
  refine lv_ladd hx hb d_Long_bitCount_39 ?_
  refine lv_topl (fun v_12 ev_12 => ?_)
  refine lv_lstore_n (lv' := [(0, .long v_12)]) hx hb d_Long_bitCount_40 rfl hl (by decide) rfl (fun ls hl => ?_)
  refine lv_lload_n hx hb d_Long_bitCount_41 rfl (lv_at hl 0 rfl) ?_
  refine lv_lload_n hx hb d_Long_bitCount_42 rfl (lv_at hl 0 rfl) ?_
  refine lv_bipush (v := 16) hx hb d_Long_bitCount_43 (by decide) ?_
  obtain ⟨v_13, ev_13⟩ : ∃ z : Int64, z = ((v_12).toUInt64 >>> ((16 : Int32).toInt64.toUInt64 &&& Int64.toUInt64 63)).toInt64 := ⟨_, rfl⟩
  refine lv_lushr (v := v_13) hx hb d_Long_bitCount_45 ev_13.symm ?_
  refine lv_ladd hx hb d_Long_bitCount_46 ?_
  refine lv_topl (fun v_14 ev_14 => ?_)
  refine lv_lstore_n (lv' := [(0, .long v_14)]) hx hb d_Long_bitCount_47 rfl hl (by decide) rfl (fun ls hl => ?_)
  refine lv_lload_n hx hb d_Long_bitCount_48 rfl (lv_at hl 0 rfl) ?_
  refine lv_lload_n hx hb d_Long_bitCount_49 rfl (lv_at hl 0 rfl) ?_
  refine lv_bipush (v := 32) hx hb d_Long_bitCount_50 (by decide) ?_
  obtain ⟨v_15, ev_15⟩ : ∃ z : Int64, z = ((v_14).toUInt64 >>> ((32 : Int32).toInt64.toUInt64 &&& Int64.toUInt64 63)).toInt64 := ⟨_, rfl⟩
  refine lv_lushr (v := v_15) hx hb d_Long_bitCount_52 ev_15.symm ?_
  refine lv_ladd hx hb d_Long_bitCount_53 ?_
  refine lv_topl (fun v_16 ev_16 => ?_)
  refine lv_lstore_n (lv' := [(0, .long v_16)]) hx hb d_Long_bitCount_54 rfl hl (by decide) rfl (fun ls hl => ?_)
  refine lv_lload_n hx hb d_Long_bitCount_55 rfl (lv_at hl 0 rfl) ?_
  obtain ⟨v_17, ev_17⟩ : ∃ z : Int32, z = (v_16).toInt32 := ⟨_, rfl⟩
  refine lv_l2i (v := v_17) hx hb d_Long_bitCount_56 ev_17.symm ?_
  refine lv_bipush (v := 127) hx hb d_Long_bitCount_57 (by decide) ?_
  refine lv_iand hx hb d_Long_bitCount_59 ?_
  refine lv_topi (fun v_18 ev_18 => ?_)
  have hv_18 := zI_and (k := 7) (h := 127) (by decide +kernel) ev_18 (by decide)
  exact z_iret hx hb hr hlocks hP hD hS (Nat.le_of_ble_eq_true rfl) (Nat.le_of_ble_eq_true rfl) d_Long_bitCount_60 ⟨v_18, rfl, rfl, hv_18, (by subst_vars; rfl)⟩
abbrev m_s1_Sets_size : Room := { frames := 1, cells := 0, slots := 0, locals := 21 }
set_option maxHeartbeats 4000000 in
set_option maxRecDepth 100000 in
theorem s1_Sets_size (l : Launch) (G : zG) (b0 : Nat) (b1 : Int32) (b2 : Int32) (b3 : Nat) (b4 : Nat) (b5 : Nat → Int64) (hb1 : zI b1 0 0) (hb2 : zI b2 0 2) (hb5 : zqa qB b5) : zM l G y_Sets_size prog_8_method_6_code 4 (Option.some Jvm.ClassFile.FieldType.int) m_s1_Sets_size [.ref b0, .int b1] [(b0, .inr (6, [.int b2, .int 4, .int 2, .ref b3, .ref b4])), (b3, .inl (G.2 1, 8, .inr (.inl b5)))] (fun v w => ∃ (e0 : Int32), v = some (.int e0) ∧ w = [(b0, .inr (6, [.int b2, .int 4, .int 2, .ref b3, .ref b4])), (b3, .inl (G.2 1, 8, .inr (.inl b5)))]) := by
  refine z_start (by decide +kernel) (Nat.le_of_ble_eq_true rfl) ?_
  intro p e s m below meth c A Z hr hnm hA hP hD hS ls hl
  have Z : zC p s m _ meth c prog_8_method_6_code 4 "TraceMachines$StateSets" G := Z
  obtain ⟨hx, hb, hml, hown, hts, hK, hN, hlocks⟩ := id Z
  have hl : lv_has ls 4 [(0, .ref b0), (1, .int b1)] := hl
  refine lv_iconst (v := 0) hx hb d_Sets_size_0 (by decide) ?_
  refine lv_istore_n (lv' := [(2, .int 0), (0, .ref b0), (1, .int b1)]) hx hb d_Sets_size_1 rfl hl (by decide) rfl (fun ls hl => ?_)
  refine lv_iconst (v := 0) hx hb d_Sets_size_2 (by decide) ?_
  refine lv_istore_n (lv' := [(3, .int 0), (2, .int 0), (0, .ref b0), (1, .int b1)]) hx hb d_Sets_size_3 rfl hl (by decide) rfl (fun ls hl => ?_)
  suffices key : ∀ (k_143 : Nat) (y_144 : Int32) (y_145 : Int32) (H : Heap) (locs : List Loc) (ls : Array Slot), (zI y_144 0 4) → (4 : Int) - y_144.toInt < (k_143 : Int) → va_P G.1 classes [(b0, .inr (6, [.int b2, .int 4, .int 2, .ref b3, .ref b4])), (b3, .inl (G.2 1, 8, .inr (.inl b5)))] H → va_D A [(b0, .inr (6, [.int b2, .int 4, .int 2, .ref b3, .ref b4])), (b3, .inl (G.2 1, 8, .inr (.inl b5)))] → va_S A s.heap H locs → lv_has ls 4 [(3, .int y_144), (2, .int y_145), (0, .ref b0), (1, .int b1)] → W p l e m_s1_Sets_size s m ([.ref b0, .int b1] : List Value).toArray below meth c H locs 0 0 (MQ below (zQ G (fun v w => ∃ (e0 : Int32), v = some (.int e0) ∧ w = [(b0, .inr (6, [.int b2, .int 4, .int 2, .ref b3, .ref b4])), (b3, .inl (G.2 1, 8, .inr (.inl b5)))]) A) ([.ref b0, .int b1] : List Value).toArray s m_s1_Sets_size.cells m_s1_Sets_size.slots A) (F0 m 4 ls []) by
    exact key 5 (0) (0) _ _ _ (zI.wk (l' := 0) (h' := 4) zc_0 (by decide)) (zm_upi (zI.wk (l' := 0) (h' := 4) zc_0 (by decide)) (by decide)) hP hD hS (lv_sub hl [0, 1, 2, 3] rfl)
  intro k_143
  induction k_143 with
  | zero =>
    intro y_144 y_145 H locs ls hy_144 hmk_143 hP hD hS hl
    exact (zm_up0 hy_144 hmk_143).elim
  | succ k_143 ihk_143 =>
    intro y_144 y_145 H locs ls hy_144 hmk_143 hP hD hS hl
    refine lv_iload_n hx hb d_Sets_size_4 rfl (lv_at hl 0 rfl) ?_
    refine lv_aload_n hx hb d_Sets_size_5 rfl (lv_at hl 2 rfl) ?_
    refine va_get (D := G.1) (ci := 6) (v := .int 4) (C := R_Sets) (T := F_Sets) (N := 5) hx hb hts i_Sets hown hK hP 0 rfl rfl 1 (by decide) (hts _ q242) (fun _ h9 => h9) rfl d_Sets_size_6 ?_
    refine lv_icmp_ge (tgt := 37) hx hb d_Sets_size_9 (by decide) (fun hc_146 => ?_) (fun hc_146 => ?_)
    · have _nhc_146 := hc_146
      have ni_147 := (fa_le _ _).mp hc_146
      rw [li_4] at ni_147
      have hv_148 : zI y_144 4 4 := zI.le_r zc_4 hy_144 hc_146 (by decide)
      refine lv_iload_n hx hb d_Sets_size_37 rfl (lv_at hl 1 rfl) ?_
      exact z_iret hx hb hr hlocks hP hD hS (Nat.le_of_ble_eq_true rfl) (Nat.le_of_ble_eq_true rfl) d_Sets_size_38 ⟨y_145, rfl, rfl⟩
    · have _nhc_146 := hc_146
      have ni_149 := (fa_lt _ _).mp (zi_nle hc_146)
      rw [li_4] at ni_149
      have hv_150 : zI y_144 0 3 := zI.lt_l hy_144 zc_4 (zi_nle hc_146) (by decide)
      refine lv_iload_n hx hb d_Sets_size_12 rfl (lv_at hl 1 rfl) ?_
      refine lv_aload_n hx hb d_Sets_size_13 rfl (lv_at hl 2 rfl) ?_
      refine va_get (D := G.1) (ci := 6) (v := .ref b3) (C := R_Sets) (T := F_Sets) (N := 5) hx hb hts i_Sets hown hK hP 0 rfl rfl 3 (by decide) (hts _ q244) (fun _ h9 => h9) rfl d_Sets_size_14 ?_
      refine lv_iload_n hx hb d_Sets_size_17 rfl (lv_at hl 3 rfl) ?_
      refine lv_aload_n hx hb d_Sets_size_18 rfl (lv_at hl 2 rfl) ?_
      refine va_get (D := G.1) (ci := 6) (v := .int 4) (C := R_Sets) (T := F_Sets) (N := 5) hx hb hts i_Sets hown hK hP 0 rfl rfl 1 (by decide) (hts _ q242) (fun _ h9 => h9) rfl d_Sets_size_19 ?_
      refine lv_imul hx hb d_Sets_size_22 ?_
      refine lv_topi (fun v_151 ev_151 => ?_)
      obtain ⟨qv_151, hv_151⟩ := zI_mul (l := 0) (h := 0) hb1 zc_4 ev_151 (by decide)
      rw [li_4] at qv_151
      refine lv_iload_n hx hb d_Sets_size_23 rfl (lv_at hl 0 rfl) ?_
      refine lv_iadd hx hb d_Sets_size_24 ?_
      refine lv_topi (fun v_152 ev_152 => ?_)
      obtain ⟨qv_152, hv_152⟩ := zI_add (l := 0) (h := 3) hv_151 hv_150 ev_152 (by decide)
      refine va_lald hx hb hK hP 1 1 rfl rfl (zI.inn hv_152 (by decide)) d_Sets_size_25 ?_
      refine lv_topl (fun v_153 ev_153 => ?_)
      have bv_153 := zQB.ld hb5 hv_152 ev_153 (by decide)
      refine z_callS (index := 38) (As := [.long v_153]) (rest := [.int y_145]) (wr := [(b0, .inr (6, [.int b2, .int 4, .int 2, .ref b3, .ref b4])), (b3, .inl (G.2 1, 8, .inr (.inl b5)))]) Z (s2_Long_bitCount l G (v_153)) hl.1 q726 q727 q21 q728 ⟨by decide, by decide, by show _ = some 1; decide +kernel⟩ ⟨Nat.le_of_ble_eq_true rfl, Nat.le_of_ble_eq_true rfl⟩ ⟨Nat.le_of_ble_eq_true rfl, Nat.le_of_ble_eq_true rfl⟩ rfl (Nat.le_of_ble_eq_true rfl) d_Sets_size_26 hP hD hS hA [] [0, 1] rfl rfl rfl rfl (by decide) (fun v w1 H locs hw_154 hP hD hS => ?_)
      obtain ⟨x_155, rfl, rfl, hx_155, hfx_156⟩ := hw_154
      have hP : va_P G.1 classes [(b0, .inr (6, [.int b2, .int 4, .int 2, .ref b3, .ref b4])), (b3, .inl (G.2 1, 8, .inr (.inl b5)))] H := hP
      have hD := z_tie hP hD rfl
      refine W.widen (k := 0) (n := 0) (Nat.le_of_ble_eq_true rfl) (Nat.le_of_ble_eq_true rfl) ?_
      refine lv_iadd hx hb d_Sets_size_29 ?_
      refine lv_topi (fun v_157 ev_157 => ?_)
      refine lv_istore_n (lv' := [(2, .int v_157), (3, .int y_144), (0, .ref b0), (1, .int b1)]) hx hb d_Sets_size_30 rfl hl (by decide) rfl (fun ls hl => ?_)
      obtain ⟨v_158, ev_158⟩ : ∃ z : Int32, z = y_144 + 1 := ⟨_, rfl⟩
      obtain ⟨qv_158, hv_158⟩ := zI_add (l := 1) (h := 4) hv_150 zc_1 ev_158 (by decide)
      rw [li_1] at qv_158
      refine lv_iinc (v := v_158) (lv' := [(3, .int v_158), (2, .int v_157), (0, .ref b0), (1, .int b1)]) hx hb d_Sets_size_31 hl (k := 1) rfl (by rw [ev_158]; rfl) (by decide) rfl (fun ls hl => ?_)
      refine lv_goto (tgt := 4) hx hb d_Sets_size_34 (by decide) ?_
      exact ihk_143 (v_158) (v_157) _ _ _ (zI.wk (l' := 0) (h' := 4) hv_158 (by decide)) (zm_up qv_158 hmk_143 (by decide)) hP hD hS (lv_sub hl [0, 1, 2, 3] rfl)
theorem d_Sets_isEmpty_0 : decode prog_8_method_7_code 0 = .ok (.iconst 0, 1) := by decide +kernel
theorem d_Sets_isEmpty_1 : decode prog_8_method_7_code 1 = .ok (.istore_n 2, 1) := by decide +kernel
theorem d_Sets_isEmpty_2 : decode prog_8_method_7_code 2 = .ok (.iload_n 2, 1) := by decide +kernel
theorem d_Sets_isEmpty_3 : decode prog_8_method_7_code 3 = .ok (.aload_n 0, 1) := by decide +kernel
theorem d_Sets_isEmpty_4 : decode prog_8_method_7_code 4 = .ok (.getfield 15, 3) := by decide +kernel
theorem d_Sets_isEmpty_7 : decode prog_8_method_7_code 7 = .ok (.if_icmp .ge 29, 3) := by decide +kernel
theorem d_Sets_isEmpty_10 : decode prog_8_method_7_code 10 = .ok (.aload_n 0, 1) := by decide +kernel
theorem d_Sets_isEmpty_11 : decode prog_8_method_7_code 11 = .ok (.getfield 18, 3) := by decide +kernel
theorem d_Sets_isEmpty_14 : decode prog_8_method_7_code 14 = .ok (.iload_n 1, 1) := by decide +kernel
theorem d_Sets_isEmpty_15 : decode prog_8_method_7_code 15 = .ok (.aload_n 0, 1) := by decide +kernel
theorem d_Sets_isEmpty_16 : decode prog_8_method_7_code 16 = .ok (.getfield 15, 3) := by decide +kernel
theorem d_Sets_isEmpty_19 : decode prog_8_method_7_code 19 = .ok (.imul, 1) := by decide +kernel
theorem d_Sets_isEmpty_20 : decode prog_8_method_7_code 20 = .ok (.iload_n 2, 1) := by decide +kernel
theorem d_Sets_isEmpty_21 : decode prog_8_method_7_code 21 = .ok (.iadd, 1) := by decide +kernel
theorem d_Sets_isEmpty_22 : decode prog_8_method_7_code 22 = .ok (.laload, 1) := by decide +kernel
theorem d_Sets_isEmpty_23 : decode prog_8_method_7_code 23 = .ok (.lconst 0, 1) := by decide +kernel
theorem d_Sets_isEmpty_24 : decode prog_8_method_7_code 24 = .ok (.lcmp, 1) := by decide +kernel
theorem d_Sets_isEmpty_25 : decode prog_8_method_7_code 25 = .ok (.ifCond .eq 5, 3) := by decide +kernel
theorem d_Sets_isEmpty_28 : decode prog_8_method_7_code 28 = .ok (.iconst 0, 1) := by decide +kernel
theorem d_Sets_isEmpty_29 : decode prog_8_method_7_code 29 = .ok (.ireturn, 1) := by decide +kernel
theorem d_Sets_isEmpty_30 : decode prog_8_method_7_code 30 = .ok (.iinc 2 1, 3) := by decide +kernel
theorem d_Sets_isEmpty_33 : decode prog_8_method_7_code 33 = .ok (.goto (-31), 3) := by decide +kernel
theorem d_Sets_isEmpty_36 : decode prog_8_method_7_code 36 = .ok (.iconst 1, 1) := by decide +kernel
theorem d_Sets_isEmpty_37 : decode prog_8_method_7_code 37 = .ok (.ireturn, 1) := by decide +kernel
theorem ll_0 : (0 : Int64).toInt = 0 := by decide +kernel
theorem zcl_0 : zJ 0 0 0 := ⟨by decide +kernel, by decide +kernel⟩
abbrev m_s1_Sets_isEmpty : Room := { frames := 0, cells := 0, slots := 0, locals := 0 }
set_option maxHeartbeats 4000000 in
set_option maxRecDepth 100000 in
theorem s1_Sets_isEmpty (l : Launch) (G : zG) (b0 : Nat) (b1 : Int32) (b2 : Int32) (b3 : Nat) (b4 : Nat) (b5 : Nat → Int64) (hb1 : zI b1 0 1) (hb2 : zI b2 0 2) (hb5 : zqa qB b5) : zM l G y_Sets_isEmpty prog_8_method_7_code 3 (Option.some Jvm.ClassFile.FieldType.boolean) m_s1_Sets_isEmpty [.ref b0, .int b1] [(b0, .inr (6, [.int b2, .int 4, .int 2, .ref b3, .ref b4])), (b3, .inl (G.2 1, 8, .inr (.inl b5)))] (fun v w => ∃ (e0 : Int32), v = some (.int e0) ∧ w = [(b0, .inr (6, [.int b2, .int 4, .int 2, .ref b3, .ref b4])), (b3, .inl (G.2 1, 8, .inr (.inl b5)))] ∧ (zI e0 0 1)) := by
  refine z_start (by decide +kernel) (Nat.le_of_ble_eq_true rfl) ?_
  intro p e s m below meth c A Z hr hnm hA hP hD hS ls hl
  have Z : zC p s m _ meth c prog_8_method_7_code 3 "TraceMachines$StateSets" G := Z
  obtain ⟨hx, hb, hml, hown, hts, hK, hN, hlocks⟩ := id Z
  have hl : lv_has ls 3 [(0, .ref b0), (1, .int b1)] := hl
  refine lv_iconst (v := 0) hx hb d_Sets_isEmpty_0 (by decide) ?_
  refine lv_istore_n (lv' := [(2, .int 0), (0, .ref b0), (1, .int b1)]) hx hb d_Sets_isEmpty_1 rfl hl (by decide) rfl (fun ls hl => ?_)
  suffices key : ∀ (k_69 : Nat) (y_70 : Int32) (H : Heap) (locs : List Loc) (ls : Array Slot), (zI y_70 0 4) → (4 : Int) - y_70.toInt < (k_69 : Int) → va_P G.1 classes [(b0, .inr (6, [.int b2, .int 4, .int 2, .ref b3, .ref b4])), (b3, .inl (G.2 1, 8, .inr (.inl b5)))] H → va_D A [(b0, .inr (6, [.int b2, .int 4, .int 2, .ref b3, .ref b4])), (b3, .inl (G.2 1, 8, .inr (.inl b5)))] → va_S A s.heap H locs → lv_has ls 3 [(2, .int y_70), (0, .ref b0), (1, .int b1)] → W p l e m_s1_Sets_isEmpty s m ([.ref b0, .int b1] : List Value).toArray below meth c H locs 0 0 (MQ below (zQ G (fun v w => ∃ (e0 : Int32), v = some (.int e0) ∧ w = [(b0, .inr (6, [.int b2, .int 4, .int 2, .ref b3, .ref b4])), (b3, .inl (G.2 1, 8, .inr (.inl b5)))] ∧ (zI e0 0 1)) A) ([.ref b0, .int b1] : List Value).toArray s m_s1_Sets_isEmpty.cells m_s1_Sets_isEmpty.slots A) (F0 m 2 ls []) by
    exact key 5 (0) _ _ _ (zI.wk (l' := 0) (h' := 4) zc_0 (by decide)) (zm_upi (zI.wk (l' := 0) (h' := 4) zc_0 (by decide)) (by decide)) hP hD hS (lv_sub hl [0, 1, 2] rfl)
  intro k_69
  induction k_69 with
  | zero =>
    intro y_70 H locs ls hy_70 hmk_69 hP hD hS hl
    exact (zm_up0 hy_70 hmk_69).elim
  | succ k_69 ihk_69 =>
    intro y_70 H locs ls hy_70 hmk_69 hP hD hS hl
    refine lv_iload_n hx hb d_Sets_isEmpty_2 rfl (lv_at hl 0 rfl) ?_
    refine lv_aload_n hx hb d_Sets_isEmpty_3 rfl (lv_at hl 1 rfl) ?_
    refine va_get (D := G.1) (ci := 6) (v := .int 4) (C := R_Sets) (T := F_Sets) (N := 5) hx hb hts i_Sets hown hK hP 0 rfl rfl 1 (by decide) (hts _ q242) (fun _ h9 => h9) rfl d_Sets_isEmpty_4 ?_
    refine lv_icmp_ge (tgt := 36) hx hb d_Sets_isEmpty_7 (by decide) (fun hc_71 => ?_) (fun hc_71 => ?_)
    · have _nhc_71 := hc_71
      have ni_72 := (fa_le _ _).mp hc_71
      rw [li_4] at ni_72
      have hv_73 : zI y_70 4 4 := zI.le_r zc_4 hy_70 hc_71 (by decide)
      refine lv_iconst (v := 1) hx hb d_Sets_isEmpty_36 (by decide) ?_
      exact z_zret hx hb hr hlocks rfl hP hD hS (Nat.le_of_ble_eq_true rfl) (Nat.le_of_ble_eq_true rfl) d_Sets_isEmpty_37 ⟨1, rfl, rfl, (zI.wk (l' := 0) (h' := 1) zc_1 (by decide))⟩
    · have _nhc_71 := hc_71
      have ni_74 := (fa_lt _ _).mp (zi_nle hc_71)
      rw [li_4] at ni_74
      have hv_75 : zI y_70 0 3 := zI.lt_l hy_70 zc_4 (zi_nle hc_71) (by decide)
      refine lv_aload_n hx hb d_Sets_isEmpty_10 rfl (lv_at hl 1 rfl) ?_
      refine va_get (D := G.1) (ci := 6) (v := .ref b3) (C := R_Sets) (T := F_Sets) (N := 5) hx hb hts i_Sets hown hK hP 0 rfl rfl 3 (by decide) (hts _ q244) (fun _ h9 => h9) rfl d_Sets_isEmpty_11 ?_
      refine lv_iload_n hx hb d_Sets_isEmpty_14 rfl (lv_at hl 2 rfl) ?_
      refine lv_aload_n hx hb d_Sets_isEmpty_15 rfl (lv_at hl 1 rfl) ?_
      refine va_get (D := G.1) (ci := 6) (v := .int 4) (C := R_Sets) (T := F_Sets) (N := 5) hx hb hts i_Sets hown hK hP 0 rfl rfl 1 (by decide) (hts _ q242) (fun _ h9 => h9) rfl d_Sets_isEmpty_16 ?_
      refine lv_imul hx hb d_Sets_isEmpty_19 ?_
      refine lv_topi (fun v_76 ev_76 => ?_)
      obtain ⟨qv_76, hv_76⟩ := zI_mul (l := 0) (h := 4) hb1 zc_4 ev_76 (by decide)
      rw [li_4] at qv_76
      refine lv_iload_n hx hb d_Sets_isEmpty_20 rfl (lv_at hl 0 rfl) ?_
      refine lv_iadd hx hb d_Sets_isEmpty_21 ?_
      refine lv_topi (fun v_77 ev_77 => ?_)
      obtain ⟨qv_77, hv_77⟩ := zI_add (l := 0) (h := 7) hv_76 hv_75 ev_77 (by decide)
      refine va_lald hx hb hK hP 1 1 rfl rfl (zI.inn hv_77 (by decide)) d_Sets_isEmpty_22 ?_
      refine lv_topl (fun v_78 ev_78 => ?_)
      have bv_78 := zQB.ld hb5 hv_77 ev_78 (by decide)
      refine lv_lconst (v := 0) hx hb d_Sets_isEmpty_23 (by decide) ?_
      refine W.lcmp hx hb d_Sets_isEmpty_24 ?_
      refine lv_topi (fun v_79 ev_79 => ?_)
      refine lv_if_eq (tgt := 30) hx hb d_Sets_isEmpty_25 (by decide) (fun hc_80 => ?_) (fun hc_80 => ?_)
      · have ni_81 := hc_80
        rw [ev_79] at ni_81
        simp only [lg_cmp_lt, lg_cmp_le, lg_cmp_gt, lg_cmp_ge, lg_cmp_eq, fa_lt64, fa_le64, fa_eq64, Int32.toInt_toInt64, ll_0] at ni_81
        have hv_82 : zJ v_78 0 0 := by have _a := ni_81; have _b := (zJ_all v_78); have _c := zcl_0; simp only [Int32.toInt_toInt64] at *; exact ⟨by omega, by omega⟩
        obtain ⟨v_83, ev_83⟩ : ∃ z : Int32, z = y_70 + 1 := ⟨_, rfl⟩
        obtain ⟨qv_83, hv_83⟩ := zI_add (l := 1) (h := 4) hv_75 zc_1 ev_83 (by decide)
        rw [li_1] at qv_83
        refine lv_iinc (v := v_83) (lv' := [(2, .int v_83), (0, .ref b0), (1, .int b1)]) hx hb d_Sets_isEmpty_30 hl (k := 0) rfl (by rw [ev_83]; rfl) (by decide) rfl (fun ls hl => ?_)
        refine lv_goto (tgt := 2) hx hb d_Sets_isEmpty_33 (by decide) ?_
        exact ihk_69 (v_83) _ _ _ (zI.wk (l' := 0) (h' := 4) hv_83 (by decide)) (zm_up qv_83 hmk_69 (by decide)) hP hD hS (lv_sub hl [0, 1, 2] rfl)
      · have ni_84 := hc_80
        rw [ev_79] at ni_84
        simp only [lg_cmp_lt, lg_cmp_le, lg_cmp_gt, lg_cmp_ge, lg_cmp_eq, fa_lt64, fa_le64, fa_eq64, Int32.toInt_toInt64, ll_0] at ni_84
        refine lv_iconst (v := 0) hx hb d_Sets_isEmpty_28 (by decide) ?_
        exact z_zret hx hb hr hlocks rfl hP hD hS (Nat.le_of_ble_eq_true rfl) (Nat.le_of_ble_eq_true rfl) d_Sets_isEmpty_29 ⟨0, rfl, rfl, (zI.wk (l' := 0) (h' := 1) zc_0 (by decide))⟩
theorem d_Sets_moveRow_0 : decode prog_8_method_10_code 0 = .ok (.iconst 0, 1) := by decide +kernel
theorem d_Sets_moveRow_1 : decode prog_8_method_10_code 1 = .ok (.istore_n 3, 1) := by decide +kernel
theorem d_Sets_moveRow_2 : decode prog_8_method_10_code 2 = .ok (.iload_n 3, 1) := by decide +kernel
theorem d_Sets_moveRow_3 : decode prog_8_method_10_code 3 = .ok (.aload_n 0, 1) := by decide +kernel
theorem d_Sets_moveRow_4 : decode prog_8_method_10_code 4 = .ok (.getfield 15, 3) := by decide +kernel
theorem d_Sets_moveRow_7 : decode prog_8_method_10_code 7 = .ok (.if_icmp .ge 49, 3) := by decide +kernel
theorem d_Sets_moveRow_10 : decode prog_8_method_10_code 10 = .ok (.aload_n 0, 1) := by decide +kernel
theorem d_Sets_moveRow_11 : decode prog_8_method_10_code 11 = .ok (.getfield 18, 3) := by decide +kernel
theorem d_Sets_moveRow_14 : decode prog_8_method_10_code 14 = .ok (.iload_n 2, 1) := by decide +kernel
theorem d_Sets_moveRow_15 : decode prog_8_method_10_code 15 = .ok (.aload_n 0, 1) := by decide +kernel
theorem d_Sets_moveRow_16 : decode prog_8_method_10_code 16 = .ok (.getfield 15, 3) := by decide +kernel
theorem d_Sets_moveRow_19 : decode prog_8_method_10_code 19 = .ok (.imul, 1) := by decide +kernel
theorem d_Sets_moveRow_20 : decode prog_8_method_10_code 20 = .ok (.iload_n 3, 1) := by decide +kernel
theorem d_Sets_moveRow_21 : decode prog_8_method_10_code 21 = .ok (.iadd, 1) := by decide +kernel
theorem d_Sets_moveRow_22 : decode prog_8_method_10_code 22 = .ok (.aload_n 0, 1) := by decide +kernel
theorem d_Sets_moveRow_23 : decode prog_8_method_10_code 23 = .ok (.getfield 18, 3) := by decide +kernel
theorem d_Sets_moveRow_26 : decode prog_8_method_10_code 26 = .ok (.iload_n 1, 1) := by decide +kernel
theorem d_Sets_moveRow_27 : decode prog_8_method_10_code 27 = .ok (.aload_n 0, 1) := by decide +kernel
theorem d_Sets_moveRow_28 : decode prog_8_method_10_code 28 = .ok (.getfield 15, 3) := by decide +kernel
theorem d_Sets_moveRow_31 : decode prog_8_method_10_code 31 = .ok (.imul, 1) := by decide +kernel
theorem d_Sets_moveRow_32 : decode prog_8_method_10_code 32 = .ok (.iload_n 3, 1) := by decide +kernel
theorem d_Sets_moveRow_33 : decode prog_8_method_10_code 33 = .ok (.iadd, 1) := by decide +kernel
theorem d_Sets_moveRow_34 : decode prog_8_method_10_code 34 = .ok (.laload, 1) := by decide +kernel
theorem d_Sets_moveRow_35 : decode prog_8_method_10_code 35 = .ok (.lastore, 1) := by decide +kernel
theorem d_Sets_moveRow_36 : decode prog_8_method_10_code 36 = .ok (.aload_n 0, 1) := by decide +kernel
theorem d_Sets_moveRow_37 : decode prog_8_method_10_code 37 = .ok (.getfield 18, 3) := by decide +kernel
theorem d_Sets_moveRow_40 : decode prog_8_method_10_code 40 = .ok (.iload_n 1, 1) := by decide +kernel
theorem d_Sets_moveRow_41 : decode prog_8_method_10_code 41 = .ok (.aload_n 0, 1) := by decide +kernel
theorem d_Sets_moveRow_42 : decode prog_8_method_10_code 42 = .ok (.getfield 15, 3) := by decide +kernel
theorem d_Sets_moveRow_45 : decode prog_8_method_10_code 45 = .ok (.imul, 1) := by decide +kernel
theorem d_Sets_moveRow_46 : decode prog_8_method_10_code 46 = .ok (.iload_n 3, 1) := by decide +kernel
theorem d_Sets_moveRow_47 : decode prog_8_method_10_code 47 = .ok (.iadd, 1) := by decide +kernel
theorem d_Sets_moveRow_48 : decode prog_8_method_10_code 48 = .ok (.lconst 0, 1) := by decide +kernel
theorem d_Sets_moveRow_49 : decode prog_8_method_10_code 49 = .ok (.lastore, 1) := by decide +kernel
theorem d_Sets_moveRow_50 : decode prog_8_method_10_code 50 = .ok (.iinc 3 1, 3) := by decide +kernel
theorem d_Sets_moveRow_53 : decode prog_8_method_10_code 53 = .ok (.goto (-51), 3) := by decide +kernel
theorem d_Sets_moveRow_56 : decode prog_8_method_10_code 56 = .ok (.return_, 1) := by decide +kernel
abbrev m_s1_Sets_moveRow : Room := { frames := 0, cells := 0, slots := 0, locals := 0 }
set_option maxHeartbeats 4000000 in
set_option maxRecDepth 100000 in
theorem s1_Sets_moveRow (l : Launch) (G : zG) (b0 : Nat) (b1 : Int32) (b2 : Int32) (b3 : Int32) (b4 : Nat) (b5 : Nat) (b6 : Nat → Int64) (hb1 : zI b1 0 1) (hb2 : zI b2 0 1) (hb3 : zI b3 0 2) (hb6 : zqa qB b6) : zM l G y_Sets_moveRow prog_8_method_10_code 4 (Option.none : Option Jvm.ClassFile.FieldType) m_s1_Sets_moveRow [.ref b0, .int b1, .int b2] [(b0, .inr (6, [.int b3, .int 4, .int 2, .ref b4, .ref b5])), (b4, .inl (G.2 1, 8, .inr (.inl b6)))] (fun v w => ∃ (e0 : Nat → Int64), v = none ∧ w = [(b0, .inr (6, [.int b3, .int 4, .int 2, .ref b4, .ref b5])), (b4, .inl (G.2 1, 8, .inr (.inl e0)))] ∧ (zqa qB e0)) := by
  refine z_start (by decide +kernel) (Nat.le_of_ble_eq_true rfl) ?_
  intro p e s m below meth c A Z hr hnm hA hP hD hS ls hl
  have Z : zC p s m _ meth c prog_8_method_10_code 4 "TraceMachines$StateSets" G := Z
  obtain ⟨hx, hb, hml, hown, hts, hK, hN, hlocks⟩ := id Z
  have hl : lv_has ls 4 [(0, .ref b0), (1, .int b1), (2, .int b2)] := hl
  refine lv_iconst (v := 0) hx hb d_Sets_moveRow_0 (by decide) ?_
  refine lv_istore_n (lv' := [(3, .int 0), (0, .ref b0), (1, .int b1), (2, .int b2)]) hx hb d_Sets_moveRow_1 rfl hl (by decide) rfl (fun ls hl => ?_)
  suffices key : ∀ (k_80 : Nat) (y_81 : Int32) (y_82 : Nat → Int64) (H : Heap) (locs : List Loc) (ls : Array Slot), (zI y_81 0 4) → (zqa qB y_82) → (4 : Int) - y_81.toInt < (k_80 : Int) → va_P G.1 classes [(b0, .inr (6, [.int b3, .int 4, .int 2, .ref b4, .ref b5])), (b4, .inl (G.2 1, 8, .inr (.inl y_82)))] H → va_D A [(b0, .inr (6, [.int b3, .int 4, .int 2, .ref b4, .ref b5])), (b4, .inl (G.2 1, 8, .inr (.inl y_82)))] → va_S A s.heap H locs → lv_has ls 4 [(3, .int y_81), (0, .ref b0), (1, .int b1), (2, .int b2)] → W p l e m_s1_Sets_moveRow s m ([.ref b0, .int b1, .int b2] : List Value).toArray below meth c H locs 0 0 (MQ below (zQ G (fun v w => ∃ (e0 : Nat → Int64), v = none ∧ w = [(b0, .inr (6, [.int b3, .int 4, .int 2, .ref b4, .ref b5])), (b4, .inl (G.2 1, 8, .inr (.inl e0)))] ∧ (zqa qB e0)) A) ([.ref b0, .int b1, .int b2] : List Value).toArray s m_s1_Sets_moveRow.cells m_s1_Sets_moveRow.slots A) (F0 m 2 ls []) by
    exact key 5 (0) (b6) _ _ _ (zI.wk (l' := 0) (h' := 4) zc_0 (by decide)) hb6 (zm_upi (zI.wk (l' := 0) (h' := 4) zc_0 (by decide)) (by decide)) hP hD hS (lv_sub hl [0, 1, 2, 3] rfl)
  intro k_80
  induction k_80 with
  | zero =>
    intro y_81 y_82 H locs ls hy_81 hy_82 hmk_80 hP hD hS hl
    exact (zm_up0 hy_81 hmk_80).elim
  | succ k_80 ihk_80 =>
    intro y_81 y_82 H locs ls hy_81 hy_82 hmk_80 hP hD hS hl
    refine lv_iload_n hx hb d_Sets_moveRow_2 rfl (lv_at hl 0 rfl) ?_
    refine lv_aload_n hx hb d_Sets_moveRow_3 rfl (lv_at hl 1 rfl) ?_
    refine va_get (D := G.1) (ci := 6) (v := .int 4) (C := R_Sets) (T := F_Sets) (N := 5) hx hb hts i_Sets hown hK hP 0 rfl rfl 1 (by decide) (hts _ q242) (fun _ h9 => h9) rfl d_Sets_moveRow_4 ?_
    refine lv_icmp_ge (tgt := 56) hx hb d_Sets_moveRow_7 (by decide) (fun hc_83 => ?_) (fun hc_83 => ?_)
    · have _nhc_83 := hc_83
      have ni_84 := (fa_le _ _).mp hc_83
      rw [li_4] at ni_84
      have hv_85 : zI y_81 4 4 := zI.le_r zc_4 hy_81 hc_83 (by decide)
      exact z_vret hx hb hr hlocks hP hD hS (Nat.le_of_ble_eq_true rfl) (Nat.le_of_ble_eq_true rfl) d_Sets_moveRow_56 ⟨y_82, rfl, rfl, hy_82⟩
    · have _nhc_83 := hc_83
      have ni_86 := (fa_lt _ _).mp (zi_nle hc_83)
      rw [li_4] at ni_86
      have hv_87 : zI y_81 0 3 := zI.lt_l hy_81 zc_4 (zi_nle hc_83) (by decide)
      refine lv_aload_n hx hb d_Sets_moveRow_10 rfl (lv_at hl 1 rfl) ?_
      refine va_get (D := G.1) (ci := 6) (v := .ref b4) (C := R_Sets) (T := F_Sets) (N := 5) hx hb hts i_Sets hown hK hP 0 rfl rfl 3 (by decide) (hts _ q244) (fun _ h9 => h9) rfl d_Sets_moveRow_11 ?_
      refine lv_iload_n hx hb d_Sets_moveRow_14 rfl (lv_at hl 3 rfl) ?_
      refine lv_aload_n hx hb d_Sets_moveRow_15 rfl (lv_at hl 1 rfl) ?_
      refine va_get (D := G.1) (ci := 6) (v := .int 4) (C := R_Sets) (T := F_Sets) (N := 5) hx hb hts i_Sets hown hK hP 0 rfl rfl 1 (by decide) (hts _ q242) (fun _ h9 => h9) rfl d_Sets_moveRow_16 ?_
      refine lv_imul hx hb d_Sets_moveRow_19 ?_
      refine lv_topi (fun v_88 ev_88 => ?_)
      obtain ⟨qv_88, hv_88⟩ := zI_mul (l := 0) (h := 4) hb2 zc_4 ev_88 (by decide)
      rw [li_4] at qv_88
      refine lv_iload_n hx hb d_Sets_moveRow_20 rfl (lv_at hl 0 rfl) ?_
      refine lv_iadd hx hb d_Sets_moveRow_21 ?_
      refine lv_topi (fun v_89 ev_89 => ?_)
      obtain ⟨qv_89, hv_89⟩ := zI_add (l := 0) (h := 7) hv_88 hv_87 ev_89 (by decide)
      refine lv_aload_n hx hb d_Sets_moveRow_22 rfl (lv_at hl 1 rfl) ?_
      refine va_get (D := G.1) (ci := 6) (v := .ref b4) (C := R_Sets) (T := F_Sets) (N := 5) hx hb hts i_Sets hown hK hP 0 rfl rfl 3 (by decide) (hts _ q244) (fun _ h9 => h9) rfl d_Sets_moveRow_23 ?_
      refine lv_iload_n hx hb d_Sets_moveRow_26 rfl (lv_at hl 2 rfl) ?_
      refine lv_aload_n hx hb d_Sets_moveRow_27 rfl (lv_at hl 1 rfl) ?_
      refine va_get (D := G.1) (ci := 6) (v := .int 4) (C := R_Sets) (T := F_Sets) (N := 5) hx hb hts i_Sets hown hK hP 0 rfl rfl 1 (by decide) (hts _ q242) (fun _ h9 => h9) rfl d_Sets_moveRow_28 ?_
      refine lv_imul hx hb d_Sets_moveRow_31 ?_
      refine lv_topi (fun v_90 ev_90 => ?_)
      obtain ⟨qv_90, hv_90⟩ := zI_mul (l := 0) (h := 4) hb1 zc_4 ev_90 (by decide)
      rw [li_4] at qv_90
      refine lv_iload_n hx hb d_Sets_moveRow_32 rfl (lv_at hl 0 rfl) ?_
      refine lv_iadd hx hb d_Sets_moveRow_33 ?_
      refine lv_topi (fun v_91 ev_91 => ?_)
      obtain ⟨qv_91, hv_91⟩ := zI_add (l := 0) (h := 7) hv_90 hv_87 ev_91 (by decide)
      refine va_lald hx hb hK hP 1 1 rfl rfl (zI.inn hv_91 (by decide)) d_Sets_moveRow_34 ?_
      refine lv_topl (fun v_92 ev_92 => ?_)
      have bv_92 := zQB.ld hy_82 hv_91 ev_92 (by decide)
      refine va_last hx hb hK hP hD hS 1 1 rfl rfl (zI.inn hv_89 (by decide)) d_Sets_moveRow_35 (fun H locs hP hD hS => ?_)
      obtain ⟨f_93, hf_93, uf_93, hP, hD⟩ := z_newlb 1 hP hD rfl hy_82 (qB_v hv_89 (by decide) (fun h9 => bv_92 (by omega)))
      have hP : va_P G.1 classes [(b0, .inr (6, [.int b3, .int 4, .int 2, .ref b4, .ref b5])), (b4, .inl (G.2 1, 8, .inr (.inl f_93)))] H := hP
      have hD := z_tie hP hD rfl
      refine lv_aload_n hx hb d_Sets_moveRow_36 rfl (lv_at hl 1 rfl) ?_
      refine va_get (D := G.1) (ci := 6) (v := .ref b4) (C := R_Sets) (T := F_Sets) (N := 5) hx hb hts i_Sets hown hK hP 0 rfl rfl 3 (by decide) (hts _ q244) (fun _ h9 => h9) rfl d_Sets_moveRow_37 ?_
      refine lv_iload_n hx hb d_Sets_moveRow_40 rfl (lv_at hl 2 rfl) ?_
      refine lv_aload_n hx hb d_Sets_moveRow_41 rfl (lv_at hl 1 rfl) ?_
      refine va_get (D := G.1) (ci := 6) (v := .int 4) (C := R_Sets) (T := F_Sets) (N := 5) hx hb hts i_Sets hown hK hP 0 rfl rfl 1 (by decide) (hts _ q242) (fun _ h9 => h9) rfl d_Sets_moveRow_42 ?_
      refine lv_imul hx hb d_Sets_moveRow_45 ?_
      refine lv_topi (fun v_94 ev_94 => ?_)
      obtain rfl : v_90 = v_94 := ev_90.trans ev_94.symm
      refine lv_iload_n hx hb d_Sets_moveRow_46 rfl (lv_at hl 0 rfl) ?_
      refine lv_iadd hx hb d_Sets_moveRow_47 ?_
      refine lv_topi (fun v_95 ev_95 => ?_)
      obtain rfl : v_91 = v_95 := ev_91.trans ev_95.symm
      refine lv_lconst (v := 0) hx hb d_Sets_moveRow_48 (by decide) ?_
      refine va_last hx hb hK hP hD hS 1 1 rfl rfl (zI.inn hv_91 (by decide)) d_Sets_moveRow_49 (fun H locs hP hD hS => ?_)
      obtain ⟨f_96, hf_96, uf_96, hP, hD⟩ := z_newlb 1 hP hD rfl hf_93 (qB_v hv_91 (by decide) (fun _ => by decide +kernel))
      have hP : va_P G.1 classes [(b0, .inr (6, [.int b3, .int 4, .int 2, .ref b4, .ref b5])), (b4, .inl (G.2 1, 8, .inr (.inl f_96)))] H := hP
      have hD := z_tie hP hD rfl
      obtain ⟨v_97, ev_97⟩ : ∃ z : Int32, z = y_81 + 1 := ⟨_, rfl⟩
      obtain ⟨qv_97, hv_97⟩ := zI_add (l := 1) (h := 4) hv_87 zc_1 ev_97 (by decide)
      rw [li_1] at qv_97
      refine lv_iinc (v := v_97) (lv' := [(3, .int v_97), (0, .ref b0), (1, .int b1), (2, .int b2)]) hx hb d_Sets_moveRow_50 hl (k := 0) rfl (by rw [ev_97]; rfl) (by decide) rfl (fun ls hl => ?_)
      refine lv_goto (tgt := 2) hx hb d_Sets_moveRow_53 (by decide) ?_
      exact ihk_80 (v_97) (f_96) _ _ _ (zI.wk (l' := 0) (h' := 4) hv_97 (by decide)) hf_96 (zm_up qv_97 hmk_80 (by decide)) hP hD hS (lv_sub hl [0, 1, 2, 3] rfl)
