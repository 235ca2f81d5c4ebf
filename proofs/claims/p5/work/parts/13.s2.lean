theorem d_Machine_from_0 : decode prog_4_method_2_code 0 = .ok (.aload_n 0, 1) := by decide +kernel
theorem d_Machine_from_1 : decode prog_4_method_2_code 1 = .ok (.getfield 33, 3) := by decide +kernel
theorem d_Machine_from_4 : decode prog_4_method_2_code 4 = .ok (.iload_n 1, 1) := by decide +kernel
theorem d_Machine_from_5 : decode prog_4_method_2_code 5 = .ok (.iaload, 1) := by decide +kernel
theorem d_Machine_from_6 : decode prog_4_method_2_code 6 = .ok (.sipush 2560, 3) := by decide +kernel
theorem d_Machine_from_9 : decode prog_4_method_2_code 9 = .ok (.idiv, 1) := by decide +kernel
theorem d_Machine_from_10 : decode prog_4_method_2_code 10 = .ok (.ireturn, 1) := by decide +kernel
abbrev m_s1_Machine_from : Room := { frames := 0, cells := 0, slots := 0, locals := 0 }
set_option maxHeartbeats 4000000 in
set_option maxRecDepth 100000 in
theorem s1_Machine_from (l : Launch) (G : zG) (b0 : Nat) (b1 : Int32) (b2 : Int32) (b3 : Int32) (b4 : Nat) (b5 : Nat) (b6 : Nat) (b7 : Nat) (b8 : Nat) (b9 : Nat) (b10 : Int32) (b11 : Nat) (b12 : Nat) (b13 : Nat) (b14 : Nat) (b15 : Nat) (b16 : Nat) (b17 : Nat → Int32) (hb1 : zI b1 0 239) (hb2 : zI b2 0 1) (hb3 : zI b3 0 241) (hb10 : zI b10 0 240) (hb17 : zK b17) : zM l G y_Machine_from prog_4_method_2_code 2 (Option.some Jvm.ClassFile.FieldType.int) m_s1_Machine_from [.ref b0, .int b1] [(b0, .inr (5, [.int b2, .int b3, .ref b4, .ref b5, .ref b6, .ref b7, .ref b8, .ref b9, .int b10, .ref b11, .ref b12, .ref b13, .ref b14, .ref b15, .ref b16])), (b11, .inl (G.2 0, 240, .inl b17))] (fun v w => ∃ (e0 : Int32), v = some (.int e0) ∧ w = [(b0, .inr (5, [.int b2, .int b3, .ref b4, .ref b5, .ref b6, .ref b7, .ref b8, .ref b9, .int b10, .ref b11, .ref b12, .ref b13, .ref b14, .ref b15, .ref b16])), (b11, .inl (G.2 0, 240, .inl b17))] ∧ (zI e0 0 240)) := by
  refine z_start (by decide +kernel) (Nat.le_of_ble_eq_true rfl) ?_
  intro p e s m below meth c A Z hr hnm hA hP hD hS ls hl
  have Z : zC p s m _ meth c prog_4_method_2_code 2 "TraceMachines$Machine" G := Z
  obtain ⟨hx, hb, hml, hown, hts, hK, hN, hlocks⟩ := id Z
  have hl : lv_has ls 2 [(0, .ref b0), (1, .int b1)] := hl
  refine lv_aload_n hx hb d_Machine_from_0 rfl (lv_at hl 0 rfl) ?_
  refine va_get (D := G.1) (ci := 5) (v := .ref b11) (C := R_Machine) (T := F_Machine) (N := 15) hx hb hts i_Machine hown hK hP 0 rfl rfl 9 (by decide) (hts _ q186) (fun _ h9 => h9) rfl d_Machine_from_1 ?_
  refine lv_iload_n hx hb d_Machine_from_4 rfl (lv_at hl 1 rfl) ?_
  refine va_iald hx hb hK hP 1 0 rfl rfl (zI.inn hb1 (by decide)) d_Machine_from_5 ?_
  refine lv_topi (fun v_1 ev_1 => ?_)
  obtain ⟨hv_1, kv_1⟩ := zK.ld hb17 ev_1
  refine lv_sipush (v := 2560) hx hb d_Machine_from_6 (by decide) ?_
  refine lv_idiv hx hb d_Machine_from_9 (by decide +kernel) ?_
  refine lv_topi (fun v_2 ev_2 => ?_)
  obtain ⟨qv_2, hv_2⟩ := zI_div (l := 0) (h := 240) (d := 2560) hv_1 rfl ev_2 (by decide)
  exact z_iret hx hb hr hlocks hP hD hS (Nat.le_of_ble_eq_true rfl) (Nat.le_of_ble_eq_true rfl) d_Machine_from_10 ⟨v_2, rfl, rfl, hv_2⟩
theorem d_Machine_letter_0 : decode prog_4_method_3_code 0 = .ok (.aload_n 0, 1) := by decide +kernel
theorem d_Machine_letter_1 : decode prog_4_method_3_code 1 = .ok (.getfield 33, 3) := by decide +kernel
theorem d_Machine_letter_4 : decode prog_4_method_3_code 4 = .ok (.iload_n 1, 1) := by decide +kernel
theorem d_Machine_letter_5 : decode prog_4_method_3_code 5 = .ok (.iaload, 1) := by decide +kernel
theorem d_Machine_letter_6 : decode prog_4_method_3_code 6 = .ok (.sipush 256, 3) := by decide +kernel
theorem d_Machine_letter_9 : decode prog_4_method_3_code 9 = .ok (.idiv, 1) := by decide +kernel
theorem d_Machine_letter_10 : decode prog_4_method_3_code 10 = .ok (.bipush 10, 2) := by decide +kernel
theorem d_Machine_letter_12 : decode prog_4_method_3_code 12 = .ok (.irem, 1) := by decide +kernel
theorem d_Machine_letter_13 : decode prog_4_method_3_code 13 = .ok (.ireturn, 1) := by decide +kernel
abbrev m_s1_Machine_letter : Room := { frames := 0, cells := 0, slots := 0, locals := 0 }
set_option maxHeartbeats 4000000 in
set_option maxRecDepth 100000 in
theorem s1_Machine_letter (l : Launch) (G : zG) (b0 : Nat) (b1 : Int32) (b2 : Int32) (b3 : Int32) (b4 : Nat) (b5 : Nat) (b6 : Nat) (b7 : Nat) (b8 : Nat) (b9 : Nat) (b10 : Int32) (b11 : Nat) (b12 : Nat) (b13 : Nat) (b14 : Nat) (b15 : Nat) (b16 : Nat) (b17 : Nat → Int32) (hb1 : zI b1 0 239) (hb2 : zI b2 0 1) (hb3 : zI b3 0 241) (hb10 : zI b10 0 240) (hb17 : zK b17) : zM l G y_Machine_letter prog_4_method_3_code 2 (Option.some Jvm.ClassFile.FieldType.int) m_s1_Machine_letter [.ref b0, .int b1] [(b0, .inr (5, [.int b2, .int b3, .ref b4, .ref b5, .ref b6, .ref b7, .ref b8, .ref b9, .int b10, .ref b11, .ref b12, .ref b13, .ref b14, .ref b15, .ref b16])), (b11, .inl (G.2 0, 240, .inl b17))] (fun v w => ∃ (e0 : Int32), v = some (.int e0) ∧ w = [(b0, .inr (5, [.int b2, .int b3, .ref b4, .ref b5, .ref b6, .ref b7, .ref b8, .ref b9, .int b10, .ref b11, .ref b12, .ref b13, .ref b14, .ref b15, .ref b16])), (b11, .inl (G.2 0, 240, .inl b17))] ∧ (zI e0 0 9)) := by
  refine z_start (by decide +kernel) (Nat.le_of_ble_eq_true rfl) ?_
  intro p e s m below meth c A Z hr hnm hA hP hD hS ls hl
  have Z : zC p s m _ meth c prog_4_method_3_code 2 "TraceMachines$Machine" G := Z
  obtain ⟨hx, hb, hml, hown, hts, hK, hN, hlocks⟩ := id Z
  have hl : lv_has ls 2 [(0, .ref b0), (1, .int b1)] := hl
  refine lv_aload_n hx hb d_Machine_letter_0 rfl (lv_at hl 0 rfl) ?_
  refine va_get (D := G.1) (ci := 5) (v := .ref b11) (C := R_Machine) (T := F_Machine) (N := 15) hx hb hts i_Machine hown hK hP 0 rfl rfl 9 (by decide) (hts _ q186) (fun _ h9 => h9) rfl d_Machine_letter_1 ?_
  refine lv_iload_n hx hb d_Machine_letter_4 rfl (lv_at hl 1 rfl) ?_
  refine va_iald hx hb hK hP 1 0 rfl rfl (zI.inn hb1 (by decide)) d_Machine_letter_5 ?_
  refine lv_topi (fun v_1 ev_1 => ?_)
  obtain ⟨hv_1, kv_1⟩ := zK.ld hb17 ev_1
  refine lv_sipush (v := 256) hx hb d_Machine_letter_6 (by decide) ?_
  refine lv_idiv hx hb d_Machine_letter_9 (by decide +kernel) ?_
  refine lv_topi (fun v_2 ev_2 => ?_)
  obtain ⟨qv_2, hv_2⟩ := zI_div (l := 0) (h := 2409) (d := 256) hv_1 rfl ev_2 (by decide)
  refine lv_bipush (v := 10) hx hb d_Machine_letter_10 (by decide) ?_
  refine lv_irem hx hb d_Machine_letter_12 (by decide +kernel) ?_
  refine lv_topi (fun v_3 ev_3 => ?_)
  obtain ⟨qv_3, hv_3⟩ := zI_rem (h := 9) (d := 10) hv_2 rfl ev_3 (by decide)
  exact z_iret hx hb hr hlocks hP hD hS (Nat.le_of_ble_eq_true rfl) (Nat.le_of_ble_eq_true rfl) d_Machine_letter_13 ⟨v_3, rfl, rfl, hv_3⟩
theorem d_Machine_to_0 : decode prog_4_method_4_code 0 = .ok (.aload_n 0, 1) := by decide +kernel
theorem d_Machine_to_1 : decode prog_4_method_4_code 1 = .ok (.getfield 33, 3) := by decide +kernel
theorem d_Machine_to_4 : decode prog_4_method_4_code 4 = .ok (.iload_n 1, 1) := by decide +kernel
theorem d_Machine_to_5 : decode prog_4_method_4_code 5 = .ok (.iaload, 1) := by decide +kernel
theorem d_Machine_to_6 : decode prog_4_method_4_code 6 = .ok (.sipush 256, 3) := by decide +kernel
theorem d_Machine_to_9 : decode prog_4_method_4_code 9 = .ok (.irem, 1) := by decide +kernel
theorem d_Machine_to_10 : decode prog_4_method_4_code 10 = .ok (.ireturn, 1) := by decide +kernel
abbrev m_s1_Machine_to : Room := { frames := 0, cells := 0, slots := 0, locals := 0 }
set_option maxHeartbeats 4000000 in
set_option maxRecDepth 100000 in
theorem s1_Machine_to (l : Launch) (G : zG) (b0 : Nat) (b1 : Int32) (b2 : Int32) (b3 : Int32) (b4 : Nat) (b5 : Nat) (b6 : Nat) (b7 : Nat) (b8 : Nat) (b9 : Nat) (b10 : Int32) (b11 : Nat) (b12 : Nat) (b13 : Nat) (b14 : Nat) (b15 : Nat) (b16 : Nat) (b17 : Nat → Int32) (hb1 : zI b1 0 239) (hb2 : zI b2 0 1) (hb3 : zI b3 0 241) (hb10 : zI b10 0 240) (hb17 : zK b17) : zM l G y_Machine_to prog_4_method_4_code 2 (Option.some Jvm.ClassFile.FieldType.int) m_s1_Machine_to [.ref b0, .int b1] [(b0, .inr (5, [.int b2, .int b3, .ref b4, .ref b5, .ref b6, .ref b7, .ref b8, .ref b9, .int b10, .ref b11, .ref b12, .ref b13, .ref b14, .ref b15, .ref b16])), (b11, .inl (G.2 0, 240, .inl b17))] (fun v w => ∃ (e0 : Int32), v = some (.int e0) ∧ w = [(b0, .inr (5, [.int b2, .int b3, .ref b4, .ref b5, .ref b6, .ref b7, .ref b8, .ref b9, .int b10, .ref b11, .ref b12, .ref b13, .ref b14, .ref b15, .ref b16])), (b11, .inl (G.2 0, 240, .inl b17))] ∧ (zI e0 0 240)) := by
  refine z_start (by decide +kernel) (Nat.le_of_ble_eq_true rfl) ?_
  intro p e s m below meth c A Z hr hnm hA hP hD hS ls hl
  have Z : zC p s m _ meth c prog_4_method_4_code 2 "TraceMachines$Machine" G := Z
  obtain ⟨hx, hb, hml, hown, hts, hK, hN, hlocks⟩ := id Z
  have hl : lv_has ls 2 [(0, .ref b0), (1, .int b1)] := hl
  refine lv_aload_n hx hb d_Machine_to_0 rfl (lv_at hl 0 rfl) ?_
  refine va_get (D := G.1) (ci := 5) (v := .ref b11) (C := R_Machine) (T := F_Machine) (N := 15) hx hb hts i_Machine hown hK hP 0 rfl rfl 9 (by decide) (hts _ q186) (fun _ h9 => h9) rfl d_Machine_to_1 ?_
  refine lv_iload_n hx hb d_Machine_to_4 rfl (lv_at hl 1 rfl) ?_
  refine va_iald hx hb hK hP 1 0 rfl rfl (zI.inn hb1 (by decide)) d_Machine_to_5 ?_
  refine lv_topi (fun v_1 ev_1 => ?_)
  obtain ⟨hv_1, kv_1⟩ := zK.ld hb17 ev_1
  refine lv_sipush (v := 256) hx hb d_Machine_to_6 (by decide) ?_
  refine lv_irem hx hb d_Machine_to_9 (by decide +kernel) ?_
  refine lv_topi (fun v_2 ev_2 => ?_)
  obtain ⟨qv_2, hv_2⟩ := zI_rem (h := 255) (d := 256) hv_1 rfl ev_2 (by decide)
  have hv_3 : zI v_2 0 240 := ⟨by omega, by omega⟩
  exact z_iret hx hb hr hlocks hP hD hS (Nat.le_of_ble_eq_true rfl) (Nat.le_of_ble_eq_true rfl) d_Machine_to_10 ⟨v_2, rfl, rfl, hv_3⟩
theorem d_Machine_placeOf_0 : decode prog_4_method_8_code 0 = .ok (.iconst 0, 1) := by decide +kernel
theorem d_Machine_placeOf_1 : decode prog_4_method_8_code 1 = .ok (.istore_n 2, 1) := by decide +kernel
theorem d_Machine_placeOf_2 : decode prog_4_method_8_code 2 = .ok (.aload_n 0, 1) := by decide +kernel
theorem d_Machine_placeOf_3 : decode prog_4_method_8_code 3 = .ok (.getfield 103, 3) := by decide +kernel
theorem d_Machine_placeOf_6 : decode prog_4_method_8_code 6 = .ok (.istore_n 3, 1) := by decide +kernel
theorem d_Machine_placeOf_7 : decode prog_4_method_8_code 7 = .ok (.iload_n 2, 1) := by decide +kernel
theorem d_Machine_placeOf_8 : decode prog_4_method_8_code 8 = .ok (.iload_n 3, 1) := by decide +kernel
theorem d_Machine_placeOf_9 : decode prog_4_method_8_code 9 = .ok (.if_icmp .ge 35, 3) := by decide +kernel
theorem d_Machine_placeOf_12 : decode prog_4_method_8_code 12 = .ok (.iload_n 2, 1) := by decide +kernel
theorem d_Machine_placeOf_13 : decode prog_4_method_8_code 13 = .ok (.iload_n 3, 1) := by decide +kernel
theorem d_Machine_placeOf_14 : decode prog_4_method_8_code 14 = .ok (.iadd, 1) := by decide +kernel
theorem d_Machine_placeOf_15 : decode prog_4_method_8_code 15 = .ok (.iconst 2, 1) := by decide +kernel
theorem d_Machine_placeOf_16 : decode prog_4_method_8_code 16 = .ok (.idiv, 1) := by decide +kernel
theorem d_Machine_placeOf_17 : decode prog_4_method_8_code 17 = .ok (.istore 4, 2) := by decide +kernel
theorem d_Machine_placeOf_19 : decode prog_4_method_8_code 19 = .ok (.aload_n 0, 1) := by decide +kernel
theorem d_Machine_placeOf_20 : decode prog_4_method_8_code 20 = .ok (.getfield 33, 3) := by decide +kernel
theorem d_Machine_placeOf_23 : decode prog_4_method_8_code 23 = .ok (.iload 4, 2) := by decide +kernel
theorem d_Machine_placeOf_25 : decode prog_4_method_8_code 25 = .ok (.iaload, 1) := by decide +kernel
theorem d_Machine_placeOf_26 : decode prog_4_method_8_code 26 = .ok (.iload_n 1, 1) := by decide +kernel
theorem d_Machine_placeOf_27 : decode prog_4_method_8_code 27 = .ok (.if_icmp .ge 11, 3) := by decide +kernel
theorem d_Machine_placeOf_30 : decode prog_4_method_8_code 30 = .ok (.iload 4, 2) := by decide +kernel
theorem d_Machine_placeOf_32 : decode prog_4_method_8_code 32 = .ok (.iconst 1, 1) := by decide +kernel
theorem d_Machine_placeOf_33 : decode prog_4_method_8_code 33 = .ok (.iadd, 1) := by decide +kernel
theorem d_Machine_placeOf_34 : decode prog_4_method_8_code 34 = .ok (.istore_n 2, 1) := by decide +kernel
theorem d_Machine_placeOf_35 : decode prog_4_method_8_code 35 = .ok (.goto 6, 3) := by decide +kernel
theorem d_Machine_placeOf_38 : decode prog_4_method_8_code 38 = .ok (.iload 4, 2) := by decide +kernel
theorem d_Machine_placeOf_40 : decode prog_4_method_8_code 40 = .ok (.istore_n 3, 1) := by decide +kernel
theorem d_Machine_placeOf_41 : decode prog_4_method_8_code 41 = .ok (.goto (-34), 3) := by decide +kernel
theorem d_Machine_placeOf_44 : decode prog_4_method_8_code 44 = .ok (.iload_n 2, 1) := by decide +kernel
theorem d_Machine_placeOf_45 : decode prog_4_method_8_code 45 = .ok (.ireturn, 1) := by decide +kernel
abbrev m_s1_Machine_placeOf : Room := { frames := 0, cells := 0, slots := 0, locals := 0 }
set_option maxHeartbeats 4000000 in
set_option maxRecDepth 100000 in
theorem s1_Machine_placeOf (l : Launch) (G : zG) (b0 : Nat) (b1 : Int32) (b2 : Int32) (b3 : Int32) (b4 : Nat) (b5 : Nat) (b6 : Nat) (b7 : Nat) (b8 : Nat) (b9 : Nat) (b10 : Int32) (b11 : Nat) (b12 : Nat) (b13 : Nat) (b14 : Nat) (b15 : Nat) (b16 : Nat) (b17 : Nat → Int32) (hb2 : zI b2 0 1) (hb3 : zI b3 0 241) (hb10 : zI b10 0 240) (hb17 : zK b17) : zM l G y_Machine_placeOf prog_4_method_8_code 5 (Option.some Jvm.ClassFile.FieldType.int) m_s1_Machine_placeOf [.ref b0, .int b1] [(b0, .inr (5, [.int b2, .int b3, .ref b4, .ref b5, .ref b6, .ref b7, .ref b8, .ref b9, .int b10, .ref b11, .ref b12, .ref b13, .ref b14, .ref b15, .ref b16])), (b11, .inl (G.2 0, 240, .inl b17))] (fun v w => ∃ (e0 : Int32), v = some (.int e0) ∧ w = [(b0, .inr (5, [.int b2, .int b3, .ref b4, .ref b5, .ref b6, .ref b7, .ref b8, .ref b9, .int b10, .ref b11, .ref b12, .ref b13, .ref b14, .ref b15, .ref b16])), (b11, .inl (G.2 0, 240, .inl b17))] ∧ (zI e0 0 240) ∧ (e0.toInt ≤ b10.toInt) ∧ (e0.toInt < b10.toInt → b1.toInt ≤ (b17 e0.toInt.toNat).toInt) ∧ (e0.toInt = b10.toInt → b10.toInt = 0 ∨ (b17 (b10.toInt - 1).toNat).toInt < b1.toInt)) := by
  refine z_start (by decide +kernel) (Nat.le_of_ble_eq_true rfl) ?_
  intro p e s m below meth c A Z hr hnm hA hP hD hS ls hl
  have Z : zC p s m _ meth c prog_4_method_8_code 5 "TraceMachines$Machine" G := Z
  obtain ⟨hx, hb, hml, hown, hts, hK, hN, hlocks⟩ := id Z
  have hl : lv_has ls 5 [(0, .ref b0), (1, .int b1)] := hl
  refine lv_iconst (v := 0) hx hb d_Machine_placeOf_0 (by decide) ?_
  refine lv_istore_n (lv' := [(2, .int 0), (0, .ref b0), (1, .int b1)]) hx hb d_Machine_placeOf_1 rfl hl (by decide) rfl (fun ls hl => ?_)
  refine lv_aload_n hx hb d_Machine_placeOf_2 rfl (lv_at hl 1 rfl) ?_
  refine va_get (D := G.1) (ci := 5) (v := .int b10) (C := R_Machine) (T := F_Machine) (N := 15) hx hb hts i_Machine hown hK hP 0 rfl rfl 8 (by decide) (hts _ q184) (fun _ h9 => h9) rfl d_Machine_placeOf_3 ?_
  refine lv_istore_n (lv' := [(3, .int b10), (2, .int 0), (0, .ref b0), (1, .int b1)]) hx hb d_Machine_placeOf_6 rfl hl (by decide) rfl (fun ls hl => ?_)
  suffices key : ∀ (k_17 : Nat) (y_18 : Int32) (y_19 : Int32) (H : Heap) (locs : List Loc) (ls : Array Slot), (zI y_18 0 240) → (zI y_19 0 240) → (y_19.toInt ≤ y_18.toInt) → (y_18.toInt ≤ b10.toInt) → ((y_18 : Int32).toInt < b10.toInt → b1.toInt ≤ (b17 (y_18 : Int32).toInt.toNat).toInt) → ((y_19 : Int32).toInt = 0 ∨ (b17 ((y_19 : Int32).toInt - 1).toNat).toInt < b1.toInt) → y_18.toInt - y_19.toInt < (k_17 : Int) → va_P G.1 classes [(b0, .inr (5, [.int b2, .int b3, .ref b4, .ref b5, .ref b6, .ref b7, .ref b8, .ref b9, .int b10, .ref b11, .ref b12, .ref b13, .ref b14, .ref b15, .ref b16])), (b11, .inl (G.2 0, 240, .inl b17))] H → va_D A [(b0, .inr (5, [.int b2, .int b3, .ref b4, .ref b5, .ref b6, .ref b7, .ref b8, .ref b9, .int b10, .ref b11, .ref b12, .ref b13, .ref b14, .ref b15, .ref b16])), (b11, .inl (G.2 0, 240, .inl b17))] → va_S A s.heap H locs → lv_has ls 5 [(3, .int y_18), (2, .int y_19), (0, .ref b0), (1, .int b1)] → W p l e m_s1_Machine_placeOf s m ([.ref b0, .int b1] : List Value).toArray below meth c H locs 0 0 (MQ below (zQ G (fun v w => ∃ (e0 : Int32), v = some (.int e0) ∧ w = [(b0, .inr (5, [.int b2, .int b3, .ref b4, .ref b5, .ref b6, .ref b7, .ref b8, .ref b9, .int b10, .ref b11, .ref b12, .ref b13, .ref b14, .ref b15, .ref b16])), (b11, .inl (G.2 0, 240, .inl b17))] ∧ (zI e0 0 240) ∧ (e0.toInt ≤ b10.toInt) ∧ (e0.toInt < b10.toInt → b1.toInt ≤ (b17 e0.toInt.toNat).toInt) ∧ (e0.toInt = b10.toInt → b10.toInt = 0 ∨ (b17 (b10.toInt - 1).toNat).toInt < b1.toInt)) A) ([.ref b0, .int b1] : List Value).toArray s m_s1_Machine_placeOf.cells m_s1_Machine_placeOf.slots A) (F0 m 7 ls []) by
    exact key 242 (b10) (0) _ _ _ hb10 (zI.wk (l' := 0) (h' := 240) zc_0 (by decide)) (by have _l0 := li_0; omega) (by omega) (fun h9 => absurd h9 (Int.lt_irrefl _)) (Or.inl li_0) (by have _l := li_0; omega) hP hD hS (lv_sub hl [0, 1, 2, 3] rfl)
  intro k_17
  induction k_17 with
  | zero =>
    intro y_18 y_19 H locs ls hy_18 hy_19 hli_20 hli_21 hli_22 hli_23 hmk_17 hP hD hS hl
    exfalso; omega
  | succ k_17 ihk_17 =>
    intro y_18 y_19 H locs ls hy_18 hy_19 hli_20 hli_21 hli_22 hli_23 hmk_17 hP hD hS hl
    refine lv_iload_n hx hb d_Machine_placeOf_7 rfl (lv_at hl 1 rfl) ?_
    refine lv_iload_n hx hb d_Machine_placeOf_8 rfl (lv_at hl 0 rfl) ?_
    refine lv_icmp_ge (tgt := 44) hx hb d_Machine_placeOf_9 (by decide) (fun hc_24 => ?_) (fun hc_24 => ?_)
    · have _nhc_24 := hc_24
      have ni_25 := (fa_le _ _).mp hc_24
      refine lv_iload_n hx hb d_Machine_placeOf_44 rfl (lv_at hl 1 rfl) ?_
      exact z_iret hx hb hr hlocks hP hD hS (Nat.le_of_ble_eq_true rfl) (Nat.le_of_ble_eq_true rfl) d_Machine_placeOf_45 ⟨y_19, rfl, rfl, hy_19, (by omega), (fun h9 => by have h8 : y_19.toInt = y_18.toInt := (by omega); rw [h8]; exact hli_22 (by omega)), (fun h9 => by rcases hli_23 with h8 | h8; left; omega; right; rw [← h9]; exact h8)⟩
    · have _nhc_24 := hc_24
      have ni_26 := (fa_lt _ _).mp (zi_nle hc_24)
      have hv_27 : zI y_19 0 239 := zI.lt_l hy_19 hy_18 (zi_nle hc_24) (by decide)
      have hv_28 : zI y_18 1 240 := zI.lt_r hy_19 hy_18 (zi_nle hc_24) (by decide)
      refine lv_iload_n hx hb d_Machine_placeOf_12 rfl (lv_at hl 1 rfl) ?_
      refine lv_iload_n hx hb d_Machine_placeOf_13 rfl (lv_at hl 0 rfl) ?_
      refine lv_iadd hx hb d_Machine_placeOf_14 ?_
      refine lv_topi (fun v_29 ev_29 => ?_)
      obtain ⟨qv_29, hv_29⟩ := zI_add (l := 1) (h := 479) hv_27 hv_28 ev_29 (by decide)
      refine lv_iconst (v := 2) hx hb d_Machine_placeOf_15 (by decide) ?_
      refine lv_idiv hx hb d_Machine_placeOf_16 (by decide +kernel) ?_
      refine lv_topi (fun v_30 ev_30 => ?_)
      obtain ⟨qv_30, hv_30⟩ := zI_div (l := 0) (h := 239) (d := 2) hv_29 rfl ev_30 (by decide)
      refine lv_istore (lv' := [(4, .int v_30), (3, .int y_18), (2, .int y_19), (0, .ref b0), (1, .int b1)]) hx hb d_Machine_placeOf_17 hl (by decide) rfl (fun ls hl => ?_)
      refine lv_aload_n hx hb d_Machine_placeOf_19 rfl (lv_at hl 3 rfl) ?_
      refine va_get (D := G.1) (ci := 5) (v := .ref b11) (C := R_Machine) (T := F_Machine) (N := 15) hx hb hts i_Machine hown hK hP 0 rfl rfl 9 (by decide) (hts _ q186) (fun _ h9 => h9) rfl d_Machine_placeOf_20 ?_
      refine lv_iload hx hb d_Machine_placeOf_23 (lv_at hl 0 rfl) ?_
      refine va_iald hx hb hK hP 1 0 rfl rfl (zI.inn hv_30 (by decide)) d_Machine_placeOf_25 ?_
      refine lv_topi (fun v_31 ev_31 => ?_)
      obtain ⟨hv_31, kv_31⟩ := zK.ld hb17 ev_31
      refine lv_iload_n hx hb d_Machine_placeOf_26 rfl (lv_at hl 4 rfl) ?_
      refine lv_icmp_ge (tgt := 38) hx hb d_Machine_placeOf_27 (by decide) (fun hc_32 => ?_) (fun hc_32 => ?_)
      · have _nhc_32 := hc_32
        have ni_33 := (fa_le _ _).mp hc_32
        have hv_34 : zI b1 (-2147483648) 616944 := zI.le_l (zI_all b1) hv_31 hc_32 (by decide)
        refine lv_iload hx hb d_Machine_placeOf_38 (lv_at hl 0 rfl) ?_
        refine lv_istore_n (lv' := [(3, .int v_30), (4, .int v_30), (2, .int y_19), (0, .ref b0), (1, .int b1)]) hx hb d_Machine_placeOf_40 rfl hl (by decide) rfl (fun ls hl => ?_)
        refine lv_goto (tgt := 7) hx hb d_Machine_placeOf_41 (by decide) ?_
        exact ihk_17 (v_30) (y_19) _ _ _ (zI.wk (l' := 0) (h' := 240) hv_30 (by decide)) (zI.wk (l' := 0) (h' := 240) hv_27 (by decide)) (by omega) (by omega) (fun h9 => by rw [← z_plf hv_30 (by decide), ← ev_31]; omega) hli_23 (by omega) hP hD hS (lv_sub hl [0, 2, 3, 4] rfl)
      · have _nhc_32 := hc_32
        have ni_35 := (fa_lt _ _).mp (zi_nle hc_32)
        have hv_36 : zI b1 1 2147483647 := zI.lt_r hv_31 (zI_all b1) (zi_nle hc_32) (by decide)
        refine lv_iload hx hb d_Machine_placeOf_30 (lv_at hl 0 rfl) ?_
        refine lv_iconst (v := 1) hx hb d_Machine_placeOf_32 (by decide) ?_
        refine lv_iadd hx hb d_Machine_placeOf_33 ?_
        refine lv_topi (fun v_37 ev_37 => ?_)
        obtain ⟨qv_37, hv_37⟩ := zI_add (l := 1) (h := 240) hv_30 zc_1 ev_37 (by decide)
        rw [li_1] at qv_37
        refine lv_istore_n (lv' := [(2, .int v_37), (4, .int v_30), (3, .int y_18), (0, .ref b0), (1, .int b1)]) hx hb d_Machine_placeOf_34 rfl hl (by decide) rfl (fun ls hl => ?_)
        refine lv_goto (tgt := 41) hx hb d_Machine_placeOf_35 (by decide) ?_
        refine lv_goto (tgt := 7) hx hb d_Machine_placeOf_41 (by decide) ?_
        exact ihk_17 (y_18) (v_37) _ _ _ (zI.wk (l' := 0) (h' := 240) hv_28 (by decide)) (zI.wk (l' := 0) (h' := 240) hv_37 (by decide)) (by omega) (by omega) hli_22 (Or.inr (by have h9 : (v_37.toInt - 1).toNat = v_30.toNatClampNeg := (by rw [z_plf hv_30 (by decide)]; omega); rw [h9, ← ev_31]; omega)) (by omega) hP hD hS (lv_sub hl [2, 0, 3, 4] rfl)
theorem d_Machine_gatherFirsts_0 : decode prog_4_method_11_code 0 = .ok (.iconst 0, 1) := by decide +kernel
theorem d_Machine_gatherFirsts_1 : decode prog_4_method_11_code 1 = .ok (.istore_n 1, 1) := by decide +kernel
theorem d_Machine_gatherFirsts_2 : decode prog_4_method_11_code 2 = .ok (.iconst 0, 1) := by decide +kernel
theorem d_Machine_gatherFirsts_3 : decode prog_4_method_11_code 3 = .ok (.istore_n 2, 1) := by decide +kernel
theorem d_Machine_gatherFirsts_4 : decode prog_4_method_11_code 4 = .ok (.iload_n 2, 1) := by decide +kernel
theorem d_Machine_gatherFirsts_5 : decode prog_4_method_11_code 5 = .ok (.aload_n 0, 1) := by decide +kernel
theorem d_Machine_gatherFirsts_6 : decode prog_4_method_11_code 6 = .ok (.getfield 75, 3) := by decide +kernel
theorem d_Machine_gatherFirsts_9 : decode prog_4_method_11_code 9 = .ok (.if_icmp .ge 39, 3) := by decide +kernel
theorem d_Machine_gatherFirsts_12 : decode prog_4_method_11_code 12 = .ok (.aload_n 0, 1) := by decide +kernel
theorem d_Machine_gatherFirsts_13 : decode prog_4_method_11_code 13 = .ok (.getfield 45, 3) := by decide +kernel
theorem d_Machine_gatherFirsts_16 : decode prog_4_method_11_code 16 = .ok (.iload_n 2, 1) := by decide +kernel
theorem d_Machine_gatherFirsts_17 : decode prog_4_method_11_code 17 = .ok (.iload_n 1, 1) := by decide +kernel
theorem d_Machine_gatherFirsts_18 : decode prog_4_method_11_code 18 = .ok (.iastore, 1) := by decide +kernel
theorem d_Machine_gatherFirsts_19 : decode prog_4_method_11_code 19 = .ok (.iload_n 1, 1) := by decide +kernel
theorem d_Machine_gatherFirsts_20 : decode prog_4_method_11_code 20 = .ok (.aload_n 0, 1) := by decide +kernel
theorem d_Machine_gatherFirsts_21 : decode prog_4_method_11_code 21 = .ok (.getfield 103, 3) := by decide +kernel
theorem d_Machine_gatherFirsts_24 : decode prog_4_method_11_code 24 = .ok (.if_icmp .ge 18, 3) := by decide +kernel
theorem d_Machine_gatherFirsts_27 : decode prog_4_method_11_code 27 = .ok (.aload_n 0, 1) := by decide +kernel
theorem d_Machine_gatherFirsts_28 : decode prog_4_method_11_code 28 = .ok (.iload_n 1, 1) := by decide +kernel
theorem d_Machine_gatherFirsts_29 : decode prog_4_method_11_code 29 = .ok (.invokevirtual 133, 3) := by decide +kernel
theorem d_Machine_gatherFirsts_32 : decode prog_4_method_11_code 32 = .ok (.iload_n 2, 1) := by decide +kernel
theorem d_Machine_gatherFirsts_33 : decode prog_4_method_11_code 33 = .ok (.if_icmp .ne 9, 3) := by decide +kernel
theorem d_Machine_gatherFirsts_36 : decode prog_4_method_11_code 36 = .ok (.iinc 1 1, 3) := by decide +kernel
theorem d_Machine_gatherFirsts_39 : decode prog_4_method_11_code 39 = .ok (.goto (-20), 3) := by decide +kernel
theorem d_Machine_gatherFirsts_42 : decode prog_4_method_11_code 42 = .ok (.iinc 2 1, 3) := by decide +kernel
theorem d_Machine_gatherFirsts_45 : decode prog_4_method_11_code 45 = .ok (.goto (-41), 3) := by decide +kernel
theorem d_Machine_gatherFirsts_48 : decode prog_4_method_11_code 48 = .ok (.aload_n 0, 1) := by decide +kernel
theorem d_Machine_gatherFirsts_49 : decode prog_4_method_11_code 49 = .ok (.getfield 45, 3) := by decide +kernel
theorem d_Machine_gatherFirsts_52 : decode prog_4_method_11_code 52 = .ok (.aload_n 0, 1) := by decide +kernel
theorem d_Machine_gatherFirsts_53 : decode prog_4_method_11_code 53 = .ok (.getfield 75, 3) := by decide +kernel
theorem d_Machine_gatherFirsts_56 : decode prog_4_method_11_code 56 = .ok (.aload_n 0, 1) := by decide +kernel
theorem d_Machine_gatherFirsts_57 : decode prog_4_method_11_code 57 = .ok (.getfield 103, 3) := by decide +kernel
theorem d_Machine_gatherFirsts_60 : decode prog_4_method_11_code 60 = .ok (.iastore, 1) := by decide +kernel
theorem d_Machine_gatherFirsts_61 : decode prog_4_method_11_code 61 = .ok (.return_, 1) := by decide +kernel
abbrev m_s1_Machine_gatherFirsts : Room := { frames := 1, cells := 0, slots := 0, locals := 21 }
set_option maxHeartbeats 4000000 in
set_option maxRecDepth 100000 in
theorem s1_Machine_gatherFirsts (l : Launch) (G : zG) (b0 : Nat) (b1 : Int32) (b2 : Int32) (b3 : Nat) (b4 : Nat) (b5 : Nat) (b6 : Nat) (b7 : Nat) (b8 : Nat) (b9 : Int32) (b10 : Nat) (b11 : Nat) (b12 : Nat) (b13 : Nat) (b14 : Nat) (b15 : Nat) (b16 : Nat → Int32) (b17 : Nat → Int32) (hb1 : zI b1 0 1) (hb2 : zI b2 0 241) (hb9 : zI b9 0 240) (hb16 : zK b16) (hb17 : zR b17 0 240) : zM l G y_Machine_gatherFirsts prog_4_method_11_code 3 (Option.none : Option Jvm.ClassFile.FieldType) m_s1_Machine_gatherFirsts [.ref b0] [(b0, .inr (5, [.int b1, .int b2, .ref b3, .ref b4, .ref b5, .ref b6, .ref b7, .ref b8, .int b9, .ref b10, .ref b11, .ref b12, .ref b13, .ref b14, .ref b15])), (b10, .inl (G.2 0, 240, .inl b16)), (b14, .inl (G.2 0, 242, .inl b17))] (fun v w => ∃ (e0 : Nat → Int32), v = none ∧ w = [(b0, .inr (5, [.int b1, .int b2, .ref b3, .ref b4, .ref b5, .ref b6, .ref b7, .ref b8, .int b9, .ref b10, .ref b11, .ref b12, .ref b13, .ref b14, .ref b15])), (b10, .inl (G.2 0, 240, .inl b16)), (b14, .inl (G.2 0, 242, .inl e0))] ∧ (zR e0 0 240)) := by
  refine z_start (by decide +kernel) (Nat.le_of_ble_eq_true rfl) ?_
  intro p e s m below meth c A Z hr hnm hA hP hD hS ls hl
  have Z : zC p s m _ meth c prog_4_method_11_code 3 "TraceMachines$Machine" G := Z
  obtain ⟨hx, hb, hml, hown, hts, hK, hN, hlocks⟩ := id Z
  have hl : lv_has ls 3 [(0, .ref b0)] := hl
  refine lv_iconst (v := 0) hx hb d_Machine_gatherFirsts_0 (by decide) ?_
  refine lv_istore_n (lv' := [(1, .int 0), (0, .ref b0)]) hx hb d_Machine_gatherFirsts_1 rfl hl (by decide) rfl (fun ls hl => ?_)
  refine lv_iconst (v := 0) hx hb d_Machine_gatherFirsts_2 (by decide) ?_
  refine lv_istore_n (lv' := [(2, .int 0), (1, .int 0), (0, .ref b0)]) hx hb d_Machine_gatherFirsts_3 rfl hl (by decide) rfl (fun ls hl => ?_)
  suffices key : ∀ (k_39 : Nat) (y_40 : Int32) (y_41 : Int32) (y_42 : Nat → Int32) (H : Heap) (locs : List Loc) (ls : Array Slot), (zI y_40 0 241) → (zI y_41 0 240) → (zR y_42 0 240) → (241 : Int) - y_40.toInt < (k_39 : Int) → va_P G.1 classes [(b0, .inr (5, [.int b1, .int b2, .ref b3, .ref b4, .ref b5, .ref b6, .ref b7, .ref b8, .int b9, .ref b10, .ref b11, .ref b12, .ref b13, .ref b14, .ref b15])), (b10, .inl (G.2 0, 240, .inl b16)), (b14, .inl (G.2 0, 242, .inl y_42))] H → va_D A [(b0, .inr (5, [.int b1, .int b2, .ref b3, .ref b4, .ref b5, .ref b6, .ref b7, .ref b8, .int b9, .ref b10, .ref b11, .ref b12, .ref b13, .ref b14, .ref b15])), (b10, .inl (G.2 0, 240, .inl b16)), (b14, .inl (G.2 0, 242, .inl y_42))] → va_S A s.heap H locs → lv_has ls 3 [(2, .int y_40), (1, .int y_41), (0, .ref b0)] → W p l e m_s1_Machine_gatherFirsts s m ([.ref b0] : List Value).toArray below meth c H locs 0 0 (MQ below (zQ G (fun v w => ∃ (e0 : Nat → Int32), v = none ∧ w = [(b0, .inr (5, [.int b1, .int b2, .ref b3, .ref b4, .ref b5, .ref b6, .ref b7, .ref b8, .int b9, .ref b10, .ref b11, .ref b12, .ref b13, .ref b14, .ref b15])), (b10, .inl (G.2 0, 240, .inl b16)), (b14, .inl (G.2 0, 242, .inl e0))] ∧ (zR e0 0 240)) A) ([.ref b0] : List Value).toArray s m_s1_Machine_gatherFirsts.cells m_s1_Machine_gatherFirsts.slots A) (F0 m 4 ls []) by
    exact key 242 (0) (0) (b17) _ _ _ (zI.wk (l' := 0) (h' := 241) zc_0 (by decide)) (zI.wk (l' := 0) (h' := 240) zc_0 (by decide)) hb17 (zm_upi (zI.wk (l' := 0) (h' := 241) zc_0 (by decide)) (by decide)) hP hD hS (lv_sub hl [0, 1, 2] rfl)
  intro k_39
  induction k_39 with
  | zero =>
    intro y_40 y_41 y_42 H locs ls hy_40 hy_41 hy_42 hmk_39 hP hD hS hl
    exact (zm_up0 hy_40 hmk_39).elim
  | succ k_39 ihk_39 =>
    intro y_40 y_41 y_42 H locs ls hy_40 hy_41 hy_42 hmk_39 hP hD hS hl
    refine lv_iload_n hx hb d_Machine_gatherFirsts_4 rfl (lv_at hl 0 rfl) ?_
    refine lv_aload_n hx hb d_Machine_gatherFirsts_5 rfl (lv_at hl 2 rfl) ?_
    refine va_get (D := G.1) (ci := 5) (v := .int b2) (C := R_Machine) (T := F_Machine) (N := 15) hx hb hts i_Machine hown hK hP 0 rfl rfl 1 (by decide) (hts _ q168) (fun _ h9 => h9) rfl d_Machine_gatherFirsts_6 ?_
    refine lv_icmp_ge (tgt := 48) hx hb d_Machine_gatherFirsts_9 (by decide) (fun hc_43 => ?_) (fun hc_43 => ?_)
    · have _nhc_43 := hc_43
      have ni_44 := (fa_le _ _).mp hc_43
      refine lv_aload_n hx hb d_Machine_gatherFirsts_48 rfl (lv_at hl 2 rfl) ?_
      refine va_get (D := G.1) (ci := 5) (v := .ref b14) (C := R_Machine) (T := F_Machine) (N := 15) hx hb hts i_Machine hown hK hP 0 rfl rfl 13 (by decide) (hts _ q195) (fun _ h9 => h9) rfl d_Machine_gatherFirsts_49 ?_
      refine lv_aload_n hx hb d_Machine_gatherFirsts_52 rfl (lv_at hl 2 rfl) ?_
      refine va_get (D := G.1) (ci := 5) (v := .int b2) (C := R_Machine) (T := F_Machine) (N := 15) hx hb hts i_Machine hown hK hP 0 rfl rfl 1 (by decide) (hts _ q168) (fun _ h9 => h9) rfl d_Machine_gatherFirsts_53 ?_
      refine lv_aload_n hx hb d_Machine_gatherFirsts_56 rfl (lv_at hl 2 rfl) ?_
      refine va_get (D := G.1) (ci := 5) (v := .int b9) (C := R_Machine) (T := F_Machine) (N := 15) hx hb hts i_Machine hown hK hP 0 rfl rfl 8 (by decide) (hts _ q184) (fun _ h9 => h9) rfl d_Machine_gatherFirsts_57 ?_
      refine va_iast hx hb hK hP hD hS 2 0 rfl rfl (zI.inn hb2 (by decide)) d_Machine_gatherFirsts_60 (fun H locs hP hD hS => ?_)
      obtain ⟨f_45, hf_45, gf_45, uf_45, hP, hD⟩ := z_newfu 2 hP hD rfl hy_42 hb9
      have hP : va_P G.1 classes [(b0, .inr (5, [.int b1, .int b2, .ref b3, .ref b4, .ref b5, .ref b6, .ref b7, .ref b8, .int b9, .ref b10, .ref b11, .ref b12, .ref b13, .ref b14, .ref b15])), (b10, .inl (G.2 0, 240, .inl b16)), (b14, .inl (G.2 0, 242, .inl f_45))] H := hP
      have hD := z_tie hP hD rfl
      exact z_vret hx hb hr hlocks hP hD hS (Nat.le_of_ble_eq_true rfl) (Nat.le_of_ble_eq_true rfl) d_Machine_gatherFirsts_61 ⟨f_45, rfl, rfl, hf_45⟩
    · have _nhc_43 := hc_43
      have ni_46 := (fa_lt _ _).mp (zi_nle hc_43)
      have hv_47 : zI y_40 0 240 := zI.lt_l hy_40 hb2 (zi_nle hc_43) (by decide)
      have hv_48 : zI b2 1 241 := zI.lt_r hy_40 hb2 (zi_nle hc_43) (by decide)
      refine lv_aload_n hx hb d_Machine_gatherFirsts_12 rfl (lv_at hl 2 rfl) ?_
      refine va_get (D := G.1) (ci := 5) (v := .ref b14) (C := R_Machine) (T := F_Machine) (N := 15) hx hb hts i_Machine hown hK hP 0 rfl rfl 13 (by decide) (hts _ q195) (fun _ h9 => h9) rfl d_Machine_gatherFirsts_13 ?_
      refine lv_iload_n hx hb d_Machine_gatherFirsts_16 rfl (lv_at hl 0 rfl) ?_
      refine lv_iload_n hx hb d_Machine_gatherFirsts_17 rfl (lv_at hl 1 rfl) ?_
      refine va_iast hx hb hK hP hD hS 2 0 rfl rfl (zI.inn hv_47 (by decide)) d_Machine_gatherFirsts_18 (fun H locs hP hD hS => ?_)
      obtain ⟨f_49, hf_49, gf_49, uf_49, hP, hD⟩ := z_newfu 2 hP hD rfl hy_42 hy_41
      have hP : va_P G.1 classes [(b0, .inr (5, [.int b1, .int b2, .ref b3, .ref b4, .ref b5, .ref b6, .ref b7, .ref b8, .int b9, .ref b10, .ref b11, .ref b12, .ref b13, .ref b14, .ref b15])), (b10, .inl (G.2 0, 240, .inl b16)), (b14, .inl (G.2 0, 242, .inl f_49))] H := hP
      have hD := z_tie hP hD rfl
      suffices key : ∀ (k_64 : Nat) (y_65 : Int32) (H : Heap) (locs : List Loc) (ls : Array Slot), (zI y_65 0 240) → (240 : Int) - y_65.toInt < (k_64 : Int) → va_P G.1 classes [(b0, .inr (5, [.int b1, .int b2, .ref b3, .ref b4, .ref b5, .ref b6, .ref b7, .ref b8, .int b9, .ref b10, .ref b11, .ref b12, .ref b13, .ref b14, .ref b15])), (b10, .inl (G.2 0, 240, .inl b16)), (b14, .inl (G.2 0, 242, .inl f_49))] H → va_D A [(b0, .inr (5, [.int b1, .int b2, .ref b3, .ref b4, .ref b5, .ref b6, .ref b7, .ref b8, .int b9, .ref b10, .ref b11, .ref b12, .ref b13, .ref b14, .ref b15])), (b10, .inl (G.2 0, 240, .inl b16)), (b14, .inl (G.2 0, 242, .inl f_49))] → va_S A s.heap H locs → lv_has ls 3 [(2, .int y_40), (1, .int y_65), (0, .ref b0)] → W p l e m_s1_Machine_gatherFirsts s m ([.ref b0] : List Value).toArray below meth c H locs 0 0 (MQ below (zQ G (fun v w => ∃ (e0 : Nat → Int32), v = none ∧ w = [(b0, .inr (5, [.int b1, .int b2, .ref b3, .ref b4, .ref b5, .ref b6, .ref b7, .ref b8, .int b9, .ref b10, .ref b11, .ref b12, .ref b13, .ref b14, .ref b15])), (b10, .inl (G.2 0, 240, .inl b16)), (b14, .inl (G.2 0, 242, .inl e0))] ∧ (zR e0 0 240)) A) ([.ref b0] : List Value).toArray s m_s1_Machine_gatherFirsts.cells m_s1_Machine_gatherFirsts.slots A) (F0 m 19 ls []) by
        exact key 241 (y_41) _ _ _ hy_41 (zm_upi hy_41 (by decide)) hP hD hS (lv_sub hl [0, 1, 2] rfl)
      intro k_64
      induction k_64 with
      | zero =>
        intro y_65 H locs ls hy_65 hmk_64 hP hD hS hl
        exact (zm_up0 hy_65 hmk_64).elim
      | succ k_64 ihk_64 =>
        intro y_65 H locs ls hy_65 hmk_64 hP hD hS hl
        refine lv_iload_n hx hb d_Machine_gatherFirsts_19 rfl (lv_at hl 1 rfl) ?_
        refine lv_aload_n hx hb d_Machine_gatherFirsts_20 rfl (lv_at hl 2 rfl) ?_
        refine va_get (D := G.1) (ci := 5) (v := .int b9) (C := R_Machine) (T := F_Machine) (N := 15) hx hb hts i_Machine hown hK hP 0 rfl rfl 8 (by decide) (hts _ q184) (fun _ h9 => h9) rfl d_Machine_gatherFirsts_21 ?_
        refine lv_icmp_ge (tgt := 42) hx hb d_Machine_gatherFirsts_24 (by decide) (fun hc_66 => ?_) (fun hc_66 => ?_)
        · have _nhc_66 := hc_66
          have ni_67 := (fa_le _ _).mp hc_66
          obtain ⟨v_68, ev_68⟩ : ∃ z : Int32, z = y_40 + 1 := ⟨_, rfl⟩
          obtain ⟨qv_68, hv_68⟩ := zI_add (l := 1) (h := 241) hv_47 zc_1 ev_68 (by decide)
          rw [li_1] at qv_68
          refine lv_iinc (v := v_68) (lv' := [(2, .int v_68), (1, .int y_65), (0, .ref b0)]) hx hb d_Machine_gatherFirsts_42 hl (k := 0) rfl (by rw [ev_68]; rfl) (by decide) rfl (fun ls hl => ?_)
          refine lv_goto (tgt := 4) hx hb d_Machine_gatherFirsts_45 (by decide) ?_
          exact ihk_39 (v_68) (y_65) (f_49) _ _ _ (zI.wk (l' := 0) (h' := 241) hv_68 (by decide)) hy_65 hf_49 (zm_up qv_68 hmk_39 (by decide)) hP hD hS (lv_sub hl [0, 1, 2] rfl)
        · have _nhc_66 := hc_66
          have ni_69 := (fa_lt _ _).mp (zi_nle hc_66)
          have hv_70 : zI y_65 0 239 := zI.lt_l hy_65 hb9 (zi_nle hc_66) (by decide)
          have hv_71 : zI b9 1 240 := zI.lt_r hy_65 hb9 (zi_nle hc_66) (by decide)
          refine lv_aload_n hx hb d_Machine_gatherFirsts_27 rfl (lv_at hl 2 rfl) ?_
          refine lv_iload_n hx hb d_Machine_gatherFirsts_28 rfl (lv_at hl 1 rfl) ?_
          refine z_callV (index := 133) (As := [.int y_65]) (rest := []) (wr := [(b14, .inl (G.2 0, 242, .inl f_49))]) Z (s1_Machine_from l G (b0) (y_65) (b1) (b2) (b3) (b4) (b5) (b6) (b7) (b8) (b9) (b10) (b11) (b12) (b13) (b14) (b15) (b16) hv_70 hb1 (zI.wk (l' := 0) (h' := 241) hv_48 (by decide)) (zI.wk (l' := 0) (h' := 240) hv_71 (by decide)) hb16) hl.1 q660 q661 q662 q6 q663 ⟨by decide, by decide, by show _ = some 1; decide +kernel⟩ ⟨Nat.le_of_ble_eq_true rfl, Nat.le_of_ble_eq_true rfl⟩ ⟨Nat.le_of_ble_eq_true rfl, Nat.le_of_ble_eq_true rfl⟩ rfl (Nat.le_of_ble_eq_true rfl) d_Machine_gatherFirsts_29 hP hD hS hA 0 5 rfl rfl rfl [0, 1] [2] rfl rfl rfl rfl (by decide) (fun v w1 H locs hw_72 hP hD hS => ?_)
          obtain ⟨x_73, rfl, rfl, hx_73⟩ := hw_72
          have hP : va_P G.1 classes [(b14, .inl (G.2 0, 242, .inl f_49)), (b0, .inr (5, [.int b1, .int b2, .ref b3, .ref b4, .ref b5, .ref b6, .ref b7, .ref b8, .int b9, .ref b10, .ref b11, .ref b12, .ref b13, .ref b14, .ref b15])), (b10, .inl (G.2 0, 240, .inl b16))] H := hP
          have hD := z_tie hP hD rfl
          refine W.widen (k := 0) (n := 0) (Nat.le_of_ble_eq_true rfl) (Nat.le_of_ble_eq_true rfl) ?_
          refine lv_iload_n hx hb d_Machine_gatherFirsts_32 rfl (lv_at hl 0 rfl) ?_
          refine lv_icmp_ne (tgt := 42) hx hb d_Machine_gatherFirsts_33 (by decide) (fun hc_74 => ?_) (fun hc_74 => ?_)
          · have _nhc_74 := hc_74
            have ni_75 : ¬ (x_73 : Int32).toInt = (y_40 : Int32).toInt := fun z => hc_74 ((fa_eq _ _).mpr z)
            obtain ⟨v_76, ev_76⟩ : ∃ z : Int32, z = y_40 + 1 := ⟨_, rfl⟩
            obtain ⟨qv_76, hv_76⟩ := zI_add (l := 1) (h := 241) hv_47 zc_1 ev_76 (by decide)
            rw [li_1] at qv_76
            refine lv_iinc (v := v_76) (lv' := [(2, .int v_76), (1, .int y_65), (0, .ref b0)]) hx hb d_Machine_gatherFirsts_42 hl (k := 0) rfl (by rw [ev_76]; rfl) (by decide) rfl (fun ls hl => ?_)
            refine lv_goto (tgt := 4) hx hb d_Machine_gatherFirsts_45 (by decide) ?_
            exact ihk_39 (v_76) (y_65) (f_49) _ _ _ (zI.wk (l' := 0) (h' := 241) hv_76 (by decide)) (zI.wk (l' := 0) (h' := 240) hv_70 (by decide)) hf_49 (zm_up qv_76 hmk_39 (by decide)) (hP.sub [1, 2, 0] rfl) (hD.sub [1, 2, 0] (by decide) rfl) hS (lv_sub hl [0, 1, 2] rfl)
          · have _nhc_74 := hc_74
            have ni_77 := (fa_eq _ _).mp hc_74
            obtain ⟨v_78, ev_78⟩ : ∃ z : Int32, z = y_65 + 1 := ⟨_, rfl⟩
            obtain ⟨qv_78, hv_78⟩ := zI_add (l := 1) (h := 240) hv_70 zc_1 ev_78 (by decide)
            rw [li_1] at qv_78
            refine lv_iinc (v := v_78) (lv' := [(1, .int v_78), (2, .int y_40), (0, .ref b0)]) hx hb d_Machine_gatherFirsts_36 hl (k := 1) rfl (by rw [ev_78]; rfl) (by decide) rfl (fun ls hl => ?_)
            refine lv_goto (tgt := 19) hx hb d_Machine_gatherFirsts_39 (by decide) ?_
            exact ihk_64 (v_78) _ _ _ (zI.wk (l' := 0) (h' := 240) hv_78 (by decide)) (zm_up qv_78 hmk_64 (by decide)) (hP.sub [1, 2, 0] rfl) (hD.sub [1, 2, 0] (by decide) rfl) hS (lv_sub hl [1, 0, 2] rfl)
theorem d_Machine_leavers_0 : decode prog_4_method_12_code 0 = .ok (.iconst 0, 1) := by decide +kernel
theorem d_Machine_leavers_1 : decode prog_4_method_12_code 1 = .ok (.istore_n 2, 1) := by decide +kernel
theorem d_Machine_leavers_2 : decode prog_4_method_12_code 2 = .ok (.aload_n 0, 1) := by decide +kernel
theorem d_Machine_leavers_3 : decode prog_4_method_12_code 3 = .ok (.getfield 45, 3) := by decide +kernel
theorem d_Machine_leavers_6 : decode prog_4_method_12_code 6 = .ok (.iload_n 1, 1) := by decide +kernel
theorem d_Machine_leavers_7 : decode prog_4_method_12_code 7 = .ok (.iaload, 1) := by decide +kernel
theorem d_Machine_leavers_8 : decode prog_4_method_12_code 8 = .ok (.istore_n 3, 1) := by decide +kernel
theorem d_Machine_leavers_9 : decode prog_4_method_12_code 9 = .ok (.iload_n 3, 1) := by decide +kernel
theorem d_Machine_leavers_10 : decode prog_4_method_12_code 10 = .ok (.aload_n 0, 1) := by decide +kernel
theorem d_Machine_leavers_11 : decode prog_4_method_12_code 11 = .ok (.getfield 45, 3) := by decide +kernel
theorem d_Machine_leavers_14 : decode prog_4_method_12_code 14 = .ok (.iload_n 1, 1) := by decide +kernel
theorem d_Machine_leavers_15 : decode prog_4_method_12_code 15 = .ok (.iconst 1, 1) := by decide +kernel
theorem d_Machine_leavers_16 : decode prog_4_method_12_code 16 = .ok (.iadd, 1) := by decide +kernel
theorem d_Machine_leavers_17 : decode prog_4_method_12_code 17 = .ok (.iaload, 1) := by decide +kernel
theorem d_Machine_leavers_18 : decode prog_4_method_12_code 18 = .ok (.if_icmp .ge 18, 3) := by decide +kernel
theorem d_Machine_leavers_21 : decode prog_4_method_12_code 21 = .ok (.iload_n 2, 1) := by decide +kernel
theorem d_Machine_leavers_22 : decode prog_4_method_12_code 22 = .ok (.aload_n 0, 1) := by decide +kernel
theorem d_Machine_leavers_23 : decode prog_4_method_12_code 23 = .ok (.getfield 36, 3) := by decide +kernel
theorem d_Machine_leavers_26 : decode prog_4_method_12_code 26 = .ok (.iload_n 3, 1) := by decide +kernel
theorem d_Machine_leavers_27 : decode prog_4_method_12_code 27 = .ok (.iaload, 1) := by decide +kernel
theorem d_Machine_leavers_28 : decode prog_4_method_12_code 28 = .ok (.iadd, 1) := by decide +kernel
theorem d_Machine_leavers_29 : decode prog_4_method_12_code 29 = .ok (.istore_n 2, 1) := by decide +kernel
theorem d_Machine_leavers_30 : decode prog_4_method_12_code 30 = .ok (.iinc 3 1, 3) := by decide +kernel
theorem d_Machine_leavers_33 : decode prog_4_method_12_code 33 = .ok (.goto (-24), 3) := by decide +kernel
theorem d_Machine_leavers_36 : decode prog_4_method_12_code 36 = .ok (.iload_n 2, 1) := by decide +kernel
theorem d_Machine_leavers_37 : decode prog_4_method_12_code 37 = .ok (.ireturn, 1) := by decide +kernel
abbrev m_s1_Machine_leavers : Room := { frames := 0, cells := 0, slots := 0, locals := 0 }
set_option maxHeartbeats 4000000 in
set_option maxRecDepth 100000 in
theorem s1_Machine_leavers (l : Launch) (G : zG) (b0 : Nat) (b1 : Int32) (b2 : Int32) (b3 : Int32) (b4 : Nat) (b5 : Nat) (b6 : Nat) (b7 : Nat) (b8 : Nat) (b9 : Nat) (b10 : Int32) (b11 : Nat) (b12 : Nat) (b13 : Nat) (b14 : Nat) (b15 : Nat) (b16 : Nat) (b17 : Nat → Int32) (b18 : Nat → Int32) (hb1 : zI b1 0 240) (hb2 : zI b2 0 1) (hb3 : zI b3 0 241) (hb10 : zI b10 0 240) (hb18 : zR b18 0 240) : zM l G y_Machine_leavers prog_4_method_12_code 4 (Option.some Jvm.ClassFile.FieldType.int) m_s1_Machine_leavers [.ref b0, .int b1] [(b0, .inr (5, [.int b2, .int b3, .ref b4, .ref b5, .ref b6, .ref b7, .ref b8, .ref b9, .int b10, .ref b11, .ref b12, .ref b13, .ref b14, .ref b15, .ref b16])), (b12, .inl (G.2 0, 240, .inl b17)), (b15, .inl (G.2 0, 242, .inl b18))] (fun v w => ∃ (e0 : Int32), v = some (.int e0) ∧ w = [(b0, .inr (5, [.int b2, .int b3, .ref b4, .ref b5, .ref b6, .ref b7, .ref b8, .ref b9, .int b10, .ref b11, .ref b12, .ref b13, .ref b14, .ref b15, .ref b16])), (b12, .inl (G.2 0, 240, .inl b17)), (b15, .inl (G.2 0, 242, .inl b18))] ∧ ((b18 b1.toNatClampNeg).toInt = 240 → e0.toInt = 0)) := by
  refine z_start (by decide +kernel) (Nat.le_of_ble_eq_true rfl) ?_
  intro p e s m below meth c A Z hr hnm hA hP hD hS ls hl
  have Z : zC p s m _ meth c prog_4_method_12_code 4 "TraceMachines$Machine" G := Z
  obtain ⟨hx, hb, hml, hown, hts, hK, hN, hlocks⟩ := id Z
  have hl : lv_has ls 4 [(0, .ref b0), (1, .int b1)] := hl
  refine lv_iconst (v := 0) hx hb d_Machine_leavers_0 (by decide) ?_
  refine lv_istore_n (lv' := [(2, .int 0), (0, .ref b0), (1, .int b1)]) hx hb d_Machine_leavers_1 rfl hl (by decide) rfl (fun ls hl => ?_)
  refine lv_aload_n hx hb d_Machine_leavers_2 rfl (lv_at hl 1 rfl) ?_
  refine va_get (D := G.1) (ci := 5) (v := .ref b15) (C := R_Machine) (T := F_Machine) (N := 15) hx hb hts i_Machine hown hK hP 0 rfl rfl 13 (by decide) (hts _ q195) (fun _ h9 => h9) rfl d_Machine_leavers_3 ?_
  refine lv_iload_n hx hb d_Machine_leavers_6 rfl (lv_at hl 2 rfl) ?_
  refine va_iald hx hb hK hP 2 0 rfl rfl (zI.inn hb1 (by decide)) d_Machine_leavers_7 ?_
  refine lv_topi (fun v_1 ev_1 => ?_)
  have hv_1 : zI v_1 0 240 := (hb18 _).eq ev_1
  refine lv_istore_n (lv' := [(3, .int v_1), (2, .int 0), (0, .ref b0), (1, .int b1)]) hx hb d_Machine_leavers_8 rfl hl (by decide) rfl (fun ls hl => ?_)
  suffices key : ∀ (k_14 : Nat) (y_15 : Int32) (y_16 : Int32) (H : Heap) (locs : List Loc) (ls : Array Slot), (zI y_15 0 240) → ((b18 b1.toNatClampNeg).toInt = 240 → (y_16 : Int32).toInt = 0 ∧ (y_15 : Int32).toInt = 240) → (240 : Int) - y_15.toInt < (k_14 : Int) → va_P G.1 classes [(b0, .inr (5, [.int b2, .int b3, .ref b4, .ref b5, .ref b6, .ref b7, .ref b8, .ref b9, .int b10, .ref b11, .ref b12, .ref b13, .ref b14, .ref b15, .ref b16])), (b12, .inl (G.2 0, 240, .inl b17)), (b15, .inl (G.2 0, 242, .inl b18))] H → va_D A [(b0, .inr (5, [.int b2, .int b3, .ref b4, .ref b5, .ref b6, .ref b7, .ref b8, .ref b9, .int b10, .ref b11, .ref b12, .ref b13, .ref b14, .ref b15, .ref b16])), (b12, .inl (G.2 0, 240, .inl b17)), (b15, .inl (G.2 0, 242, .inl b18))] → va_S A s.heap H locs → lv_has ls 4 [(3, .int y_15), (2, .int y_16), (0, .ref b0), (1, .int b1)] → W p l e m_s1_Machine_leavers s m ([.ref b0, .int b1] : List Value).toArray below meth c H locs 0 0 (MQ below (zQ G (fun v w => ∃ (e0 : Int32), v = some (.int e0) ∧ w = [(b0, .inr (5, [.int b2, .int b3, .ref b4, .ref b5, .ref b6, .ref b7, .ref b8, .ref b9, .int b10, .ref b11, .ref b12, .ref b13, .ref b14, .ref b15, .ref b16])), (b12, .inl (G.2 0, 240, .inl b17)), (b15, .inl (G.2 0, 242, .inl b18))] ∧ ((b18 b1.toNatClampNeg).toInt = 240 → e0.toInt = 0)) A) ([.ref b0, .int b1] : List Value).toArray s m_s1_Machine_leavers.cells m_s1_Machine_leavers.slots A) (F0 m 9 ls []) by
    exact key 241 (v_1) (0) _ _ _ hv_1 (fun h9 => ⟨li_0, by rw [ev_1]; exact h9⟩) (zm_upi hv_1 (by decide)) hP hD hS (lv_sub hl [0, 1, 2, 3] rfl)
  intro k_14
  induction k_14 with
  | zero =>
    intro y_15 y_16 H locs ls hy_15 hli_17 hmk_14 hP hD hS hl
    exact (zm_up0 hy_15 hmk_14).elim
  | succ k_14 ihk_14 =>
    intro y_15 y_16 H locs ls hy_15 hli_17 hmk_14 hP hD hS hl
    refine lv_iload_n hx hb d_Machine_leavers_9 rfl (lv_at hl 0 rfl) ?_
    refine lv_aload_n hx hb d_Machine_leavers_10 rfl (lv_at hl 2 rfl) ?_
    refine va_get (D := G.1) (ci := 5) (v := .ref b15) (C := R_Machine) (T := F_Machine) (N := 15) hx hb hts i_Machine hown hK hP 0 rfl rfl 13 (by decide) (hts _ q195) (fun _ h9 => h9) rfl d_Machine_leavers_11 ?_
    refine lv_iload_n hx hb d_Machine_leavers_14 rfl (lv_at hl 3 rfl) ?_
    refine lv_iconst (v := 1) hx hb d_Machine_leavers_15 (by decide) ?_
    refine lv_iadd hx hb d_Machine_leavers_16 ?_
    refine lv_topi (fun v_18 ev_18 => ?_)
    obtain ⟨qv_18, hv_18⟩ := zI_add (l := 1) (h := 241) hb1 zc_1 ev_18 (by decide)
    rw [li_1] at qv_18
    refine va_iald hx hb hK hP 2 0 rfl rfl (zI.inn hv_18 (by decide)) d_Machine_leavers_17 ?_
    refine lv_topi (fun v_19 ev_19 => ?_)
    have hv_19 : zI v_19 0 240 := (hb18 _).eq ev_19
    refine lv_icmp_ge (tgt := 36) hx hb d_Machine_leavers_18 (by decide) (fun hc_20 => ?_) (fun hc_20 => ?_)
    · have _nhc_20 := hc_20
      have ni_21 := (fa_le _ _).mp hc_20
      refine lv_iload_n hx hb d_Machine_leavers_36 rfl (lv_at hl 1 rfl) ?_
      exact z_iret hx hb hr hlocks hP hD hS (Nat.le_of_ble_eq_true rfl) (Nat.le_of_ble_eq_true rfl) d_Machine_leavers_37 ⟨y_16, rfl, rfl, (fun h9 => (hli_17 h9).1)⟩
    · have _nhc_20 := hc_20
      have ni_22 := (fa_lt _ _).mp (zi_nle hc_20)
      have hv_23 : zI y_15 0 239 := zI.lt_l hy_15 hv_19 (zi_nle hc_20) (by decide)
      have hv_24 : zI v_19 1 240 := zI.lt_r hy_15 hv_19 (zi_nle hc_20) (by decide)
      refine lv_iload_n hx hb d_Machine_leavers_21 rfl (lv_at hl 1 rfl) ?_
      refine lv_aload_n hx hb d_Machine_leavers_22 rfl (lv_at hl 2 rfl) ?_
      refine va_get (D := G.1) (ci := 5) (v := .ref b12) (C := R_Machine) (T := F_Machine) (N := 15) hx hb hts i_Machine hown hK hP 0 rfl rfl 10 (by decide) (hts _ q187) (fun _ h9 => h9) rfl d_Machine_leavers_23 ?_
      refine lv_iload_n hx hb d_Machine_leavers_26 rfl (lv_at hl 0 rfl) ?_
      refine va_iald hx hb hK hP 1 0 rfl rfl (zI.inn hv_23 (by decide)) d_Machine_leavers_27 ?_
      refine lv_topi (fun v_25 ev_25 => ?_)
      refine lv_iadd hx hb d_Machine_leavers_28 ?_
      refine lv_topi (fun v_26 ev_26 => ?_)
      refine lv_istore_n (lv' := [(2, .int v_26), (3, .int y_15), (0, .ref b0), (1, .int b1)]) hx hb d_Machine_leavers_29 rfl hl (by decide) rfl (fun ls hl => ?_)
      obtain ⟨v_27, ev_27⟩ : ∃ z : Int32, z = y_15 + 1 := ⟨_, rfl⟩
      obtain ⟨qv_27, hv_27⟩ := zI_add (l := 1) (h := 240) hv_23 zc_1 ev_27 (by decide)
      rw [li_1] at qv_27
      refine lv_iinc (v := v_27) (lv' := [(3, .int v_27), (2, .int v_26), (0, .ref b0), (1, .int b1)]) hx hb d_Machine_leavers_30 hl (k := 1) rfl (by rw [ev_27]; rfl) (by decide) rfl (fun ls hl => ?_)
      refine lv_goto (tgt := 9) hx hb d_Machine_leavers_33 (by decide) ?_
      exact ihk_14 (v_27) (v_26) _ _ _ (zI.wk (l' := 0) (h' := 240) hv_27 (by decide)) (fun h9 => by have h8 := hli_17 h9; omega) (zm_up qv_27 hmk_14 (by decide)) hP hD hS (lv_sub hl [0, 1, 2, 3] rfl)
theorem d_Machine_finalStates_0 : decode prog_4_method_13_code 0 = .ok (.iconst 0, 1) := by decide +kernel
theorem d_Machine_finalStates_1 : decode prog_4_method_13_code 1 = .ok (.istore_n 1, 1) := by decide +kernel
theorem d_Machine_finalStates_2 : decode prog_4_method_13_code 2 = .ok (.iconst 0, 1) := by decide +kernel
theorem d_Machine_finalStates_3 : decode prog_4_method_13_code 3 = .ok (.istore_n 2, 1) := by decide +kernel
theorem d_Machine_finalStates_4 : decode prog_4_method_13_code 4 = .ok (.iload_n 2, 1) := by decide +kernel
theorem d_Machine_finalStates_5 : decode prog_4_method_13_code 5 = .ok (.aload_n 0, 1) := by decide +kernel
theorem d_Machine_finalStates_6 : decode prog_4_method_13_code 6 = .ok (.getfield 75, 3) := by decide +kernel
theorem d_Machine_finalStates_9 : decode prog_4_method_13_code 9 = .ok (.if_icmp .ge 21, 3) := by decide +kernel
theorem d_Machine_finalStates_12 : decode prog_4_method_13_code 12 = .ok (.aload_n 0, 1) := by decide +kernel
theorem d_Machine_finalStates_13 : decode prog_4_method_13_code 13 = .ok (.getfield 21, 3) := by decide +kernel
theorem d_Machine_finalStates_16 : decode prog_4_method_13_code 16 = .ok (.iload_n 2, 1) := by decide +kernel
theorem d_Machine_finalStates_17 : decode prog_4_method_13_code 17 = .ok (.iaload, 1) := by decide +kernel
theorem d_Machine_finalStates_18 : decode prog_4_method_13_code 18 = .ok (.ifCond .le 6, 3) := by decide +kernel
theorem d_Machine_finalStates_21 : decode prog_4_method_13_code 21 = .ok (.iinc 1 1, 3) := by decide +kernel
theorem d_Machine_finalStates_24 : decode prog_4_method_13_code 24 = .ok (.iinc 2 1, 3) := by decide +kernel
theorem d_Machine_finalStates_27 : decode prog_4_method_13_code 27 = .ok (.goto (-23), 3) := by decide +kernel
theorem d_Machine_finalStates_30 : decode prog_4_method_13_code 30 = .ok (.iload_n 1, 1) := by decide +kernel
theorem d_Machine_finalStates_31 : decode prog_4_method_13_code 31 = .ok (.ireturn, 1) := by decide +kernel
abbrev m_s1_Machine_finalStates : Room := { frames := 0, cells := 0, slots := 0, locals := 0 }
set_option maxHeartbeats 4000000 in
set_option maxRecDepth 100000 in
theorem s1_Machine_finalStates (l : Launch) (G : zG) (b0 : Nat) (b1 : Int32) (b2 : Int32) (b3 : Nat) (b4 : Nat) (b5 : Nat) (b6 : Nat) (b7 : Nat) (b8 : Nat) (b9 : Int32) (b10 : Nat) (b11 : Nat) (b12 : Nat) (b13 : Nat) (b14 : Nat) (b15 : Nat) (b16 : Nat → Int32) (hb1 : zI b1 0 1) (hb2 : zI b2 0 241) (hb9 : zI b9 0 240) : zM l G y_Machine_finalStates prog_4_method_13_code 3 (Option.some Jvm.ClassFile.FieldType.int) m_s1_Machine_finalStates [.ref b0] [(b0, .inr (5, [.int b1, .int b2, .ref b3, .ref b4, .ref b5, .ref b6, .ref b7, .ref b8, .int b9, .ref b10, .ref b11, .ref b12, .ref b13, .ref b14, .ref b15])), (b6, .inl (G.2 0, 241, .inl b16))] (fun v w => ∃ (e0 : Int32), v = some (.int e0) ∧ w = [(b0, .inr (5, [.int b1, .int b2, .ref b3, .ref b4, .ref b5, .ref b6, .ref b7, .ref b8, .int b9, .ref b10, .ref b11, .ref b12, .ref b13, .ref b14, .ref b15])), (b6, .inl (G.2 0, 241, .inl b16))]) := by
  refine z_start (by decide +kernel) (Nat.le_of_ble_eq_true rfl) ?_
  intro p e s m below meth c A Z hr hnm hA hP hD hS ls hl
  have Z : zC p s m _ meth c prog_4_method_13_code 3 "TraceMachines$Machine" G := Z
  obtain ⟨hx, hb, hml, hown, hts, hK, hN, hlocks⟩ := id Z
  have hl : lv_has ls 3 [(0, .ref b0)] := hl
  refine lv_iconst (v := 0) hx hb d_Machine_finalStates_0 (by decide) ?_
  refine lv_istore_n (lv' := [(1, .int 0), (0, .ref b0)]) hx hb d_Machine_finalStates_1 rfl hl (by decide) rfl (fun ls hl => ?_)
  refine lv_iconst (v := 0) hx hb d_Machine_finalStates_2 (by decide) ?_
  refine lv_istore_n (lv' := [(2, .int 0), (1, .int 0), (0, .ref b0)]) hx hb d_Machine_finalStates_3 rfl hl (by decide) rfl (fun ls hl => ?_)
  suffices key : ∀ (k_17 : Nat) (y_18 : Int32) (y_19 : Int32) (H : Heap) (locs : List Loc) (ls : Array Slot), (zI y_18 0 241) → (241 : Int) - y_18.toInt < (k_17 : Int) → va_P G.1 classes [(b0, .inr (5, [.int b1, .int b2, .ref b3, .ref b4, .ref b5, .ref b6, .ref b7, .ref b8, .int b9, .ref b10, .ref b11, .ref b12, .ref b13, .ref b14, .ref b15])), (b6, .inl (G.2 0, 241, .inl b16))] H → va_D A [(b0, .inr (5, [.int b1, .int b2, .ref b3, .ref b4, .ref b5, .ref b6, .ref b7, .ref b8, .int b9, .ref b10, .ref b11, .ref b12, .ref b13, .ref b14, .ref b15])), (b6, .inl (G.2 0, 241, .inl b16))] → va_S A s.heap H locs → lv_has ls 3 [(2, .int y_18), (1, .int y_19), (0, .ref b0)] → W p l e m_s1_Machine_finalStates s m ([.ref b0] : List Value).toArray below meth c H locs 0 0 (MQ below (zQ G (fun v w => ∃ (e0 : Int32), v = some (.int e0) ∧ w = [(b0, .inr (5, [.int b1, .int b2, .ref b3, .ref b4, .ref b5, .ref b6, .ref b7, .ref b8, .int b9, .ref b10, .ref b11, .ref b12, .ref b13, .ref b14, .ref b15])), (b6, .inl (G.2 0, 241, .inl b16))]) A) ([.ref b0] : List Value).toArray s m_s1_Machine_finalStates.cells m_s1_Machine_finalStates.slots A) (F0 m 4 ls []) by
    exact key 242 (0) (0) _ _ _ (zI.wk (l' := 0) (h' := 241) zc_0 (by decide)) (zm_upi (zI.wk (l' := 0) (h' := 241) zc_0 (by decide)) (by decide)) hP hD hS (lv_sub hl [0, 1, 2] rfl)
  intro k_17
  induction k_17 with
  | zero =>
    intro y_18 y_19 H locs ls hy_18 hmk_17 hP hD hS hl
    exact (zm_up0 hy_18 hmk_17).elim
  | succ k_17 ihk_17 =>
    intro y_18 y_19 H locs ls hy_18 hmk_17 hP hD hS hl
    refine lv_iload_n hx hb d_Machine_finalStates_4 rfl (lv_at hl 0 rfl) ?_
    refine lv_aload_n hx hb d_Machine_finalStates_5 rfl (lv_at hl 2 rfl) ?_
    refine va_get (D := G.1) (ci := 5) (v := .int b2) (C := R_Machine) (T := F_Machine) (N := 15) hx hb hts i_Machine hown hK hP 0 rfl rfl 1 (by decide) (hts _ q168) (fun _ h9 => h9) rfl d_Machine_finalStates_6 ?_
    refine lv_icmp_ge (tgt := 30) hx hb d_Machine_finalStates_9 (by decide) (fun hc_20 => ?_) (fun hc_20 => ?_)
    · have _nhc_20 := hc_20
      have ni_21 := (fa_le _ _).mp hc_20
      refine lv_iload_n hx hb d_Machine_finalStates_30 rfl (lv_at hl 1 rfl) ?_
      exact z_iret hx hb hr hlocks hP hD hS (Nat.le_of_ble_eq_true rfl) (Nat.le_of_ble_eq_true rfl) d_Machine_finalStates_31 ⟨y_19, rfl, rfl⟩
    · have _nhc_20 := hc_20
      have ni_22 := (fa_lt _ _).mp (zi_nle hc_20)
      have hv_23 : zI y_18 0 240 := zI.lt_l hy_18 hb2 (zi_nle hc_20) (by decide)
      have hv_24 : zI b2 1 241 := zI.lt_r hy_18 hb2 (zi_nle hc_20) (by decide)
      refine lv_aload_n hx hb d_Machine_finalStates_12 rfl (lv_at hl 2 rfl) ?_
      refine va_get (D := G.1) (ci := 5) (v := .ref b6) (C := R_Machine) (T := F_Machine) (N := 15) hx hb hts i_Machine hown hK hP 0 rfl rfl 5 (by decide) (hts _ q176) (fun _ h9 => h9) rfl d_Machine_finalStates_13 ?_
      refine lv_iload_n hx hb d_Machine_finalStates_16 rfl (lv_at hl 0 rfl) ?_
      refine va_iald hx hb hK hP 1 0 rfl rfl (zI.inn hv_23 (by decide)) d_Machine_finalStates_17 ?_
      refine lv_topi (fun v_25 ev_25 => ?_)
      refine lv_if_le (tgt := 24) hx hb d_Machine_finalStates_18 (by decide) (fun hc_26 => ?_) (fun hc_26 => ?_)
      · have _nhc_26 := hc_26
        have ni_27 := (fa_le _ _).mp hc_26
        rw [li_0] at ni_27
        have hv_28 : zI v_25 (-2147483648) 0 := zI.le_l (zI_all v_25) zc_0 hc_26 (by decide)
        obtain ⟨v_29, ev_29⟩ : ∃ z : Int32, z = y_18 + 1 := ⟨_, rfl⟩
        obtain ⟨qv_29, hv_29⟩ := zI_add (l := 1) (h := 241) hv_23 zc_1 ev_29 (by decide)
        rw [li_1] at qv_29
        refine lv_iinc (v := v_29) (lv' := [(2, .int v_29), (1, .int y_19), (0, .ref b0)]) hx hb d_Machine_finalStates_24 hl (k := 0) rfl (by rw [ev_29]; rfl) (by decide) rfl (fun ls hl => ?_)
        refine lv_goto (tgt := 4) hx hb d_Machine_finalStates_27 (by decide) ?_
        exact ihk_17 (v_29) (y_19) _ _ _ (zI.wk (l' := 0) (h' := 241) hv_29 (by decide)) (zm_up qv_29 hmk_17 (by decide)) hP hD hS (lv_sub hl [0, 1, 2] rfl)
      · have _nhc_26 := hc_26
        have ni_30 := (fa_lt _ _).mp (zi_nle hc_26)
        rw [li_0] at ni_30
        have hv_31 : zI v_25 1 2147483647 := zI.lt_r zc_0 (zI_all v_25) (zi_nle hc_26) (by decide)
        obtain ⟨v_32, ev_32⟩ : ∃ z : Int32, z = y_19 + 1 := ⟨_, rfl⟩
        refine lv_iinc (v := v_32) (lv' := [(1, .int v_32), (2, .int y_18), (0, .ref b0)]) hx hb d_Machine_finalStates_21 hl (k := 1) rfl (by rw [ev_32]; rfl) (by decide) rfl (fun ls hl => ?_)
        obtain ⟨v_33, ev_33⟩ : ∃ z : Int32, z = y_18 + 1 := ⟨_, rfl⟩
        obtain ⟨qv_33, hv_33⟩ := zI_add (l := 1) (h := 241) hv_23 zc_1 ev_33 (by decide)
        rw [li_1] at qv_33
        refine lv_iinc (v := v_33) (lv' := [(2, .int v_33), (1, .int v_32), (0, .ref b0)]) hx hb d_Machine_finalStates_24 hl (k := 1) rfl (by rw [ev_33]; rfl) (by decide) rfl (fun ls hl => ?_)
        refine lv_goto (tgt := 4) hx hb d_Machine_finalStates_27 (by decide) ?_
        exact ihk_17 (v_33) (v_32) _ _ _ (zI.wk (l' := 0) (h' := 241) hv_33 (by decide)) (zm_up qv_33 hmk_17 (by decide)) hP hD hS (lv_sub hl [0, 1, 2] rfl)
theorem d_Machine_forks_0 : decode prog_4_method_14_code 0 = .ok (.iconst 0, 1) := by decide +kernel
theorem d_Machine_forks_1 : decode prog_4_method_14_code 1 = .ok (.istore_n 2, 1) := by decide +kernel
theorem d_Machine_forks_2 : decode prog_4_method_14_code 2 = .ok (.iconst 0, 1) := by decide +kernel
theorem d_Machine_forks_3 : decode prog_4_method_14_code 3 = .ok (.istore_n 3, 1) := by decide +kernel
theorem d_Machine_forks_4 : decode prog_4_method_14_code 4 = .ok (.iload_n 3, 1) := by decide +kernel
theorem d_Machine_forks_5 : decode prog_4_method_14_code 5 = .ok (.aload_n 0, 1) := by decide +kernel
theorem d_Machine_forks_6 : decode prog_4_method_14_code 6 = .ok (.getfield 103, 3) := by decide +kernel
theorem d_Machine_forks_9 : decode prog_4_method_14_code 9 = .ok (.if_icmp .ge 106, 3) := by decide +kernel
theorem d_Machine_forks_12 : decode prog_4_method_14_code 12 = .ok (.iload_n 3, 1) := by decide +kernel
theorem d_Machine_forks_13 : decode prog_4_method_14_code 13 = .ok (.iconst 1, 1) := by decide +kernel
theorem d_Machine_forks_14 : decode prog_4_method_14_code 14 = .ok (.iadd, 1) := by decide +kernel
theorem d_Machine_forks_15 : decode prog_4_method_14_code 15 = .ok (.istore 4, 2) := by decide +kernel
theorem d_Machine_forks_17 : decode prog_4_method_14_code 17 = .ok (.iload 4, 2) := by decide +kernel
theorem d_Machine_forks_19 : decode prog_4_method_14_code 19 = .ok (.aload_n 0, 1) := by decide +kernel
theorem d_Machine_forks_20 : decode prog_4_method_14_code 20 = .ok (.getfield 103, 3) := by decide +kernel
theorem d_Machine_forks_23 : decode prog_4_method_14_code 23 = .ok (.if_icmp .ge 86, 3) := by decide +kernel
theorem d_Machine_forks_26 : decode prog_4_method_14_code 26 = .ok (.aload_n 0, 1) := by decide +kernel
theorem d_Machine_forks_27 : decode prog_4_method_14_code 27 = .ok (.getfield 33, 3) := by decide +kernel
theorem d_Machine_forks_30 : decode prog_4_method_14_code 30 = .ok (.iload 4, 2) := by decide +kernel
theorem d_Machine_forks_32 : decode prog_4_method_14_code 32 = .ok (.iaload, 1) := by decide +kernel
theorem d_Machine_forks_33 : decode prog_4_method_14_code 33 = .ok (.sipush 256, 3) := by decide +kernel
theorem d_Machine_forks_36 : decode prog_4_method_14_code 36 = .ok (.idiv, 1) := by decide +kernel
theorem d_Machine_forks_37 : decode prog_4_method_14_code 37 = .ok (.aload_n 0, 1) := by decide +kernel
theorem d_Machine_forks_38 : decode prog_4_method_14_code 38 = .ok (.getfield 33, 3) := by decide +kernel
theorem d_Machine_forks_41 : decode prog_4_method_14_code 41 = .ok (.iload_n 3, 1) := by decide +kernel
theorem d_Machine_forks_42 : decode prog_4_method_14_code 42 = .ok (.iaload, 1) := by decide +kernel
theorem d_Machine_forks_43 : decode prog_4_method_14_code 43 = .ok (.sipush 256, 3) := by decide +kernel
theorem d_Machine_forks_46 : decode prog_4_method_14_code 46 = .ok (.idiv, 1) := by decide +kernel
theorem d_Machine_forks_47 : decode prog_4_method_14_code 47 = .ok (.if_icmp .eq 6, 3) := by decide +kernel
theorem d_Machine_forks_50 : decode prog_4_method_14_code 50 = .ok (.goto 59, 3) := by decide +kernel
theorem d_Machine_forks_53 : decode prog_4_method_14_code 53 = .ok (.aload_n 0, 1) := by decide +kernel
theorem d_Machine_forks_54 : decode prog_4_method_14_code 54 = .ok (.getfield 39, 3) := by decide +kernel
theorem d_Machine_forks_57 : decode prog_4_method_14_code 57 = .ok (.iload_n 3, 1) := by decide +kernel
theorem d_Machine_forks_58 : decode prog_4_method_14_code 58 = .ok (.iaload, 1) := by decide +kernel
theorem d_Machine_forks_59 : decode prog_4_method_14_code 59 = .ok (.aload_n 0, 1) := by decide +kernel
theorem d_Machine_forks_60 : decode prog_4_method_14_code 60 = .ok (.getfield 39, 3) := by decide +kernel
theorem d_Machine_forks_63 : decode prog_4_method_14_code 63 = .ok (.iload 4, 2) := by decide +kernel
theorem d_Machine_forks_65 : decode prog_4_method_14_code 65 = .ok (.iaload, 1) := by decide +kernel
theorem d_Machine_forks_66 : decode prog_4_method_14_code 66 = .ok (.invokestatic 130, 3) := by decide +kernel
theorem d_Machine_forks_69 : decode prog_4_method_14_code 69 = .ok (.iload_n 1, 1) := by decide +kernel
theorem d_Machine_forks_70 : decode prog_4_method_14_code 70 = .ok (.isub, 1) := by decide +kernel
theorem d_Machine_forks_71 : decode prog_4_method_14_code 71 = .ok (.istore 5, 2) := by decide +kernel
theorem d_Machine_forks_73 : decode prog_4_method_14_code 73 = .ok (.aload_n 0, 1) := by decide +kernel
theorem d_Machine_forks_74 : decode prog_4_method_14_code 74 = .ok (.getfield 42, 3) := by decide +kernel
theorem d_Machine_forks_77 : decode prog_4_method_14_code 77 = .ok (.iload_n 3, 1) := by decide +kernel
theorem d_Machine_forks_78 : decode prog_4_method_14_code 78 = .ok (.iaload, 1) := by decide +kernel
theorem d_Machine_forks_79 : decode prog_4_method_14_code 79 = .ok (.aload_n 0, 1) := by decide +kernel
theorem d_Machine_forks_80 : decode prog_4_method_14_code 80 = .ok (.getfield 42, 3) := by decide +kernel
theorem d_Machine_forks_83 : decode prog_4_method_14_code 83 = .ok (.iload 4, 2) := by decide +kernel
theorem d_Machine_forks_85 : decode prog_4_method_14_code 85 = .ok (.iaload, 1) := by decide +kernel
theorem d_Machine_forks_86 : decode prog_4_method_14_code 86 = .ok (.invokestatic 123, 3) := by decide +kernel
theorem d_Machine_forks_89 : decode prog_4_method_14_code 89 = .ok (.iload_n 1, 1) := by decide +kernel
theorem d_Machine_forks_90 : decode prog_4_method_14_code 90 = .ok (.iadd, 1) := by decide +kernel
theorem d_Machine_forks_91 : decode prog_4_method_14_code 91 = .ok (.istore 6, 2) := by decide +kernel
theorem d_Machine_forks_93 : decode prog_4_method_14_code 93 = .ok (.iload 5, 2) := by decide +kernel
theorem d_Machine_forks_95 : decode prog_4_method_14_code 95 = .ok (.iload 6, 2) := by decide +kernel
theorem d_Machine_forks_97 : decode prog_4_method_14_code 97 = .ok (.if_icmp .gt 6, 3) := by decide +kernel
theorem d_Machine_forks_100 : decode prog_4_method_14_code 100 = .ok (.iinc 2 1, 3) := by decide +kernel
theorem d_Machine_forks_103 : decode prog_4_method_14_code 103 = .ok (.iinc 4 1, 3) := by decide +kernel
theorem d_Machine_forks_106 : decode prog_4_method_14_code 106 = .ok (.goto (-89), 3) := by decide +kernel
theorem d_Machine_forks_109 : decode prog_4_method_14_code 109 = .ok (.iinc 3 1, 3) := by decide +kernel
theorem d_Machine_forks_112 : decode prog_4_method_14_code 112 = .ok (.goto (-108), 3) := by decide +kernel
theorem d_Machine_forks_115 : decode prog_4_method_14_code 115 = .ok (.iload_n 2, 1) := by decide +kernel
theorem d_Machine_forks_116 : decode prog_4_method_14_code 116 = .ok (.ireturn, 1) := by decide +kernel
abbrev m_s1_Machine_forks : Room := { frames := 1, cells := 0, slots := 0, locals := 13 }
set_option maxHeartbeats 4000000 in
set_option maxRecDepth 100000 in
theorem s1_Machine_forks (l : Launch) (G : zG) (b0 : Nat) (b1 : Int32) (b2 : Int32) (b3 : Int32) (b4 : Nat) (b5 : Nat) (b6 : Nat) (b7 : Nat) (b8 : Nat) (b9 : Nat) (b10 : Int32) (b11 : Nat) (b12 : Nat) (b13 : Nat) (b14 : Nat) (b15 : Nat) (b16 : Nat) (b17 : Nat → Int32) (b18 : Nat → Int32) (b19 : Nat → Int32) (hb2 : zI b2 0 1) (hb3 : zI b3 0 241) (hb10 : zI b10 0 240) (hb17 : zK b17) : zM l G y_Machine_forks prog_4_method_14_code 7 (Option.some Jvm.ClassFile.FieldType.int) m_s1_Machine_forks [.ref b0, .int b1] [(b0, .inr (5, [.int b2, .int b3, .ref b4, .ref b5, .ref b6, .ref b7, .ref b8, .ref b9, .int b10, .ref b11, .ref b12, .ref b13, .ref b14, .ref b15, .ref b16])), (b11, .inl (G.2 0, 240, .inl b17)), (b13, .inl (G.2 0, 240, .inl b18)), (b14, .inl (G.2 0, 240, .inl b19))] (fun v w => ∃ (e0 : Int32), v = some (.int e0) ∧ w = [(b0, .inr (5, [.int b2, .int b3, .ref b4, .ref b5, .ref b6, .ref b7, .ref b8, .ref b9, .int b10, .ref b11, .ref b12, .ref b13, .ref b14, .ref b15, .ref b16])), (b11, .inl (G.2 0, 240, .inl b17)), (b13, .inl (G.2 0, 240, .inl b18)), (b14, .inl (G.2 0, 240, .inl b19))]) := by
  refine z_start (by decide +kernel) (Nat.le_of_ble_eq_true rfl) ?_
  intro p e s m below meth c A Z hr hnm hA hP hD hS ls hl
  have Z : zC p s m _ meth c prog_4_method_14_code 7 "TraceMachines$Machine" G := Z
  obtain ⟨hx, hb, hml, hown, hts, hK, hN, hlocks⟩ := id Z
  have hl : lv_has ls 7 [(0, .ref b0), (1, .int b1)] := hl
  refine lv_iconst (v := 0) hx hb d_Machine_forks_0 (by decide) ?_
  refine lv_istore_n (lv' := [(2, .int 0), (0, .ref b0), (1, .int b1)]) hx hb d_Machine_forks_1 rfl hl (by decide) rfl (fun ls hl => ?_)
  refine lv_iconst (v := 0) hx hb d_Machine_forks_2 (by decide) ?_
  refine lv_istore_n (lv' := [(3, .int 0), (2, .int 0), (0, .ref b0), (1, .int b1)]) hx hb d_Machine_forks_3 rfl hl (by decide) rfl (fun ls hl => ?_)
  suffices key : ∀ (k_73 : Nat) (y_74 : Int32) (y_75 : Int32) (H : Heap) (locs : List Loc) (ls : Array Slot), (zI y_74 0 240) → (240 : Int) - y_74.toInt < (k_73 : Int) → va_P G.1 classes [(b0, .inr (5, [.int b2, .int b3, .ref b4, .ref b5, .ref b6, .ref b7, .ref b8, .ref b9, .int b10, .ref b11, .ref b12, .ref b13, .ref b14, .ref b15, .ref b16])), (b11, .inl (G.2 0, 240, .inl b17)), (b13, .inl (G.2 0, 240, .inl b18)), (b14, .inl (G.2 0, 240, .inl b19))] H → va_D A [(b0, .inr (5, [.int b2, .int b3, .ref b4, .ref b5, .ref b6, .ref b7, .ref b8, .ref b9, .int b10, .ref b11, .ref b12, .ref b13, .ref b14, .ref b15, .ref b16])), (b11, .inl (G.2 0, 240, .inl b17)), (b13, .inl (G.2 0, 240, .inl b18)), (b14, .inl (G.2 0, 240, .inl b19))] → va_S A s.heap H locs → lv_has ls 7 [(3, .int y_74), (2, .int y_75), (0, .ref b0), (1, .int b1)] → W p l e m_s1_Machine_forks s m ([.ref b0, .int b1] : List Value).toArray below meth c H locs 0 0 (MQ below (zQ G (fun v w => ∃ (e0 : Int32), v = some (.int e0) ∧ w = [(b0, .inr (5, [.int b2, .int b3, .ref b4, .ref b5, .ref b6, .ref b7, .ref b8, .ref b9, .int b10, .ref b11, .ref b12, .ref b13, .ref b14, .ref b15, .ref b16])), (b11, .inl (G.2 0, 240, .inl b17)), (b13, .inl (G.2 0, 240, .inl b18)), (b14, .inl (G.2 0, 240, .inl b19))]) A) ([.ref b0, .int b1] : List Value).toArray s m_s1_Machine_forks.cells m_s1_Machine_forks.slots A) (F0 m 4 ls []) by
    exact key 241 (0) (0) _ _ _ (zI.wk (l' := 0) (h' := 240) zc_0 (by decide)) (zm_upi (zI.wk (l' := 0) (h' := 240) zc_0 (by decide)) (by decide)) hP hD hS (lv_sub hl [0, 1, 2, 3] rfl)
  intro k_73
  induction k_73 with
  | zero =>
    intro y_74 y_75 H locs ls hy_74 hmk_73 hP hD hS hl
    exact (zm_up0 hy_74 hmk_73).elim
  | succ k_73 ihk_73 =>
    intro y_74 y_75 H locs ls hy_74 hmk_73 hP hD hS hl
    refine lv_iload_n hx hb d_Machine_forks_4 rfl (lv_at hl 0 rfl) ?_
    refine lv_aload_n hx hb d_Machine_forks_5 rfl (lv_at hl 2 rfl) ?_
    refine va_get (D := G.1) (ci := 5) (v := .int b10) (C := R_Machine) (T := F_Machine) (N := 15) hx hb hts i_Machine hown hK hP 0 rfl rfl 8 (by decide) (hts _ q184) (fun _ h9 => h9) rfl d_Machine_forks_6 ?_
    refine lv_icmp_ge (tgt := 115) hx hb d_Machine_forks_9 (by decide) (fun hc_76 => ?_) (fun hc_76 => ?_)
    · have _nhc_76 := hc_76
      have ni_77 := (fa_le _ _).mp hc_76
      refine lv_iload_n hx hb d_Machine_forks_115 rfl (lv_at hl 1 rfl) ?_
      exact z_iret hx hb hr hlocks hP hD hS (Nat.le_of_ble_eq_true rfl) (Nat.le_of_ble_eq_true rfl) d_Machine_forks_116 ⟨y_75, rfl, rfl⟩
    · have _nhc_76 := hc_76
      have ni_78 := (fa_lt _ _).mp (zi_nle hc_76)
      have hv_79 : zI y_74 0 239 := zI.lt_l hy_74 hb10 (zi_nle hc_76) (by decide)
      have hv_80 : zI b10 1 240 := zI.lt_r hy_74 hb10 (zi_nle hc_76) (by decide)
      refine lv_iload_n hx hb d_Machine_forks_12 rfl (lv_at hl 0 rfl) ?_
      refine lv_iconst (v := 1) hx hb d_Machine_forks_13 (by decide) ?_
      refine lv_iadd hx hb d_Machine_forks_14 ?_
      refine lv_topi (fun v_81 ev_81 => ?_)
      obtain ⟨qv_81, hv_81⟩ := zI_add (l := 1) (h := 240) hv_79 zc_1 ev_81 (by decide)
      rw [li_1] at qv_81
      refine lv_istore (lv' := [(4, .int v_81), (3, .int y_74), (2, .int y_75), (0, .ref b0), (1, .int b1)]) hx hb d_Machine_forks_15 hl (by decide) rfl (fun ls hl => ?_)
      suffices key : ∀ (k_114 : Nat) (y_115 : Int32) (y_116 : Int32) (H : Heap) (locs : List Loc) (ls : Array Slot), (zI y_115 1 240) → (240 : Int) - y_115.toInt < (k_114 : Int) → va_P G.1 classes [(b0, .inr (5, [.int b2, .int b3, .ref b4, .ref b5, .ref b6, .ref b7, .ref b8, .ref b9, .int b10, .ref b11, .ref b12, .ref b13, .ref b14, .ref b15, .ref b16])), (b11, .inl (G.2 0, 240, .inl b17)), (b13, .inl (G.2 0, 240, .inl b18)), (b14, .inl (G.2 0, 240, .inl b19))] H → va_D A [(b0, .inr (5, [.int b2, .int b3, .ref b4, .ref b5, .ref b6, .ref b7, .ref b8, .ref b9, .int b10, .ref b11, .ref b12, .ref b13, .ref b14, .ref b15, .ref b16])), (b11, .inl (G.2 0, 240, .inl b17)), (b13, .inl (G.2 0, 240, .inl b18)), (b14, .inl (G.2 0, 240, .inl b19))] → va_S A s.heap H locs → lv_has ls 7 [(4, .int y_115), (3, .int y_74), (2, .int y_116), (0, .ref b0), (1, .int b1)] → W p l e m_s1_Machine_forks s m ([.ref b0, .int b1] : List Value).toArray below meth c H locs 0 0 (MQ below (zQ G (fun v w => ∃ (e0 : Int32), v = some (.int e0) ∧ w = [(b0, .inr (5, [.int b2, .int b3, .ref b4, .ref b5, .ref b6, .ref b7, .ref b8, .ref b9, .int b10, .ref b11, .ref b12, .ref b13, .ref b14, .ref b15, .ref b16])), (b11, .inl (G.2 0, 240, .inl b17)), (b13, .inl (G.2 0, 240, .inl b18)), (b14, .inl (G.2 0, 240, .inl b19))]) A) ([.ref b0, .int b1] : List Value).toArray s m_s1_Machine_forks.cells m_s1_Machine_forks.slots A) (F0 m 17 ls []) by
        exact key 240 (v_81) (y_75) _ _ _ hv_81 (zm_upi hv_81 (by decide)) hP hD hS (lv_sub hl [0, 1, 2, 3, 4] rfl)
      intro k_114
      induction k_114 with
      | zero =>
        intro y_115 y_116 H locs ls hy_115 hmk_114 hP hD hS hl
        exact (zm_up0 hy_115 hmk_114).elim
      | succ k_114 ihk_114 =>
        intro y_115 y_116 H locs ls hy_115 hmk_114 hP hD hS hl
        refine lv_iload hx hb d_Machine_forks_17 (lv_at hl 0 rfl) ?_
        refine lv_aload_n hx hb d_Machine_forks_19 rfl (lv_at hl 3 rfl) ?_
        refine va_get (D := G.1) (ci := 5) (v := .int b10) (C := R_Machine) (T := F_Machine) (N := 15) hx hb hts i_Machine hown hK hP 0 rfl rfl 8 (by decide) (hts _ q184) (fun _ h9 => h9) rfl d_Machine_forks_20 ?_
        refine lv_icmp_ge (tgt := 109) hx hb d_Machine_forks_23 (by decide) (fun hc_117 => ?_) (fun hc_117 => ?_)
        · have _nhc_117 := hc_117
          have ni_118 := (fa_le _ _).mp hc_117
          obtain ⟨v_119, ev_119⟩ : ∃ z : Int32, z = y_74 + 1 := ⟨_, rfl⟩
          obtain ⟨qv_119, hv_119⟩ := zI_add (l := 1) (h := 240) hv_79 zc_1 ev_119 (by decide)
          rw [li_1] at qv_119
          refine lv_iinc (v := v_119) (lv' := [(3, .int v_119), (4, .int y_115), (2, .int y_116), (0, .ref b0), (1, .int b1)]) hx hb d_Machine_forks_109 hl (k := 1) rfl (by rw [ev_119]; rfl) (by decide) rfl (fun ls hl => ?_)
          refine lv_goto (tgt := 4) hx hb d_Machine_forks_112 (by decide) ?_
          exact ihk_73 (v_119) (y_116) _ _ _ (zI.wk (l' := 0) (h' := 240) hv_119 (by decide)) (zm_up qv_119 hmk_73 (by decide)) hP hD hS (lv_sub hl [0, 2, 3, 4] rfl)
        · have _nhc_117 := hc_117
          have ni_120 := (fa_lt _ _).mp (zi_nle hc_117)
          have hv_121 : zI y_115 1 239 := zI.lt_l hy_115 hv_80 (zi_nle hc_117) (by decide)
          have hv_122 : zI b10 2 240 := zI.lt_r hy_115 hv_80 (zi_nle hc_117) (by decide)
          refine lv_aload_n hx hb d_Machine_forks_26 rfl (lv_at hl 3 rfl) ?_
          refine va_get (D := G.1) (ci := 5) (v := .ref b11) (C := R_Machine) (T := F_Machine) (N := 15) hx hb hts i_Machine hown hK hP 0 rfl rfl 9 (by decide) (hts _ q186) (fun _ h9 => h9) rfl d_Machine_forks_27 ?_
          refine lv_iload hx hb d_Machine_forks_30 (lv_at hl 0 rfl) ?_
          refine va_iald hx hb hK hP 1 0 rfl rfl (zI.inn hv_121 (by decide)) d_Machine_forks_32 ?_
          refine lv_topi (fun v_123 ev_123 => ?_)
          obtain ⟨hv_123, kv_123⟩ := zK.ld hb17 ev_123
          refine lv_sipush (v := 256) hx hb d_Machine_forks_33 (by decide) ?_
          refine lv_idiv hx hb d_Machine_forks_36 (by decide +kernel) ?_
          refine lv_topi (fun v_124 ev_124 => ?_)
          obtain ⟨qv_124, hv_124⟩ := zI_div (l := 0) (h := 2409) (d := 256) hv_123 rfl ev_124 (by decide)
          refine lv_aload_n hx hb d_Machine_forks_37 rfl (lv_at hl 3 rfl) ?_
          refine va_get (D := G.1) (ci := 5) (v := .ref b11) (C := R_Machine) (T := F_Machine) (N := 15) hx hb hts i_Machine hown hK hP 0 rfl rfl 9 (by decide) (hts _ q186) (fun _ h9 => h9) rfl d_Machine_forks_38 ?_
          refine lv_iload_n hx hb d_Machine_forks_41 rfl (lv_at hl 1 rfl) ?_
          refine va_iald hx hb hK hP 1 0 rfl rfl (zI.inn hv_79 (by decide)) d_Machine_forks_42 ?_
          refine lv_topi (fun v_125 ev_125 => ?_)
          obtain ⟨hv_125, kv_125⟩ := zK.ld hb17 ev_125
          refine lv_sipush (v := 256) hx hb d_Machine_forks_43 (by decide) ?_
          refine lv_idiv hx hb d_Machine_forks_46 (by decide +kernel) ?_
          refine lv_topi (fun v_126 ev_126 => ?_)
          obtain ⟨qv_126, hv_126⟩ := zI_div (l := 0) (h := 2409) (d := 256) hv_125 rfl ev_126 (by decide)
          refine lv_icmp_eq (tgt := 53) hx hb d_Machine_forks_47 (by decide) (fun hc_127 => ?_) (fun hc_127 => ?_)
          · have _nhc_127 := hc_127
            have ni_128 := (fa_eq _ _).mp hc_127
            refine lv_aload_n hx hb d_Machine_forks_53 rfl (lv_at hl 3 rfl) ?_
            refine va_get (D := G.1) (ci := 5) (v := .ref b13) (C := R_Machine) (T := F_Machine) (N := 15) hx hb hts i_Machine hown hK hP 0 rfl rfl 11 (by decide) (hts _ q191) (fun _ h9 => h9) rfl d_Machine_forks_54 ?_
            refine lv_iload_n hx hb d_Machine_forks_57 rfl (lv_at hl 1 rfl) ?_
            refine va_iald hx hb hK hP 2 0 rfl rfl (zI.inn hv_79 (by decide)) d_Machine_forks_58 ?_
            refine lv_topi (fun v_129 ev_129 => ?_)
            refine lv_aload_n hx hb d_Machine_forks_59 rfl (lv_at hl 3 rfl) ?_
            refine va_get (D := G.1) (ci := 5) (v := .ref b13) (C := R_Machine) (T := F_Machine) (N := 15) hx hb hts i_Machine hown hK hP 0 rfl rfl 11 (by decide) (hts _ q191) (fun _ h9 => h9) rfl d_Machine_forks_60 ?_
            refine lv_iload hx hb d_Machine_forks_63 (lv_at hl 0 rfl) ?_
            refine va_iald hx hb hK hP 2 0 rfl rfl (zI.inn hv_121 (by decide)) d_Machine_forks_65 ?_
            refine lv_topi (fun v_130 ev_130 => ?_)
            refine va_mmax hx hb (hml.trans hl.1.symm) hown (hts _ q655) (hts _ q595) (hts _ q20) (hts _ q596) (Nat.le_of_ble_eq_true rfl) (Nat.le_of_ble_eq_true rfl) (Nat.le_of_ble_eq_true rfl) (Nat.le_of_ble_eq_true rfl) d_Machine_forks_66 ?_
            refine lv_topi (fun v_131 ev_131 => ?_)
            have hv_131 := zI_max (l := (-2147483648)) (h := 2147483647) (zI_all v_129) (zI_all v_130) ev_131 (by decide)
            refine lv_iload_n hx hb d_Machine_forks_69 rfl (lv_at hl 4 rfl) ?_
            refine lv_isub hx hb d_Machine_forks_70 ?_
            refine lv_topi (fun v_132 ev_132 => ?_)
            refine lv_istore (lv' := [(5, .int v_132), (4, .int y_115), (3, .int y_74), (2, .int y_116), (0, .ref b0), (1, .int b1)]) hx hb d_Machine_forks_71 hl (by decide) rfl (fun ls hl => ?_)
            refine lv_aload_n hx hb d_Machine_forks_73 rfl (lv_at hl 4 rfl) ?_
            refine va_get (D := G.1) (ci := 5) (v := .ref b14) (C := R_Machine) (T := F_Machine) (N := 15) hx hb hts i_Machine hown hK hP 0 rfl rfl 12 (by decide) (hts _ q193) (fun _ h9 => h9) rfl d_Machine_forks_74 ?_
            refine lv_iload_n hx hb d_Machine_forks_77 rfl (lv_at hl 2 rfl) ?_
            refine va_iald hx hb hK hP 3 0 rfl rfl (zI.inn hv_79 (by decide)) d_Machine_forks_78 ?_
            refine lv_topi (fun v_133 ev_133 => ?_)
            refine lv_aload_n hx hb d_Machine_forks_79 rfl (lv_at hl 4 rfl) ?_
            refine va_get (D := G.1) (ci := 5) (v := .ref b14) (C := R_Machine) (T := F_Machine) (N := 15) hx hb hts i_Machine hown hK hP 0 rfl rfl 12 (by decide) (hts _ q193) (fun _ h9 => h9) rfl d_Machine_forks_80 ?_
            refine lv_iload hx hb d_Machine_forks_83 (lv_at hl 1 rfl) ?_
            refine va_iald hx hb hK hP 3 0 rfl rfl (zI.inn hv_121 (by decide)) d_Machine_forks_85 ?_
            refine lv_topi (fun v_134 ev_134 => ?_)
            refine va_mmin hx hb (hml.trans hl.1.symm) hown (hts _ q654) (hts _ q592) (hts _ q20) (hts _ q593) (Nat.le_of_ble_eq_true rfl) (Nat.le_of_ble_eq_true rfl) (Nat.le_of_ble_eq_true rfl) (Nat.le_of_ble_eq_true rfl) d_Machine_forks_86 ?_
            refine lv_topi (fun v_135 ev_135 => ?_)
            have hv_135 := zI_min (l := (-2147483648)) (h := 2147483647) (zI_all v_133) (zI_all v_134) ev_135 (by decide)
            refine lv_iload_n hx hb d_Machine_forks_89 rfl (lv_at hl 5 rfl) ?_
            refine lv_iadd hx hb d_Machine_forks_90 ?_
            refine lv_topi (fun v_136 ev_136 => ?_)
            refine lv_istore (lv' := [(6, .int v_136), (5, .int v_132), (4, .int y_115), (3, .int y_74), (2, .int y_116), (0, .ref b0), (1, .int b1)]) hx hb d_Machine_forks_91 hl (by decide) rfl (fun ls hl => ?_)
            refine lv_iload hx hb d_Machine_forks_93 (lv_at hl 1 rfl) ?_
            refine lv_iload hx hb d_Machine_forks_95 (lv_at hl 0 rfl) ?_
            refine lv_icmp_gt (tgt := 103) hx hb d_Machine_forks_97 (by decide) (fun hc_137 => ?_) (fun hc_137 => ?_)
            · have _nhc_137 := hc_137
              have ni_138 := (fa_lt _ _).mp hc_137
              have hv_139 : zI v_136 (-2147483648) 2147483646 := zI.lt_l (zI_all v_136) (zI_all v_132) hc_137 (by decide)
              have hv_140 : zI v_132 (-2147483647) 2147483647 := zI.lt_r (zI_all v_136) (zI_all v_132) hc_137 (by decide)
              obtain ⟨v_141, ev_141⟩ : ∃ z : Int32, z = y_115 + 1 := ⟨_, rfl⟩
              obtain ⟨qv_141, hv_141⟩ := zI_add (l := 2) (h := 240) hv_121 zc_1 ev_141 (by decide)
              rw [li_1] at qv_141
              refine lv_iinc (v := v_141) (lv' := [(4, .int v_141), (6, .int v_136), (5, .int v_132), (3, .int y_74), (2, .int y_116), (0, .ref b0), (1, .int b1)]) hx hb d_Machine_forks_103 hl (k := 2) rfl (by rw [ev_141]; rfl) (by decide) rfl (fun ls hl => ?_)
              refine lv_goto (tgt := 17) hx hb d_Machine_forks_106 (by decide) ?_
              exact ihk_114 (v_141) (y_116) _ _ _ (zI.wk (l' := 1) (h' := 240) hv_141 (by decide)) (zm_up qv_141 hmk_114 (by decide)) hP hD hS (lv_sub hl [0, 3, 4, 5, 6] rfl)
            · have _nhc_137 := hc_137
              have ni_142 := (fa_le _ _).mp (zi_nlt hc_137)
              obtain ⟨v_143, ev_143⟩ : ∃ z : Int32, z = y_116 + 1 := ⟨_, rfl⟩
              refine lv_iinc (v := v_143) (lv' := [(2, .int v_143), (6, .int v_136), (5, .int v_132), (4, .int y_115), (3, .int y_74), (0, .ref b0), (1, .int b1)]) hx hb d_Machine_forks_100 hl (k := 4) rfl (by rw [ev_143]; rfl) (by decide) rfl (fun ls hl => ?_)
              obtain ⟨v_144, ev_144⟩ : ∃ z : Int32, z = y_115 + 1 := ⟨_, rfl⟩
              obtain ⟨qv_144, hv_144⟩ := zI_add (l := 2) (h := 240) hv_121 zc_1 ev_144 (by decide)
              rw [li_1] at qv_144
              refine lv_iinc (v := v_144) (lv' := [(4, .int v_144), (2, .int v_143), (6, .int v_136), (5, .int v_132), (3, .int y_74), (0, .ref b0), (1, .int b1)]) hx hb d_Machine_forks_103 hl (k := 3) rfl (by rw [ev_144]; rfl) (by decide) rfl (fun ls hl => ?_)
              refine lv_goto (tgt := 17) hx hb d_Machine_forks_106 (by decide) ?_
              exact ihk_114 (v_144) (v_143) _ _ _ (zI.wk (l' := 1) (h' := 240) hv_144 (by decide)) (zm_up qv_144 hmk_114 (by decide)) hP hD hS (lv_sub hl [0, 4, 1, 5, 6] rfl)
          · have _nhc_127 := hc_127
            have ni_145 : ¬ (v_124 : Int32).toInt = (v_126 : Int32).toInt := fun z => hc_127 ((fa_eq _ _).mpr z)
            refine lv_goto (tgt := 109) hx hb d_Machine_forks_50 (by decide) ?_
            obtain ⟨v_146, ev_146⟩ : ∃ z : Int32, z = y_74 + 1 := ⟨_, rfl⟩
            obtain ⟨qv_146, hv_146⟩ := zI_add (l := 1) (h := 240) hv_79 zc_1 ev_146 (by decide)
            rw [li_1] at qv_146
            refine lv_iinc (v := v_146) (lv' := [(3, .int v_146), (4, .int y_115), (2, .int y_116), (0, .ref b0), (1, .int b1)]) hx hb d_Machine_forks_109 hl (k := 1) rfl (by rw [ev_146]; rfl) (by decide) rfl (fun ls hl => ?_)
            refine lv_goto (tgt := 4) hx hb d_Machine_forks_112 (by decide) ?_
            exact ihk_73 (v_146) (y_116) _ _ _ (zI.wk (l' := 0) (h' := 240) hv_146 (by decide)) (zm_up qv_146 hmk_73 (by decide)) hP hD hS (lv_sub hl [0, 2, 3, 4] rfl)
theorem d_Machine_keyOf_0 : decode prog_4_method_7_code 0 = .ok (.aload_n 0, 1) := by decide +kernel
theorem d_Machine_keyOf_1 : decode prog_4_method_7_code 1 = .ok (.getfield 11, 3) := by decide +kernel
theorem d_Machine_keyOf_4 : decode prog_4_method_7_code 4 = .ok (.aload_n 1, 1) := by decide +kernel
theorem d_Machine_keyOf_5 : decode prog_4_method_7_code 5 = .ok (.getfield 97, 3) := by decide +kernel
theorem d_Machine_keyOf_8 : decode prog_4_method_7_code 8 = .ok (.iload_n 2, 1) := by decide +kernel
theorem d_Machine_keyOf_9 : decode prog_4_method_7_code 9 = .ok (.iaload, 1) := by decide +kernel
theorem d_Machine_keyOf_10 : decode prog_4_method_7_code 10 = .ok (.iaload, 1) := by decide +kernel
theorem d_Machine_keyOf_11 : decode prog_4_method_7_code 11 = .ok (.istore_n 3, 1) := by decide +kernel
theorem d_Machine_keyOf_12 : decode prog_4_method_7_code 12 = .ok (.iload_n 3, 1) := by decide +kernel
theorem d_Machine_keyOf_13 : decode prog_4_method_7_code 13 = .ok (.sipush 2560, 3) := by decide +kernel
theorem d_Machine_keyOf_16 : decode prog_4_method_7_code 16 = .ok (.imul, 1) := by decide +kernel
theorem d_Machine_keyOf_17 : decode prog_4_method_7_code 17 = .ok (.aload_n 1, 1) := by decide +kernel
theorem d_Machine_keyOf_18 : decode prog_4_method_7_code 18 = .ok (.getfield 100, 3) := by decide +kernel
theorem d_Machine_keyOf_21 : decode prog_4_method_7_code 21 = .ok (.iload_n 2, 1) := by decide +kernel
theorem d_Machine_keyOf_22 : decode prog_4_method_7_code 22 = .ok (.iaload, 1) := by decide +kernel
theorem d_Machine_keyOf_23 : decode prog_4_method_7_code 23 = .ok (.sipush 256, 3) := by decide +kernel
theorem d_Machine_keyOf_26 : decode prog_4_method_7_code 26 = .ok (.imul, 1) := by decide +kernel
theorem d_Machine_keyOf_27 : decode prog_4_method_7_code 27 = .ok (.iadd, 1) := by decide +kernel
theorem d_Machine_keyOf_28 : decode prog_4_method_7_code 28 = .ok (.aload_n 0, 1) := by decide +kernel
theorem d_Machine_keyOf_29 : decode prog_4_method_7_code 29 = .ok (.getfield 11, 3) := by decide +kernel
theorem d_Machine_keyOf_32 : decode prog_4_method_7_code 32 = .ok (.iload_n 2, 1) := by decide +kernel
theorem d_Machine_keyOf_33 : decode prog_4_method_7_code 33 = .ok (.iaload, 1) := by decide +kernel
theorem d_Machine_keyOf_34 : decode prog_4_method_7_code 34 = .ok (.iadd, 1) := by decide +kernel
theorem d_Machine_keyOf_35 : decode prog_4_method_7_code 35 = .ok (.ireturn, 1) := by decide +kernel
theorem zc_2560 : zI 2560 2560 2560 := ⟨by decide +kernel, by decide +kernel⟩
theorem li_2560 : (2560 : Int32).toInt = 2560 := by decide +kernel
theorem zc_256 : zI 256 256 256 := ⟨by decide +kernel, by decide +kernel⟩
theorem li_256 : (256 : Int32).toInt = 256 := by decide +kernel
abbrev m_s1_Machine_keyOf : Room := { frames := 0, cells := 0, slots := 0, locals := 0 }
set_option maxHeartbeats 4000000 in
set_option maxRecDepth 100000 in
theorem s1_Machine_keyOf (l : Launch) (G : zG) (b0 : Nat) (b1 : Nat) (b2 : Int32) (b3 : Int32) (b4 : Int32) (b5 : Nat) (b6 : Nat) (b7 : Nat) (b8 : Nat) (b9 : Nat) (b10 : Nat) (b11 : Int32) (b12 : Nat) (b13 : Nat) (b14 : Nat) (b15 : Nat) (b16 : Nat) (b17 : Nat) (b18 : Nat → Int32) (b19 : Int32) (b20 : Int32) (b21 : Int32) (b22 : Nat) (b23 : Nat) (b24 : Nat) (b25 : Nat) (b26 : Nat) (b27 : Nat) (b28 : Nat) (b29 : Nat) (b30 : Nat → Int32) (b31 : Nat → Int32) (hb2 : zI b2 1 240) (hb3 : zI b3 0 1) (hb4 : zI b4 0 241) (hb11 : zI b11 0 240) (hb19 : zI b19 0 1) (hb21 : zI b21 0 241) (hb18 : zR b18 0 240) (hb30 : zR1 b30 0 240) (hb31 : zR1 b31 0 9) : zM l G y_Machine_keyOf prog_4_method_7_code 4 (Option.some Jvm.ClassFile.FieldType.int) m_s1_Machine_keyOf [.ref b0, .ref b1, .int b2] [(b0, .inr (5, [.int b3, .int b4, .ref b5, .ref b6, .ref b7, .ref b8, .ref b9, .ref b10, .int b11, .ref b12, .ref b13, .ref b14, .ref b15, .ref b16, .ref b17])), (b5, .inl (G.2 0, 241, .inl b18)), (b1, .inr (3, [.int b19, .int b20, .int b21, .ref b22, .ref b23, .ref b24, .ref b25, .ref b26, .ref b27, .ref b28, .ref b29])), (b22, .inl (G.2 0, 241, .inl b30)), (b23, .inl (G.2 0, 241, .inl b31))] (fun v w => ∃ (e0 : Int32), v = some (.int e0) ∧ w = [(b0, .inr (5, [.int b3, .int b4, .ref b5, .ref b6, .ref b7, .ref b8, .ref b9, .ref b10, .int b11, .ref b12, .ref b13, .ref b14, .ref b15, .ref b16, .ref b17])), (b5, .inl (G.2 0, 241, .inl b18)), (b1, .inr (3, [.int b19, .int b20, .int b21, .ref b22, .ref b23, .ref b24, .ref b25, .ref b26, .ref b27, .ref b28, .ref b29])), (b22, .inl (G.2 0, 241, .inl b30)), (b23, .inl (G.2 0, 241, .inl b31))] ∧ (zI e0 0 616944) ∧ (e0.toInt = zkey b18 b30 b31 b2.toInt.toNat) ∧ (e0.toInt % 256 ≤ 240)) := by
  refine z_start (by decide +kernel) (Nat.le_of_ble_eq_true rfl) ?_
  intro p e s m below meth c A Z hr hnm hA hP hD hS ls hl
  have Z : zC p s m _ meth c prog_4_method_7_code 4 "TraceMachines$Machine" G := Z
  obtain ⟨hx, hb, hml, hown, hts, hK, hN, hlocks⟩ := id Z
  have hl : lv_has ls 4 [(0, .ref b0), (1, .ref b1), (2, .int b2)] := hl
  refine lv_aload_n hx hb d_Machine_keyOf_0 rfl (lv_at hl 0 rfl) ?_
  refine va_get (D := G.1) (ci := 5) (v := .ref b5) (C := R_Machine) (T := F_Machine) (N := 15) hx hb hts i_Machine hown hK hP 0 rfl rfl 2 (by decide) (hts _ q170) (fun _ h9 => h9) rfl d_Machine_keyOf_1 ?_
  refine lv_aload_n hx hb d_Machine_keyOf_4 rfl (lv_at hl 1 rfl) ?_
  refine va_get (D := G.1) (ci := 3) (v := .ref b22) (C := R_Tree) (T := F_Tree) (N := 11) hx hb hts i_Tree hown hK hP 2 rfl rfl 3 (by decide) (hts _ q104) (fun _ h9 => h9) rfl d_Machine_keyOf_5 ?_
  refine lv_iload_n hx hb d_Machine_keyOf_8 rfl (lv_at hl 2 rfl) ?_
  refine va_iald hx hb hK hP 3 0 rfl rfl (zI.inn hb2 (by decide)) d_Machine_keyOf_9 ?_
  refine lv_topi (fun v_1 ev_1 => ?_)
  have hv_1 : zI v_1 0 240 := zR1.ld hb30 hb2 ev_1 (by decide)
  refine va_iald hx hb hK hP 1 0 rfl rfl (zI.inn hv_1 (by decide)) d_Machine_keyOf_10 ?_
  refine lv_topi (fun v_2 ev_2 => ?_)
  have hv_2 : zI v_2 0 240 := (hb18 _).eq ev_2
  refine lv_istore_n (lv' := [(3, .int v_2), (0, .ref b0), (1, .ref b1), (2, .int b2)]) hx hb d_Machine_keyOf_11 rfl hl (by decide) rfl (fun ls hl => ?_)
  refine lv_iload_n hx hb d_Machine_keyOf_12 rfl (lv_at hl 0 rfl) ?_
  refine lv_sipush (v := 2560) hx hb d_Machine_keyOf_13 (by decide) ?_
  refine lv_imul hx hb d_Machine_keyOf_16 ?_
  refine lv_topi (fun v_3 ev_3 => ?_)
  obtain ⟨qv_3, hv_3⟩ := zI_mul (l := 0) (h := 614400) hv_2 zc_2560 ev_3 (by decide)
  rw [li_2560] at qv_3
  refine lv_aload_n hx hb d_Machine_keyOf_17 rfl (lv_at hl 2 rfl) ?_
  refine va_get (D := G.1) (ci := 3) (v := .ref b23) (C := R_Tree) (T := F_Tree) (N := 11) hx hb hts i_Tree hown hK hP 2 rfl rfl 4 (by decide) (hts _ q106) (fun _ h9 => h9) rfl d_Machine_keyOf_18 ?_
  refine lv_iload_n hx hb d_Machine_keyOf_21 rfl (lv_at hl 3 rfl) ?_
  refine va_iald hx hb hK hP 4 0 rfl rfl (zI.inn hb2 (by decide)) d_Machine_keyOf_22 ?_
  refine lv_topi (fun v_4 ev_4 => ?_)
  have hv_4 : zI v_4 0 9 := zR1.ld hb31 hb2 ev_4 (by decide)
  refine lv_sipush (v := 256) hx hb d_Machine_keyOf_23 (by decide) ?_
  refine lv_imul hx hb d_Machine_keyOf_26 ?_
  refine lv_topi (fun v_5 ev_5 => ?_)
  obtain ⟨qv_5, hv_5⟩ := zI_mul (l := 0) (h := 2304) hv_4 zc_256 ev_5 (by decide)
  rw [li_256] at qv_5
  refine lv_iadd hx hb d_Machine_keyOf_27 ?_
  refine lv_topi (fun v_6 ev_6 => ?_)
  obtain ⟨qv_6, hv_6⟩ := zI_add (l := 0) (h := 616704) hv_3 hv_5 ev_6 (by decide)
  refine lv_aload_n hx hb d_Machine_keyOf_28 rfl (lv_at hl 1 rfl) ?_
  refine va_get (D := G.1) (ci := 5) (v := .ref b5) (C := R_Machine) (T := F_Machine) (N := 15) hx hb hts i_Machine hown hK hP 0 rfl rfl 2 (by decide) (hts _ q170) (fun _ h9 => h9) rfl d_Machine_keyOf_29 ?_
  refine lv_iload_n hx hb d_Machine_keyOf_32 rfl (lv_at hl 3 rfl) ?_
  refine va_iald hx hb hK hP 1 0 rfl rfl (zI.inn hb2 (by decide)) d_Machine_keyOf_33 ?_
  refine lv_topi (fun v_7 ev_7 => ?_)
  have hv_7 : zI v_7 0 240 := (hb18 _).eq ev_7
  refine lv_iadd hx hb d_Machine_keyOf_34 ?_
  refine lv_topi (fun v_8 ev_8 => ?_)
  obtain ⟨qv_8, hv_8⟩ := zI_add (l := 0) (h := 616944) hv_6 hv_7 ev_8 (by decide)
  exact z_iret hx hb hr hlocks hP hD hS (Nat.le_of_ble_eq_true rfl) (Nat.le_of_ble_eq_true rfl) d_Machine_keyOf_35 ⟨v_8, rfl, rfl, hv_8, (by unfold zkey; rw [← z_plf hb2 (by decide), ← ev_1, ← ev_2, ← ev_4, ← ev_7]; omega), (by omega)⟩
theorem d_Pair_tally_0 : decode prog_6_method_3_code 0 = .ok (.aload_n 0, 1) := by decide +kernel
theorem d_Pair_tally_1 : decode prog_6_method_3_code 1 = .ok (.iconst 0, 1) := by decide +kernel
theorem d_Pair_tally_2 : decode prog_6_method_3_code 2 = .ok (.putfield 15, 3) := by decide +kernel
theorem d_Pair_tally_5 : decode prog_6_method_3_code 5 = .ok (.aload_n 0, 1) := by decide +kernel
theorem d_Pair_tally_6 : decode prog_6_method_3_code 6 = .ok (.iconst 0, 1) := by decide +kernel
theorem d_Pair_tally_7 : decode prog_6_method_3_code 7 = .ok (.putfield 19, 3) := by decide +kernel
theorem d_Pair_tally_10 : decode prog_6_method_3_code 10 = .ok (.iconst 0, 1) := by decide +kernel
theorem d_Pair_tally_11 : decode prog_6_method_3_code 11 = .ok (.istore 5, 2) := by decide +kernel
theorem d_Pair_tally_13 : decode prog_6_method_3_code 13 = .ok (.iload 5, 2) := by decide +kernel
theorem d_Pair_tally_15 : decode prog_6_method_3_code 15 = .ok (.aload_n 1, 1) := by decide +kernel
theorem d_Pair_tally_16 : decode prog_6_method_3_code 16 = .ok (.getfield 22, 3) := by decide +kernel
theorem d_Pair_tally_19 : decode prog_6_method_3_code 19 = .ok (.if_icmp .ge 55, 3) := by decide +kernel
theorem d_Pair_tally_22 : decode prog_6_method_3_code 22 = .ok (.aload_n 0, 1) := by decide +kernel
theorem d_Pair_tally_23 : decode prog_6_method_3_code 23 = .ok (.aload_n 1, 1) := by decide +kernel
theorem d_Pair_tally_24 : decode prog_6_method_3_code 24 = .ok (.iload 5, 2) := by decide +kernel
theorem d_Pair_tally_26 : decode prog_6_method_3_code 26 = .ok (.iload_n 3, 1) := by decide +kernel
theorem d_Pair_tally_27 : decode prog_6_method_3_code 27 = .ok (.iload 4, 2) := by decide +kernel
theorem d_Pair_tally_29 : decode prog_6_method_3_code 29 = .ok (.invokevirtual 27, 3) := by decide +kernel
theorem d_Pair_tally_32 : decode prog_6_method_3_code 32 = .ok (.aload_n 0, 1) := by decide +kernel
theorem d_Pair_tally_33 : decode prog_6_method_3_code 33 = .ok (.iload_n 2, 1) := by decide +kernel
theorem d_Pair_tally_34 : decode prog_6_method_3_code 34 = .ok (.invokevirtual 30, 3) := by decide +kernel
theorem d_Pair_tally_37 : decode prog_6_method_3_code 37 = .ok (.ifCond .eq 31, 3) := by decide +kernel
theorem d_Pair_tally_40 : decode prog_6_method_3_code 40 = .ok (.aload_n 0, 1) := by decide +kernel
theorem d_Pair_tally_41 : decode prog_6_method_3_code 41 = .ok (.dup, 1) := by decide +kernel
theorem d_Pair_tally_42 : decode prog_6_method_3_code 42 = .ok (.getfield 15, 3) := by decide +kernel
theorem d_Pair_tally_45 : decode prog_6_method_3_code 45 = .ok (.iconst 1, 1) := by decide +kernel
theorem d_Pair_tally_46 : decode prog_6_method_3_code 46 = .ok (.iadd, 1) := by decide +kernel
theorem d_Pair_tally_47 : decode prog_6_method_3_code 47 = .ok (.putfield 15, 3) := by decide +kernel
theorem d_Pair_tally_50 : decode prog_6_method_3_code 50 = .ok (.aload_n 0, 1) := by decide +kernel
theorem d_Pair_tally_51 : decode prog_6_method_3_code 51 = .ok (.iload_n 2, 1) := by decide +kernel
theorem d_Pair_tally_52 : decode prog_6_method_3_code 52 = .ok (.invokevirtual 34, 3) := by decide +kernel
theorem d_Pair_tally_55 : decode prog_6_method_3_code 55 = .ok (.ifCond .eq 13, 3) := by decide +kernel
theorem d_Pair_tally_58 : decode prog_6_method_3_code 58 = .ok (.aload_n 0, 1) := by decide +kernel
theorem d_Pair_tally_59 : decode prog_6_method_3_code 59 = .ok (.dup, 1) := by decide +kernel
theorem d_Pair_tally_60 : decode prog_6_method_3_code 60 = .ok (.getfield 19, 3) := by decide +kernel
theorem d_Pair_tally_63 : decode prog_6_method_3_code 63 = .ok (.iconst 1, 1) := by decide +kernel
theorem d_Pair_tally_64 : decode prog_6_method_3_code 64 = .ok (.iadd, 1) := by decide +kernel
theorem d_Pair_tally_65 : decode prog_6_method_3_code 65 = .ok (.putfield 19, 3) := by decide +kernel
theorem d_Pair_tally_68 : decode prog_6_method_3_code 68 = .ok (.iinc 5 1, 3) := by decide +kernel
theorem d_Pair_tally_71 : decode prog_6_method_3_code 71 = .ok (.goto (-58), 3) := by decide +kernel
theorem d_Pair_tally_74 : decode prog_6_method_3_code 74 = .ok (.return_, 1) := by decide +kernel
theorem d_Pair_look_0 : decode prog_6_method_4_code 0 = .ok (.aload_n 0, 1) := by decide +kernel
theorem d_Pair_look_1 : decode prog_6_method_4_code 1 = .ok (.invokevirtual 37, 3) := by decide +kernel
theorem d_Pair_look_4 : decode prog_6_method_4_code 4 = .ok (.aload_n 1, 1) := by decide +kernel
theorem d_Pair_look_5 : decode prog_6_method_4_code 5 = .ok (.getfield 40, 3) := by decide +kernel
theorem d_Pair_look_8 : decode prog_6_method_4_code 8 = .ok (.iload_n 2, 1) := by decide +kernel
theorem d_Pair_look_9 : decode prog_6_method_4_code 9 = .ok (.iaload, 1) := by decide +kernel
theorem d_Pair_look_10 : decode prog_6_method_4_code 10 = .ok (.istore 5, 2) := by decide +kernel
theorem d_Pair_look_12 : decode prog_6_method_4_code 12 = .ok (.iconst 0, 1) := by decide +kernel
theorem d_Pair_look_13 : decode prog_6_method_4_code 13 = .ok (.istore 6, 2) := by decide +kernel
theorem d_Pair_look_15 : decode prog_6_method_4_code 15 = .ok (.iload 6, 2) := by decide +kernel
theorem d_Pair_look_17 : decode prog_6_method_4_code 17 = .ok (.iload 5, 2) := by decide +kernel
theorem d_Pair_look_19 : decode prog_6_method_4_code 19 = .ok (.if_icmp .ge 74, 3) := by decide +kernel
theorem d_Pair_look_22 : decode prog_6_method_4_code 22 = .ok (.aload_n 1, 1) := by decide +kernel
theorem d_Pair_look_23 : decode prog_6_method_4_code 23 = .ok (.iload_n 2, 1) := by decide +kernel
theorem d_Pair_look_24 : decode prog_6_method_4_code 24 = .ok (.iload 6, 2) := by decide +kernel
theorem d_Pair_look_26 : decode prog_6_method_4_code 26 = .ok (.invokevirtual 44, 3) := by decide +kernel
theorem d_Pair_look_29 : decode prog_6_method_4_code 29 = .ok (.istore 7, 2) := by decide +kernel
theorem d_Pair_look_31 : decode prog_6_method_4_code 31 = .ok (.iload 7, 2) := by decide +kernel
theorem d_Pair_look_33 : decode prog_6_method_4_code 33 = .ok (.iload_n 3, 1) := by decide +kernel
theorem d_Pair_look_34 : decode prog_6_method_4_code 34 = .ok (.if_icmp .ne 40, 3) := by decide +kernel
theorem d_Pair_look_37 : decode prog_6_method_4_code 37 = .ok (.aload_n 0, 1) := by decide +kernel
theorem d_Pair_look_38 : decode prog_6_method_4_code 38 = .ok (.iload 6, 2) := by decide +kernel
theorem d_Pair_look_40 : decode prog_6_method_4_code 40 = .ok (.invokevirtual 48, 3) := by decide +kernel
theorem d_Pair_look_43 : decode prog_6_method_4_code 43 = .ok (.iload 6, 2) := by decide +kernel
theorem d_Pair_look_45 : decode prog_6_method_4_code 45 = .ok (.iconst 1, 1) := by decide +kernel
theorem d_Pair_look_46 : decode prog_6_method_4_code 46 = .ok (.iadd, 1) := by decide +kernel
theorem d_Pair_look_47 : decode prog_6_method_4_code 47 = .ok (.iload 5, 2) := by decide +kernel
theorem d_Pair_look_49 : decode prog_6_method_4_code 49 = .ok (.if_icmp .ge 17, 3) := by decide +kernel
theorem d_Pair_look_52 : decode prog_6_method_4_code 52 = .ok (.aload_n 1, 1) := by decide +kernel
theorem d_Pair_look_53 : decode prog_6_method_4_code 53 = .ok (.iload_n 2, 1) := by decide +kernel
theorem d_Pair_look_54 : decode prog_6_method_4_code 54 = .ok (.iload 6, 2) := by decide +kernel
theorem d_Pair_look_56 : decode prog_6_method_4_code 56 = .ok (.iconst 1, 1) := by decide +kernel
theorem d_Pair_look_57 : decode prog_6_method_4_code 57 = .ok (.iadd, 1) := by decide +kernel
theorem d_Pair_look_58 : decode prog_6_method_4_code 58 = .ok (.invokevirtual 44, 3) := by decide +kernel
theorem d_Pair_look_61 : decode prog_6_method_4_code 61 = .ok (.iload 4, 2) := by decide +kernel
theorem d_Pair_look_63 : decode prog_6_method_4_code 63 = .ok (.if_icmp .eq 24, 3) := by decide +kernel
theorem d_Pair_look_66 : decode prog_6_method_4_code 66 = .ok (.aload_n 0, 1) := by decide +kernel
theorem d_Pair_look_67 : decode prog_6_method_4_code 67 = .ok (.iconst 0, 1) := by decide +kernel
theorem d_Pair_look_68 : decode prog_6_method_4_code 68 = .ok (.putfield 52, 3) := by decide +kernel
theorem d_Pair_look_71 : decode prog_6_method_4_code 71 = .ok (.goto 16, 3) := by decide +kernel
theorem d_Pair_look_74 : decode prog_6_method_4_code 74 = .ok (.iload 7, 2) := by decide +kernel
theorem d_Pair_look_76 : decode prog_6_method_4_code 76 = .ok (.iload 4, 2) := by decide +kernel
theorem d_Pair_look_78 : decode prog_6_method_4_code 78 = .ok (.if_icmp .ne 9, 3) := by decide +kernel
theorem d_Pair_look_81 : decode prog_6_method_4_code 81 = .ok (.aload_n 0, 1) := by decide +kernel
theorem d_Pair_look_82 : decode prog_6_method_4_code 82 = .ok (.iload 6, 2) := by decide +kernel
theorem d_Pair_look_84 : decode prog_6_method_4_code 84 = .ok (.invokevirtual 56, 3) := by decide +kernel
theorem d_Pair_look_87 : decode prog_6_method_4_code 87 = .ok (.iinc 6 1, 3) := by decide +kernel
theorem d_Pair_look_90 : decode prog_6_method_4_code 90 = .ok (.goto (-75), 3) := by decide +kernel
theorem d_Pair_look_93 : decode prog_6_method_4_code 93 = .ok (.aload_n 0, 1) := by decide +kernel
theorem d_Pair_look_94 : decode prog_6_method_4_code 94 = .ok (.getfield 59, 3) := by decide +kernel
theorem d_Pair_look_97 : decode prog_6_method_4_code 97 = .ok (.aload_n 0, 1) := by decide +kernel
theorem d_Pair_look_98 : decode prog_6_method_4_code 98 = .ok (.getfield 62, 3) := by decide +kernel
theorem d_Pair_look_101 : decode prog_6_method_4_code 101 = .ok (.if_icmp .eq 8, 3) := by decide +kernel
theorem d_Pair_look_104 : decode prog_6_method_4_code 104 = .ok (.aload_n 0, 1) := by decide +kernel
theorem d_Pair_look_105 : decode prog_6_method_4_code 105 = .ok (.iconst 0, 1) := by decide +kernel
theorem d_Pair_look_106 : decode prog_6_method_4_code 106 = .ok (.putfield 65, 3) := by decide +kernel
theorem d_Pair_forgetLooks_0 : decode prog_6_method_5_code 0 = .ok (.aload_n 0, 1) := by decide +kernel
theorem d_Pair_forgetLooks_1 : decode prog_6_method_5_code 1 = .ok (.iconst (-1), 1) := by decide +kernel
theorem d_Pair_forgetLooks_2 : decode prog_6_method_5_code 2 = .ok (.putfield 68, 3) := by decide +kernel
theorem d_Pair_forgetLooks_5 : decode prog_6_method_5_code 5 = .ok (.aload_n 0, 1) := by decide +kernel
theorem d_Pair_forgetLooks_6 : decode prog_6_method_5_code 6 = .ok (.iconst (-1), 1) := by decide +kernel
theorem d_Pair_forgetLooks_7 : decode prog_6_method_5_code 7 = .ok (.putfield 71, 3) := by decide +kernel
theorem d_Pair_forgetLooks_10 : decode prog_6_method_5_code 10 = .ok (.aload_n 0, 1) := by decide +kernel
theorem d_Pair_forgetLooks_11 : decode prog_6_method_5_code 11 = .ok (.iconst 0, 1) := by decide +kernel
theorem d_Pair_forgetLooks_12 : decode prog_6_method_5_code 12 = .ok (.putfield 59, 3) := by decide +kernel
theorem d_Pair_forgetLooks_15 : decode prog_6_method_5_code 15 = .ok (.aload_n 0, 1) := by decide +kernel
theorem d_Pair_forgetLooks_16 : decode prog_6_method_5_code 16 = .ok (.iconst (-1), 1) := by decide +kernel
theorem d_Pair_forgetLooks_17 : decode prog_6_method_5_code 17 = .ok (.putfield 74, 3) := by decide +kernel
theorem d_Pair_forgetLooks_20 : decode prog_6_method_5_code 20 = .ok (.aload_n 0, 1) := by decide +kernel
theorem d_Pair_forgetLooks_21 : decode prog_6_method_5_code 21 = .ok (.iconst (-1), 1) := by decide +kernel
theorem d_Pair_forgetLooks_22 : decode prog_6_method_5_code 22 = .ok (.putfield 77, 3) := by decide +kernel
theorem d_Pair_forgetLooks_25 : decode prog_6_method_5_code 25 = .ok (.aload_n 0, 1) := by decide +kernel
theorem d_Pair_forgetLooks_26 : decode prog_6_method_5_code 26 = .ok (.iconst 0, 1) := by decide +kernel
theorem d_Pair_forgetLooks_27 : decode prog_6_method_5_code 27 = .ok (.putfield 62, 3) := by decide +kernel
theorem d_Pair_forgetLooks_30 : decode prog_6_method_5_code 30 = .ok (.aload_n 0, 1) := by decide +kernel
theorem d_Pair_forgetLooks_31 : decode prog_6_method_5_code 31 = .ok (.iconst 1, 1) := by decide +kernel
theorem d_Pair_forgetLooks_32 : decode prog_6_method_5_code 32 = .ok (.putfield 52, 3) := by decide +kernel
theorem d_Pair_forgetLooks_35 : decode prog_6_method_5_code 35 = .ok (.aload_n 0, 1) := by decide +kernel
theorem d_Pair_forgetLooks_36 : decode prog_6_method_5_code 36 = .ok (.iconst 1, 1) := by decide +kernel
theorem d_Pair_forgetLooks_37 : decode prog_6_method_5_code 37 = .ok (.putfield 65, 3) := by decide +kernel
theorem d_Pair_forgetLooks_40 : decode prog_6_method_5_code 40 = .ok (.return_, 1) := by decide +kernel
theorem d_Pair_meetY_0 : decode prog_6_method_7_code 0 = .ok (.aload_n 0, 1) := by decide +kernel
theorem d_Pair_meetY_1 : decode prog_6_method_7_code 1 = .ok (.getfield 59, 3) := by decide +kernel
theorem d_Pair_meetY_4 : decode prog_6_method_7_code 4 = .ok (.aload_n 0, 1) := by decide +kernel
theorem d_Pair_meetY_5 : decode prog_6_method_7_code 5 = .ok (.getfield 62, 3) := by decide +kernel
theorem d_Pair_meetY_8 : decode prog_6_method_7_code 8 = .ok (.iconst 1, 1) := by decide +kernel
theorem d_Pair_meetY_9 : decode prog_6_method_7_code 9 = .ok (.iadd, 1) := by decide +kernel
theorem d_Pair_meetY_10 : decode prog_6_method_7_code 10 = .ok (.if_icmp .eq 8, 3) := by decide +kernel
theorem d_Pair_meetY_13 : decode prog_6_method_7_code 13 = .ok (.aload_n 0, 1) := by decide +kernel
theorem d_Pair_meetY_14 : decode prog_6_method_7_code 14 = .ok (.iconst 0, 1) := by decide +kernel
theorem d_Pair_meetY_15 : decode prog_6_method_7_code 15 = .ok (.putfield 65, 3) := by decide +kernel
theorem d_Pair_meetY_18 : decode prog_6_method_7_code 18 = .ok (.aload_n 0, 1) := by decide +kernel
theorem d_Pair_meetY_19 : decode prog_6_method_7_code 19 = .ok (.getfield 62, 3) := by decide +kernel
theorem d_Pair_meetY_22 : decode prog_6_method_7_code 22 = .ok (.ifCond .ne 8, 3) := by decide +kernel
theorem d_Pair_meetY_25 : decode prog_6_method_7_code 25 = .ok (.aload_n 0, 1) := by decide +kernel
theorem d_Pair_meetY_26 : decode prog_6_method_7_code 26 = .ok (.iload_n 1, 1) := by decide +kernel
theorem d_Pair_meetY_27 : decode prog_6_method_7_code 27 = .ok (.putfield 74, 3) := by decide +kernel
theorem d_Pair_meetY_30 : decode prog_6_method_7_code 30 = .ok (.aload_n 0, 1) := by decide +kernel
theorem d_Pair_meetY_31 : decode prog_6_method_7_code 31 = .ok (.iload_n 1, 1) := by decide +kernel
theorem d_Pair_meetY_32 : decode prog_6_method_7_code 32 = .ok (.putfield 77, 3) := by decide +kernel
theorem d_Pair_meetY_35 : decode prog_6_method_7_code 35 = .ok (.aload_n 0, 1) := by decide +kernel
theorem d_Pair_meetY_36 : decode prog_6_method_7_code 36 = .ok (.dup, 1) := by decide +kernel
theorem d_Pair_meetY_37 : decode prog_6_method_7_code 37 = .ok (.getfield 62, 3) := by decide +kernel
theorem d_Pair_meetY_40 : decode prog_6_method_7_code 40 = .ok (.iconst 1, 1) := by decide +kernel
theorem d_Pair_meetY_41 : decode prog_6_method_7_code 41 = .ok (.iadd, 1) := by decide +kernel
theorem d_Pair_meetY_42 : decode prog_6_method_7_code 42 = .ok (.putfield 62, 3) := by decide +kernel
theorem d_Pair_meetX_0 : decode prog_6_method_6_code 0 = .ok (.aload_n 0, 1) := by decide +kernel
theorem d_Pair_meetX_1 : decode prog_6_method_6_code 1 = .ok (.getfield 59, 3) := by decide +kernel
theorem d_Pair_meetX_4 : decode prog_6_method_6_code 4 = .ok (.aload_n 0, 1) := by decide +kernel
theorem d_Pair_meetX_5 : decode prog_6_method_6_code 5 = .ok (.getfield 62, 3) := by decide +kernel
theorem d_Pair_meetX_8 : decode prog_6_method_6_code 8 = .ok (.if_icmp .eq 8, 3) := by decide +kernel
theorem d_Pair_meetX_11 : decode prog_6_method_6_code 11 = .ok (.aload_n 0, 1) := by decide +kernel
theorem d_Pair_meetX_12 : decode prog_6_method_6_code 12 = .ok (.iconst 0, 1) := by decide +kernel
theorem d_Pair_meetX_13 : decode prog_6_method_6_code 13 = .ok (.putfield 65, 3) := by decide +kernel
theorem d_Pair_meetX_16 : decode prog_6_method_6_code 16 = .ok (.aload_n 0, 1) := by decide +kernel
theorem d_Pair_meetX_17 : decode prog_6_method_6_code 17 = .ok (.getfield 59, 3) := by decide +kernel
theorem d_Pair_meetX_20 : decode prog_6_method_6_code 20 = .ok (.ifCond .ne 8, 3) := by decide +kernel
theorem d_Pair_meetX_23 : decode prog_6_method_6_code 23 = .ok (.aload_n 0, 1) := by decide +kernel
theorem d_Pair_meetX_24 : decode prog_6_method_6_code 24 = .ok (.iload_n 1, 1) := by decide +kernel
theorem d_Pair_meetX_25 : decode prog_6_method_6_code 25 = .ok (.putfield 68, 3) := by decide +kernel
theorem d_Pair_meetX_28 : decode prog_6_method_6_code 28 = .ok (.aload_n 0, 1) := by decide +kernel
theorem d_Pair_meetX_29 : decode prog_6_method_6_code 29 = .ok (.iload_n 1, 1) := by decide +kernel
theorem d_Pair_meetX_30 : decode prog_6_method_6_code 30 = .ok (.putfield 71, 3) := by decide +kernel
theorem d_Pair_meetX_33 : decode prog_6_method_6_code 33 = .ok (.aload_n 0, 1) := by decide +kernel
theorem d_Pair_meetX_34 : decode prog_6_method_6_code 34 = .ok (.dup, 1) := by decide +kernel
theorem d_Pair_meetX_35 : decode prog_6_method_6_code 35 = .ok (.getfield 59, 3) := by decide +kernel
theorem d_Pair_meetX_38 : decode prog_6_method_6_code 38 = .ok (.iconst 1, 1) := by decide +kernel
theorem d_Pair_meetX_39 : decode prog_6_method_6_code 39 = .ok (.iadd, 1) := by decide +kernel
theorem d_Pair_meetX_40 : decode prog_6_method_6_code 40 = .ok (.putfield 59, 3) := by decide +kernel
theorem d_Pair_isAsked_0 : decode prog_6_method_8_code 0 = .ok (.iload_n 1, 1) := by decide +kernel
theorem d_Pair_isAsked_1 : decode prog_6_method_8_code 1 = .ok (.tableswitch 57 0 3 #[31, 44, 31, 31], 31) := by decide +kernel
theorem d_Pair_isAsked_32 : decode prog_6_method_8_code 32 = .ok (.aload_n 0, 1) := by decide +kernel
theorem d_Pair_isAsked_33 : decode prog_6_method_8_code 33 = .ok (.getfield 59, 3) := by decide +kernel
theorem d_Pair_isAsked_36 : decode prog_6_method_8_code 36 = .ok (.ifCond .le 7, 3) := by decide +kernel
theorem d_Pair_isAsked_39 : decode prog_6_method_8_code 39 = .ok (.iconst 1, 1) := by decide +kernel
theorem d_Pair_isAsked_40 : decode prog_6_method_8_code 40 = .ok (.goto 4, 3) := by decide +kernel
theorem d_Pair_isAsked_43 : decode prog_6_method_8_code 43 = .ok (.iconst 0, 1) := by decide +kernel
theorem d_Pair_isAsked_45 : decode prog_6_method_8_code 45 = .ok (.aload_n 0, 1) := by decide +kernel
theorem d_Pair_isAsked_46 : decode prog_6_method_8_code 46 = .ok (.getfield 62, 3) := by decide +kernel
theorem d_Pair_isAsked_49 : decode prog_6_method_8_code 49 = .ok (.ifCond .le 7, 3) := by decide +kernel
theorem d_Pair_isAsked_52 : decode prog_6_method_8_code 52 = .ok (.iconst 1, 1) := by decide +kernel
theorem d_Pair_isAsked_53 : decode prog_6_method_8_code 53 = .ok (.goto 4, 3) := by decide +kernel
theorem d_Pair_isAsked_56 : decode prog_6_method_8_code 56 = .ok (.iconst 0, 1) := by decide +kernel
theorem d_Pair_isAsked_58 : decode prog_6_method_8_code 58 = .ok (.aload_n 0, 1) := by decide +kernel
theorem d_Pair_isAsked_59 : decode prog_6_method_8_code 59 = .ok (.getfield 59, 3) := by decide +kernel
theorem d_Pair_isAsked_62 : decode prog_6_method_8_code 62 = .ok (.ifCond .gt 10, 3) := by decide +kernel
theorem d_Pair_isAsked_65 : decode prog_6_method_8_code 65 = .ok (.aload_n 0, 1) := by decide +kernel
theorem d_Pair_isAsked_66 : decode prog_6_method_8_code 66 = .ok (.getfield 62, 3) := by decide +kernel
theorem d_Pair_isAsked_69 : decode prog_6_method_8_code 69 = .ok (.ifCond .le 7, 3) := by decide +kernel
theorem d_Pair_isAsked_72 : decode prog_6_method_8_code 72 = .ok (.iconst 1, 1) := by decide +kernel
theorem d_Pair_isAsked_73 : decode prog_6_method_8_code 73 = .ok (.goto 4, 3) := by decide +kernel
theorem d_Pair_isAsked_76 : decode prog_6_method_8_code 76 = .ok (.iconst 0, 1) := by decide +kernel
theorem d_Pair_isSo_0 : decode prog_6_method_9_code 0 = .ok (.iload_n 1, 1) := by decide +kernel
theorem d_Pair_isSo_1 : decode prog_6_method_9_code 1 = .ok (.tableswitch 115 0 4 #[35, 52, 76, 93, 98], 35) := by decide +kernel
theorem d_Pair_isSo_36 : decode prog_6_method_9_code 36 = .ok (.aload_n 0, 1) := by decide +kernel
theorem d_Pair_isSo_37 : decode prog_6_method_9_code 37 = .ok (.getfield 77, 3) := by decide +kernel
theorem d_Pair_isSo_40 : decode prog_6_method_9_code 40 = .ok (.aload_n 0, 1) := by decide +kernel
theorem d_Pair_isSo_41 : decode prog_6_method_9_code 41 = .ok (.getfield 71, 3) := by decide +kernel
theorem d_Pair_isSo_44 : decode prog_6_method_9_code 44 = .ok (.if_icmp .le 7, 3) := by decide +kernel
theorem d_Pair_isSo_47 : decode prog_6_method_9_code 47 = .ok (.iconst 1, 1) := by decide +kernel
theorem d_Pair_isSo_48 : decode prog_6_method_9_code 48 = .ok (.goto 4, 3) := by decide +kernel
theorem d_Pair_isSo_51 : decode prog_6_method_9_code 51 = .ok (.iconst 0, 1) := by decide +kernel
theorem d_Pair_isSo_53 : decode prog_6_method_9_code 53 = .ok (.aload_n 0, 1) := by decide +kernel
theorem d_Pair_isSo_54 : decode prog_6_method_9_code 54 = .ok (.getfield 59, 3) := by decide +kernel
theorem d_Pair_isSo_57 : decode prog_6_method_9_code 57 = .ok (.ifCond .le 18, 3) := by decide +kernel
theorem d_Pair_isSo_60 : decode prog_6_method_9_code 60 = .ok (.aload_n 0, 1) := by decide +kernel
theorem d_Pair_isSo_61 : decode prog_6_method_9_code 61 = .ok (.getfield 68, 3) := by decide +kernel
theorem d_Pair_isSo_64 : decode prog_6_method_9_code 64 = .ok (.aload_n 0, 1) := by decide +kernel
theorem d_Pair_isSo_65 : decode prog_6_method_9_code 65 = .ok (.getfield 74, 3) := by decide +kernel
theorem d_Pair_isSo_68 : decode prog_6_method_9_code 68 = .ok (.if_icmp .ge 7, 3) := by decide +kernel
theorem d_Pair_isSo_71 : decode prog_6_method_9_code 71 = .ok (.iconst 1, 1) := by decide +kernel
theorem d_Pair_isSo_72 : decode prog_6_method_9_code 72 = .ok (.goto 4, 3) := by decide +kernel
theorem d_Pair_isSo_75 : decode prog_6_method_9_code 75 = .ok (.iconst 0, 1) := by decide +kernel
theorem d_Pair_isSo_77 : decode prog_6_method_9_code 77 = .ok (.aload_n 0, 1) := by decide +kernel
theorem d_Pair_isSo_78 : decode prog_6_method_9_code 78 = .ok (.getfield 77, 3) := by decide +kernel
theorem d_Pair_isSo_81 : decode prog_6_method_9_code 81 = .ok (.aload_n 0, 1) := by decide +kernel
theorem d_Pair_isSo_82 : decode prog_6_method_9_code 82 = .ok (.getfield 68, 3) := by decide +kernel
theorem d_Pair_isSo_85 : decode prog_6_method_9_code 85 = .ok (.if_icmp .ge 7, 3) := by decide +kernel
theorem d_Pair_isSo_88 : decode prog_6_method_9_code 88 = .ok (.iconst 1, 1) := by decide +kernel
theorem d_Pair_isSo_89 : decode prog_6_method_9_code 89 = .ok (.goto 4, 3) := by decide +kernel
theorem d_Pair_isSo_92 : decode prog_6_method_9_code 92 = .ok (.iconst 0, 1) := by decide +kernel
theorem d_Pair_isSo_94 : decode prog_6_method_9_code 94 = .ok (.aload_n 0, 1) := by decide +kernel
theorem d_Pair_isSo_95 : decode prog_6_method_9_code 95 = .ok (.getfield 52, 3) := by decide +kernel
theorem d_Pair_isSo_99 : decode prog_6_method_9_code 99 = .ok (.aload_n 0, 1) := by decide +kernel
theorem d_Pair_isSo_100 : decode prog_6_method_9_code 100 = .ok (.getfield 59, 3) := by decide +kernel
theorem d_Pair_isSo_103 : decode prog_6_method_9_code 103 = .ok (.aload_n 0, 1) := by decide +kernel
theorem d_Pair_isSo_104 : decode prog_6_method_9_code 104 = .ok (.getfield 62, 3) := by decide +kernel
theorem d_Pair_isSo_107 : decode prog_6_method_9_code 107 = .ok (.if_icmp .ne 7, 3) := by decide +kernel
theorem d_Pair_isSo_110 : decode prog_6_method_9_code 110 = .ok (.iconst 1, 1) := by decide +kernel
theorem d_Pair_isSo_111 : decode prog_6_method_9_code 111 = .ok (.goto 4, 3) := by decide +kernel
theorem d_Pair_isSo_114 : decode prog_6_method_9_code 114 = .ok (.iconst 0, 1) := by decide +kernel
theorem d_Pair_isSo_116 : decode prog_6_method_9_code 116 = .ok (.aload_n 0, 1) := by decide +kernel
theorem d_Pair_isSo_117 : decode prog_6_method_9_code 117 = .ok (.getfield 65, 3) := by decide +kernel
theorem li_2 : (2 : Int32).toInt = 2 := by decide +kernel
theorem li_3 : (3 : Int32).toInt = 3 := by decide +kernel
abbrev m_s2_Pair_forgetLooks : Room := { frames := 0, cells := 0, slots := 0, locals := 0 }
set_option maxHeartbeats 4000000 in
set_option maxRecDepth 100000 in
theorem s2_Pair_forgetLooks (l : Launch) (G : zG) (b0 : Nat) (b1 : Int32) (b2 : Int32) (b3 : Int32) (b4 : Int32) (b5 : Int32) (b6 : Int32) (b7 : Int32) (b8 : Int32) (b9 : Int32) (b10 : Int32) (hb9 : zI b9 0 1) (hb10 : zI b10 0 1) : zM l G y_Pair_forgetLooks prog_6_method_5_code 1 (Option.none : Option Jvm.ClassFile.FieldType) m_s2_Pair_forgetLooks [.ref b0] [(b0, .inr (10, [.int b1, .int b2, .int b3, .int b4, .int b5, .int b6, .int b7, .int b8, .int b9, .int b10]))] (fun v w => v = none ∧ w = [(b0, .inr (10, [.int b1, .int b2, .int (-1), .int (-1), .int 0, .int (-1), .int (-1), .int 0, .int 1, .int 1]))]) := by
  refine z_start (by decide +kernel) (Nat.le_of_ble_eq_true rfl) ?_
  intro p e s m below meth c A Z hr hnm hA hP hD hS ls hl
  have Z : zC p s m _ meth c prog_6_method_5_code 1 "TraceMachines$Pair" G := Z
  obtain ⟨hx, hb, hml, hown, hts, hK, hN, hlocks⟩ := id Z
  have hl : lv_has ls 1 [(0, .ref b0)] := hl
  refine lv_aload_n hx hb d_Pair_forgetLooks_0 rfl (lv_at hl 0 rfl) ?_
  refine lv_iconst (v := (-1)) hx hb d_Pair_forgetLooks_1 (by decide) ?_
  refine va_put (D := G.1) (ci := 10) (v := .int (-1)) (ty := .int) (C := R_Pair) (T := F_Pair) (N := 10) hx hb hts i_Pair t_Pair t_Pair_ok n_Pair hown hK hP hD hS 0 rfl rfl 2 (by decide) (hts _ q367) (fun _ h9 => h9) rfl (by decide +kernel) rfl rfl (Nat.le_of_ble_eq_true rfl) d_Pair_forgetLooks_2 (fun H locs hP hD hS => ?_)
  have hP : va_P G.1 classes [(b0, .inr (10, [.int b1, .int b2, .int (-1), .int b4, .int b5, .int b6, .int b7, .int b8, .int b9, .int b10]))] H := hP
  have hD := z_tie hP hD rfl
  refine lv_aload_n hx hb d_Pair_forgetLooks_5 rfl (lv_at hl 0 rfl) ?_
  refine lv_iconst (v := (-1)) hx hb d_Pair_forgetLooks_6 (by decide) ?_
  refine va_put (D := G.1) (ci := 10) (v := .int (-1)) (ty := .int) (C := R_Pair) (T := F_Pair) (N := 10) hx hb hts i_Pair t_Pair t_Pair_ok n_Pair hown hK hP hD hS 0 rfl rfl 3 (by decide) (hts _ q368) (fun _ h9 => h9) rfl (by decide +kernel) rfl rfl (Nat.le_of_ble_eq_true rfl) d_Pair_forgetLooks_7 (fun H locs hP hD hS => ?_)
  have hP : va_P G.1 classes [(b0, .inr (10, [.int b1, .int b2, .int (-1), .int (-1), .int b5, .int b6, .int b7, .int b8, .int b9, .int b10]))] H := hP
  have hD := z_tie hP hD rfl
  refine lv_aload_n hx hb d_Pair_forgetLooks_10 rfl (lv_at hl 0 rfl) ?_
  refine lv_iconst (v := 0) hx hb d_Pair_forgetLooks_11 (by decide) ?_
  refine va_put (D := G.1) (ci := 10) (v := .int 0) (ty := .int) (C := R_Pair) (T := F_Pair) (N := 10) hx hb hts i_Pair t_Pair t_Pair_ok n_Pair hown hK hP hD hS 0 rfl rfl 4 (by decide) (hts _ q369) (fun _ h9 => h9) rfl (by decide +kernel) rfl rfl (Nat.le_of_ble_eq_true rfl) d_Pair_forgetLooks_12 (fun H locs hP hD hS => ?_)
  have hP : va_P G.1 classes [(b0, .inr (10, [.int b1, .int b2, .int (-1), .int (-1), .int 0, .int b6, .int b7, .int b8, .int b9, .int b10]))] H := hP
  have hD := z_tie hP hD rfl
  refine lv_aload_n hx hb d_Pair_forgetLooks_15 rfl (lv_at hl 0 rfl) ?_
  refine lv_iconst (v := (-1)) hx hb d_Pair_forgetLooks_16 (by decide) ?_
  refine va_put (D := G.1) (ci := 10) (v := .int (-1)) (ty := .int) (C := R_Pair) (T := F_Pair) (N := 10) hx hb hts i_Pair t_Pair t_Pair_ok n_Pair hown hK hP hD hS 0 rfl rfl 5 (by decide) (hts _ q370) (fun _ h9 => h9) rfl (by decide +kernel) rfl rfl (Nat.le_of_ble_eq_true rfl) d_Pair_forgetLooks_17 (fun H locs hP hD hS => ?_)
  have hP : va_P G.1 classes [(b0, .inr (10, [.int b1, .int b2, .int (-1), .int (-1), .int 0, .int (-1), .int b7, .int b8, .int b9, .int b10]))] H := hP
  have hD := z_tie hP hD rfl
  refine lv_aload_n hx hb d_Pair_forgetLooks_20 rfl (lv_at hl 0 rfl) ?_
  refine lv_iconst (v := (-1)) hx hb d_Pair_forgetLooks_21 (by decide) ?_
  refine va_put (D := G.1) (ci := 10) (v := .int (-1)) (ty := .int) (C := R_Pair) (T := F_Pair) (N := 10) hx hb hts i_Pair t_Pair t_Pair_ok n_Pair hown hK hP hD hS 0 rfl rfl 6 (by decide) (hts _ q371) (fun _ h9 => h9) rfl (by decide +kernel) rfl rfl (Nat.le_of_ble_eq_true rfl) d_Pair_forgetLooks_22 (fun H locs hP hD hS => ?_)
  have hP : va_P G.1 classes [(b0, .inr (10, [.int b1, .int b2, .int (-1), .int (-1), .int 0, .int (-1), .int (-1), .int b8, .int b9, .int b10]))] H := hP
  have hD := z_tie hP hD rfl
  refine lv_aload_n hx hb d_Pair_forgetLooks_25 rfl (lv_at hl 0 rfl) ?_
  refine lv_iconst (v := 0) hx hb d_Pair_forgetLooks_26 (by decide) ?_
  refine va_put (D := G.1) (ci := 10) (v := .int 0) (ty := .int) (C := R_Pair) (T := F_Pair) (N := 10) hx hb hts i_Pair t_Pair t_Pair_ok n_Pair hown hK hP hD hS 0 rfl rfl 7 (by decide) (hts _ q372) (fun _ h9 => h9) rfl (by decide +kernel) rfl rfl (Nat.le_of_ble_eq_true rfl) d_Pair_forgetLooks_27 (fun H locs hP hD hS => ?_)
  have hP : va_P G.1 classes [(b0, .inr (10, [.int b1, .int b2, .int (-1), .int (-1), .int 0, .int (-1), .int (-1), .int 0, .int b9, .int b10]))] H := hP
  have hD := z_tie hP hD rfl
  refine lv_aload_n hx hb d_Pair_forgetLooks_30 rfl (lv_at hl 0 rfl) ?_
  refine lv_iconst (v := 1) hx hb d_Pair_forgetLooks_31 (by decide) ?_
  refine va_put (D := G.1) (ci := 10) (v := .int 1) (ty := .boolean) (C := R_Pair) (T := F_Pair) (N := 10) hx hb hts i_Pair t_Pair t_Pair_ok n_Pair hown hK hP hD hS 0 rfl rfl 8 (by decide) (hts _ q373) (fun _ h9 => h9) rfl (by decide +kernel) rfl rfl (Nat.le_of_ble_eq_true rfl) d_Pair_forgetLooks_32 (fun H locs hP hD hS => ?_)
  have hP : va_P G.1 classes [(b0, .inr (10, [.int b1, .int b2, .int (-1), .int (-1), .int 0, .int (-1), .int (-1), .int 0, .int 1, .int b10]))] H := hP
  have hD := z_tie hP hD rfl
  refine lv_aload_n hx hb d_Pair_forgetLooks_35 rfl (lv_at hl 0 rfl) ?_
  refine lv_iconst (v := 1) hx hb d_Pair_forgetLooks_36 (by decide) ?_
  refine va_put (D := G.1) (ci := 10) (v := .int 1) (ty := .boolean) (C := R_Pair) (T := F_Pair) (N := 10) hx hb hts i_Pair t_Pair t_Pair_ok n_Pair hown hK hP hD hS 0 rfl rfl 9 (by decide) (hts _ q374) (fun _ h9 => h9) rfl (by decide +kernel) rfl rfl (Nat.le_of_ble_eq_true rfl) d_Pair_forgetLooks_37 (fun H locs hP hD hS => ?_)
  have hP : va_P G.1 classes [(b0, .inr (10, [.int b1, .int b2, .int (-1), .int (-1), .int 0, .int (-1), .int (-1), .int 0, .int 1, .int 1]))] H := hP
  have hD := z_tie hP hD rfl
  exact z_vret hx hb hr hlocks hP hD hS (Nat.le_of_ble_eq_true rfl) (Nat.le_of_ble_eq_true rfl) d_Pair_forgetLooks_40 ⟨rfl, rfl⟩
theorem d_Pair_look_109 : decode prog_6_method_4_code 109 = .ok (.return_, 1) := by decide +kernel
theorem d_Pair_meetY_45 : decode prog_6_method_7_code 45 = .ok (.return_, 1) := by decide +kernel
abbrev m_s7_Pair_meetY : Room := { frames := 0, cells := 0, slots := 0, locals := 0 }
set_option maxHeartbeats 4000000 in
set_option maxRecDepth 100000 in
theorem s7_Pair_meetY (l : Launch) (G : zG) (b0 : Nat) (b1 : Int32) (b2 : Int32) (b3 : Int32) (b4 : Int32) (b5 : Int32) (b6 : Int32) (b7 : Int32) (b8 : Int32) (b9 : Int32) (b10 : Int32) (b11 : Int32) (hb1 : zI b1 0 11) (hb10 : zI b10 0 1) (hb11 : zI b11 0 1) : zM l G y_Pair_meetY prog_6_method_7_code 2 (Option.none : Option Jvm.ClassFile.FieldType) m_s7_Pair_meetY [.ref b0, .int b1] [(b0, .inr (10, [.int b2, .int b3, .int b4, .int b5, .int b6, .int b7, .int b8, .int b9, .int b10, .int b11]))] (fun v w => ∃ (e0 : Int32), ∃ (e1 : Int32), ∃ (e2 : Int32), v = none ∧ w = [(b0, .inr (10, [.int b2, .int b3, .int b4, .int b5, .int b6, .int e0, .int b1, .int e1, .int b10, .int e2]))] ∧ (zI e2 0 1)) := by
  refine z_start (by decide +kernel) (Nat.le_of_ble_eq_true rfl) ?_
  intro p e s m below meth c A Z hr hnm hA hP hD hS ls hl
  have Z : zC p s m _ meth c prog_6_method_7_code 2 "TraceMachines$Pair" G := Z
  obtain ⟨hx, hb, hml, hown, hts, hK, hN, hlocks⟩ := id Z
  have hl : lv_has ls 2 [(0, .ref b0), (1, .int b1)] := hl
  refine lv_aload_n hx hb d_Pair_meetY_0 rfl (lv_at hl 0 rfl) ?_
  refine va_get (D := G.1) (ci := 10) (v := .int b6) (C := R_Pair) (T := F_Pair) (N := 10) hx hb hts i_Pair hown hK hP 0 rfl rfl 4 (by decide) (hts _ q369) (fun _ h9 => h9) rfl d_Pair_meetY_1 ?_
  refine lv_aload_n hx hb d_Pair_meetY_4 rfl (lv_at hl 0 rfl) ?_
  refine va_get (D := G.1) (ci := 10) (v := .int b9) (C := R_Pair) (T := F_Pair) (N := 10) hx hb hts i_Pair hown hK hP 0 rfl rfl 7 (by decide) (hts _ q372) (fun _ h9 => h9) rfl d_Pair_meetY_5 ?_
  refine lv_iconst (v := 1) hx hb d_Pair_meetY_8 (by decide) ?_
  refine lv_iadd hx hb d_Pair_meetY_9 ?_
  refine lv_topi (fun v_1 ev_1 => ?_)
  refine lv_icmp_eq (tgt := 18) hx hb d_Pair_meetY_10 (by decide) (fun hc_2 => ?_) (fun hc_2 => ?_)
  · have _nhc_2 := hc_2
    have ni_3 := (fa_eq _ _).mp hc_2
    refine lv_aload_n hx hb d_Pair_meetY_18 rfl (lv_at hl 0 rfl) ?_
    refine va_get (D := G.1) (ci := 10) (v := .int b9) (C := R_Pair) (T := F_Pair) (N := 10) hx hb hts i_Pair hown hK hP 0 rfl rfl 7 (by decide) (hts _ q372) (fun _ h9 => h9) rfl d_Pair_meetY_19 ?_
    refine lv_if_ne (tgt := 30) hx hb d_Pair_meetY_22 (by decide) (fun hc_4 => ?_) (fun hc_4 => ?_)
    · have _nhc_4 := hc_4
      have ni_5 : ¬ (b9 : Int32).toInt = (0 : Int32).toInt := fun z => hc_4 ((fa_eq _ _).mpr z)
      simp only [li_0] at ni_5
      refine lv_aload_n hx hb d_Pair_meetY_30 rfl (lv_at hl 0 rfl) ?_
      refine lv_iload_n hx hb d_Pair_meetY_31 rfl (lv_at hl 1 rfl) ?_
      refine va_put (D := G.1) (ci := 10) (v := .int b1) (ty := .int) (C := R_Pair) (T := F_Pair) (N := 10) hx hb hts i_Pair t_Pair t_Pair_ok n_Pair hown hK hP hD hS 0 rfl rfl 6 (by decide) (hts _ q371) (fun _ h9 => h9) rfl (by decide +kernel) rfl rfl (Nat.le_of_ble_eq_true rfl) d_Pair_meetY_32 (fun H locs hP hD hS => ?_)
      have hP : va_P G.1 classes [(b0, .inr (10, [.int b2, .int b3, .int b4, .int b5, .int b6, .int b7, .int b1, .int b9, .int b10, .int b11]))] H := hP
      have hD := z_tie hP hD rfl
      refine lv_aload_n hx hb d_Pair_meetY_35 rfl (lv_at hl 0 rfl) ?_
      refine lv_dup hx hb d_Pair_meetY_36 rfl ?_
      refine va_get (D := G.1) (ci := 10) (v := .int b9) (C := R_Pair) (T := F_Pair) (N := 10) hx hb hts i_Pair hown hK hP 0 rfl rfl 7 (by decide) (hts _ q372) (fun _ h9 => h9) rfl d_Pair_meetY_37 ?_
      refine lv_iconst (v := 1) hx hb d_Pair_meetY_40 (by decide) ?_
      refine lv_iadd hx hb d_Pair_meetY_41 ?_
      refine lv_topi (fun v_6 ev_6 => ?_)
      obtain rfl : v_1 = v_6 := ev_1.trans ev_6.symm
      refine va_put (D := G.1) (ci := 10) (v := .int v_1) (ty := .int) (C := R_Pair) (T := F_Pair) (N := 10) hx hb hts i_Pair t_Pair t_Pair_ok n_Pair hown hK hP hD hS 0 rfl rfl 7 (by decide) (hts _ q372) (fun _ h9 => h9) rfl (by decide +kernel) rfl rfl (Nat.le_of_ble_eq_true rfl) d_Pair_meetY_42 (fun H locs hP hD hS => ?_)
      have hP : va_P G.1 classes [(b0, .inr (10, [.int b2, .int b3, .int b4, .int b5, .int b6, .int b7, .int b1, .int v_1, .int b10, .int b11]))] H := hP
      have hD := z_tie hP hD rfl
      exact z_vret hx hb hr hlocks hP hD hS (Nat.le_of_ble_eq_true rfl) (Nat.le_of_ble_eq_true rfl) d_Pair_meetY_45 ⟨b7, v_1, b11, rfl, rfl, hb11⟩
    · have _nhc_4 := hc_4
      have ni_7 := (fa_eq _ _).mp hc_4
      rw [li_0] at ni_7
      have hv_8 : zI b9 0 0 := zI.eq_l (zI_all b9) zc_0 hc_4
      refine lv_aload_n hx hb d_Pair_meetY_25 rfl (lv_at hl 0 rfl) ?_
      refine lv_iload_n hx hb d_Pair_meetY_26 rfl (lv_at hl 1 rfl) ?_
      refine va_put (D := G.1) (ci := 10) (v := .int b1) (ty := .int) (C := R_Pair) (T := F_Pair) (N := 10) hx hb hts i_Pair t_Pair t_Pair_ok n_Pair hown hK hP hD hS 0 rfl rfl 5 (by decide) (hts _ q370) (fun _ h9 => h9) rfl (by decide +kernel) rfl rfl (Nat.le_of_ble_eq_true rfl) d_Pair_meetY_27 (fun H locs hP hD hS => ?_)
      have hP : va_P G.1 classes [(b0, .inr (10, [.int b2, .int b3, .int b4, .int b5, .int b6, .int b1, .int b8, .int b9, .int b10, .int b11]))] H := hP
      have hD := z_tie hP hD rfl
      refine lv_aload_n hx hb d_Pair_meetY_30 rfl (lv_at hl 0 rfl) ?_
      refine lv_iload_n hx hb d_Pair_meetY_31 rfl (lv_at hl 1 rfl) ?_
      refine va_put (D := G.1) (ci := 10) (v := .int b1) (ty := .int) (C := R_Pair) (T := F_Pair) (N := 10) hx hb hts i_Pair t_Pair t_Pair_ok n_Pair hown hK hP hD hS 0 rfl rfl 6 (by decide) (hts _ q371) (fun _ h9 => h9) rfl (by decide +kernel) rfl rfl (Nat.le_of_ble_eq_true rfl) d_Pair_meetY_32 (fun H locs hP hD hS => ?_)
      have hP : va_P G.1 classes [(b0, .inr (10, [.int b2, .int b3, .int b4, .int b5, .int b6, .int b1, .int b1, .int b9, .int b10, .int b11]))] H := hP
      have hD := z_tie hP hD rfl
      refine lv_aload_n hx hb d_Pair_meetY_35 rfl (lv_at hl 0 rfl) ?_
      refine lv_dup hx hb d_Pair_meetY_36 rfl ?_
      refine va_get (D := G.1) (ci := 10) (v := .int b9) (C := R_Pair) (T := F_Pair) (N := 10) hx hb hts i_Pair hown hK hP 0 rfl rfl 7 (by decide) (hts _ q372) (fun _ h9 => h9) rfl d_Pair_meetY_37 ?_
      refine lv_iconst (v := 1) hx hb d_Pair_meetY_40 (by decide) ?_
      refine lv_iadd hx hb d_Pair_meetY_41 ?_
      refine lv_topi (fun v_9 ev_9 => ?_)
      obtain rfl : v_1 = v_9 := ev_1.trans ev_9.symm
      refine va_put (D := G.1) (ci := 10) (v := .int v_1) (ty := .int) (C := R_Pair) (T := F_Pair) (N := 10) hx hb hts i_Pair t_Pair t_Pair_ok n_Pair hown hK hP hD hS 0 rfl rfl 7 (by decide) (hts _ q372) (fun _ h9 => h9) rfl (by decide +kernel) rfl rfl (Nat.le_of_ble_eq_true rfl) d_Pair_meetY_42 (fun H locs hP hD hS => ?_)
      have hP : va_P G.1 classes [(b0, .inr (10, [.int b2, .int b3, .int b4, .int b5, .int b6, .int b1, .int b1, .int v_1, .int b10, .int b11]))] H := hP
      have hD := z_tie hP hD rfl
      exact z_vret hx hb hr hlocks hP hD hS (Nat.le_of_ble_eq_true rfl) (Nat.le_of_ble_eq_true rfl) d_Pair_meetY_45 ⟨b1, v_1, b11, rfl, rfl, hb11⟩
  · have _nhc_2 := hc_2
    have ni_10 : ¬ (b6 : Int32).toInt = (v_1 : Int32).toInt := fun z => hc_2 ((fa_eq _ _).mpr z)
    refine lv_aload_n hx hb d_Pair_meetY_13 rfl (lv_at hl 0 rfl) ?_
    refine lv_iconst (v := 0) hx hb d_Pair_meetY_14 (by decide) ?_
    refine va_put (D := G.1) (ci := 10) (v := .int 0) (ty := .boolean) (C := R_Pair) (T := F_Pair) (N := 10) hx hb hts i_Pair t_Pair t_Pair_ok n_Pair hown hK hP hD hS 0 rfl rfl 9 (by decide) (hts _ q374) (fun _ h9 => h9) rfl (by decide +kernel) rfl rfl (Nat.le_of_ble_eq_true rfl) d_Pair_meetY_15 (fun H locs hP hD hS => ?_)
    have hP : va_P G.1 classes [(b0, .inr (10, [.int b2, .int b3, .int b4, .int b5, .int b6, .int b7, .int b8, .int b9, .int b10, .int 0]))] H := hP
    have hD := z_tie hP hD rfl
    refine lv_aload_n hx hb d_Pair_meetY_18 rfl (lv_at hl 0 rfl) ?_
    refine va_get (D := G.1) (ci := 10) (v := .int b9) (C := R_Pair) (T := F_Pair) (N := 10) hx hb hts i_Pair hown hK hP 0 rfl rfl 7 (by decide) (hts _ q372) (fun _ h9 => h9) rfl d_Pair_meetY_19 ?_
    refine lv_if_ne (tgt := 30) hx hb d_Pair_meetY_22 (by decide) (fun hc_11 => ?_) (fun hc_11 => ?_)
    · have _nhc_11 := hc_11
      have ni_12 : ¬ (b9 : Int32).toInt = (0 : Int32).toInt := fun z => hc_11 ((fa_eq _ _).mpr z)
      simp only [li_0] at ni_12
      refine lv_aload_n hx hb d_Pair_meetY_30 rfl (lv_at hl 0 rfl) ?_
      refine lv_iload_n hx hb d_Pair_meetY_31 rfl (lv_at hl 1 rfl) ?_
      refine va_put (D := G.1) (ci := 10) (v := .int b1) (ty := .int) (C := R_Pair) (T := F_Pair) (N := 10) hx hb hts i_Pair t_Pair t_Pair_ok n_Pair hown hK hP hD hS 0 rfl rfl 6 (by decide) (hts _ q371) (fun _ h9 => h9) rfl (by decide +kernel) rfl rfl (Nat.le_of_ble_eq_true rfl) d_Pair_meetY_32 (fun H locs hP hD hS => ?_)
      have hP : va_P G.1 classes [(b0, .inr (10, [.int b2, .int b3, .int b4, .int b5, .int b6, .int b7, .int b1, .int b9, .int b10, .int 0]))] H := hP
      have hD := z_tie hP hD rfl
      refine lv_aload_n hx hb d_Pair_meetY_35 rfl (lv_at hl 0 rfl) ?_
      refine lv_dup hx hb d_Pair_meetY_36 rfl ?_
      refine va_get (D := G.1) (ci := 10) (v := .int b9) (C := R_Pair) (T := F_Pair) (N := 10) hx hb hts i_Pair hown hK hP 0 rfl rfl 7 (by decide) (hts _ q372) (fun _ h9 => h9) rfl d_Pair_meetY_37 ?_
      refine lv_iconst (v := 1) hx hb d_Pair_meetY_40 (by decide) ?_
      refine lv_iadd hx hb d_Pair_meetY_41 ?_
      refine lv_topi (fun v_13 ev_13 => ?_)
      obtain rfl : v_1 = v_13 := ev_1.trans ev_13.symm
      refine va_put (D := G.1) (ci := 10) (v := .int v_1) (ty := .int) (C := R_Pair) (T := F_Pair) (N := 10) hx hb hts i_Pair t_Pair t_Pair_ok n_Pair hown hK hP hD hS 0 rfl rfl 7 (by decide) (hts _ q372) (fun _ h9 => h9) rfl (by decide +kernel) rfl rfl (Nat.le_of_ble_eq_true rfl) d_Pair_meetY_42 (fun H locs hP hD hS => ?_)
      have hP : va_P G.1 classes [(b0, .inr (10, [.int b2, .int b3, .int b4, .int b5, .int b6, .int b7, .int b1, .int v_1, .int b10, .int 0]))] H := hP
      have hD := z_tie hP hD rfl
      exact z_vret hx hb hr hlocks hP hD hS (Nat.le_of_ble_eq_true rfl) (Nat.le_of_ble_eq_true rfl) d_Pair_meetY_45 ⟨b7, v_1, 0, rfl, rfl, (zI.wk (l' := 0) (h' := 1) zc_0 (by decide))⟩
    · have _nhc_11 := hc_11
      have ni_14 := (fa_eq _ _).mp hc_11
      rw [li_0] at ni_14
      have hv_15 : zI b9 0 0 := zI.eq_l (zI_all b9) zc_0 hc_11
      refine lv_aload_n hx hb d_Pair_meetY_25 rfl (lv_at hl 0 rfl) ?_
      refine lv_iload_n hx hb d_Pair_meetY_26 rfl (lv_at hl 1 rfl) ?_
      refine va_put (D := G.1) (ci := 10) (v := .int b1) (ty := .int) (C := R_Pair) (T := F_Pair) (N := 10) hx hb hts i_Pair t_Pair t_Pair_ok n_Pair hown hK hP hD hS 0 rfl rfl 5 (by decide) (hts _ q370) (fun _ h9 => h9) rfl (by decide +kernel) rfl rfl (Nat.le_of_ble_eq_true rfl) d_Pair_meetY_27 (fun H locs hP hD hS => ?_)
      have hP : va_P G.1 classes [(b0, .inr (10, [.int b2, .int b3, .int b4, .int b5, .int b6, .int b1, .int b8, .int b9, .int b10, .int 0]))] H := hP
      have hD := z_tie hP hD rfl
      refine lv_aload_n hx hb d_Pair_meetY_30 rfl (lv_at hl 0 rfl) ?_
      refine lv_iload_n hx hb d_Pair_meetY_31 rfl (lv_at hl 1 rfl) ?_
      refine va_put (D := G.1) (ci := 10) (v := .int b1) (ty := .int) (C := R_Pair) (T := F_Pair) (N := 10) hx hb hts i_Pair t_Pair t_Pair_ok n_Pair hown hK hP hD hS 0 rfl rfl 6 (by decide) (hts _ q371) (fun _ h9 => h9) rfl (by decide +kernel) rfl rfl (Nat.le_of_ble_eq_true rfl) d_Pair_meetY_32 (fun H locs hP hD hS => ?_)
      have hP : va_P G.1 classes [(b0, .inr (10, [.int b2, .int b3, .int b4, .int b5, .int b6, .int b1, .int b1, .int b9, .int b10, .int 0]))] H := hP
      have hD := z_tie hP hD rfl
      refine lv_aload_n hx hb d_Pair_meetY_35 rfl (lv_at hl 0 rfl) ?_
      refine lv_dup hx hb d_Pair_meetY_36 rfl ?_
      refine va_get (D := G.1) (ci := 10) (v := .int b9) (C := R_Pair) (T := F_Pair) (N := 10) hx hb hts i_Pair hown hK hP 0 rfl rfl 7 (by decide) (hts _ q372) (fun _ h9 => h9) rfl d_Pair_meetY_37 ?_
      refine lv_iconst (v := 1) hx hb d_Pair_meetY_40 (by decide) ?_
      refine lv_iadd hx hb d_Pair_meetY_41 ?_
      refine lv_topi (fun v_16 ev_16 => ?_)
      obtain rfl : v_1 = v_16 := ev_1.trans ev_16.symm
      refine va_put (D := G.1) (ci := 10) (v := .int v_1) (ty := .int) (C := R_Pair) (T := F_Pair) (N := 10) hx hb hts i_Pair t_Pair t_Pair_ok n_Pair hown hK hP hD hS 0 rfl rfl 7 (by decide) (hts _ q372) (fun _ h9 => h9) rfl (by decide +kernel) rfl rfl (Nat.le_of_ble_eq_true rfl) d_Pair_meetY_42 (fun H locs hP hD hS => ?_)
      have hP : va_P G.1 classes [(b0, .inr (10, [.int b2, .int b3, .int b4, .int b5, .int b6, .int b1, .int b1, .int v_1, .int b10, .int 0]))] H := hP
      have hD := z_tie hP hD rfl
      exact z_vret hx hb hr hlocks hP hD hS (Nat.le_of_ble_eq_true rfl) (Nat.le_of_ble_eq_true rfl) d_Pair_meetY_45 ⟨b1, v_1, 0, rfl, rfl, (zI.wk (l' := 0) (h' := 1) zc_0 (by decide))⟩
theorem d_Pair_meetX_43 : decode prog_6_method_6_code 43 = .ok (.return_, 1) := by decide +kernel
abbrev m_s7_Pair_meetX : Room := { frames := 0, cells := 0, slots := 0, locals := 0 }
set_option maxHeartbeats 4000000 in
set_option maxRecDepth 100000 in
theorem s7_Pair_meetX (l : Launch) (G : zG) (b0 : Nat) (b1 : Int32) (b2 : Int32) (b3 : Int32) (b4 : Int32) (b5 : Int32) (b6 : Int32) (b7 : Int32) (b8 : Int32) (b9 : Int32) (b10 : Int32) (b11 : Int32) (hb1 : zI b1 0 11) (hb10 : zI b10 0 1) (hb11 : zI b11 0 1) : zM l G y_Pair_meetX prog_6_method_6_code 2 (Option.none : Option Jvm.ClassFile.FieldType) m_s7_Pair_meetX [.ref b0, .int b1] [(b0, .inr (10, [.int b2, .int b3, .int b4, .int b5, .int b6, .int b7, .int b8, .int b9, .int b10, .int b11]))] (fun v w => ∃ (e0 : Int32), ∃ (e1 : Int32), ∃ (e2 : Int32), v = none ∧ w = [(b0, .inr (10, [.int b2, .int b3, .int e0, .int b1, .int e1, .int b7, .int b8, .int b9, .int b10, .int e2]))] ∧ (zI e2 0 1)) := by
  refine z_start (by decide +kernel) (Nat.le_of_ble_eq_true rfl) ?_
  intro p e s m below meth c A Z hr hnm hA hP hD hS ls hl
  have Z : zC p s m _ meth c prog_6_method_6_code 2 "TraceMachines$Pair" G := Z
  obtain ⟨hx, hb, hml, hown, hts, hK, hN, hlocks⟩ := id Z
  have hl : lv_has ls 2 [(0, .ref b0), (1, .int b1)] := hl
  refine lv_aload_n hx hb d_Pair_meetX_0 rfl (lv_at hl 0 rfl) ?_
  refine va_get (D := G.1) (ci := 10) (v := .int b6) (C := R_Pair) (T := F_Pair) (N := 10) hx hb hts i_Pair hown hK hP 0 rfl rfl 4 (by decide) (hts _ q369) (fun _ h9 => h9) rfl d_Pair_meetX_1 ?_
  refine lv_aload_n hx hb d_Pair_meetX_4 rfl (lv_at hl 0 rfl) ?_
  refine va_get (D := G.1) (ci := 10) (v := .int b9) (C := R_Pair) (T := F_Pair) (N := 10) hx hb hts i_Pair hown hK hP 0 rfl rfl 7 (by decide) (hts _ q372) (fun _ h9 => h9) rfl d_Pair_meetX_5 ?_
  refine lv_icmp_eq (tgt := 16) hx hb d_Pair_meetX_8 (by decide) (fun hc_1 => ?_) (fun hc_1 => ?_)
  · have _nhc_1 := hc_1
    have ni_2 := (fa_eq _ _).mp hc_1
    refine lv_aload_n hx hb d_Pair_meetX_16 rfl (lv_at hl 0 rfl) ?_
    refine va_get (D := G.1) (ci := 10) (v := .int b6) (C := R_Pair) (T := F_Pair) (N := 10) hx hb hts i_Pair hown hK hP 0 rfl rfl 4 (by decide) (hts _ q369) (fun _ h9 => h9) rfl d_Pair_meetX_17 ?_
    refine lv_if_ne (tgt := 28) hx hb d_Pair_meetX_20 (by decide) (fun hc_3 => ?_) (fun hc_3 => ?_)
    · have _nhc_3 := hc_3
      have ni_4 : ¬ (b6 : Int32).toInt = (0 : Int32).toInt := fun z => hc_3 ((fa_eq _ _).mpr z)
      simp only [li_0] at ni_4
      refine lv_aload_n hx hb d_Pair_meetX_28 rfl (lv_at hl 0 rfl) ?_
      refine lv_iload_n hx hb d_Pair_meetX_29 rfl (lv_at hl 1 rfl) ?_
      refine va_put (D := G.1) (ci := 10) (v := .int b1) (ty := .int) (C := R_Pair) (T := F_Pair) (N := 10) hx hb hts i_Pair t_Pair t_Pair_ok n_Pair hown hK hP hD hS 0 rfl rfl 3 (by decide) (hts _ q368) (fun _ h9 => h9) rfl (by decide +kernel) rfl rfl (Nat.le_of_ble_eq_true rfl) d_Pair_meetX_30 (fun H locs hP hD hS => ?_)
      have hP : va_P G.1 classes [(b0, .inr (10, [.int b2, .int b3, .int b4, .int b1, .int b6, .int b7, .int b8, .int b9, .int b10, .int b11]))] H := hP
      have hD := z_tie hP hD rfl
      refine lv_aload_n hx hb d_Pair_meetX_33 rfl (lv_at hl 0 rfl) ?_
      refine lv_dup hx hb d_Pair_meetX_34 rfl ?_
      refine va_get (D := G.1) (ci := 10) (v := .int b6) (C := R_Pair) (T := F_Pair) (N := 10) hx hb hts i_Pair hown hK hP 0 rfl rfl 4 (by decide) (hts _ q369) (fun _ h9 => h9) rfl d_Pair_meetX_35 ?_
      refine lv_iconst (v := 1) hx hb d_Pair_meetX_38 (by decide) ?_
      refine lv_iadd hx hb d_Pair_meetX_39 ?_
      refine lv_topi (fun v_5 ev_5 => ?_)
      refine va_put (D := G.1) (ci := 10) (v := .int v_5) (ty := .int) (C := R_Pair) (T := F_Pair) (N := 10) hx hb hts i_Pair t_Pair t_Pair_ok n_Pair hown hK hP hD hS 0 rfl rfl 4 (by decide) (hts _ q369) (fun _ h9 => h9) rfl (by decide +kernel) rfl rfl (Nat.le_of_ble_eq_true rfl) d_Pair_meetX_40 (fun H locs hP hD hS => ?_)
      have hP : va_P G.1 classes [(b0, .inr (10, [.int b2, .int b3, .int b4, .int b1, .int v_5, .int b7, .int b8, .int b9, .int b10, .int b11]))] H := hP
      have hD := z_tie hP hD rfl
      exact z_vret hx hb hr hlocks hP hD hS (Nat.le_of_ble_eq_true rfl) (Nat.le_of_ble_eq_true rfl) d_Pair_meetX_43 ⟨b4, v_5, b11, rfl, rfl, hb11⟩
    · have _nhc_3 := hc_3
      have ni_6 := (fa_eq _ _).mp hc_3
      rw [li_0] at ni_6
      have hv_7 : zI b6 0 0 := zI.eq_l (zI_all b6) zc_0 hc_3
      refine lv_aload_n hx hb d_Pair_meetX_23 rfl (lv_at hl 0 rfl) ?_
      refine lv_iload_n hx hb d_Pair_meetX_24 rfl (lv_at hl 1 rfl) ?_
      refine va_put (D := G.1) (ci := 10) (v := .int b1) (ty := .int) (C := R_Pair) (T := F_Pair) (N := 10) hx hb hts i_Pair t_Pair t_Pair_ok n_Pair hown hK hP hD hS 0 rfl rfl 2 (by decide) (hts _ q367) (fun _ h9 => h9) rfl (by decide +kernel) rfl rfl (Nat.le_of_ble_eq_true rfl) d_Pair_meetX_25 (fun H locs hP hD hS => ?_)
      have hP : va_P G.1 classes [(b0, .inr (10, [.int b2, .int b3, .int b1, .int b5, .int b6, .int b7, .int b8, .int b9, .int b10, .int b11]))] H := hP
      have hD := z_tie hP hD rfl
      refine lv_aload_n hx hb d_Pair_meetX_28 rfl (lv_at hl 0 rfl) ?_
      refine lv_iload_n hx hb d_Pair_meetX_29 rfl (lv_at hl 1 rfl) ?_
      refine va_put (D := G.1) (ci := 10) (v := .int b1) (ty := .int) (C := R_Pair) (T := F_Pair) (N := 10) hx hb hts i_Pair t_Pair t_Pair_ok n_Pair hown hK hP hD hS 0 rfl rfl 3 (by decide) (hts _ q368) (fun _ h9 => h9) rfl (by decide +kernel) rfl rfl (Nat.le_of_ble_eq_true rfl) d_Pair_meetX_30 (fun H locs hP hD hS => ?_)
      have hP : va_P G.1 classes [(b0, .inr (10, [.int b2, .int b3, .int b1, .int b1, .int b6, .int b7, .int b8, .int b9, .int b10, .int b11]))] H := hP
      have hD := z_tie hP hD rfl
      refine lv_aload_n hx hb d_Pair_meetX_33 rfl (lv_at hl 0 rfl) ?_
      refine lv_dup hx hb d_Pair_meetX_34 rfl ?_
      refine va_get (D := G.1) (ci := 10) (v := .int b6) (C := R_Pair) (T := F_Pair) (N := 10) hx hb hts i_Pair hown hK hP 0 rfl rfl 4 (by decide) (hts _ q369) (fun _ h9 => h9) rfl d_Pair_meetX_35 ?_
      refine lv_iconst (v := 1) hx hb d_Pair_meetX_38 (by decide) ?_
      refine lv_iadd hx hb d_Pair_meetX_39 ?_
      refine lv_topi (fun v_8 ev_8 => ?_)
      obtain ⟨qv_8, hv_8⟩ := zI_add (l := 1) (h := 1) hv_7 zc_1 ev_8 (by decide)
      rw [li_1] at qv_8
      refine va_put (D := G.1) (ci := 10) (v := .int v_8) (ty := .int) (C := R_Pair) (T := F_Pair) (N := 10) hx hb hts i_Pair t_Pair t_Pair_ok n_Pair hown hK hP hD hS 0 rfl rfl 4 (by decide) (hts _ q369) (fun _ h9 => h9) rfl (by decide +kernel) rfl rfl (Nat.le_of_ble_eq_true rfl) d_Pair_meetX_40 (fun H locs hP hD hS => ?_)
      have hP : va_P G.1 classes [(b0, .inr (10, [.int b2, .int b3, .int b1, .int b1, .int v_8, .int b7, .int b8, .int b9, .int b10, .int b11]))] H := hP
      have hD := z_tie hP hD rfl
      exact z_vret hx hb hr hlocks hP hD hS (Nat.le_of_ble_eq_true rfl) (Nat.le_of_ble_eq_true rfl) d_Pair_meetX_43 ⟨b1, v_8, b11, rfl, rfl, hb11⟩
  · have _nhc_1 := hc_1
    have ni_9 : ¬ (b6 : Int32).toInt = (b9 : Int32).toInt := fun z => hc_1 ((fa_eq _ _).mpr z)
    refine lv_aload_n hx hb d_Pair_meetX_11 rfl (lv_at hl 0 rfl) ?_
    refine lv_iconst (v := 0) hx hb d_Pair_meetX_12 (by decide) ?_
    refine va_put (D := G.1) (ci := 10) (v := .int 0) (ty := .boolean) (C := R_Pair) (T := F_Pair) (N := 10) hx hb hts i_Pair t_Pair t_Pair_ok n_Pair hown hK hP hD hS 0 rfl rfl 9 (by decide) (hts _ q374) (fun _ h9 => h9) rfl (by decide +kernel) rfl rfl (Nat.le_of_ble_eq_true rfl) d_Pair_meetX_13 (fun H locs hP hD hS => ?_)
    have hP : va_P G.1 classes [(b0, .inr (10, [.int b2, .int b3, .int b4, .int b5, .int b6, .int b7, .int b8, .int b9, .int b10, .int 0]))] H := hP
    have hD := z_tie hP hD rfl
    refine lv_aload_n hx hb d_Pair_meetX_16 rfl (lv_at hl 0 rfl) ?_
    refine va_get (D := G.1) (ci := 10) (v := .int b6) (C := R_Pair) (T := F_Pair) (N := 10) hx hb hts i_Pair hown hK hP 0 rfl rfl 4 (by decide) (hts _ q369) (fun _ h9 => h9) rfl d_Pair_meetX_17 ?_
    refine lv_if_ne (tgt := 28) hx hb d_Pair_meetX_20 (by decide) (fun hc_10 => ?_) (fun hc_10 => ?_)
    · have _nhc_10 := hc_10
      have ni_11 : ¬ (b6 : Int32).toInt = (0 : Int32).toInt := fun z => hc_10 ((fa_eq _ _).mpr z)
      simp only [li_0] at ni_11
      refine lv_aload_n hx hb d_Pair_meetX_28 rfl (lv_at hl 0 rfl) ?_
      refine lv_iload_n hx hb d_Pair_meetX_29 rfl (lv_at hl 1 rfl) ?_
      refine va_put (D := G.1) (ci := 10) (v := .int b1) (ty := .int) (C := R_Pair) (T := F_Pair) (N := 10) hx hb hts i_Pair t_Pair t_Pair_ok n_Pair hown hK hP hD hS 0 rfl rfl 3 (by decide) (hts _ q368) (fun _ h9 => h9) rfl (by decide +kernel) rfl rfl (Nat.le_of_ble_eq_true rfl) d_Pair_meetX_30 (fun H locs hP hD hS => ?_)
      have hP : va_P G.1 classes [(b0, .inr (10, [.int b2, .int b3, .int b4, .int b1, .int b6, .int b7, .int b8, .int b9, .int b10, .int 0]))] H := hP
      have hD := z_tie hP hD rfl
      refine lv_aload_n hx hb d_Pair_meetX_33 rfl (lv_at hl 0 rfl) ?_
      refine lv_dup hx hb d_Pair_meetX_34 rfl ?_
      refine va_get (D := G.1) (ci := 10) (v := .int b6) (C := R_Pair) (T := F_Pair) (N := 10) hx hb hts i_Pair hown hK hP 0 rfl rfl 4 (by decide) (hts _ q369) (fun _ h9 => h9) rfl d_Pair_meetX_35 ?_
      refine lv_iconst (v := 1) hx hb d_Pair_meetX_38 (by decide) ?_
      refine lv_iadd hx hb d_Pair_meetX_39 ?_
      refine lv_topi (fun v_12 ev_12 => ?_)
      refine va_put (D := G.1) (ci := 10) (v := .int v_12) (ty := .int) (C := R_Pair) (T := F_Pair) (N := 10) hx hb hts i_Pair t_Pair t_Pair_ok n_Pair hown hK hP hD hS 0 rfl rfl 4 (by decide) (hts _ q369) (fun _ h9 => h9) rfl (by decide +kernel) rfl rfl (Nat.le_of_ble_eq_true rfl) d_Pair_meetX_40 (fun H locs hP hD hS => ?_)
      have hP : va_P G.1 classes [(b0, .inr (10, [.int b2, .int b3, .int b4, .int b1, .int v_12, .int b7, .int b8, .int b9, .int b10, .int 0]))] H := hP
      have hD := z_tie hP hD rfl
      exact z_vret hx hb hr hlocks hP hD hS (Nat.le_of_ble_eq_true rfl) (Nat.le_of_ble_eq_true rfl) d_Pair_meetX_43 ⟨b4, v_12, 0, rfl, rfl, (zI.wk (l' := 0) (h' := 1) zc_0 (by decide))⟩
    · have _nhc_10 := hc_10
      have ni_13 := (fa_eq _ _).mp hc_10
      rw [li_0] at ni_13
      have hv_14 : zI b6 0 0 := zI.eq_l (zI_all b6) zc_0 hc_10
      refine lv_aload_n hx hb d_Pair_meetX_23 rfl (lv_at hl 0 rfl) ?_
      refine lv_iload_n hx hb d_Pair_meetX_24 rfl (lv_at hl 1 rfl) ?_
      refine va_put (D := G.1) (ci := 10) (v := .int b1) (ty := .int) (C := R_Pair) (T := F_Pair) (N := 10) hx hb hts i_Pair t_Pair t_Pair_ok n_Pair hown hK hP hD hS 0 rfl rfl 2 (by decide) (hts _ q367) (fun _ h9 => h9) rfl (by decide +kernel) rfl rfl (Nat.le_of_ble_eq_true rfl) d_Pair_meetX_25 (fun H locs hP hD hS => ?_)
      have hP : va_P G.1 classes [(b0, .inr (10, [.int b2, .int b3, .int b1, .int b5, .int b6, .int b7, .int b8, .int b9, .int b10, .int 0]))] H := hP
      have hD := z_tie hP hD rfl
      refine lv_aload_n hx hb d_Pair_meetX_28 rfl (lv_at hl 0 rfl) ?_
      refine lv_iload_n hx hb d_Pair_meetX_29 rfl (lv_at hl 1 rfl) ?_
      refine va_put (D := G.1) (ci := 10) (v := .int b1) (ty := .int) (C := R_Pair) (T := F_Pair) (N := 10) hx hb hts i_Pair t_Pair t_Pair_ok n_Pair hown hK hP hD hS 0 rfl rfl 3 (by decide) (hts _ q368) (fun _ h9 => h9) rfl (by decide +kernel) rfl rfl (Nat.le_of_ble_eq_true rfl) d_Pair_meetX_30 (fun H locs hP hD hS => ?_)
      have hP : va_P G.1 classes [(b0, .inr (10, [.int b2, .int b3, .int b1, .int b1, .int b6, .int b7, .int b8, .int b9, .int b10, .int 0]))] H := hP
      have hD := z_tie hP hD rfl
      refine lv_aload_n hx hb d_Pair_meetX_33 rfl (lv_at hl 0 rfl) ?_
      refine lv_dup hx hb d_Pair_meetX_34 rfl ?_
      refine va_get (D := G.1) (ci := 10) (v := .int b6) (C := R_Pair) (T := F_Pair) (N := 10) hx hb hts i_Pair hown hK hP 0 rfl rfl 4 (by decide) (hts _ q369) (fun _ h9 => h9) rfl d_Pair_meetX_35 ?_
      refine lv_iconst (v := 1) hx hb d_Pair_meetX_38 (by decide) ?_
      refine lv_iadd hx hb d_Pair_meetX_39 ?_
      refine lv_topi (fun v_15 ev_15 => ?_)
      obtain ⟨qv_15, hv_15⟩ := zI_add (l := 1) (h := 1) hv_14 zc_1 ev_15 (by decide)
      rw [li_1] at qv_15
      refine va_put (D := G.1) (ci := 10) (v := .int v_15) (ty := .int) (C := R_Pair) (T := F_Pair) (N := 10) hx hb hts i_Pair t_Pair t_Pair_ok n_Pair hown hK hP hD hS 0 rfl rfl 4 (by decide) (hts _ q369) (fun _ h9 => h9) rfl (by decide +kernel) rfl rfl (Nat.le_of_ble_eq_true rfl) d_Pair_meetX_40 (fun H locs hP hD hS => ?_)
      have hP : va_P G.1 classes [(b0, .inr (10, [.int b2, .int b3, .int b1, .int b1, .int v_15, .int b7, .int b8, .int b9, .int b10, .int 0]))] H := hP
      have hD := z_tie hP hD rfl
      exact z_vret hx hb hr hlocks hP hD hS (Nat.le_of_ble_eq_true rfl) (Nat.le_of_ble_eq_true rfl) d_Pair_meetX_43 ⟨b1, v_15, 0, rfl, rfl, (zI.wk (l' := 0) (h' := 1) zc_0 (by decide))⟩
abbrev m_s8_Pair_look : Room := { frames := 1, cells := 0, slots := 0, locals := 22 }
set_option maxHeartbeats 4000000 in
set_option maxRecDepth 100000 in
theorem s8_Pair_look (l : Launch) (G : zG) (b0 : Nat) (b1 : Nat) (b2 : Int32) (b3 : Int32) (b4 : Int32) (b5 : Int32) (b6 : Int32) (b7 : Int32) (b8 : Int32) (b9 : Int32) (b10 : Int32) (b11 : Int32) (b12 : Int32) (b13 : Int32) (b14 : Int32) (b15 : Int32) (b16 : Int32) (b17 : Int32) (b18 : Nat) (b19 : Nat) (b20 : Nat) (b21 : Nat → Int32) (b22 : Nat → Int32) (hb2 : zI b2 0 19) (hb13 : zI b13 0 1) (hb14 : zI b14 0 1) (hb15 : zI b15 0 20) (hb16 : zI b16 0 3) (hb17 : zI b17 0 20) (hb21 : zR b21 0 12) (hb22 : zR b22 0 9) : zM l G y_Pair_look prog_6_method_4_code 8 (Option.none : Option Jvm.ClassFile.FieldType) m_s8_Pair_look [.ref b0, .ref b1, .int b2, .int b3, .int b4] [(b0, .inr (10, [.int b5, .int b6, .int b7, .int b8, .int b9, .int b10, .int b11, .int b12, .int b13, .int b14])), (b1, .inr (2, [.int b15, .int b16, .int b17, .ref b18, .ref b19, .ref b20])), (b18, .inl (G.2 0, 20, .inl b21)), (b19, .inl (G.2 0, 240, .inl b22))] (fun v w => ∃ (e0 : Int32), ∃ (e1 : Int32), ∃ (e2 : Int32), ∃ (e3 : Int32), ∃ (e4 : Int32), ∃ (e5 : Int32), ∃ (e6 : Int32), ∃ (e7 : Int32), v = none ∧ w = [(b0, .inr (10, [.int b5, .int b6, .int e0, .int e1, .int e2, .int e3, .int e4, .int e5, .int e6, .int e7])), (b1, .inr (2, [.int b15, .int b16, .int b17, .ref b18, .ref b19, .ref b20])), (b18, .inl (G.2 0, 20, .inl b21)), (b19, .inl (G.2 0, 240, .inl b22))] ∧ (zI e1 (-1) 11) ∧ (zI e4 (-1) 11) ∧ (zI e6 0 1) ∧ (zI e7 0 1)) := by
  refine z_start (by decide +kernel) (Nat.le_of_ble_eq_true rfl) ?_
  intro p e s m below meth c A Z hr hnm hA hP hD hS ls hl
  have Z : zC p s m _ meth c prog_6_method_4_code 8 "TraceMachines$Pair" G := Z
  obtain ⟨hx, hb, hml, hown, hts, hK, hN, hlocks⟩ := id Z
  have hl : lv_has ls 8 [(0, .ref b0), (1, .ref b1), (2, .int b2), (3, .int b3), (4, .int b4)] := hl
  refine lv_aload_n hx hb d_Pair_look_0 rfl (lv_at hl 0 rfl) ?_
  refine z_callV (index := 37) (As := []) (rest := []) (wr := [(b1, .inr (2, [.int b15, .int b16, .int b17, .ref b18, .ref b19, .ref b20])), (b18, .inl (G.2 0, 20, .inl b21)), (b19, .inl (G.2 0, 240, .inl b22))]) Z (s2_Pair_forgetLooks l G (b0) (b5) (b6) (b7) (b8) (b9) (b10) (b11) (b12) (b13) (b14) hb13 hb14) hl.1 q927 q929 qs33 q11 q930 ⟨by decide, by decide, by show _ = some 0; decide +kernel⟩ ⟨Nat.le_of_ble_eq_true rfl, Nat.le_of_ble_eq_true rfl⟩ ⟨Nat.le_of_ble_eq_true rfl, Nat.le_of_ble_eq_true rfl⟩ rfl (Nat.le_of_ble_eq_true rfl) d_Pair_look_1 hP hD hS hA 0 10 rfl rfl rfl [0] [1, 2, 3] rfl rfl rfl rfl (by decide) (fun v w1 H locs hw_1 hP hD hS => ?_)
  obtain ⟨rfl, rfl⟩ := hw_1
  have hP : va_P G.1 classes [(b1, .inr (2, [.int b15, .int b16, .int b17, .ref b18, .ref b19, .ref b20])), (b18, .inl (G.2 0, 20, .inl b21)), (b19, .inl (G.2 0, 240, .inl b22)), (b0, .inr (10, [.int b5, .int b6, .int (-1), .int (-1), .int 0, .int (-1), .int (-1), .int 0, .int 1, .int 1]))] H := hP
  have hD := z_tie hP hD rfl
  refine W.widen (k := 0) (n := 0) (Nat.le_of_ble_eq_true rfl) (Nat.le_of_ble_eq_true rfl) ?_
  refine lv_aload_n hx hb d_Pair_look_4 rfl (lv_at hl 1 rfl) ?_
  refine va_get (D := G.1) (ci := 2) (v := .ref b18) (C := R_Traces) (T := F_Traces) (N := 6) hx hb hts i_Traces hown hK hP 0 rfl rfl 3 (by decide) (hts _ q67) (fun _ h9 => h9) rfl d_Pair_look_5 ?_
  refine lv_iload_n hx hb d_Pair_look_8 rfl (lv_at hl 2 rfl) ?_
  refine va_iald hx hb hK hP 1 0 rfl rfl (zI.inn hb2 (by decide)) d_Pair_look_9 ?_
  refine lv_topi (fun v_2 ev_2 => ?_)
  have hv_2 : zI v_2 0 12 := (hb21 _).eq ev_2
  refine lv_istore (lv' := [(5, .int v_2), (0, .ref b0), (1, .ref b1), (2, .int b2), (3, .int b3), (4, .int b4)]) hx hb d_Pair_look_10 hl (by decide) rfl (fun ls hl => ?_)
  refine lv_iconst (v := 0) hx hb d_Pair_look_12 (by decide) ?_
  refine lv_istore (lv' := [(6, .int 0), (5, .int v_2), (0, .ref b0), (1, .ref b1), (2, .int b2), (3, .int b3), (4, .int b4)]) hx hb d_Pair_look_13 hl (by decide) rfl (fun ls hl => ?_)
  suffices key : ∀ (k_57 : Nat) (y_58 : Int32) (y_59 : Int32) (y_60 : Int32) (y_61 : Int32) (y_62 : Int32) (y_63 : Int32) (y_64 : Int32) (y_65 : Int32) (y_66 : Int32) (H : Heap) (locs : List Loc) (ls : Array Slot), (zI y_58 0 12) → (zI y_60 (-1) 11) → (zI y_62 0 1) → (zI y_64 (-1) 11) → (zI y_66 0 1) → (12 : Int) - y_58.toInt < (k_57 : Int) → va_P G.1 classes [(b1, .inr (2, [.int b15, .int b16, .int b17, .ref b18, .ref b19, .ref b20])), (b18, .inl (G.2 0, 20, .inl b21)), (b19, .inl (G.2 0, 240, .inl b22)), (b0, .inr (10, [.int b5, .int b6, .int y_63, .int y_64, .int y_65, .int y_59, .int y_60, .int y_61, .int y_66, .int y_62]))] H → va_D A [(b1, .inr (2, [.int b15, .int b16, .int b17, .ref b18, .ref b19, .ref b20])), (b18, .inl (G.2 0, 20, .inl b21)), (b19, .inl (G.2 0, 240, .inl b22)), (b0, .inr (10, [.int b5, .int b6, .int y_63, .int y_64, .int y_65, .int y_59, .int y_60, .int y_61, .int y_66, .int y_62]))] → va_S A s.heap H locs → lv_has ls 8 [(6, .int y_58), (5, .int v_2), (0, .ref b0), (1, .ref b1), (2, .int b2), (3, .int b3), (4, .int b4)] → W p l e m_s8_Pair_look s m ([.ref b0, .ref b1, .int b2, .int b3, .int b4] : List Value).toArray below meth c H locs 0 0 (MQ below (zQ G (fun v w => ∃ (e0 : Int32), ∃ (e1 : Int32), ∃ (e2 : Int32), ∃ (e3 : Int32), ∃ (e4 : Int32), ∃ (e5 : Int32), ∃ (e6 : Int32), ∃ (e7 : Int32), v = none ∧ w = [(b0, .inr (10, [.int b5, .int b6, .int e0, .int e1, .int e2, .int e3, .int e4, .int e5, .int e6, .int e7])), (b1, .inr (2, [.int b15, .int b16, .int b17, .ref b18, .ref b19, .ref b20])), (b18, .inl (G.2 0, 20, .inl b21)), (b19, .inl (G.2 0, 240, .inl b22))] ∧ (zI e1 (-1) 11) ∧ (zI e4 (-1) 11) ∧ (zI e6 0 1) ∧ (zI e7 0 1)) A) ([.ref b0, .ref b1, .int b2, .int b3, .int b4] : List Value).toArray s m_s8_Pair_look.cells m_s8_Pair_look.slots A) (F0 m 15 ls []) by
    exact key 13 (0) ((-1)) ((-1)) (0) (1) ((-1)) ((-1)) (0) (1) _ _ _ (zI.wk (l' := 0) (h' := 12) zc_0 (by decide)) (zI.wk (l' := (-1)) (h' := 11) zc_m1 (by decide)) (zI.wk (l' := 0) (h' := 1) zc_1 (by decide)) (zI.wk (l' := (-1)) (h' := 11) zc_m1 (by decide)) (zI.wk (l' := 0) (h' := 1) zc_1 (by decide)) (zm_upi (zI.wk (l' := 0) (h' := 12) zc_0 (by decide)) (by decide)) hP hD hS (lv_sub hl [0, 1, 2, 3, 4, 5, 6] rfl)
  intro k_57
  induction k_57 with
  | zero =>
    intro y_58 y_59 y_60 y_61 y_62 y_63 y_64 y_65 y_66 H locs ls hy_58 hy_60 hy_62 hy_64 hy_66 hmk_57 hP hD hS hl
    exact (zm_up0 hy_58 hmk_57).elim
  | succ k_57 ihk_57 =>
    intro y_58 y_59 y_60 y_61 y_62 y_63 y_64 y_65 y_66 H locs ls hy_58 hy_60 hy_62 hy_64 hy_66 hmk_57 hP hD hS hl
    refine lv_iload hx hb d_Pair_look_15 (lv_at hl 0 rfl) ?_
    refine lv_iload hx hb d_Pair_look_17 (lv_at hl 1 rfl) ?_
    refine lv_icmp_ge (tgt := 93) hx hb d_Pair_look_19 (by decide) (fun hc_67 => ?_) (fun hc_67 => ?_)
    · have _nhc_67 := hc_67
      have ni_68 := (fa_le _ _).mp hc_67
      refine lv_aload_n hx hb d_Pair_look_93 rfl (lv_at hl 2 rfl) ?_
      refine va_get (D := G.1) (ci := 10) (v := .int y_65) (C := R_Pair) (T := F_Pair) (N := 10) hx hb hts i_Pair hown hK hP 3 rfl rfl 4 (by decide) (hts _ q369) (fun _ h9 => h9) rfl d_Pair_look_94 ?_
      refine lv_aload_n hx hb d_Pair_look_97 rfl (lv_at hl 2 rfl) ?_
      refine va_get (D := G.1) (ci := 10) (v := .int y_61) (C := R_Pair) (T := F_Pair) (N := 10) hx hb hts i_Pair hown hK hP 3 rfl rfl 7 (by decide) (hts _ q372) (fun _ h9 => h9) rfl d_Pair_look_98 ?_
      refine lv_icmp_eq (tgt := 109) hx hb d_Pair_look_101 (by decide) (fun hc_69 => ?_) (fun hc_69 => ?_)
      · have _nhc_69 := hc_69
        have ni_70 := (fa_eq _ _).mp hc_69
        exact z_vret hx hb hr hlocks (hP.sub [3, 0, 1, 2] rfl) (hD.sub [3, 0, 1, 2] (by decide) rfl) hS (Nat.le_of_ble_eq_true rfl) (Nat.le_of_ble_eq_true rfl) d_Pair_look_109 ⟨y_63, y_64, y_65, y_59, y_60, y_61, y_66, y_62, rfl, rfl, hy_64, hy_60, hy_66, hy_62⟩
      · have _nhc_69 := hc_69
        have ni_71 : ¬ (y_65 : Int32).toInt = (y_61 : Int32).toInt := fun z => hc_69 ((fa_eq _ _).mpr z)
        refine lv_aload_n hx hb d_Pair_look_104 rfl (lv_at hl 2 rfl) ?_
        refine lv_iconst (v := 0) hx hb d_Pair_look_105 (by decide) ?_
        refine va_put (D := G.1) (ci := 10) (v := .int 0) (ty := .boolean) (C := R_Pair) (T := F_Pair) (N := 10) hx hb hts i_Pair t_Pair t_Pair_ok n_Pair hown hK hP hD hS 3 rfl rfl 9 (by decide) (hts _ q374) (fun _ h9 => h9) rfl (by decide +kernel) rfl rfl (Nat.le_of_ble_eq_true rfl) d_Pair_look_106 (fun H locs hP hD hS => ?_)
        have hP : va_P G.1 classes [(b1, .inr (2, [.int b15, .int b16, .int b17, .ref b18, .ref b19, .ref b20])), (b18, .inl (G.2 0, 20, .inl b21)), (b19, .inl (G.2 0, 240, .inl b22)), (b0, .inr (10, [.int b5, .int b6, .int y_63, .int y_64, .int y_65, .int y_59, .int y_60, .int y_61, .int y_66, .int 0]))] H := hP
        have hD := z_tie hP hD rfl
        exact z_vret hx hb hr hlocks (hP.sub [3, 0, 1, 2] rfl) (hD.sub [3, 0, 1, 2] (by decide) rfl) hS (Nat.le_of_ble_eq_true rfl) (Nat.le_of_ble_eq_true rfl) d_Pair_look_109 ⟨y_63, y_64, y_65, y_59, y_60, y_61, y_66, 0, rfl, rfl, hy_64, hy_60, hy_66, (zI.wk (l' := 0) (h' := 1) zc_0 (by decide))⟩
    · have _nhc_67 := hc_67
      have ni_72 := (fa_lt _ _).mp (zi_nle hc_67)
      have hv_73 : zI y_58 0 11 := zI.lt_l hy_58 hv_2 (zi_nle hc_67) (by decide)
      have hv_74 : zI v_2 1 12 := zI.lt_r hy_58 hv_2 (zi_nle hc_67) (by decide)
      refine lv_aload_n hx hb d_Pair_look_22 rfl (lv_at hl 3 rfl) ?_
      refine lv_iload_n hx hb d_Pair_look_23 rfl (lv_at hl 4 rfl) ?_
      refine lv_iload hx hb d_Pair_look_24 (lv_at hl 0 rfl) ?_
      refine z_callV (index := 44) (As := [.int b2, .int y_58]) (rest := []) (wr := [(b18, .inl (G.2 0, 20, .inl b21)), (b0, .inr (10, [.int b5, .int b6, .int y_63, .int y_64, .int y_65, .int y_59, .int y_60, .int y_61, .int y_66, .int y_62]))]) Z (s1_Traces_letterAt l G (b1) (b2) (y_58) (b15) (b16) (b17) (b18) (b19) (b20) (b22) hb2 hv_73 hb15 hb16 hb17 hb22) hl.1 q931 q580 q581 q3 q582 ⟨by decide, by decide, by show _ = some 2; decide +kernel⟩ ⟨Nat.le_of_ble_eq_true rfl, Nat.le_of_ble_eq_true rfl⟩ ⟨Nat.le_of_ble_eq_true rfl, Nat.le_of_ble_eq_true rfl⟩ rfl (Nat.le_of_ble_eq_true rfl) d_Pair_look_26 hP hD hS hA 0 2 rfl rfl rfl [0, 2] [1, 3] rfl rfl rfl rfl (by decide) (fun v w1 H locs hw_75 hP hD hS => ?_)
      obtain ⟨x_76, rfl, rfl, hx_76⟩ := hw_75
      have hP : va_P G.1 classes [(b18, .inl (G.2 0, 20, .inl b21)), (b0, .inr (10, [.int b5, .int b6, .int y_63, .int y_64, .int y_65, .int y_59, .int y_60, .int y_61, .int y_66, .int y_62])), (b1, .inr (2, [.int b15, .int b16, .int b17, .ref b18, .ref b19, .ref b20])), (b19, .inl (G.2 0, 240, .inl b22))] H := hP
      have hD := z_tie hP hD rfl
      refine W.widen (k := 0) (n := 0) (Nat.le_of_ble_eq_true rfl) (Nat.le_of_ble_eq_true rfl) ?_
      refine lv_istore (lv' := [(7, .int x_76), (6, .int y_58), (5, .int v_2), (0, .ref b0), (1, .ref b1), (2, .int b2), (3, .int b3), (4, .int b4)]) hx hb d_Pair_look_29 hl (by decide) rfl (fun ls hl => ?_)
      refine lv_iload hx hb d_Pair_look_31 (lv_at hl 0 rfl) ?_
      refine lv_iload_n hx hb d_Pair_look_33 rfl (lv_at hl 6 rfl) ?_
      refine lv_icmp_ne (tgt := 74) hx hb d_Pair_look_34 (by decide) (fun hc_77 => ?_) (fun hc_77 => ?_)
      · have _nhc_77 := hc_77
        have ni_78 : ¬ (x_76 : Int32).toInt = (b3 : Int32).toInt := fun z => hc_77 ((fa_eq _ _).mpr z)
        refine lv_iload hx hb d_Pair_look_74 (lv_at hl 0 rfl) ?_
        refine lv_iload hx hb d_Pair_look_76 (lv_at hl 7 rfl) ?_
        refine lv_icmp_ne (tgt := 87) hx hb d_Pair_look_78 (by decide) (fun hc_79 => ?_) (fun hc_79 => ?_)
        · have _nhc_79 := hc_79
          have ni_80 : ¬ (x_76 : Int32).toInt = (b4 : Int32).toInt := fun z => hc_79 ((fa_eq _ _).mpr z)
          obtain ⟨v_81, ev_81⟩ : ∃ z : Int32, z = y_58 + 1 := ⟨_, rfl⟩
          obtain ⟨qv_81, hv_81⟩ := zI_add (l := 1) (h := 12) hv_73 zc_1 ev_81 (by decide)
          rw [li_1] at qv_81
          refine lv_iinc (v := v_81) (lv' := [(6, .int v_81), (7, .int x_76), (5, .int v_2), (0, .ref b0), (1, .ref b1), (2, .int b2), (3, .int b3), (4, .int b4)]) hx hb d_Pair_look_87 hl (k := 1) rfl (by rw [ev_81]; rfl) (by decide) rfl (fun ls hl => ?_)
          refine lv_goto (tgt := 15) hx hb d_Pair_look_90 (by decide) ?_
          exact ihk_57 (v_81) (y_59) (y_60) (y_61) (y_62) (y_63) (y_64) (y_65) (y_66) _ _ _ (zI.wk (l' := 0) (h' := 12) hv_81 (by decide)) hy_60 hy_62 hy_64 hy_66 (zm_up qv_81 hmk_57 (by decide)) (hP.sub [2, 0, 3, 1] rfl) (hD.sub [2, 0, 3, 1] (by decide) rfl) hS (lv_sub hl [0, 2, 3, 4, 5, 6, 7] rfl)
        · have _nhc_79 := hc_79
          have ni_82 := (fa_eq _ _).mp hc_79
          have hv_83 : zI b4 0 9 := zI.eq_l (zI_all b4) hx_76 hc_79.symm
          refine lv_aload_n hx hb d_Pair_look_81 rfl (lv_at hl 3 rfl) ?_
          refine lv_iload hx hb d_Pair_look_82 (lv_at hl 1 rfl) ?_
          refine z_callV (index := 56) (As := [.int y_58]) (rest := []) (wr := [(b18, .inl (G.2 0, 20, .inl b21)), (b1, .inr (2, [.int b15, .int b16, .int b17, .ref b18, .ref b19, .ref b20])), (b19, .inl (G.2 0, 240, .inl b22))]) Z (s7_Pair_meetY l G (b0) (y_58) (b5) (b6) (y_63) (y_64) (y_65) (y_59) (y_60) (y_61) (y_66) (y_62) hv_73 hy_66 hy_62) hl.1 q936 q938 qs35 q11 q939 ⟨by decide, by decide, by show _ = some 1; decide +kernel⟩ ⟨Nat.le_of_ble_eq_true rfl, Nat.le_of_ble_eq_true rfl⟩ ⟨Nat.le_of_ble_eq_true rfl, Nat.le_of_ble_eq_true rfl⟩ rfl (Nat.le_of_ble_eq_true rfl) d_Pair_look_84 hP hD hS hA 1 10 rfl rfl rfl [1] [0, 2, 3] rfl rfl rfl rfl (by decide) (fun v w1 H locs hw_84 hP hD hS => ?_)
          obtain ⟨x_85, x_86, x_87, rfl, rfl, hx_87⟩ := hw_84
          have hP : va_P G.1 classes [(b18, .inl (G.2 0, 20, .inl b21)), (b1, .inr (2, [.int b15, .int b16, .int b17, .ref b18, .ref b19, .ref b20])), (b19, .inl (G.2 0, 240, .inl b22)), (b0, .inr (10, [.int b5, .int b6, .int y_63, .int y_64, .int y_65, .int x_85, .int y_58, .int x_86, .int y_66, .int x_87]))] H := hP
          have hD := z_tie hP hD rfl
          refine W.widen (k := 0) (n := 0) (Nat.le_of_ble_eq_true rfl) (Nat.le_of_ble_eq_true rfl) ?_
          obtain ⟨v_88, ev_88⟩ : ∃ z : Int32, z = y_58 + 1 := ⟨_, rfl⟩
          obtain ⟨qv_88, hv_88⟩ := zI_add (l := 1) (h := 12) hv_73 zc_1 ev_88 (by decide)
          rw [li_1] at qv_88
          refine lv_iinc (v := v_88) (lv' := [(6, .int v_88), (7, .int x_76), (5, .int v_2), (0, .ref b0), (1, .ref b1), (2, .int b2), (3, .int b3), (4, .int b4)]) hx hb d_Pair_look_87 hl (k := 1) rfl (by rw [ev_88]; rfl) (by decide) rfl (fun ls hl => ?_)
          refine lv_goto (tgt := 15) hx hb d_Pair_look_90 (by decide) ?_
          exact ihk_57 (v_88) (x_85) (y_58) (x_86) (x_87) (y_63) (y_64) (y_65) (y_66) _ _ _ (zI.wk (l' := 0) (h' := 12) hv_88 (by decide)) (zI.wk (l' := (-1)) (h' := 11) hv_73 (by decide)) hx_87 hy_64 hy_66 (zm_up qv_88 hmk_57 (by decide)) (hP.sub [1, 0, 2, 3] rfl) (hD.sub [1, 0, 2, 3] (by decide) rfl) hS (lv_sub hl [0, 2, 3, 4, 5, 6, 7] rfl)
      · have _nhc_77 := hc_77
        have ni_89 := (fa_eq _ _).mp hc_77
        have hv_90 : zI b3 0 9 := zI.eq_l (zI_all b3) hx_76 hc_77.symm
        refine lv_aload_n hx hb d_Pair_look_37 rfl (lv_at hl 3 rfl) ?_
        refine lv_iload hx hb d_Pair_look_38 (lv_at hl 1 rfl) ?_
        refine z_callV (index := 48) (As := [.int y_58]) (rest := []) (wr := [(b18, .inl (G.2 0, 20, .inl b21)), (b1, .inr (2, [.int b15, .int b16, .int b17, .ref b18, .ref b19, .ref b20])), (b19, .inl (G.2 0, 240, .inl b22))]) Z (s7_Pair_meetX l G (b0) (y_58) (b5) (b6) (y_63) (y_64) (y_65) (y_59) (y_60) (y_61) (y_66) (y_62) hv_73 hy_66 hy_62) hl.1 q932 q934 qs34 q11 q935 ⟨by decide, by decide, by show _ = some 1; decide +kernel⟩ ⟨Nat.le_of_ble_eq_true rfl, Nat.le_of_ble_eq_true rfl⟩ ⟨Nat.le_of_ble_eq_true rfl, Nat.le_of_ble_eq_true rfl⟩ rfl (Nat.le_of_ble_eq_true rfl) d_Pair_look_40 hP hD hS hA 1 10 rfl rfl rfl [1] [0, 2, 3] rfl rfl rfl rfl (by decide) (fun v w1 H locs hw_91 hP hD hS => ?_)
        obtain ⟨x_92, x_93, x_94, rfl, rfl, hx_94⟩ := hw_91
        have hP : va_P G.1 classes [(b18, .inl (G.2 0, 20, .inl b21)), (b1, .inr (2, [.int b15, .int b16, .int b17, .ref b18, .ref b19, .ref b20])), (b19, .inl (G.2 0, 240, .inl b22)), (b0, .inr (10, [.int b5, .int b6, .int x_92, .int y_58, .int x_93, .int y_59, .int y_60, .int y_61, .int y_66, .int x_94]))] H := hP
        have hD := z_tie hP hD rfl
        refine W.widen (k := 0) (n := 0) (Nat.le_of_ble_eq_true rfl) (Nat.le_of_ble_eq_true rfl) ?_
        refine lv_iload hx hb d_Pair_look_43 (lv_at hl 1 rfl) ?_
        refine lv_iconst (v := 1) hx hb d_Pair_look_45 (by decide) ?_
        refine lv_iadd hx hb d_Pair_look_46 ?_
        refine lv_topi (fun v_95 ev_95 => ?_)
        obtain ⟨qv_95, hv_95⟩ := zI_add (l := 1) (h := 12) hv_73 zc_1 ev_95 (by decide)
        rw [li_1] at qv_95
        refine lv_iload hx hb d_Pair_look_47 (lv_at hl 2 rfl) ?_
        refine lv_icmp_ge (tgt := 66) hx hb d_Pair_look_49 (by decide) (fun hc_96 => ?_) (fun hc_96 => ?_)
        · have _nhc_96 := hc_96
          have ni_97 := (fa_le _ _).mp hc_96
          refine lv_aload_n hx hb d_Pair_look_66 rfl (lv_at hl 3 rfl) ?_
          refine lv_iconst (v := 0) hx hb d_Pair_look_67 (by decide) ?_
          refine va_put (D := G.1) (ci := 10) (v := .int 0) (ty := .boolean) (C := R_Pair) (T := F_Pair) (N := 10) hx hb hts i_Pair t_Pair t_Pair_ok n_Pair hown hK hP hD hS 3 rfl rfl 8 (by decide) (hts _ q373) (fun _ h9 => h9) rfl (by decide +kernel) rfl rfl (Nat.le_of_ble_eq_true rfl) d_Pair_look_68 (fun H locs hP hD hS => ?_)
          have hP : va_P G.1 classes [(b18, .inl (G.2 0, 20, .inl b21)), (b1, .inr (2, [.int b15, .int b16, .int b17, .ref b18, .ref b19, .ref b20])), (b19, .inl (G.2 0, 240, .inl b22)), (b0, .inr (10, [.int b5, .int b6, .int x_92, .int y_58, .int x_93, .int y_59, .int y_60, .int y_61, .int 0, .int x_94]))] H := hP
          have hD := z_tie hP hD rfl
          refine lv_goto (tgt := 87) hx hb d_Pair_look_71 (by decide) ?_
          obtain ⟨v_98, ev_98⟩ : ∃ z : Int32, z = y_58 + 1 := ⟨_, rfl⟩
          obtain ⟨qv_98, hv_98⟩ := zI_add (l := 1) (h := 12) hv_73 zc_1 ev_98 (by decide)
          rw [li_1] at qv_98
          refine lv_iinc (v := v_98) (lv' := [(6, .int v_98), (7, .int x_76), (5, .int v_2), (0, .ref b0), (1, .ref b1), (2, .int b2), (3, .int b3), (4, .int b4)]) hx hb d_Pair_look_87 hl (k := 1) rfl (by rw [ev_98]; rfl) (by decide) rfl (fun ls hl => ?_)
          refine lv_goto (tgt := 15) hx hb d_Pair_look_90 (by decide) ?_
          exact ihk_57 (v_98) (y_59) (y_60) (y_61) (x_94) (x_92) (y_58) (x_93) (0) _ _ _ (zI.wk (l' := 0) (h' := 12) hv_98 (by decide)) hy_60 hx_94 (zI.wk (l' := (-1)) (h' := 11) hv_73 (by decide)) (zI.wk (l' := 0) (h' := 1) zc_0 (by decide)) (zm_up qv_98 hmk_57 (by decide)) (hP.sub [1, 0, 2, 3] rfl) (hD.sub [1, 0, 2, 3] (by decide) rfl) hS (lv_sub hl [0, 2, 3, 4, 5, 6, 7] rfl)
        · have _nhc_96 := hc_96
          have ni_99 := (fa_lt _ _).mp (zi_nle hc_96)
          have hv_100 : zI v_95 1 11 := zI.lt_l hv_95 hv_74 (zi_nle hc_96) (by decide)
          have hv_101 : zI y_58 0 10 := by have _a := hv_100; have _b := qv_95; have _c := zc_1; have _d := hv_73; exact ⟨by omega, by omega⟩
          have hv_102 : zI v_2 2 12 := zI.lt_r hv_95 hv_74 (zi_nle hc_96) (by decide)
          refine lv_aload_n hx hb d_Pair_look_52 rfl (lv_at hl 4 rfl) ?_
          refine lv_iload_n hx hb d_Pair_look_53 rfl (lv_at hl 5 rfl) ?_
          refine lv_iload hx hb d_Pair_look_54 (lv_at hl 1 rfl) ?_
          refine lv_iconst (v := 1) hx hb d_Pair_look_56 (by decide) ?_
          refine lv_iadd hx hb d_Pair_look_57 ?_
          refine lv_topi (fun v_103 ev_103 => ?_)
          obtain rfl : v_95 = v_103 := ev_95.trans ev_103.symm
          refine z_callV (index := 44) (As := [.int b2, .int v_95]) (rest := []) (wr := [(b18, .inl (G.2 0, 20, .inl b21)), (b0, .inr (10, [.int b5, .int b6, .int x_92, .int y_58, .int x_93, .int y_59, .int y_60, .int y_61, .int y_66, .int x_94]))]) Z (s1_Traces_letterAt l G (b1) (b2) (v_95) (b15) (b16) (b17) (b18) (b19) (b20) (b22) hb2 (zI.wk (l' := 0) (h' := 11) hv_100 (by decide)) hb15 hb16 hb17 hb22) hl.1 q931 q580 q581 q3 q582 ⟨by decide, by decide, by show _ = some 2; decide +kernel⟩ ⟨Nat.le_of_ble_eq_true rfl, Nat.le_of_ble_eq_true rfl⟩ ⟨Nat.le_of_ble_eq_true rfl, Nat.le_of_ble_eq_true rfl⟩ rfl (Nat.le_of_ble_eq_true rfl) d_Pair_look_58 hP hD hS hA 1 2 rfl rfl rfl [1, 2] [0, 3] rfl rfl rfl rfl (by decide) (fun v w1 H locs hw_104 hP hD hS => ?_)
          obtain ⟨x_105, rfl, rfl, hx_105⟩ := hw_104
          have hP : va_P G.1 classes [(b18, .inl (G.2 0, 20, .inl b21)), (b0, .inr (10, [.int b5, .int b6, .int x_92, .int y_58, .int x_93, .int y_59, .int y_60, .int y_61, .int y_66, .int x_94])), (b1, .inr (2, [.int b15, .int b16, .int b17, .ref b18, .ref b19, .ref b20])), (b19, .inl (G.2 0, 240, .inl b22))] H := hP
          have hD := z_tie hP hD rfl
          refine W.widen (k := 0) (n := 0) (Nat.le_of_ble_eq_true rfl) (Nat.le_of_ble_eq_true rfl) ?_
          refine lv_iload hx hb d_Pair_look_61 (lv_at hl 7 rfl) ?_
          refine lv_icmp_eq (tgt := 87) hx hb d_Pair_look_63 (by decide) (fun hc_106 => ?_) (fun hc_106 => ?_)
          · have _nhc_106 := hc_106
            have ni_107 := (fa_eq _ _).mp hc_106
            have hv_108 : zI b4 0 9 := zI.eq_l (zI_all b4) hx_105 hc_106.symm
            obtain ⟨v_109, ev_109⟩ : ∃ z : Int32, z = y_58 + 1 := ⟨_, rfl⟩
            obtain ⟨qv_109, hv_109⟩ := zI_add (l := 1) (h := 11) hv_101 zc_1 ev_109 (by decide)
            rw [li_1] at qv_109
            refine lv_iinc (v := v_109) (lv' := [(6, .int v_109), (7, .int x_76), (5, .int v_2), (0, .ref b0), (1, .ref b1), (2, .int b2), (3, .int b3), (4, .int b4)]) hx hb d_Pair_look_87 hl (k := 1) rfl (by rw [ev_109]; rfl) (by decide) rfl (fun ls hl => ?_)
            refine lv_goto (tgt := 15) hx hb d_Pair_look_90 (by decide) ?_
            exact ihk_57 (v_109) (y_59) (y_60) (y_61) (x_94) (x_92) (y_58) (x_93) (y_66) _ _ _ (zI.wk (l' := 0) (h' := 12) hv_109 (by decide)) hy_60 hx_94 (zI.wk (l' := (-1)) (h' := 11) hv_101 (by decide)) hy_66 (zm_up qv_109 hmk_57 (by decide)) (hP.sub [2, 0, 3, 1] rfl) (hD.sub [2, 0, 3, 1] (by decide) rfl) hS (lv_sub hl [0, 2, 3, 4, 5, 6, 7] rfl)
          · have _nhc_106 := hc_106
            have ni_110 : ¬ (x_105 : Int32).toInt = (b4 : Int32).toInt := fun z => hc_106 ((fa_eq _ _).mpr z)
            refine lv_aload_n hx hb d_Pair_look_66 rfl (lv_at hl 3 rfl) ?_
            refine lv_iconst (v := 0) hx hb d_Pair_look_67 (by decide) ?_
            refine va_put (D := G.1) (ci := 10) (v := .int 0) (ty := .boolean) (C := R_Pair) (T := F_Pair) (N := 10) hx hb hts i_Pair t_Pair t_Pair_ok n_Pair hown hK hP hD hS 1 rfl rfl 8 (by decide) (hts _ q373) (fun _ h9 => h9) rfl (by decide +kernel) rfl rfl (Nat.le_of_ble_eq_true rfl) d_Pair_look_68 (fun H locs hP hD hS => ?_)
            have hP : va_P G.1 classes [(b18, .inl (G.2 0, 20, .inl b21)), (b0, .inr (10, [.int b5, .int b6, .int x_92, .int y_58, .int x_93, .int y_59, .int y_60, .int y_61, .int 0, .int x_94])), (b1, .inr (2, [.int b15, .int b16, .int b17, .ref b18, .ref b19, .ref b20])), (b19, .inl (G.2 0, 240, .inl b22))] H := hP
            have hD := z_tie hP hD rfl
            refine lv_goto (tgt := 87) hx hb d_Pair_look_71 (by decide) ?_
            obtain ⟨v_111, ev_111⟩ : ∃ z : Int32, z = y_58 + 1 := ⟨_, rfl⟩
            obtain ⟨qv_111, hv_111⟩ := zI_add (l := 1) (h := 11) hv_101 zc_1 ev_111 (by decide)
            rw [li_1] at qv_111
            refine lv_iinc (v := v_111) (lv' := [(6, .int v_111), (7, .int x_76), (5, .int v_2), (0, .ref b0), (1, .ref b1), (2, .int b2), (3, .int b3), (4, .int b4)]) hx hb d_Pair_look_87 hl (k := 1) rfl (by rw [ev_111]; rfl) (by decide) rfl (fun ls hl => ?_)
            refine lv_goto (tgt := 15) hx hb d_Pair_look_90 (by decide) ?_
            exact ihk_57 (v_111) (y_59) (y_60) (y_61) (x_94) (x_92) (y_58) (x_93) (0) _ _ _ (zI.wk (l' := 0) (h' := 12) hv_111 (by decide)) hy_60 hx_94 (zI.wk (l' := (-1)) (h' := 11) hv_101 (by decide)) (zI.wk (l' := 0) (h' := 1) zc_0 (by decide)) (zm_up qv_111 hmk_57 (by decide)) (hP.sub [2, 0, 3, 1] rfl) (hD.sub [2, 0, 3, 1] (by decide) rfl) hS (lv_sub hl [0, 2, 3, 4, 5, 6, 7] rfl)
theorem d_Pair_isAsked_44 : decode prog_6_method_8_code 44 = .ok (.ireturn, 1) := by decide +kernel
theorem d_Pair_isAsked_57 : decode prog_6_method_8_code 57 = .ok (.ireturn, 1) := by decide +kernel
theorem d_Pair_isAsked_77 : decode prog_6_method_8_code 77 = .ok (.ireturn, 1) := by decide +kernel
abbrev m_s2_Pair_isAsked : Room := { frames := 0, cells := 0, slots := 0, locals := 0 }
set_option maxHeartbeats 4000000 in
set_option maxRecDepth 100000 in
theorem s2_Pair_isAsked (l : Launch) (G : zG) (b0 : Nat) (b1 : Int32) (b2 : Int32) (b3 : Int32) (b4 : Int32) (b5 : Int32) (b6 : Int32) (b7 : Int32) (b8 : Int32) (b9 : Int32) (b10 : Int32) (b11 : Int32) (hb10 : zI b10 0 1) (hb11 : zI b11 0 1) : zM l G y_Pair_isAsked prog_6_method_8_code 2 (Option.some Jvm.ClassFile.FieldType.boolean) m_s2_Pair_isAsked [.ref b0, .int b1] [(b0, .inr (10, [.int b2, .int b3, .int b4, .int b5, .int b6, .int b7, .int b8, .int b9, .int b10, .int b11]))] (fun v w => ∃ (e0 : Int32), v = some (.int e0) ∧ w = [(b0, .inr (10, [.int b2, .int b3, .int b4, .int b5, .int b6, .int b7, .int b8, .int b9, .int b10, .int b11]))] ∧ (zI e0 0 1)) := by
  refine z_start (by decide +kernel) (Nat.le_of_ble_eq_true rfl) ?_
  intro p e s m below meth c A Z hr hnm hA hP hD hS ls hl
  have Z : zC p s m _ meth c prog_6_method_8_code 2 "TraceMachines$Pair" G := Z
  obtain ⟨hx, hb, hml, hown, hts, hK, hN, hlocks⟩ := id Z
  have hl : lv_has ls 2 [(0, .ref b0), (1, .int b1)] := hl
  refine lv_iload_n hx hb d_Pair_isAsked_0 rfl (lv_at hl 1 rfl) ?_
  by_cases hs_1 : b1 = 0
  · subst hs_1
    refine lv_tableIn (off := 31) (tgt := 32) hx hb d_Pair_isAsked_1 (by decide +kernel) (by decide +kernel) rfl (by decide) ?_
    refine lv_aload_n hx hb d_Pair_isAsked_32 rfl (lv_at hl 0 rfl) ?_
    refine va_get (D := G.1) (ci := 10) (v := .int b6) (C := R_Pair) (T := F_Pair) (N := 10) hx hb hts i_Pair hown hK hP 0 rfl rfl 4 (by decide) (hts _ q369) (fun _ h9 => h9) rfl d_Pair_isAsked_33 ?_
    refine lv_if_le (tgt := 43) hx hb d_Pair_isAsked_36 (by decide) (fun hc_2 => ?_) (fun hc_2 => ?_)
    · have _nhc_2 := hc_2
      have ni_3 := (fa_le _ _).mp hc_2
      rw [li_0] at ni_3
      have hv_4 : zI b6 (-2147483648) 0 := zI.le_l (zI_all b6) zc_0 hc_2 (by decide)
      refine lv_iconst (v := 0) hx hb d_Pair_isAsked_43 (by decide) ?_
      exact z_zret hx hb hr hlocks rfl hP hD hS (Nat.le_of_ble_eq_true rfl) (Nat.le_of_ble_eq_true rfl) d_Pair_isAsked_44 ⟨0, rfl, rfl, (zI.wk (l' := 0) (h' := 1) zc_0 (by decide))⟩
    · have _nhc_2 := hc_2
      have ni_5 := (fa_lt _ _).mp (zi_nle hc_2)
      rw [li_0] at ni_5
      have hv_6 : zI b6 1 2147483647 := zI.lt_r zc_0 (zI_all b6) (zi_nle hc_2) (by decide)
      refine lv_iconst (v := 1) hx hb d_Pair_isAsked_39 (by decide) ?_
      refine lv_goto (tgt := 44) hx hb d_Pair_isAsked_40 (by decide) ?_
      exact z_zret hx hb hr hlocks rfl hP hD hS (Nat.le_of_ble_eq_true rfl) (Nat.le_of_ble_eq_true rfl) d_Pair_isAsked_44 ⟨1, rfl, rfl, (zI.wk (l' := 0) (h' := 1) zc_1 (by decide))⟩
  simp only [fa_lt, fa_le, fa_eq, Int32.toInt_toInt64, li_0] at hs_1
  by_cases hs_7 : b1 = 1
  · subst hs_7
    refine lv_tableIn (off := 44) (tgt := 45) hx hb d_Pair_isAsked_1 (by decide +kernel) (by decide +kernel) rfl (by decide) ?_
    refine lv_aload_n hx hb d_Pair_isAsked_45 rfl (lv_at hl 0 rfl) ?_
    refine va_get (D := G.1) (ci := 10) (v := .int b9) (C := R_Pair) (T := F_Pair) (N := 10) hx hb hts i_Pair hown hK hP 0 rfl rfl 7 (by decide) (hts _ q372) (fun _ h9 => h9) rfl d_Pair_isAsked_46 ?_
    refine lv_if_le (tgt := 56) hx hb d_Pair_isAsked_49 (by decide) (fun hc_8 => ?_) (fun hc_8 => ?_)
    · have _nhc_8 := hc_8
      have ni_9 := (fa_le _ _).mp hc_8
      rw [li_0] at ni_9
      have hv_10 : zI b9 (-2147483648) 0 := zI.le_l (zI_all b9) zc_0 hc_8 (by decide)
      refine lv_iconst (v := 0) hx hb d_Pair_isAsked_56 (by decide) ?_
      exact z_zret hx hb hr hlocks rfl hP hD hS (Nat.le_of_ble_eq_true rfl) (Nat.le_of_ble_eq_true rfl) d_Pair_isAsked_57 ⟨0, rfl, rfl, (zI.wk (l' := 0) (h' := 1) zc_0 (by decide))⟩
    · have _nhc_8 := hc_8
      have ni_11 := (fa_lt _ _).mp (zi_nle hc_8)
      rw [li_0] at ni_11
      have hv_12 : zI b9 1 2147483647 := zI.lt_r zc_0 (zI_all b9) (zi_nle hc_8) (by decide)
      refine lv_iconst (v := 1) hx hb d_Pair_isAsked_52 (by decide) ?_
      refine lv_goto (tgt := 57) hx hb d_Pair_isAsked_53 (by decide) ?_
      exact z_zret hx hb hr hlocks rfl hP hD hS (Nat.le_of_ble_eq_true rfl) (Nat.le_of_ble_eq_true rfl) d_Pair_isAsked_57 ⟨1, rfl, rfl, (zI.wk (l' := 0) (h' := 1) zc_1 (by decide))⟩
  simp only [fa_lt, fa_le, fa_eq, Int32.toInt_toInt64, li_1] at hs_7
  by_cases hs_13 : b1 = 2
  · subst hs_13
    refine lv_tableIn (off := 31) (tgt := 32) hx hb d_Pair_isAsked_1 (by decide +kernel) (by decide +kernel) rfl (by decide) ?_
    refine lv_aload_n hx hb d_Pair_isAsked_32 rfl (lv_at hl 0 rfl) ?_
    refine va_get (D := G.1) (ci := 10) (v := .int b6) (C := R_Pair) (T := F_Pair) (N := 10) hx hb hts i_Pair hown hK hP 0 rfl rfl 4 (by decide) (hts _ q369) (fun _ h9 => h9) rfl d_Pair_isAsked_33 ?_
    refine lv_if_le (tgt := 43) hx hb d_Pair_isAsked_36 (by decide) (fun hc_14 => ?_) (fun hc_14 => ?_)
    · have _nhc_14 := hc_14
      have ni_15 := (fa_le _ _).mp hc_14
      rw [li_0] at ni_15
      have hv_16 : zI b6 (-2147483648) 0 := zI.le_l (zI_all b6) zc_0 hc_14 (by decide)
      refine lv_iconst (v := 0) hx hb d_Pair_isAsked_43 (by decide) ?_
      exact z_zret hx hb hr hlocks rfl hP hD hS (Nat.le_of_ble_eq_true rfl) (Nat.le_of_ble_eq_true rfl) d_Pair_isAsked_44 ⟨0, rfl, rfl, (zI.wk (l' := 0) (h' := 1) zc_0 (by decide))⟩
    · have _nhc_14 := hc_14
      have ni_17 := (fa_lt _ _).mp (zi_nle hc_14)
      rw [li_0] at ni_17
      have hv_18 : zI b6 1 2147483647 := zI.lt_r zc_0 (zI_all b6) (zi_nle hc_14) (by decide)
      refine lv_iconst (v := 1) hx hb d_Pair_isAsked_39 (by decide) ?_
      refine lv_goto (tgt := 44) hx hb d_Pair_isAsked_40 (by decide) ?_
      exact z_zret hx hb hr hlocks rfl hP hD hS (Nat.le_of_ble_eq_true rfl) (Nat.le_of_ble_eq_true rfl) d_Pair_isAsked_44 ⟨1, rfl, rfl, (zI.wk (l' := 0) (h' := 1) zc_1 (by decide))⟩
  simp only [fa_lt, fa_le, fa_eq, Int32.toInt_toInt64, li_2] at hs_13
  by_cases hs_19 : b1 = 3
  · subst hs_19
    refine lv_tableIn (off := 31) (tgt := 32) hx hb d_Pair_isAsked_1 (by decide +kernel) (by decide +kernel) rfl (by decide) ?_
    refine lv_aload_n hx hb d_Pair_isAsked_32 rfl (lv_at hl 0 rfl) ?_
    refine va_get (D := G.1) (ci := 10) (v := .int b6) (C := R_Pair) (T := F_Pair) (N := 10) hx hb hts i_Pair hown hK hP 0 rfl rfl 4 (by decide) (hts _ q369) (fun _ h9 => h9) rfl d_Pair_isAsked_33 ?_
    refine lv_if_le (tgt := 43) hx hb d_Pair_isAsked_36 (by decide) (fun hc_20 => ?_) (fun hc_20 => ?_)
    · have _nhc_20 := hc_20
      have ni_21 := (fa_le _ _).mp hc_20
      rw [li_0] at ni_21
      have hv_22 : zI b6 (-2147483648) 0 := zI.le_l (zI_all b6) zc_0 hc_20 (by decide)
      refine lv_iconst (v := 0) hx hb d_Pair_isAsked_43 (by decide) ?_
      exact z_zret hx hb hr hlocks rfl hP hD hS (Nat.le_of_ble_eq_true rfl) (Nat.le_of_ble_eq_true rfl) d_Pair_isAsked_44 ⟨0, rfl, rfl, (zI.wk (l' := 0) (h' := 1) zc_0 (by decide))⟩
    · have _nhc_20 := hc_20
      have ni_23 := (fa_lt _ _).mp (zi_nle hc_20)
      rw [li_0] at ni_23
      have hv_24 : zI b6 1 2147483647 := zI.lt_r zc_0 (zI_all b6) (zi_nle hc_20) (by decide)
      refine lv_iconst (v := 1) hx hb d_Pair_isAsked_39 (by decide) ?_
      refine lv_goto (tgt := 44) hx hb d_Pair_isAsked_40 (by decide) ?_
      exact z_zret hx hb hr hlocks rfl hP hD hS (Nat.le_of_ble_eq_true rfl) (Nat.le_of_ble_eq_true rfl) d_Pair_isAsked_44 ⟨1, rfl, rfl, (zI.wk (l' := 0) (h' := 1) zc_1 (by decide))⟩
  simp only [fa_lt, fa_le, fa_eq, Int32.toInt_toInt64, li_3] at hs_19
  refine lv_tableOut (tgt := 58) hx hb d_Pair_isAsked_1 (by omega) (by decide) ?_
  refine lv_aload_n hx hb d_Pair_isAsked_58 rfl (lv_at hl 0 rfl) ?_
  refine va_get (D := G.1) (ci := 10) (v := .int b6) (C := R_Pair) (T := F_Pair) (N := 10) hx hb hts i_Pair hown hK hP 0 rfl rfl 4 (by decide) (hts _ q369) (fun _ h9 => h9) rfl d_Pair_isAsked_59 ?_
  refine lv_if_gt (tgt := 72) hx hb d_Pair_isAsked_62 (by decide) (fun hc_25 => ?_) (fun hc_25 => ?_)
  · have _nhc_25 := hc_25
    have ni_26 := (fa_lt _ _).mp hc_25
    rw [li_0] at ni_26
    have hv_27 : zI b6 1 2147483647 := zI.lt_r zc_0 (zI_all b6) hc_25 (by decide)
    refine lv_iconst (v := 1) hx hb d_Pair_isAsked_72 (by decide) ?_
    refine lv_goto (tgt := 77) hx hb d_Pair_isAsked_73 (by decide) ?_
    exact z_zret hx hb hr hlocks rfl hP hD hS (Nat.le_of_ble_eq_true rfl) (Nat.le_of_ble_eq_true rfl) d_Pair_isAsked_77 ⟨1, rfl, rfl, (zI.wk (l' := 0) (h' := 1) zc_1 (by decide))⟩
  · have _nhc_25 := hc_25
    have ni_28 := (fa_le _ _).mp (zi_nlt hc_25)
    rw [li_0] at ni_28
    have hv_29 : zI b6 (-2147483648) 0 := zI.le_l (zI_all b6) zc_0 (zi_nlt hc_25) (by decide)
    refine lv_aload_n hx hb d_Pair_isAsked_65 rfl (lv_at hl 0 rfl) ?_
    refine va_get (D := G.1) (ci := 10) (v := .int b9) (C := R_Pair) (T := F_Pair) (N := 10) hx hb hts i_Pair hown hK hP 0 rfl rfl 7 (by decide) (hts _ q372) (fun _ h9 => h9) rfl d_Pair_isAsked_66 ?_
    refine lv_if_le (tgt := 76) hx hb d_Pair_isAsked_69 (by decide) (fun hc_30 => ?_) (fun hc_30 => ?_)
    · have _nhc_30 := hc_30
      have ni_31 := (fa_le _ _).mp hc_30
      rw [li_0] at ni_31
      have hv_32 : zI b9 (-2147483648) 0 := zI.le_l (zI_all b9) zc_0 hc_30 (by decide)
      refine lv_iconst (v := 0) hx hb d_Pair_isAsked_76 (by decide) ?_
      exact z_zret hx hb hr hlocks rfl hP hD hS (Nat.le_of_ble_eq_true rfl) (Nat.le_of_ble_eq_true rfl) d_Pair_isAsked_77 ⟨0, rfl, rfl, (zI.wk (l' := 0) (h' := 1) zc_0 (by decide))⟩
    · have _nhc_30 := hc_30
      have ni_33 := (fa_lt _ _).mp (zi_nle hc_30)
      rw [li_0] at ni_33
      have hv_34 : zI b9 1 2147483647 := zI.lt_r zc_0 (zI_all b9) (zi_nle hc_30) (by decide)
      refine lv_iconst (v := 1) hx hb d_Pair_isAsked_72 (by decide) ?_
      refine lv_goto (tgt := 77) hx hb d_Pair_isAsked_73 (by decide) ?_
      exact z_zret hx hb hr hlocks rfl hP hD hS (Nat.le_of_ble_eq_true rfl) (Nat.le_of_ble_eq_true rfl) d_Pair_isAsked_77 ⟨1, rfl, rfl, (zI.wk (l' := 0) (h' := 1) zc_1 (by decide))⟩
theorem d_Pair_isSo_52 : decode prog_6_method_9_code 52 = .ok (.ireturn, 1) := by decide +kernel
theorem d_Pair_isSo_76 : decode prog_6_method_9_code 76 = .ok (.ireturn, 1) := by decide +kernel
theorem d_Pair_isSo_93 : decode prog_6_method_9_code 93 = .ok (.ireturn, 1) := by decide +kernel
theorem d_Pair_isSo_98 : decode prog_6_method_9_code 98 = .ok (.ireturn, 1) := by decide +kernel
theorem d_Pair_isSo_115 : decode prog_6_method_9_code 115 = .ok (.ireturn, 1) := by decide +kernel
theorem d_Pair_isSo_120 : decode prog_6_method_9_code 120 = .ok (.ireturn, 1) := by decide +kernel
abbrev m_s2_Pair_isSo : Room := { frames := 0, cells := 0, slots := 0, locals := 0 }
set_option maxHeartbeats 4000000 in
set_option maxRecDepth 100000 in
theorem s2_Pair_isSo (l : Launch) (G : zG) (b0 : Nat) (b1 : Int32) (b2 : Int32) (b3 : Int32) (b4 : Int32) (b5 : Int32) (b6 : Int32) (b7 : Int32) (b8 : Int32) (b9 : Int32) (b10 : Int32) (b11 : Int32) (hb10 : zI b10 0 1) (hb11 : zI b11 0 1) : zM l G y_Pair_isSo prog_6_method_9_code 2 (Option.some Jvm.ClassFile.FieldType.boolean) m_s2_Pair_isSo [.ref b0, .int b1] [(b0, .inr (10, [.int b2, .int b3, .int b4, .int b5, .int b6, .int b7, .int b8, .int b9, .int b10, .int b11]))] (fun v w => ∃ (e0 : Int32), v = some (.int e0) ∧ w = [(b0, .inr (10, [.int b2, .int b3, .int b4, .int b5, .int b6, .int b7, .int b8, .int b9, .int b10, .int b11]))] ∧ (zI e0 0 1)) := by
  refine z_start (by decide +kernel) (Nat.le_of_ble_eq_true rfl) ?_
  intro p e s m below meth c A Z hr hnm hA hP hD hS ls hl
  have Z : zC p s m _ meth c prog_6_method_9_code 2 "TraceMachines$Pair" G := Z
  obtain ⟨hx, hb, hml, hown, hts, hK, hN, hlocks⟩ := id Z
  have hl : lv_has ls 2 [(0, .ref b0), (1, .int b1)] := hl
  refine lv_iload_n hx hb d_Pair_isSo_0 rfl (lv_at hl 1 rfl) ?_
  by_cases hs_1 : b1 = 0
  · subst hs_1
    refine lv_tableIn (off := 35) (tgt := 36) hx hb d_Pair_isSo_1 (by decide +kernel) (by decide +kernel) rfl (by decide) ?_
    refine lv_aload_n hx hb d_Pair_isSo_36 rfl (lv_at hl 0 rfl) ?_
    refine va_get (D := G.1) (ci := 10) (v := .int b8) (C := R_Pair) (T := F_Pair) (N := 10) hx hb hts i_Pair hown hK hP 0 rfl rfl 6 (by decide) (hts _ q371) (fun _ h9 => h9) rfl d_Pair_isSo_37 ?_
    refine lv_aload_n hx hb d_Pair_isSo_40 rfl (lv_at hl 0 rfl) ?_
    refine va_get (D := G.1) (ci := 10) (v := .int b5) (C := R_Pair) (T := F_Pair) (N := 10) hx hb hts i_Pair hown hK hP 0 rfl rfl 3 (by decide) (hts _ q368) (fun _ h9 => h9) rfl d_Pair_isSo_41 ?_
    refine lv_icmp_le (tgt := 51) hx hb d_Pair_isSo_44 (by decide) (fun hc_2 => ?_) (fun hc_2 => ?_)
    · have _nhc_2 := hc_2
      have ni_3 := (fa_le _ _).mp hc_2
      refine lv_iconst (v := 0) hx hb d_Pair_isSo_51 (by decide) ?_
      exact z_zret hx hb hr hlocks rfl hP hD hS (Nat.le_of_ble_eq_true rfl) (Nat.le_of_ble_eq_true rfl) d_Pair_isSo_52 ⟨0, rfl, rfl, (zI.wk (l' := 0) (h' := 1) zc_0 (by decide))⟩
    · have _nhc_2 := hc_2
      have ni_4 := (fa_lt _ _).mp (zi_nle hc_2)
      have hv_5 : zI b5 (-2147483648) 2147483646 := zI.lt_l (zI_all b5) (zI_all b8) (zi_nle hc_2) (by decide)
      have hv_6 : zI b8 (-2147483647) 2147483647 := zI.lt_r (zI_all b5) (zI_all b8) (zi_nle hc_2) (by decide)
      refine lv_iconst (v := 1) hx hb d_Pair_isSo_47 (by decide) ?_
      refine lv_goto (tgt := 52) hx hb d_Pair_isSo_48 (by decide) ?_
      exact z_zret hx hb hr hlocks rfl hP hD hS (Nat.le_of_ble_eq_true rfl) (Nat.le_of_ble_eq_true rfl) d_Pair_isSo_52 ⟨1, rfl, rfl, (zI.wk (l' := 0) (h' := 1) zc_1 (by decide))⟩
  simp only [fa_lt, fa_le, fa_eq, Int32.toInt_toInt64, li_0] at hs_1
  by_cases hs_7 : b1 = 1
  · subst hs_7
    refine lv_tableIn (off := 52) (tgt := 53) hx hb d_Pair_isSo_1 (by decide +kernel) (by decide +kernel) rfl (by decide) ?_
    refine lv_aload_n hx hb d_Pair_isSo_53 rfl (lv_at hl 0 rfl) ?_
    refine va_get (D := G.1) (ci := 10) (v := .int b6) (C := R_Pair) (T := F_Pair) (N := 10) hx hb hts i_Pair hown hK hP 0 rfl rfl 4 (by decide) (hts _ q369) (fun _ h9 => h9) rfl d_Pair_isSo_54 ?_
    refine lv_if_le (tgt := 75) hx hb d_Pair_isSo_57 (by decide) (fun hc_8 => ?_) (fun hc_8 => ?_)
    · have _nhc_8 := hc_8
      have ni_9 := (fa_le _ _).mp hc_8
      rw [li_0] at ni_9
      have hv_10 : zI b6 (-2147483648) 0 := zI.le_l (zI_all b6) zc_0 hc_8 (by decide)
      refine lv_iconst (v := 0) hx hb d_Pair_isSo_75 (by decide) ?_
      exact z_zret hx hb hr hlocks rfl hP hD hS (Nat.le_of_ble_eq_true rfl) (Nat.le_of_ble_eq_true rfl) d_Pair_isSo_76 ⟨0, rfl, rfl, (zI.wk (l' := 0) (h' := 1) zc_0 (by decide))⟩
    · have _nhc_8 := hc_8
      have ni_11 := (fa_lt _ _).mp (zi_nle hc_8)
      rw [li_0] at ni_11
      have hv_12 : zI b6 1 2147483647 := zI.lt_r zc_0 (zI_all b6) (zi_nle hc_8) (by decide)
      refine lv_aload_n hx hb d_Pair_isSo_60 rfl (lv_at hl 0 rfl) ?_
      refine va_get (D := G.1) (ci := 10) (v := .int b4) (C := R_Pair) (T := F_Pair) (N := 10) hx hb hts i_Pair hown hK hP 0 rfl rfl 2 (by decide) (hts _ q367) (fun _ h9 => h9) rfl d_Pair_isSo_61 ?_
      refine lv_aload_n hx hb d_Pair_isSo_64 rfl (lv_at hl 0 rfl) ?_
      refine va_get (D := G.1) (ci := 10) (v := .int b7) (C := R_Pair) (T := F_Pair) (N := 10) hx hb hts i_Pair hown hK hP 0 rfl rfl 5 (by decide) (hts _ q370) (fun _ h9 => h9) rfl d_Pair_isSo_65 ?_
      refine lv_icmp_ge (tgt := 75) hx hb d_Pair_isSo_68 (by decide) (fun hc_13 => ?_) (fun hc_13 => ?_)
      · have _nhc_13 := hc_13
        have ni_14 := (fa_le _ _).mp hc_13
        refine lv_iconst (v := 0) hx hb d_Pair_isSo_75 (by decide) ?_
        exact z_zret hx hb hr hlocks rfl hP hD hS (Nat.le_of_ble_eq_true rfl) (Nat.le_of_ble_eq_true rfl) d_Pair_isSo_76 ⟨0, rfl, rfl, (zI.wk (l' := 0) (h' := 1) zc_0 (by decide))⟩
      · have _nhc_13 := hc_13
        have ni_15 := (fa_lt _ _).mp (zi_nle hc_13)
        have hv_16 : zI b4 (-2147483648) 2147483646 := zI.lt_l (zI_all b4) (zI_all b7) (zi_nle hc_13) (by decide)
        have hv_17 : zI b7 (-2147483647) 2147483647 := zI.lt_r (zI_all b4) (zI_all b7) (zi_nle hc_13) (by decide)
        refine lv_iconst (v := 1) hx hb d_Pair_isSo_71 (by decide) ?_
        refine lv_goto (tgt := 76) hx hb d_Pair_isSo_72 (by decide) ?_
        exact z_zret hx hb hr hlocks rfl hP hD hS (Nat.le_of_ble_eq_true rfl) (Nat.le_of_ble_eq_true rfl) d_Pair_isSo_76 ⟨1, rfl, rfl, (zI.wk (l' := 0) (h' := 1) zc_1 (by decide))⟩
  simp only [fa_lt, fa_le, fa_eq, Int32.toInt_toInt64, li_1] at hs_7
  by_cases hs_18 : b1 = 2
  · subst hs_18
    refine lv_tableIn (off := 76) (tgt := 77) hx hb d_Pair_isSo_1 (by decide +kernel) (by decide +kernel) rfl (by decide) ?_
    refine lv_aload_n hx hb d_Pair_isSo_77 rfl (lv_at hl 0 rfl) ?_
    refine va_get (D := G.1) (ci := 10) (v := .int b8) (C := R_Pair) (T := F_Pair) (N := 10) hx hb hts i_Pair hown hK hP 0 rfl rfl 6 (by decide) (hts _ q371) (fun _ h9 => h9) rfl d_Pair_isSo_78 ?_
    refine lv_aload_n hx hb d_Pair_isSo_81 rfl (lv_at hl 0 rfl) ?_
    refine va_get (D := G.1) (ci := 10) (v := .int b4) (C := R_Pair) (T := F_Pair) (N := 10) hx hb hts i_Pair hown hK hP 0 rfl rfl 2 (by decide) (hts _ q367) (fun _ h9 => h9) rfl d_Pair_isSo_82 ?_
    refine lv_icmp_ge (tgt := 92) hx hb d_Pair_isSo_85 (by decide) (fun hc_19 => ?_) (fun hc_19 => ?_)
    · have _nhc_19 := hc_19
      have ni_20 := (fa_le _ _).mp hc_19
      refine lv_iconst (v := 0) hx hb d_Pair_isSo_92 (by decide) ?_
      exact z_zret hx hb hr hlocks rfl hP hD hS (Nat.le_of_ble_eq_true rfl) (Nat.le_of_ble_eq_true rfl) d_Pair_isSo_93 ⟨0, rfl, rfl, (zI.wk (l' := 0) (h' := 1) zc_0 (by decide))⟩
    · have _nhc_19 := hc_19
      have ni_21 := (fa_lt _ _).mp (zi_nle hc_19)
      have hv_22 : zI b8 (-2147483648) 2147483646 := zI.lt_l (zI_all b8) (zI_all b4) (zi_nle hc_19) (by decide)
      have hv_23 : zI b4 (-2147483647) 2147483647 := zI.lt_r (zI_all b8) (zI_all b4) (zi_nle hc_19) (by decide)
      refine lv_iconst (v := 1) hx hb d_Pair_isSo_88 (by decide) ?_
      refine lv_goto (tgt := 93) hx hb d_Pair_isSo_89 (by decide) ?_
      exact z_zret hx hb hr hlocks rfl hP hD hS (Nat.le_of_ble_eq_true rfl) (Nat.le_of_ble_eq_true rfl) d_Pair_isSo_93 ⟨1, rfl, rfl, (zI.wk (l' := 0) (h' := 1) zc_1 (by decide))⟩
  simp only [fa_lt, fa_le, fa_eq, Int32.toInt_toInt64, li_2] at hs_18
  by_cases hs_24 : b1 = 3
  · subst hs_24
    refine lv_tableIn (off := 93) (tgt := 94) hx hb d_Pair_isSo_1 (by decide +kernel) (by decide +kernel) rfl (by decide) ?_
    refine lv_aload_n hx hb d_Pair_isSo_94 rfl (lv_at hl 0 rfl) ?_
    refine va_get (D := G.1) (ci := 10) (v := .int b10) (C := R_Pair) (T := F_Pair) (N := 10) hx hb hts i_Pair hown hK hP 0 rfl rfl 8 (by decide) (hts _ q373) (fun _ h9 => h9) rfl d_Pair_isSo_95 ?_
    exact z_zret hx hb hr hlocks (zi_nb hb10) hP hD hS (Nat.le_of_ble_eq_true rfl) (Nat.le_of_ble_eq_true rfl) d_Pair_isSo_98 ⟨b10, rfl, rfl, hb10⟩
  simp only [fa_lt, fa_le, fa_eq, Int32.toInt_toInt64, li_3] at hs_24
  by_cases hs_25 : b1 = 4
  · subst hs_25
    refine lv_tableIn (off := 98) (tgt := 99) hx hb d_Pair_isSo_1 (by decide +kernel) (by decide +kernel) rfl (by decide) ?_
    refine lv_aload_n hx hb d_Pair_isSo_99 rfl (lv_at hl 0 rfl) ?_
    refine va_get (D := G.1) (ci := 10) (v := .int b6) (C := R_Pair) (T := F_Pair) (N := 10) hx hb hts i_Pair hown hK hP 0 rfl rfl 4 (by decide) (hts _ q369) (fun _ h9 => h9) rfl d_Pair_isSo_100 ?_
    refine lv_aload_n hx hb d_Pair_isSo_103 rfl (lv_at hl 0 rfl) ?_
    refine va_get (D := G.1) (ci := 10) (v := .int b9) (C := R_Pair) (T := F_Pair) (N := 10) hx hb hts i_Pair hown hK hP 0 rfl rfl 7 (by decide) (hts _ q372) (fun _ h9 => h9) rfl d_Pair_isSo_104 ?_
    refine lv_icmp_ne (tgt := 114) hx hb d_Pair_isSo_107 (by decide) (fun hc_26 => ?_) (fun hc_26 => ?_)
    · have _nhc_26 := hc_26
      have ni_27 : ¬ (b6 : Int32).toInt = (b9 : Int32).toInt := fun z => hc_26 ((fa_eq _ _).mpr z)
      refine lv_iconst (v := 0) hx hb d_Pair_isSo_114 (by decide) ?_
      exact z_zret hx hb hr hlocks rfl hP hD hS (Nat.le_of_ble_eq_true rfl) (Nat.le_of_ble_eq_true rfl) d_Pair_isSo_115 ⟨0, rfl, rfl, (zI.wk (l' := 0) (h' := 1) zc_0 (by decide))⟩
    · have _nhc_26 := hc_26
      have ni_28 := (fa_eq _ _).mp hc_26
      refine lv_iconst (v := 1) hx hb d_Pair_isSo_110 (by decide) ?_
      refine lv_goto (tgt := 115) hx hb d_Pair_isSo_111 (by decide) ?_
      exact z_zret hx hb hr hlocks rfl hP hD hS (Nat.le_of_ble_eq_true rfl) (Nat.le_of_ble_eq_true rfl) d_Pair_isSo_115 ⟨1, rfl, rfl, (zI.wk (l' := 0) (h' := 1) zc_1 (by decide))⟩
  simp only [fa_lt, fa_le, fa_eq, Int32.toInt_toInt64, li_4] at hs_25
  refine lv_tableOut (tgt := 116) hx hb d_Pair_isSo_1 (by omega) (by decide) ?_
  refine lv_aload_n hx hb d_Pair_isSo_116 rfl (lv_at hl 0 rfl) ?_
  refine va_get (D := G.1) (ci := 10) (v := .int b11) (C := R_Pair) (T := F_Pair) (N := 10) hx hb hts i_Pair hown hK hP 0 rfl rfl 9 (by decide) (hts _ q374) (fun _ h9 => h9) rfl d_Pair_isSo_117 ?_
  exact z_zret hx hb hr hlocks (zi_nb hb11) hP hD hS (Nat.le_of_ble_eq_true rfl) (Nat.le_of_ble_eq_true rfl) d_Pair_isSo_120 ⟨b11, rfl, rfl, hb11⟩
abbrev m_s1_Pair_tally : Room := { frames := 2, cells := 0, slots := 0, locals := 49 }
set_option maxHeartbeats 4000000 in
set_option maxRecDepth 100000 in
theorem s1_Pair_tally (l : Launch) (G : zG) (b0 : Nat) (b1 : Nat) (b2 : Int32) (b3 : Int32) (b4 : Int32) (b5 : Int32) (b6 : Int32) (b7 : Int32) (b8 : Int32) (b9 : Int32) (b10 : Int32) (b11 : Int32) (b12 : Int32) (b13 : Int32) (b14 : Int32) (b15 : Int32) (b16 : Int32) (b17 : Int32) (b18 : Nat) (b19 : Nat) (b20 : Nat) (b21 : Nat → Int32) (b22 : Nat → Int32) (hb13 : zI b13 0 1) (hb14 : zI b14 0 1) (hb15 : zI b15 0 20) (hb16 : zI b16 0 3) (hb17 : zI b17 0 20) (hb21 : zR b21 0 12) (hb22 : zR b22 0 9) : zM l G y_Pair_tally prog_6_method_3_code 6 (Option.none : Option Jvm.ClassFile.FieldType) m_s1_Pair_tally [.ref b0, .ref b1, .int b2, .int b3, .int b4] [(b0, .inr (10, [.int b5, .int b6, .int b7, .int b8, .int b9, .int b10, .int b11, .int b12, .int b13, .int b14])), (b1, .inr (2, [.int b15, .int b16, .int b17, .ref b18, .ref b19, .ref b20])), (b18, .inl (G.2 0, 20, .inl b21)), (b19, .inl (G.2 0, 240, .inl b22))] (fun v w => ∃ (e0 : Int32), ∃ (e1 : Int32), ∃ (e2 : Int32), ∃ (e3 : Int32), ∃ (e4 : Int32), ∃ (e5 : Int32), ∃ (e6 : Int32), ∃ (e7 : Int32), ∃ (e8 : Int32), ∃ (e9 : Int32), v = none ∧ w = [(b0, .inr (10, [.int e0, .int e1, .int e2, .int e3, .int e4, .int e5, .int e6, .int e7, .int e8, .int e9])), (b1, .inr (2, [.int b15, .int b16, .int b17, .ref b18, .ref b19, .ref b20])), (b18, .inl (G.2 0, 20, .inl b21)), (b19, .inl (G.2 0, 240, .inl b22))] ∧ (zI e8 0 1) ∧ (zI e9 0 1)) := by
  refine z_start (by decide +kernel) (Nat.le_of_ble_eq_true rfl) ?_
  intro p e s m below meth c A Z hr hnm hA hP hD hS ls hl
  have Z : zC p s m _ meth c prog_6_method_3_code 6 "TraceMachines$Pair" G := Z
  obtain ⟨hx, hb, hml, hown, hts, hK, hN, hlocks⟩ := id Z
  have hl : lv_has ls 6 [(0, .ref b0), (1, .ref b1), (2, .int b2), (3, .int b3), (4, .int b4)] := hl
  refine lv_aload_n hx hb d_Pair_tally_0 rfl (lv_at hl 0 rfl) ?_
  refine lv_iconst (v := 0) hx hb d_Pair_tally_1 (by decide) ?_
  refine va_put (D := G.1) (ci := 10) (v := .int 0) (ty := .int) (C := R_Pair) (T := F_Pair) (N := 10) hx hb hts i_Pair t_Pair t_Pair_ok n_Pair hown hK hP hD hS 0 rfl rfl 0 (by decide) (hts _ q363) (fun _ h9 => h9) rfl (by decide +kernel) rfl rfl (Nat.le_of_ble_eq_true rfl) d_Pair_tally_2 (fun H locs hP hD hS => ?_)
  have hP : va_P G.1 classes [(b0, .inr (10, [.int 0, .int b6, .int b7, .int b8, .int b9, .int b10, .int b11, .int b12, .int b13, .int b14])), (b1, .inr (2, [.int b15, .int b16, .int b17, .ref b18, .ref b19, .ref b20])), (b18, .inl (G.2 0, 20, .inl b21)), (b19, .inl (G.2 0, 240, .inl b22))] H := hP
  have hD := z_tie hP hD rfl
  refine lv_aload_n hx hb d_Pair_tally_5 rfl (lv_at hl 0 rfl) ?_
  refine lv_iconst (v := 0) hx hb d_Pair_tally_6 (by decide) ?_
  refine va_put (D := G.1) (ci := 10) (v := .int 0) (ty := .int) (C := R_Pair) (T := F_Pair) (N := 10) hx hb hts i_Pair t_Pair t_Pair_ok n_Pair hown hK hP hD hS 0 rfl rfl 1 (by decide) (hts _ q365) (fun _ h9 => h9) rfl (by decide +kernel) rfl rfl (Nat.le_of_ble_eq_true rfl) d_Pair_tally_7 (fun H locs hP hD hS => ?_)
  have hP : va_P G.1 classes [(b0, .inr (10, [.int 0, .int 0, .int b7, .int b8, .int b9, .int b10, .int b11, .int b12, .int b13, .int b14])), (b1, .inr (2, [.int b15, .int b16, .int b17, .ref b18, .ref b19, .ref b20])), (b18, .inl (G.2 0, 20, .inl b21)), (b19, .inl (G.2 0, 240, .inl b22))] H := hP
  have hD := z_tie hP hD rfl
  refine lv_iconst (v := 0) hx hb d_Pair_tally_10 (by decide) ?_
  refine lv_istore (lv' := [(5, .int 0), (0, .ref b0), (1, .ref b1), (2, .int b2), (3, .int b3), (4, .int b4)]) hx hb d_Pair_tally_11 hl (by decide) rfl (fun ls hl => ?_)
  suffices key : ∀ (k_45 : Nat) (y_46 : Int32) (y_47 : Int32) (y_48 : Int32) (y_49 : Int32) (y_50 : Int32) (y_51 : Int32) (y_52 : Int32) (y_53 : Int32) (y_54 : Int32) (y_55 : Int32) (y_56 : Int32) (H : Heap) (locs : List Loc) (ls : Array Slot), (zI y_46 0 20) → (zI y_53 0 1) → (zI y_54 0 1) → (20 : Int) - y_46.toInt < (k_45 : Int) → va_P G.1 classes [(b0, .inr (10, [.int y_55, .int y_56, .int y_47, .int y_48, .int y_49, .int y_50, .int y_51, .int y_52, .int y_53, .int y_54])), (b1, .inr (2, [.int b15, .int b16, .int b17, .ref b18, .ref b19, .ref b20])), (b18, .inl (G.2 0, 20, .inl b21)), (b19, .inl (G.2 0, 240, .inl b22))] H → va_D A [(b0, .inr (10, [.int y_55, .int y_56, .int y_47, .int y_48, .int y_49, .int y_50, .int y_51, .int y_52, .int y_53, .int y_54])), (b1, .inr (2, [.int b15, .int b16, .int b17, .ref b18, .ref b19, .ref b20])), (b18, .inl (G.2 0, 20, .inl b21)), (b19, .inl (G.2 0, 240, .inl b22))] → va_S A s.heap H locs → lv_has ls 6 [(5, .int y_46), (0, .ref b0), (1, .ref b1), (2, .int b2), (3, .int b3), (4, .int b4)] → W p l e m_s1_Pair_tally s m ([.ref b0, .ref b1, .int b2, .int b3, .int b4] : List Value).toArray below meth c H locs 0 0 (MQ below (zQ G (fun v w => ∃ (e0 : Int32), ∃ (e1 : Int32), ∃ (e2 : Int32), ∃ (e3 : Int32), ∃ (e4 : Int32), ∃ (e5 : Int32), ∃ (e6 : Int32), ∃ (e7 : Int32), ∃ (e8 : Int32), ∃ (e9 : Int32), v = none ∧ w = [(b0, .inr (10, [.int e0, .int e1, .int e2, .int e3, .int e4, .int e5, .int e6, .int e7, .int e8, .int e9])), (b1, .inr (2, [.int b15, .int b16, .int b17, .ref b18, .ref b19, .ref b20])), (b18, .inl (G.2 0, 20, .inl b21)), (b19, .inl (G.2 0, 240, .inl b22))] ∧ (zI e8 0 1) ∧ (zI e9 0 1)) A) ([.ref b0, .ref b1, .int b2, .int b3, .int b4] : List Value).toArray s m_s1_Pair_tally.cells m_s1_Pair_tally.slots A) (F0 m 13 ls []) by
    exact key 21 (0) (b7) (b8) (b9) (b10) (b11) (b12) (b13) (b14) (0) (0) _ _ _ (zI.wk (l' := 0) (h' := 20) zc_0 (by decide)) hb13 hb14 (zm_upi (zI.wk (l' := 0) (h' := 20) zc_0 (by decide)) (by decide)) hP hD hS (lv_sub hl [0, 1, 2, 3, 4, 5] rfl)
  intro k_45
  induction k_45 with
  | zero =>
    intro y_46 y_47 y_48 y_49 y_50 y_51 y_52 y_53 y_54 y_55 y_56 H locs ls hy_46 hy_53 hy_54 hmk_45 hP hD hS hl
    exact (zm_up0 hy_46 hmk_45).elim
  | succ k_45 ihk_45 =>
    intro y_46 y_47 y_48 y_49 y_50 y_51 y_52 y_53 y_54 y_55 y_56 H locs ls hy_46 hy_53 hy_54 hmk_45 hP hD hS hl
    refine lv_iload hx hb d_Pair_tally_13 (lv_at hl 0 rfl) ?_
    refine lv_aload_n hx hb d_Pair_tally_15 rfl (lv_at hl 2 rfl) ?_
    refine va_get (D := G.1) (ci := 2) (v := .int b15) (C := R_Traces) (T := F_Traces) (N := 6) hx hb hts i_Traces hown hK hP 1 rfl rfl 0 (by decide) (hts _ q56) (fun _ h9 => h9) rfl d_Pair_tally_16 ?_
    refine lv_icmp_ge (tgt := 74) hx hb d_Pair_tally_19 (by decide) (fun hc_57 => ?_) (fun hc_57 => ?_)
    · have _nhc_57 := hc_57
      have ni_58 := (fa_le _ _).mp hc_57
      exact z_vret hx hb hr hlocks hP hD hS (Nat.le_of_ble_eq_true rfl) (Nat.le_of_ble_eq_true rfl) d_Pair_tally_74 ⟨y_55, y_56, y_47, y_48, y_49, y_50, y_51, y_52, y_53, y_54, rfl, rfl, hy_53, hy_54⟩
    · have _nhc_57 := hc_57
      have ni_59 := (fa_lt _ _).mp (zi_nle hc_57)
      have hv_60 : zI y_46 0 19 := zI.lt_l hy_46 hb15 (zi_nle hc_57) (by decide)
      have hv_61 : zI b15 1 20 := zI.lt_r hy_46 hb15 (zi_nle hc_57) (by decide)
      refine lv_aload_n hx hb d_Pair_tally_22 rfl (lv_at hl 1 rfl) ?_
      refine lv_aload_n hx hb d_Pair_tally_23 rfl (lv_at hl 2 rfl) ?_
      refine lv_iload hx hb d_Pair_tally_24 (lv_at hl 0 rfl) ?_
      refine lv_iload_n hx hb d_Pair_tally_26 rfl (lv_at hl 4 rfl) ?_
      refine lv_iload hx hb d_Pair_tally_27 (lv_at hl 5 rfl) ?_
      refine z_callV (index := 27) (As := [.ref b1, .int y_46, .int b3, .int b4]) (rest := []) (wr := []) Z (s8_Pair_look l G (b0) (b1) (y_46) (b3) (b4) (y_55) (y_56) (y_47) (y_48) (y_49) (y_50) (y_51) (y_52) (y_53) (y_54) (b15) (b16) (b17) (b18) (b19) (b20) (b21) (b22) hv_60 hy_53 hy_54 (zI.wk (l' := 0) (h' := 20) hv_61 (by decide)) hb16 hb17 hb21 hb22) hl.1 q923 q925 qs32 q11 q926 ⟨by decide, by decide, by show _ = some 4; decide +kernel⟩ ⟨Nat.le_of_ble_eq_true rfl, Nat.le_of_ble_eq_true rfl⟩ ⟨Nat.le_of_ble_eq_true rfl, Nat.le_of_ble_eq_true rfl⟩ rfl (Nat.le_of_ble_eq_true rfl) d_Pair_tally_29 hP hD hS hA 0 10 rfl rfl rfl [0, 1, 2, 3] [] rfl rfl rfl rfl (by decide) (fun v w1 H locs hw_62 hP hD hS => ?_)
      obtain ⟨x_63, x_64, x_65, x_66, x_67, x_68, x_69, x_70, rfl, rfl, hx_64, hx_67, hx_69, hx_70⟩ := hw_62
      have hP : va_P G.1 classes [(b0, .inr (10, [.int y_55, .int y_56, .int x_63, .int x_64, .int x_65, .int x_66, .int x_67, .int x_68, .int x_69, .int x_70])), (b1, .inr (2, [.int b15, .int b16, .int b17, .ref b18, .ref b19, .ref b20])), (b18, .inl (G.2 0, 20, .inl b21)), (b19, .inl (G.2 0, 240, .inl b22))] H := hP
      have hD := z_tie hP hD rfl
      refine W.widen (k := 0) (n := 0) (Nat.le_of_ble_eq_true rfl) (Nat.le_of_ble_eq_true rfl) ?_
      refine lv_aload_n hx hb d_Pair_tally_32 rfl (lv_at hl 1 rfl) ?_
      refine lv_iload_n hx hb d_Pair_tally_33 rfl (lv_at hl 3 rfl) ?_
      refine z_callV (index := 30) (As := [.int b2]) (rest := []) (wr := [(b1, .inr (2, [.int b15, .int b16, .int b17, .ref b18, .ref b19, .ref b20])), (b18, .inl (G.2 0, 20, .inl b21)), (b19, .inl (G.2 0, 240, .inl b22))]) Z (s2_Pair_isAsked l G (b0) (b2) (y_55) (y_56) (x_63) (x_64) (x_65) (x_66) (x_67) (x_68) (x_69) (x_70) hx_69 hx_70) hl.1 q940 q942 qs36 q11 q943 ⟨by decide, by decide, by show _ = some 1; decide +kernel⟩ ⟨Nat.le_of_ble_eq_true rfl, Nat.le_of_ble_eq_true rfl⟩ ⟨Nat.le_of_ble_eq_true rfl, Nat.le_of_ble_eq_true rfl⟩ rfl (Nat.le_of_ble_eq_true rfl) d_Pair_tally_34 hP hD hS hA 0 10 rfl rfl rfl [0] [1, 2, 3] rfl rfl rfl rfl (by decide) (fun v w1 H locs hw_71 hP hD hS => ?_)
      obtain ⟨x_72, rfl, rfl, hx_72⟩ := hw_71
      have hP : va_P G.1 classes [(b1, .inr (2, [.int b15, .int b16, .int b17, .ref b18, .ref b19, .ref b20])), (b18, .inl (G.2 0, 20, .inl b21)), (b19, .inl (G.2 0, 240, .inl b22)), (b0, .inr (10, [.int y_55, .int y_56, .int x_63, .int x_64, .int x_65, .int x_66, .int x_67, .int x_68, .int x_69, .int x_70]))] H := hP
      have hD := z_tie hP hD rfl
      refine W.widen (k := 0) (n := 0) (Nat.le_of_ble_eq_true rfl) (Nat.le_of_ble_eq_true rfl) ?_
      refine lv_if_eq (tgt := 68) hx hb d_Pair_tally_37 (by decide) (fun hc_73 => ?_) (fun hc_73 => ?_)
      · have _nhc_73 := hc_73
        have ni_74 := (fa_eq _ _).mp hc_73
        rw [li_0] at ni_74
        have hv_75 : zI x_72 0 0 := zI.eq_l hx_72 zc_0 hc_73
        obtain ⟨v_76, ev_76⟩ : ∃ z : Int32, z = y_46 + 1 := ⟨_, rfl⟩
        obtain ⟨qv_76, hv_76⟩ := zI_add (l := 1) (h := 20) hv_60 zc_1 ev_76 (by decide)
        rw [li_1] at qv_76
        refine lv_iinc (v := v_76) (lv' := [(5, .int v_76), (0, .ref b0), (1, .ref b1), (2, .int b2), (3, .int b3), (4, .int b4)]) hx hb d_Pair_tally_68 hl (k := 0) rfl (by rw [ev_76]; rfl) (by decide) rfl (fun ls hl => ?_)
        refine lv_goto (tgt := 13) hx hb d_Pair_tally_71 (by decide) ?_
        exact ihk_45 (v_76) (x_63) (x_64) (x_65) (x_66) (x_67) (x_68) (x_69) (x_70) (y_55) (y_56) _ _ _ (zI.wk (l' := 0) (h' := 20) hv_76 (by decide)) hx_69 hx_70 (zm_up qv_76 hmk_45 (by decide)) (hP.sub [3, 0, 1, 2] rfl) (hD.sub [3, 0, 1, 2] (by decide) rfl) hS (lv_sub hl [0, 1, 2, 3, 4, 5] rfl)
      · have _nhc_73 := hc_73
        have ni_77 : ¬ (x_72 : Int32).toInt = (0 : Int32).toInt := fun z => hc_73 ((fa_eq _ _).mpr z)
        simp only [li_0] at ni_77
        have hv_78 : zI x_72 1 1 := zI.ne_lo hx_72 zc_0 hc_73 (by decide)
        refine lv_aload_n hx hb d_Pair_tally_40 rfl (lv_at hl 1 rfl) ?_
        refine lv_dup hx hb d_Pair_tally_41 rfl ?_
        refine va_get (D := G.1) (ci := 10) (v := .int y_55) (C := R_Pair) (T := F_Pair) (N := 10) hx hb hts i_Pair hown hK hP 3 rfl rfl 0 (by decide) (hts _ q363) (fun _ h9 => h9) rfl d_Pair_tally_42 ?_
        refine lv_iconst (v := 1) hx hb d_Pair_tally_45 (by decide) ?_
        refine lv_iadd hx hb d_Pair_tally_46 ?_
        refine lv_topi (fun v_79 ev_79 => ?_)
        refine va_put (D := G.1) (ci := 10) (v := .int v_79) (ty := .int) (C := R_Pair) (T := F_Pair) (N := 10) hx hb hts i_Pair t_Pair t_Pair_ok n_Pair hown hK hP hD hS 3 rfl rfl 0 (by decide) (hts _ q363) (fun _ h9 => h9) rfl (by decide +kernel) rfl rfl (Nat.le_of_ble_eq_true rfl) d_Pair_tally_47 (fun H locs hP hD hS => ?_)
        have hP : va_P G.1 classes [(b1, .inr (2, [.int b15, .int b16, .int b17, .ref b18, .ref b19, .ref b20])), (b18, .inl (G.2 0, 20, .inl b21)), (b19, .inl (G.2 0, 240, .inl b22)), (b0, .inr (10, [.int v_79, .int y_56, .int x_63, .int x_64, .int x_65, .int x_66, .int x_67, .int x_68, .int x_69, .int x_70]))] H := hP
        have hD := z_tie hP hD rfl
        refine lv_aload_n hx hb d_Pair_tally_50 rfl (lv_at hl 1 rfl) ?_
        refine lv_iload_n hx hb d_Pair_tally_51 rfl (lv_at hl 3 rfl) ?_
        refine z_callV (index := 34) (As := [.int b2]) (rest := []) (wr := [(b1, .inr (2, [.int b15, .int b16, .int b17, .ref b18, .ref b19, .ref b20])), (b18, .inl (G.2 0, 20, .inl b21)), (b19, .inl (G.2 0, 240, .inl b22))]) Z (s2_Pair_isSo l G (b0) (b2) (v_79) (y_56) (x_63) (x_64) (x_65) (x_66) (x_67) (x_68) (x_69) (x_70) hx_69 hx_70) hl.1 q944 q946 qs37 q11 q947 ⟨by decide, by decide, by show _ = some 1; decide +kernel⟩ ⟨Nat.le_of_ble_eq_true rfl, Nat.le_of_ble_eq_true rfl⟩ ⟨Nat.le_of_ble_eq_true rfl, Nat.le_of_ble_eq_true rfl⟩ rfl (Nat.le_of_ble_eq_true rfl) d_Pair_tally_52 hP hD hS hA 3 10 rfl rfl rfl [3] [0, 1, 2] rfl rfl rfl rfl (by decide) (fun v w1 H locs hw_80 hP hD hS => ?_)
        obtain ⟨x_81, rfl, rfl, hx_81⟩ := hw_80
        have hP : va_P G.1 classes [(b1, .inr (2, [.int b15, .int b16, .int b17, .ref b18, .ref b19, .ref b20])), (b18, .inl (G.2 0, 20, .inl b21)), (b19, .inl (G.2 0, 240, .inl b22)), (b0, .inr (10, [.int v_79, .int y_56, .int x_63, .int x_64, .int x_65, .int x_66, .int x_67, .int x_68, .int x_69, .int x_70]))] H := hP
        have hD := z_tie hP hD rfl
        refine W.widen (k := 0) (n := 0) (Nat.le_of_ble_eq_true rfl) (Nat.le_of_ble_eq_true rfl) ?_
        refine lv_if_eq (tgt := 68) hx hb d_Pair_tally_55 (by decide) (fun hc_82 => ?_) (fun hc_82 => ?_)
        · have _nhc_82 := hc_82
          have ni_83 := (fa_eq _ _).mp hc_82
          rw [li_0] at ni_83
          have hv_84 : zI x_81 0 0 := zI.eq_l hx_81 zc_0 hc_82
          obtain ⟨v_85, ev_85⟩ : ∃ z : Int32, z = y_46 + 1 := ⟨_, rfl⟩
          obtain ⟨qv_85, hv_85⟩ := zI_add (l := 1) (h := 20) hv_60 zc_1 ev_85 (by decide)
          rw [li_1] at qv_85
          refine lv_iinc (v := v_85) (lv' := [(5, .int v_85), (0, .ref b0), (1, .ref b1), (2, .int b2), (3, .int b3), (4, .int b4)]) hx hb d_Pair_tally_68 hl (k := 0) rfl (by rw [ev_85]; rfl) (by decide) rfl (fun ls hl => ?_)
          refine lv_goto (tgt := 13) hx hb d_Pair_tally_71 (by decide) ?_
          exact ihk_45 (v_85) (x_63) (x_64) (x_65) (x_66) (x_67) (x_68) (x_69) (x_70) (v_79) (y_56) _ _ _ (zI.wk (l' := 0) (h' := 20) hv_85 (by decide)) hx_69 hx_70 (zm_up qv_85 hmk_45 (by decide)) (hP.sub [3, 0, 1, 2] rfl) (hD.sub [3, 0, 1, 2] (by decide) rfl) hS (lv_sub hl [0, 1, 2, 3, 4, 5] rfl)
        · have _nhc_82 := hc_82
          have ni_86 : ¬ (x_81 : Int32).toInt = (0 : Int32).toInt := fun z => hc_82 ((fa_eq _ _).mpr z)
          simp only [li_0] at ni_86
          have hv_87 : zI x_81 1 1 := zI.ne_lo hx_81 zc_0 hc_82 (by decide)
          refine lv_aload_n hx hb d_Pair_tally_58 rfl (lv_at hl 1 rfl) ?_
          refine lv_dup hx hb d_Pair_tally_59 rfl ?_
          refine va_get (D := G.1) (ci := 10) (v := .int y_56) (C := R_Pair) (T := F_Pair) (N := 10) hx hb hts i_Pair hown hK hP 3 rfl rfl 1 (by decide) (hts _ q365) (fun _ h9 => h9) rfl d_Pair_tally_60 ?_
          refine lv_iconst (v := 1) hx hb d_Pair_tally_63 (by decide) ?_
          refine lv_iadd hx hb d_Pair_tally_64 ?_
          refine lv_topi (fun v_88 ev_88 => ?_)
          refine va_put (D := G.1) (ci := 10) (v := .int v_88) (ty := .int) (C := R_Pair) (T := F_Pair) (N := 10) hx hb hts i_Pair t_Pair t_Pair_ok n_Pair hown hK hP hD hS 3 rfl rfl 1 (by decide) (hts _ q365) (fun _ h9 => h9) rfl (by decide +kernel) rfl rfl (Nat.le_of_ble_eq_true rfl) d_Pair_tally_65 (fun H locs hP hD hS => ?_)
          have hP : va_P G.1 classes [(b1, .inr (2, [.int b15, .int b16, .int b17, .ref b18, .ref b19, .ref b20])), (b18, .inl (G.2 0, 20, .inl b21)), (b19, .inl (G.2 0, 240, .inl b22)), (b0, .inr (10, [.int v_79, .int v_88, .int x_63, .int x_64, .int x_65, .int x_66, .int x_67, .int x_68, .int x_69, .int x_70]))] H := hP
          have hD := z_tie hP hD rfl
          obtain ⟨v_89, ev_89⟩ : ∃ z : Int32, z = y_46 + 1 := ⟨_, rfl⟩
          obtain ⟨qv_89, hv_89⟩ := zI_add (l := 1) (h := 20) hv_60 zc_1 ev_89 (by decide)
          rw [li_1] at qv_89
          refine lv_iinc (v := v_89) (lv' := [(5, .int v_89), (0, .ref b0), (1, .ref b1), (2, .int b2), (3, .int b3), (4, .int b4)]) hx hb d_Pair_tally_68 hl (k := 0) rfl (by rw [ev_89]; rfl) (by decide) rfl (fun ls hl => ?_)
          refine lv_goto (tgt := 13) hx hb d_Pair_tally_71 (by decide) ?_
          exact ihk_45 (v_89) (x_63) (x_64) (x_65) (x_66) (x_67) (x_68) (x_69) (x_70) (v_79) (v_88) _ _ _ (zI.wk (l' := 0) (h' := 20) hv_89 (by decide)) hx_69 hx_70 (zm_up qv_89 hmk_45 (by decide)) (hP.sub [3, 0, 1, 2] rfl) (hD.sub [3, 0, 1, 2] (by decide) rfl) hS (lv_sub hl [0, 1, 2, 3, 4, 5] rfl)
theorem d_Pair_stands_0 : decode prog_6_method_2_code 0 = .ok (.aload_n 0, 1) := by decide +kernel
theorem d_Pair_stands_1 : decode prog_6_method_2_code 1 = .ok (.aload_n 1, 1) := by decide +kernel
theorem d_Pair_stands_2 : decode prog_6_method_2_code 2 = .ok (.iload_n 2, 1) := by decide +kernel
theorem d_Pair_stands_3 : decode prog_6_method_2_code 3 = .ok (.iload_n 3, 1) := by decide +kernel
theorem d_Pair_stands_4 : decode prog_6_method_2_code 4 = .ok (.iload 4, 2) := by decide +kernel
theorem d_Pair_stands_6 : decode prog_6_method_2_code 6 = .ok (.invokevirtual 9, 3) := by decide +kernel
theorem d_Pair_stands_9 : decode prog_6_method_2_code 9 = .ok (.aload_n 0, 1) := by decide +kernel
theorem d_Pair_stands_10 : decode prog_6_method_2_code 10 = .ok (.getfield 15, 3) := by decide +kernel
theorem d_Pair_stands_13 : decode prog_6_method_2_code 13 = .ok (.iload 5, 2) := by decide +kernel
theorem d_Pair_stands_15 : decode prog_6_method_2_code 15 = .ok (.if_icmp .lt 18, 3) := by decide +kernel
theorem d_Pair_stands_18 : decode prog_6_method_2_code 18 = .ok (.aload_n 0, 1) := by decide +kernel
theorem d_Pair_stands_19 : decode prog_6_method_2_code 19 = .ok (.getfield 19, 3) := by decide +kernel
theorem d_Pair_stands_22 : decode prog_6_method_2_code 22 = .ok (.aload_n 0, 1) := by decide +kernel
theorem d_Pair_stands_23 : decode prog_6_method_2_code 23 = .ok (.getfield 15, 3) := by decide +kernel
theorem d_Pair_stands_26 : decode prog_6_method_2_code 26 = .ok (.if_icmp .ne 7, 3) := by decide +kernel
theorem d_Pair_stands_29 : decode prog_6_method_2_code 29 = .ok (.iconst 1, 1) := by decide +kernel
theorem d_Pair_stands_30 : decode prog_6_method_2_code 30 = .ok (.goto 4, 3) := by decide +kernel
theorem d_Pair_stands_33 : decode prog_6_method_2_code 33 = .ok (.iconst 0, 1) := by decide +kernel
theorem d_Pair_stands_34 : decode prog_6_method_2_code 34 = .ok (.ireturn, 1) := by decide +kernel
abbrev m_s1_Pair_stands : Room := { frames := 3, cells := 0, slots := 0, locals := 74 }
set_option maxHeartbeats 4000000 in
set_option maxRecDepth 100000 in
theorem s1_Pair_stands (l : Launch) (G : zG) (b0 : Nat) (b1 : Nat) (b2 : Int32) (b3 : Int32) (b4 : Int32) (b5 : Int32) (b6 : Int32) (b7 : Int32) (b8 : Int32) (b9 : Int32) (b10 : Int32) (b11 : Int32) (b12 : Int32) (b13 : Int32) (b14 : Int32) (b15 : Int32) (b16 : Int32) (b17 : Int32) (b18 : Int32) (b19 : Nat) (b20 : Nat) (b21 : Nat) (b22 : Nat → Int32) (b23 : Nat → Int32) (hb14 : zI b14 0 1) (hb15 : zI b15 0 1) (hb16 : zI b16 0 20) (hb17 : zI b17 0 3) (hb18 : zI b18 0 20) (hb22 : zR b22 0 12) (hb23 : zR b23 0 9) : zM l G y_Pair_stands prog_6_method_2_code 6 (Option.some Jvm.ClassFile.FieldType.boolean) m_s1_Pair_stands [.ref b0, .ref b1, .int b2, .int b3, .int b4, .int b5] [(b0, .inr (10, [.int b6, .int b7, .int b8, .int b9, .int b10, .int b11, .int b12, .int b13, .int b14, .int b15])), (b1, .inr (2, [.int b16, .int b17, .int b18, .ref b19, .ref b20, .ref b21])), (b19, .inl (G.2 0, 20, .inl b22)), (b20, .inl (G.2 0, 240, .inl b23))] (fun v w => ∃ (e0 : Int32), ∃ (e1 : Int32), ∃ (e2 : Int32), ∃ (e3 : Int32), ∃ (e4 : Int32), ∃ (e5 : Int32), ∃ (e6 : Int32), ∃ (e7 : Int32), ∃ (e8 : Int32), ∃ (e9 : Int32), ∃ (e10 : Int32), v = some (.int e0) ∧ w = [(b0, .inr (10, [.int e1, .int e2, .int e3, .int e4, .int e5, .int e6, .int e7, .int e8, .int e9, .int e10])), (b1, .inr (2, [.int b16, .int b17, .int b18, .ref b19, .ref b20, .ref b21])), (b19, .inl (G.2 0, 20, .inl b22)), (b20, .inl (G.2 0, 240, .inl b23))] ∧ (zI e0 0 1) ∧ (zI e9 0 1) ∧ (zI e10 0 1)) := by
  refine z_start (by decide +kernel) (Nat.le_of_ble_eq_true rfl) ?_
  intro p e s m below meth c A Z hr hnm hA hP hD hS ls hl
  have Z : zC p s m _ meth c prog_6_method_2_code 6 "TraceMachines$Pair" G := Z
  obtain ⟨hx, hb, hml, hown, hts, hK, hN, hlocks⟩ := id Z
  have hl : lv_has ls 6 [(0, .ref b0), (1, .ref b1), (2, .int b2), (3, .int b3), (4, .int b4), (5, .int b5)] := hl
  refine lv_aload_n hx hb d_Pair_stands_0 rfl (lv_at hl 0 rfl) ?_
  refine lv_aload_n hx hb d_Pair_stands_1 rfl (lv_at hl 1 rfl) ?_
  refine lv_iload_n hx hb d_Pair_stands_2 rfl (lv_at hl 2 rfl) ?_
  refine lv_iload_n hx hb d_Pair_stands_3 rfl (lv_at hl 3 rfl) ?_
  refine lv_iload hx hb d_Pair_stands_4 (lv_at hl 4 rfl) ?_
  refine z_callV (index := 9) (As := [.ref b1, .int b2, .int b3, .int b4]) (rest := []) (wr := []) Z (s1_Pair_tally l G (b0) (b1) (b2) (b3) (b4) (b6) (b7) (b8) (b9) (b10) (b11) (b12) (b13) (b14) (b15) (b16) (b17) (b18) (b19) (b20) (b21) (b22) (b23) hb14 hb15 hb16 hb17 hb18 hb22 hb23) hl.1 q956 q920 q921 q11 q922 ⟨by decide, by decide, by show _ = some 4; decide +kernel⟩ ⟨Nat.le_of_ble_eq_true rfl, Nat.le_of_ble_eq_true rfl⟩ ⟨Nat.le_of_ble_eq_true rfl, Nat.le_of_ble_eq_true rfl⟩ rfl (Nat.le_of_ble_eq_true rfl) d_Pair_stands_6 hP hD hS hA 0 10 rfl rfl rfl [0, 1, 2, 3] [] rfl rfl rfl rfl (by decide) (fun v w1 H locs hw_1 hP hD hS => ?_)
  refine Exists.elim hw_1 (fun x_2 hz_12 => Exists.elim hz_12 (fun x_3 hz_13 => Exists.elim hz_13 (fun x_4 hz_14 => Exists.elim hz_14 (fun x_5 hz_15 => Exists.elim hz_15 (fun x_6 hz_16 => Exists.elim hz_16 (fun x_7 hz_17 => Exists.elim hz_17 (fun x_8 hz_18 => Exists.elim hz_18 (fun x_9 hz_19 => Exists.elim hz_19 (fun x_10 hz_20 => Exists.elim hz_20 (fun x_11 hz_21 => ?_))))))))))
  clear hw_1 hz_12 hz_13 hz_14 hz_15 hz_16 hz_17 hz_18 hz_19 hz_20
  obtain ⟨rfl, rfl, hx_10, hx_11⟩ := hz_21
  have hP : va_P G.1 classes [(b0, .inr (10, [.int x_2, .int x_3, .int x_4, .int x_5, .int x_6, .int x_7, .int x_8, .int x_9, .int x_10, .int x_11])), (b1, .inr (2, [.int b16, .int b17, .int b18, .ref b19, .ref b20, .ref b21])), (b19, .inl (G.2 0, 20, .inl b22)), (b20, .inl (G.2 0, 240, .inl b23))] H := hP
  have hD := z_tie hP hD rfl
  refine W.widen (k := 0) (n := 0) (Nat.le_of_ble_eq_true rfl) (Nat.le_of_ble_eq_true rfl) ?_
  refine lv_aload_n hx hb d_Pair_stands_9 rfl (lv_at hl 0 rfl) ?_
  refine va_get (D := G.1) (ci := 10) (v := .int x_2) (C := R_Pair) (T := F_Pair) (N := 10) hx hb hts i_Pair hown hK hP 0 rfl rfl 0 (by decide) (hts _ q363) (fun _ h9 => h9) rfl d_Pair_stands_10 ?_
  refine lv_iload hx hb d_Pair_stands_13 (lv_at hl 5 rfl) ?_
  refine lv_icmp_lt (tgt := 33) hx hb d_Pair_stands_15 (by decide) (fun hc_22 => ?_) (fun hc_22 => ?_)
  · have _nhc_22 := hc_22
    have ni_23 := (fa_lt _ _).mp hc_22
    have hv_24 : zI x_2 (-2147483648) 2147483646 := zI.lt_l (zI_all x_2) (zI_all b5) hc_22 (by decide)
    have hv_25 : zI b5 (-2147483647) 2147483647 := zI.lt_r (zI_all x_2) (zI_all b5) hc_22 (by decide)
    refine lv_iconst (v := 0) hx hb d_Pair_stands_33 (by decide) ?_
    exact z_zret hx hb hr hlocks rfl hP hD hS (Nat.le_of_ble_eq_true rfl) (Nat.le_of_ble_eq_true rfl) d_Pair_stands_34 ⟨0, x_2, x_3, x_4, x_5, x_6, x_7, x_8, x_9, x_10, x_11, rfl, rfl, (zI.wk (l' := 0) (h' := 1) zc_0 (by decide)), hx_10, hx_11⟩
  · have _nhc_22 := hc_22
    have ni_26 := (fa_le _ _).mp (zi_nlt hc_22)
    refine lv_aload_n hx hb d_Pair_stands_18 rfl (lv_at hl 0 rfl) ?_
    refine va_get (D := G.1) (ci := 10) (v := .int x_3) (C := R_Pair) (T := F_Pair) (N := 10) hx hb hts i_Pair hown hK hP 0 rfl rfl 1 (by decide) (hts _ q365) (fun _ h9 => h9) rfl d_Pair_stands_19 ?_
    refine lv_aload_n hx hb d_Pair_stands_22 rfl (lv_at hl 0 rfl) ?_
    refine va_get (D := G.1) (ci := 10) (v := .int x_2) (C := R_Pair) (T := F_Pair) (N := 10) hx hb hts i_Pair hown hK hP 0 rfl rfl 0 (by decide) (hts _ q363) (fun _ h9 => h9) rfl d_Pair_stands_23 ?_
    refine lv_icmp_ne (tgt := 33) hx hb d_Pair_stands_26 (by decide) (fun hc_27 => ?_) (fun hc_27 => ?_)
    · have _nhc_27 := hc_27
      have ni_28 : ¬ (x_3 : Int32).toInt = (x_2 : Int32).toInt := fun z => hc_27 ((fa_eq _ _).mpr z)
      refine lv_iconst (v := 0) hx hb d_Pair_stands_33 (by decide) ?_
      exact z_zret hx hb hr hlocks rfl hP hD hS (Nat.le_of_ble_eq_true rfl) (Nat.le_of_ble_eq_true rfl) d_Pair_stands_34 ⟨0, x_2, x_3, x_4, x_5, x_6, x_7, x_8, x_9, x_10, x_11, rfl, rfl, (zI.wk (l' := 0) (h' := 1) zc_0 (by decide)), hx_10, hx_11⟩
    · have _nhc_27 := hc_27
      have ni_29 := (fa_eq _ _).mp hc_27
      refine lv_iconst (v := 1) hx hb d_Pair_stands_29 (by decide) ?_
      refine lv_goto (tgt := 34) hx hb d_Pair_stands_30 (by decide) ?_
      exact z_zret hx hb hr hlocks rfl hP hD hS (Nat.le_of_ble_eq_true rfl) (Nat.le_of_ble_eq_true rfl) d_Pair_stands_34 ⟨1, x_2, x_3, x_4, x_5, x_6, x_7, x_8, x_9, x_10, x_11, rfl, rfl, (zI.wk (l' := 0) (h' := 1) zc_1 (by decide)), hx_10, hx_11⟩
abbrev m_s2_Odds_placeOf : Room := { frames := 1, cells := 0, slots := 0, locals := 22 }
set_option maxHeartbeats 4000000 in
set_option maxRecDepth 100000 in
theorem s2_Odds_placeOf (l : Launch) (G : zG) (b0 : Nat) (b1 : Int32) (b2 : Nat) (b3 : Nat) (b4 : Int32) (b5 : Nat → Int32) (b6 : Nat → Int32) (hb1 : zI b1 0 19) (hb4 : zI b4 0 20) : zM l G y_Odds_placeOf prog_5_method_4_code 4 (Option.some Jvm.ClassFile.FieldType.int) m_s2_Odds_placeOf [.ref b0, .int b1] [(b0, .inr (11, [.ref b2, .ref b3, .int b4])), (b2, .inl (G.2 0, 20, .inl b5)), (b3, .inl (G.2 0, 20, .inl b6))] (fun v w => ∃ (e0 : Int32), v = some (.int e0) ∧ w = [(b0, .inr (11, [.ref b2, .ref b3, .int b4])), (b2, .inl (G.2 0, 20, .inl b5)), (b3, .inl (G.2 0, 20, .inl b6))]) := by
  refine z_start (by decide +kernel) (Nat.le_of_ble_eq_true rfl) ?_
  intro p e s m below meth c A Z hr hnm hA hP hD hS ls hl
  have Z : zC p s m _ meth c prog_5_method_4_code 4 "TraceMachines$Odds" G := Z
  obtain ⟨hx, hb, hml, hown, hts, hK, hN, hlocks⟩ := id Z
  have hl : lv_has ls 4 [(0, .ref b0), (1, .int b1)] := hl
  refine lv_iconst (v := 0) hx hb d_Odds_placeOf_0 (by decide) ?_
  refine lv_istore_n (lv' := [(2, .int 0), (0, .ref b0), (1, .int b1)]) hx hb d_Odds_placeOf_1 rfl hl (by decide) rfl (fun ls hl => ?_)
  refine lv_iconst (v := 0) hx hb d_Odds_placeOf_2 (by decide) ?_
  refine lv_istore_n (lv' := [(3, .int 0), (2, .int 0), (0, .ref b0), (1, .int b1)]) hx hb d_Odds_placeOf_3 rfl hl (by decide) rfl (fun ls hl => ?_)
  suffices key : ∀ (k_18 : Nat) (y_19 : Int32) (y_20 : Int32) (H : Heap) (locs : List Loc) (ls : Array Slot), (zI y_19 0 20) → (20 : Int) - y_19.toInt < (k_18 : Int) → va_P G.1 classes [(b0, .inr (11, [.ref b2, .ref b3, .int b4])), (b2, .inl (G.2 0, 20, .inl b5)), (b3, .inl (G.2 0, 20, .inl b6))] H → va_D A [(b0, .inr (11, [.ref b2, .ref b3, .int b4])), (b2, .inl (G.2 0, 20, .inl b5)), (b3, .inl (G.2 0, 20, .inl b6))] → va_S A s.heap H locs → lv_has ls 4 [(3, .int y_19), (2, .int y_20), (0, .ref b0), (1, .int b1)] → W p l e m_s2_Odds_placeOf s m ([.ref b0, .int b1] : List Value).toArray below meth c H locs 0 0 (MQ below (zQ G (fun v w => ∃ (e0 : Int32), v = some (.int e0) ∧ w = [(b0, .inr (11, [.ref b2, .ref b3, .int b4])), (b2, .inl (G.2 0, 20, .inl b5)), (b3, .inl (G.2 0, 20, .inl b6))]) A) ([.ref b0, .int b1] : List Value).toArray s m_s2_Odds_placeOf.cells m_s2_Odds_placeOf.slots A) (F0 m 4 ls []) by
    exact key 21 (0) (0) _ _ _ (zI.wk (l' := 0) (h' := 20) zc_0 (by decide)) (zm_upi (zI.wk (l' := 0) (h' := 20) zc_0 (by decide)) (by decide)) hP hD hS (lv_sub hl [0, 1, 2, 3] rfl)
  intro k_18
  induction k_18 with
  | zero =>
    intro y_19 y_20 H locs ls hy_19 hmk_18 hP hD hS hl
    exact (zm_up0 hy_19 hmk_18).elim
  | succ k_18 ihk_18 =>
    intro y_19 y_20 H locs ls hy_19 hmk_18 hP hD hS hl
    refine lv_iload_n hx hb d_Odds_placeOf_4 rfl (lv_at hl 0 rfl) ?_
    refine lv_aload_n hx hb d_Odds_placeOf_5 rfl (lv_at hl 2 rfl) ?_
    refine va_get (D := G.1) (ci := 11) (v := .int b4) (C := R_Odds) (T := F_Odds) (N := 3) hx hb hts i_Odds hown hK hP 0 rfl rfl 2 (by decide) (hts _ q406) (fun _ h9 => h9) rfl d_Odds_placeOf_6 ?_
    refine lv_icmp_ge (tgt := 30) hx hb d_Odds_placeOf_9 (by decide) (fun hc_21 => ?_) (fun hc_21 => ?_)
    · have _nhc_21 := hc_21
      have ni_22 := (fa_le _ _).mp hc_21
      refine lv_iload_n hx hb d_Odds_placeOf_30 rfl (lv_at hl 1 rfl) ?_
      exact z_iret hx hb hr hlocks hP hD hS (Nat.le_of_ble_eq_true rfl) (Nat.le_of_ble_eq_true rfl) d_Odds_placeOf_31 ⟨y_20, rfl, rfl⟩
    · have _nhc_21 := hc_21
      have ni_23 := (fa_lt _ _).mp (zi_nle hc_21)
      have hv_24 : zI y_19 0 19 := zI.lt_l hy_19 hb4 (zi_nle hc_21) (by decide)
      have hv_25 : zI b4 1 20 := zI.lt_r hy_19 hb4 (zi_nle hc_21) (by decide)
      refine lv_aload_n hx hb d_Odds_placeOf_12 rfl (lv_at hl 2 rfl) ?_
      refine lv_iload_n hx hb d_Odds_placeOf_13 rfl (lv_at hl 0 rfl) ?_
      refine lv_iload_n hx hb d_Odds_placeOf_14 rfl (lv_at hl 3 rfl) ?_
      refine z_callV (index := 46) (As := [.int y_19, .int b1]) (rest := []) (wr := []) Z (s8_Odds_isOdder l G (b0) (y_19) (b1) (b2) (b3) (b4) (b5) (b6) hv_24 hb1 (zI.wk (l' := 0) (h' := 20) hv_25 (by decide))) hl.1 q974 q976 qs39 q12 q977 ⟨by decide, by decide, by show _ = some 2; decide +kernel⟩ ⟨Nat.le_of_ble_eq_true rfl, Nat.le_of_ble_eq_true rfl⟩ ⟨Nat.le_of_ble_eq_true rfl, Nat.le_of_ble_eq_true rfl⟩ rfl (Nat.le_of_ble_eq_true rfl) d_Odds_placeOf_15 hP hD hS hA 0 11 rfl rfl rfl [0, 1, 2] [] rfl rfl rfl rfl (by decide) (fun v w1 H locs hw_26 hP hD hS => ?_)
      obtain ⟨x_27, rfl, rfl, hx_27⟩ := hw_26
      have hP : va_P G.1 classes [(b0, .inr (11, [.ref b2, .ref b3, .int b4])), (b2, .inl (G.2 0, 20, .inl b5)), (b3, .inl (G.2 0, 20, .inl b6))] H := hP
      have hD := z_tie hP hD rfl
      refine W.widen (k := 0) (n := 0) (Nat.le_of_ble_eq_true rfl) (Nat.le_of_ble_eq_true rfl) ?_
      refine lv_if_eq (tgt := 24) hx hb d_Odds_placeOf_18 (by decide) (fun hc_28 => ?_) (fun hc_28 => ?_)
      · have _nhc_28 := hc_28
        have ni_29 := (fa_eq _ _).mp hc_28
        rw [li_0] at ni_29
        have hv_30 : zI x_27 0 0 := zI.eq_l hx_27 zc_0 hc_28
        obtain ⟨v_31, ev_31⟩ : ∃ z : Int32, z = y_19 + 1 := ⟨_, rfl⟩
        obtain ⟨qv_31, hv_31⟩ := zI_add (l := 1) (h := 20) hv_24 zc_1 ev_31 (by decide)
        rw [li_1] at qv_31
        refine lv_iinc (v := v_31) (lv' := [(3, .int v_31), (2, .int y_20), (0, .ref b0), (1, .int b1)]) hx hb d_Odds_placeOf_24 hl (k := 0) rfl (by rw [ev_31]; rfl) (by decide) rfl (fun ls hl => ?_)
        refine lv_goto (tgt := 4) hx hb d_Odds_placeOf_27 (by decide) ?_
        exact ihk_18 (v_31) (y_20) _ _ _ (zI.wk (l' := 0) (h' := 20) hv_31 (by decide)) (zm_up qv_31 hmk_18 (by decide)) hP hD hS (lv_sub hl [0, 1, 2, 3] rfl)
      · have _nhc_28 := hc_28
        have ni_32 : ¬ (x_27 : Int32).toInt = (0 : Int32).toInt := fun z => hc_28 ((fa_eq _ _).mpr z)
        simp only [li_0] at ni_32
        have hv_33 : zI x_27 1 1 := zI.ne_lo hx_27 zc_0 hc_28 (by decide)
        obtain ⟨v_34, ev_34⟩ : ∃ z : Int32, z = y_20 + 1 := ⟨_, rfl⟩
        refine lv_iinc (v := v_34) (lv' := [(2, .int v_34), (3, .int y_19), (0, .ref b0), (1, .int b1)]) hx hb d_Odds_placeOf_21 hl (k := 1) rfl (by rw [ev_34]; rfl) (by decide) rfl (fun ls hl => ?_)
        obtain ⟨v_35, ev_35⟩ : ∃ z : Int32, z = y_19 + 1 := ⟨_, rfl⟩
        obtain ⟨qv_35, hv_35⟩ := zI_add (l := 1) (h := 20) hv_24 zc_1 ev_35 (by decide)
        rw [li_1] at qv_35
        refine lv_iinc (v := v_35) (lv' := [(3, .int v_35), (2, .int v_34), (0, .ref b0), (1, .int b1)]) hx hb d_Odds_placeOf_24 hl (k := 1) rfl (by rw [ev_35]; rfl) (by decide) rfl (fun ls hl => ?_)
        refine lv_goto (tgt := 4) hx hb d_Odds_placeOf_27 (by decide) ?_
        exact ihk_18 (v_35) (v_34) _ _ _ (zI.wk (l' := 0) (h' := 20) hv_35 (by decide)) (zm_up qv_35 hmk_18 (by decide)) hP hD hS (lv_sub hl [0, 1, 2, 3] rfl)
theorem d_Odds_weigh_0 : decode prog_5_method_2_code 0 = .ok (.aload_n 0, 1) := by decide +kernel
theorem d_Odds_weigh_1 : decode prog_5_method_2_code 1 = .ok (.aload_n 1, 1) := by decide +kernel
theorem d_Odds_weigh_2 : decode prog_5_method_2_code 2 = .ok (.getfield 18, 3) := by decide +kernel
theorem d_Odds_weigh_5 : decode prog_5_method_2_code 5 = .ok (.putfield 24, 3) := by decide +kernel
theorem d_Odds_weigh_8 : decode prog_5_method_2_code 8 = .ok (.iconst 0, 1) := by decide +kernel
theorem d_Odds_weigh_9 : decode prog_5_method_2_code 9 = .ok (.istore 4, 2) := by decide +kernel
theorem d_Odds_weigh_11 : decode prog_5_method_2_code 11 = .ok (.iload 4, 2) := by decide +kernel
theorem d_Odds_weigh_13 : decode prog_5_method_2_code 13 = .ok (.aload_n 0, 1) := by decide +kernel
theorem d_Odds_weigh_14 : decode prog_5_method_2_code 14 = .ok (.getfield 24, 3) := by decide +kernel
theorem d_Odds_weigh_17 : decode prog_5_method_2_code 17 = .ok (.if_icmp .ge 72, 3) := by decide +kernel
theorem d_Odds_weigh_20 : decode prog_5_method_2_code 20 = .ok (.aload_n 0, 1) := by decide +kernel
theorem d_Odds_weigh_21 : decode prog_5_method_2_code 21 = .ok (.getfield 9, 3) := by decide +kernel
theorem d_Odds_weigh_24 : decode prog_5_method_2_code 24 = .ok (.iload 4, 2) := by decide +kernel
theorem d_Odds_weigh_26 : decode prog_5_method_2_code 26 = .ok (.sipush 999, 3) := by decide +kernel
theorem d_Odds_weigh_29 : decode prog_5_method_2_code 29 = .ok (.iastore, 1) := by decide +kernel
theorem d_Odds_weigh_30 : decode prog_5_method_2_code 30 = .ok (.aload_n 0, 1) := by decide +kernel
theorem d_Odds_weigh_31 : decode prog_5_method_2_code 31 = .ok (.getfield 15, 3) := by decide +kernel
theorem d_Odds_weigh_34 : decode prog_5_method_2_code 34 = .ok (.iload 4, 2) := by decide +kernel
theorem d_Odds_weigh_36 : decode prog_5_method_2_code 36 = .ok (.iconst 0, 1) := by decide +kernel
theorem d_Odds_weigh_37 : decode prog_5_method_2_code 37 = .ok (.iastore, 1) := by decide +kernel
theorem d_Odds_weigh_38 : decode prog_5_method_2_code 38 = .ok (.iconst 1, 1) := by decide +kernel
theorem d_Odds_weigh_39 : decode prog_5_method_2_code 39 = .ok (.istore 5, 2) := by decide +kernel
theorem d_Odds_weigh_41 : decode prog_5_method_2_code 41 = .ok (.iload 5, 2) := by decide +kernel
theorem d_Odds_weigh_43 : decode prog_5_method_2_code 43 = .ok (.aload_n 1, 1) := by decide +kernel
theorem d_Odds_weigh_44 : decode prog_5_method_2_code 44 = .ok (.getfield 25, 3) := by decide +kernel
theorem d_Odds_weigh_47 : decode prog_5_method_2_code 47 = .ok (.iload 4, 2) := by decide +kernel
theorem d_Odds_weigh_49 : decode prog_5_method_2_code 49 = .ok (.iaload, 1) := by decide +kernel
theorem d_Odds_weigh_50 : decode prog_5_method_2_code 50 = .ok (.if_icmp .gt 33, 3) := by decide +kernel
theorem d_Odds_weigh_53 : decode prog_5_method_2_code 53 = .ok (.aload_n 0, 1) := by decide +kernel
theorem d_Odds_weigh_54 : decode prog_5_method_2_code 54 = .ok (.iload 4, 2) := by decide +kernel
theorem d_Odds_weigh_56 : decode prog_5_method_2_code 56 = .ok (.aload_n 3, 1) := by decide +kernel
theorem d_Odds_weigh_57 : decode prog_5_method_2_code 57 = .ok (.getfield 28, 3) := by decide +kernel
theorem d_Odds_weigh_60 : decode prog_5_method_2_code 60 = .ok (.aload_n 3, 1) := by decide +kernel
theorem d_Odds_weigh_61 : decode prog_5_method_2_code 61 = .ok (.getfield 33, 3) := by decide +kernel
theorem d_Odds_weigh_64 : decode prog_5_method_2_code 64 = .ok (.aload_n 2, 1) := by decide +kernel
theorem d_Odds_weigh_65 : decode prog_5_method_2_code 65 = .ok (.iload 4, 2) := by decide +kernel
theorem d_Odds_weigh_67 : decode prog_5_method_2_code 67 = .ok (.iload 5, 2) := by decide +kernel
theorem d_Odds_weigh_69 : decode prog_5_method_2_code 69 = .ok (.invokevirtual 36, 3) := by decide +kernel
theorem d_Odds_weigh_72 : decode prog_5_method_2_code 72 = .ok (.iaload, 1) := by decide +kernel
theorem d_Odds_weigh_73 : decode prog_5_method_2_code 73 = .ok (.iaload, 1) := by decide +kernel
theorem d_Odds_weigh_74 : decode prog_5_method_2_code 74 = .ok (.invokevirtual 42, 3) := by decide +kernel
theorem d_Odds_weigh_77 : decode prog_5_method_2_code 77 = .ok (.iinc 5 1, 3) := by decide +kernel
theorem d_Odds_weigh_80 : decode prog_5_method_2_code 80 = .ok (.goto (-39), 3) := by decide +kernel
theorem d_Odds_weigh_83 : decode prog_5_method_2_code 83 = .ok (.iinc 4 1, 3) := by decide +kernel
theorem d_Odds_weigh_86 : decode prog_5_method_2_code 86 = .ok (.goto (-75), 3) := by decide +kernel
theorem d_Odds_weigh_89 : decode prog_5_method_2_code 89 = .ok (.return_, 1) := by decide +kernel
theorem d_Odds_meet_0 : decode prog_5_method_3_code 0 = .ok (.iload_n 2, 1) := by decide +kernel
theorem d_Odds_meet_1 : decode prog_5_method_3_code 1 = .ok (.aload_n 0, 1) := by decide +kernel
theorem d_Odds_meet_2 : decode prog_5_method_3_code 2 = .ok (.getfield 9, 3) := by decide +kernel
theorem d_Odds_meet_5 : decode prog_5_method_3_code 5 = .ok (.iload_n 1, 1) := by decide +kernel
theorem d_Odds_meet_6 : decode prog_5_method_3_code 6 = .ok (.iaload, 1) := by decide +kernel
theorem d_Odds_meet_7 : decode prog_5_method_3_code 7 = .ok (.if_icmp .ge 17, 3) := by decide +kernel
theorem d_Odds_meet_10 : decode prog_5_method_3_code 10 = .ok (.aload_n 0, 1) := by decide +kernel
theorem d_Odds_meet_11 : decode prog_5_method_3_code 11 = .ok (.getfield 9, 3) := by decide +kernel
theorem d_Odds_meet_14 : decode prog_5_method_3_code 14 = .ok (.iload_n 1, 1) := by decide +kernel
theorem d_Odds_meet_15 : decode prog_5_method_3_code 15 = .ok (.iload_n 2, 1) := by decide +kernel
theorem d_Odds_meet_16 : decode prog_5_method_3_code 16 = .ok (.iastore, 1) := by decide +kernel
theorem d_Odds_meet_17 : decode prog_5_method_3_code 17 = .ok (.aload_n 0, 1) := by decide +kernel
theorem d_Odds_meet_18 : decode prog_5_method_3_code 18 = .ok (.getfield 15, 3) := by decide +kernel
theorem d_Odds_meet_21 : decode prog_5_method_3_code 21 = .ok (.iload_n 1, 1) := by decide +kernel
theorem d_Odds_meet_22 : decode prog_5_method_3_code 22 = .ok (.iconst 0, 1) := by decide +kernel
theorem d_Odds_meet_23 : decode prog_5_method_3_code 23 = .ok (.iastore, 1) := by decide +kernel
theorem d_Odds_meet_24 : decode prog_5_method_3_code 24 = .ok (.iload_n 2, 1) := by decide +kernel
theorem d_Odds_meet_25 : decode prog_5_method_3_code 25 = .ok (.aload_n 0, 1) := by decide +kernel
theorem d_Odds_meet_26 : decode prog_5_method_3_code 26 = .ok (.getfield 9, 3) := by decide +kernel
theorem d_Odds_meet_29 : decode prog_5_method_3_code 29 = .ok (.iload_n 1, 1) := by decide +kernel
theorem d_Odds_meet_30 : decode prog_5_method_3_code 30 = .ok (.iaload, 1) := by decide +kernel
theorem d_Odds_meet_31 : decode prog_5_method_3_code 31 = .ok (.if_icmp .ne 13, 3) := by decide +kernel
theorem d_Odds_meet_34 : decode prog_5_method_3_code 34 = .ok (.aload_n 0, 1) := by decide +kernel
theorem d_Odds_meet_35 : decode prog_5_method_3_code 35 = .ok (.getfield 15, 3) := by decide +kernel
theorem d_Odds_meet_38 : decode prog_5_method_3_code 38 = .ok (.iload_n 1, 1) := by decide +kernel
theorem d_Odds_meet_39 : decode prog_5_method_3_code 39 = .ok (.dup2, 1) := by decide +kernel
theorem d_Odds_meet_40 : decode prog_5_method_3_code 40 = .ok (.iaload, 1) := by decide +kernel
theorem d_Odds_meet_41 : decode prog_5_method_3_code 41 = .ok (.iconst 1, 1) := by decide +kernel
theorem d_Odds_meet_42 : decode prog_5_method_3_code 42 = .ok (.iadd, 1) := by decide +kernel
theorem d_Odds_meet_43 : decode prog_5_method_3_code 43 = .ok (.iastore, 1) := by decide +kernel
theorem d_Odds_meet_44 : decode prog_5_method_3_code 44 = .ok (.return_, 1) := by decide +kernel
abbrev m_s8_Odds_meet : Room := { frames := 0, cells := 0, slots := 0, locals := 0 }
set_option maxHeartbeats 4000000 in
set_option maxRecDepth 100000 in
theorem s8_Odds_meet (l : Launch) (G : zG) (b0 : Nat) (b1 : Int32) (b2 : Int32) (b3 : Nat) (b4 : Nat) (b5 : Int32) (b6 : Nat → Int32) (b7 : Nat → Int32) (hb1 : zI b1 0 19) (hb5 : zI b5 0 20) : zM l G y_Odds_meet prog_5_method_3_code 3 (Option.none : Option Jvm.ClassFile.FieldType) m_s8_Odds_meet [.ref b0, .int b1, .int b2] [(b0, .inr (11, [.ref b3, .ref b4, .int b5])), (b3, .inl (G.2 0, 20, .inl b6)), (b4, .inl (G.2 0, 20, .inl b7))] (fun v w => ∃ (e0 : Nat → Int32), ∃ (e1 : Nat → Int32), v = none ∧ w = [(b0, .inr (11, [.ref b3, .ref b4, .int b5])), (b3, .inl (G.2 0, 20, .inl e0)), (b4, .inl (G.2 0, 20, .inl e1))]) := by
  refine z_start (by decide +kernel) (Nat.le_of_ble_eq_true rfl) ?_
  intro p e s m below meth c A Z hr hnm hA hP hD hS ls hl
  have Z : zC p s m _ meth c prog_5_method_3_code 3 "TraceMachines$Odds" G := Z
  obtain ⟨hx, hb, hml, hown, hts, hK, hN, hlocks⟩ := id Z
  have hl : lv_has ls 3 [(0, .ref b0), (1, .int b1), (2, .int b2)] := hl
  refine lv_iload_n hx hb d_Odds_meet_0 rfl (lv_at hl 2 rfl) ?_
  refine lv_aload_n hx hb d_Odds_meet_1 rfl (lv_at hl 0 rfl) ?_
  refine va_get (D := G.1) (ci := 11) (v := .ref b3) (C := R_Odds) (T := F_Odds) (N := 3) hx hb hts i_Odds hown hK hP 0 rfl rfl 0 (by decide) (hts _ q402) (fun _ h9 => h9) rfl d_Odds_meet_2 ?_
  refine lv_iload_n hx hb d_Odds_meet_5 rfl (lv_at hl 1 rfl) ?_
  refine va_iald hx hb hK hP 1 0 rfl rfl (zI.inn hb1 (by decide)) d_Odds_meet_6 ?_
  refine lv_topi (fun v_1 ev_1 => ?_)
  refine lv_icmp_ge (tgt := 24) hx hb d_Odds_meet_7 (by decide) (fun hc_2 => ?_) (fun hc_2 => ?_)
  · have _nhc_2 := hc_2
    have ni_3 := (fa_le _ _).mp hc_2
    refine lv_iload_n hx hb d_Odds_meet_24 rfl (lv_at hl 2 rfl) ?_
    refine lv_aload_n hx hb d_Odds_meet_25 rfl (lv_at hl 0 rfl) ?_
    refine va_get (D := G.1) (ci := 11) (v := .ref b3) (C := R_Odds) (T := F_Odds) (N := 3) hx hb hts i_Odds hown hK hP 0 rfl rfl 0 (by decide) (hts _ q402) (fun _ h9 => h9) rfl d_Odds_meet_26 ?_
    refine lv_iload_n hx hb d_Odds_meet_29 rfl (lv_at hl 1 rfl) ?_
    refine va_iald hx hb hK hP 1 0 rfl rfl (zI.inn hb1 (by decide)) d_Odds_meet_30 ?_
    refine lv_topi (fun v_4 ev_4 => ?_)
    obtain rfl : v_1 = v_4 := ev_1.trans ev_4.symm
    refine lv_icmp_ne (tgt := 44) hx hb d_Odds_meet_31 (by decide) (fun hc_5 => ?_) (fun hc_5 => ?_)
    · have _nhc_5 := hc_5
      have ni_6 : ¬ (b2 : Int32).toInt = (v_1 : Int32).toInt := fun z => hc_5 ((fa_eq _ _).mpr z)
      exact z_vret hx hb hr hlocks hP hD hS (Nat.le_of_ble_eq_true rfl) (Nat.le_of_ble_eq_true rfl) d_Odds_meet_44 ⟨b6, b7, rfl, rfl⟩
    · have _nhc_5 := hc_5
      have ni_7 := (fa_eq _ _).mp hc_5
      refine lv_aload_n hx hb d_Odds_meet_34 rfl (lv_at hl 0 rfl) ?_
      refine va_get (D := G.1) (ci := 11) (v := .ref b4) (C := R_Odds) (T := F_Odds) (N := 3) hx hb hts i_Odds hown hK hP 0 rfl rfl 1 (by decide) (hts _ q404) (fun _ h9 => h9) rfl d_Odds_meet_35 ?_
      refine lv_iload_n hx hb d_Odds_meet_38 rfl (lv_at hl 1 rfl) ?_
      refine lv_dup2_11 hx hb d_Odds_meet_39 rfl rfl ?_
      refine va_iald hx hb hK hP 2 0 rfl rfl (zI.inn hb1 (by decide)) d_Odds_meet_40 ?_
      refine lv_topi (fun v_8 ev_8 => ?_)
      refine lv_iconst (v := 1) hx hb d_Odds_meet_41 (by decide) ?_
      refine lv_iadd hx hb d_Odds_meet_42 ?_
      refine lv_topi (fun v_9 ev_9 => ?_)
      refine va_iast hx hb hK hP hD hS 2 0 rfl rfl (zI.inn hb1 (by decide)) d_Odds_meet_43 (fun H locs hP hD hS => ?_)
      obtain ⟨f_10, gf_10, uf_10, hP, hD⟩ := z_newFu 2 hP hD rfl
      have hP : va_P G.1 classes [(b0, .inr (11, [.ref b3, .ref b4, .int b5])), (b3, .inl (G.2 0, 20, .inl b6)), (b4, .inl (G.2 0, 20, .inl f_10))] H := hP
      have hD := z_tie hP hD rfl
      exact z_vret hx hb hr hlocks hP hD hS (Nat.le_of_ble_eq_true rfl) (Nat.le_of_ble_eq_true rfl) d_Odds_meet_44 ⟨b6, f_10, rfl, rfl⟩
  · have _nhc_2 := hc_2
    have ni_11 := (fa_lt _ _).mp (zi_nle hc_2)
    have hv_12 : zI b2 (-2147483648) 2147483646 := zI.lt_l (zI_all b2) (zI_all v_1) (zi_nle hc_2) (by decide)
    have hv_13 : zI v_1 (-2147483647) 2147483647 := zI.lt_r (zI_all b2) (zI_all v_1) (zi_nle hc_2) (by decide)
    refine lv_aload_n hx hb d_Odds_meet_10 rfl (lv_at hl 0 rfl) ?_
    refine va_get (D := G.1) (ci := 11) (v := .ref b3) (C := R_Odds) (T := F_Odds) (N := 3) hx hb hts i_Odds hown hK hP 0 rfl rfl 0 (by decide) (hts _ q402) (fun _ h9 => h9) rfl d_Odds_meet_11 ?_
    refine lv_iload_n hx hb d_Odds_meet_14 rfl (lv_at hl 1 rfl) ?_
    refine lv_iload_n hx hb d_Odds_meet_15 rfl (lv_at hl 2 rfl) ?_
    refine va_iast hx hb hK hP hD hS 1 0 rfl rfl (zI.inn hb1 (by decide)) d_Odds_meet_16 (fun H locs hP hD hS => ?_)
    obtain ⟨f_14, gf_14, uf_14, hP, hD⟩ := z_newFu 1 hP hD rfl
    have hP : va_P G.1 classes [(b0, .inr (11, [.ref b3, .ref b4, .int b5])), (b3, .inl (G.2 0, 20, .inl f_14)), (b4, .inl (G.2 0, 20, .inl b7))] H := hP
    have hD := z_tie hP hD rfl
    refine lv_aload_n hx hb d_Odds_meet_17 rfl (lv_at hl 0 rfl) ?_
    refine va_get (D := G.1) (ci := 11) (v := .ref b4) (C := R_Odds) (T := F_Odds) (N := 3) hx hb hts i_Odds hown hK hP 0 rfl rfl 1 (by decide) (hts _ q404) (fun _ h9 => h9) rfl d_Odds_meet_18 ?_
    refine lv_iload_n hx hb d_Odds_meet_21 rfl (lv_at hl 1 rfl) ?_
    refine lv_iconst (v := 0) hx hb d_Odds_meet_22 (by decide) ?_
    refine va_iast hx hb hK hP hD hS 2 0 rfl rfl (zI.inn hb1 (by decide)) d_Odds_meet_23 (fun H locs hP hD hS => ?_)
    obtain ⟨f_15, gf_15, uf_15, hP, hD⟩ := z_newFu 2 hP hD rfl
    have hP : va_P G.1 classes [(b0, .inr (11, [.ref b3, .ref b4, .int b5])), (b3, .inl (G.2 0, 20, .inl f_14)), (b4, .inl (G.2 0, 20, .inl f_15))] H := hP
    have hD := z_tie hP hD rfl
    refine lv_iload_n hx hb d_Odds_meet_24 rfl (lv_at hl 2 rfl) ?_
    refine lv_aload_n hx hb d_Odds_meet_25 rfl (lv_at hl 0 rfl) ?_
    refine va_get (D := G.1) (ci := 11) (v := .ref b3) (C := R_Odds) (T := F_Odds) (N := 3) hx hb hts i_Odds hown hK hP 0 rfl rfl 0 (by decide) (hts _ q402) (fun _ h9 => h9) rfl d_Odds_meet_26 ?_
    refine lv_iload_n hx hb d_Odds_meet_29 rfl (lv_at hl 1 rfl) ?_
    refine va_iald hx hb hK hP 1 0 rfl rfl (zI.inn hb1 (by decide)) d_Odds_meet_30 ?_
    refine lv_topi (fun v_16 ev_16 => ?_)
    obtain rfl : b2 = v_16 := gf_14.symm.trans ev_16.symm
    refine lv_icmp_ne (tgt := 44) hx hb d_Odds_meet_31 (by decide) (fun hc_17 => ?_) (fun hc_17 => ?_)
    · have _nhc_17 := hc_17
      have ni_18 : ¬ (b2 : Int32).toInt = (b2 : Int32).toInt := fun z => hc_17 ((fa_eq _ _).mpr z)
      exact z_vret hx hb hr hlocks hP hD hS (Nat.le_of_ble_eq_true rfl) (Nat.le_of_ble_eq_true rfl) d_Odds_meet_44 ⟨f_14, f_15, rfl, rfl⟩
    · have _nhc_17 := hc_17
      have ni_19 := (fa_eq _ _).mp hc_17
      refine lv_aload_n hx hb d_Odds_meet_34 rfl (lv_at hl 0 rfl) ?_
      refine va_get (D := G.1) (ci := 11) (v := .ref b4) (C := R_Odds) (T := F_Odds) (N := 3) hx hb hts i_Odds hown hK hP 0 rfl rfl 1 (by decide) (hts _ q404) (fun _ h9 => h9) rfl d_Odds_meet_35 ?_
      refine lv_iload_n hx hb d_Odds_meet_38 rfl (lv_at hl 1 rfl) ?_
      refine lv_dup2_11 hx hb d_Odds_meet_39 rfl rfl ?_
      refine va_iald hx hb hK hP 2 0 rfl rfl (zI.inn hb1 (by decide)) d_Odds_meet_40 ?_
      refine lv_topi (fun v_20 ev_20 => ?_)
      obtain rfl : v_20 = 0 := ev_20.trans gf_15
      refine lv_iconst (v := 1) hx hb d_Odds_meet_41 (by decide) ?_
      refine lv_iadd hx hb d_Odds_meet_42 ?_
      refine z_topi (y := 1) (by decide +kernel) ?_
      refine va_iast hx hb hK hP hD hS 2 0 rfl rfl (zI.inn hb1 (by decide)) d_Odds_meet_43 (fun H locs hP hD hS => ?_)
      obtain ⟨f_21, gf_21, uf_21, hP, hD⟩ := z_newFu 2 hP hD rfl
      have hP : va_P G.1 classes [(b0, .inr (11, [.ref b3, .ref b4, .int b5])), (b3, .inl (G.2 0, 20, .inl f_14)), (b4, .inl (G.2 0, 20, .inl f_21))] H := hP
      have hD := z_tie hP hD rfl
      exact z_vret hx hb hr hlocks hP hD hS (Nat.le_of_ble_eq_true rfl) (Nat.le_of_ble_eq_true rfl) d_Odds_meet_44 ⟨f_14, f_21, rfl, rfl⟩
abbrev m_s1_Odds_weigh : Room := { frames := 1, cells := 0, slots := 0, locals := 22 }
set_option maxHeartbeats 4000000 in
set_option maxRecDepth 100000 in
theorem s1_Odds_weigh (l : Launch) (G : zG) (b0 : Nat) (b1 : Nat) (b2 : Nat) (b3 : Nat) (b4 : Nat) (b5 : Nat) (b6 : Int32) (b7 : Nat → Int32) (b8 : Nat → Int32) (b9 : Int32) (b10 : Int32) (b11 : Int32) (b12 : Nat) (b13 : Nat) (b14 : Nat) (b15 : Nat → Int32) (b16 : Int32) (b17 : Int32) (b18 : Int32) (b19 : Nat) (b20 : Nat) (b21 : Nat) (b22 : Nat) (b23 : Nat) (b24 : Nat) (b25 : Nat) (b26 : Nat) (b27 : Nat → Int32) (b28 : Int32) (b29 : Int32) (b30 : Nat) (b31 : Nat) (b32 : Nat) (b33 : Nat) (b34 : Nat) (b35 : Nat) (b36 : Int32) (b37 : Nat) (b38 : Nat) (b39 : Nat) (b40 : Nat) (b41 : Nat) (b42 : Nat) (b43 : Nat → Int32) (b44 : Nat → Int32) (hb6 : zI b6 0 20) (hb9 : zI b9 0 20) (hb10 : zI b10 0 3) (hb11 : zI b11 0 20) (hb16 : zI b16 0 1) (hb18 : zI b18 0 241) (hb28 : zI b28 0 1) (hb29 : zI b29 0 241) (hb36 : zI b36 0 240) (hb15 : zR b15 0 12) (hb27 : zqa qP b27) (hb44 : zR b44 0 239) : zM l G y_Odds_weigh prog_5_method_2_code 6 (Option.none : Option Jvm.ClassFile.FieldType) m_s1_Odds_weigh [.ref b0, .ref b1, .ref b2, .ref b3] [(b0, .inr (11, [.ref b4, .ref b5, .int b6])), (b4, .inl (G.2 0, 20, .inl b7)), (b5, .inl (G.2 0, 20, .inl b8)), (b1, .inr (2, [.int b9, .int b10, .int b11, .ref b12, .ref b13, .ref b14])), (b12, .inl (G.2 0, 20, .inl b15)), (b2, .inr (3, [.int b16, .int b17, .int b18, .ref b19, .ref b20, .ref b21, .ref b22, .ref b23, .ref b24, .ref b25, .ref b26])), (b26, .inl (G.2 0, 260, .inl b27)), (b3, .inr (5, [.int b28, .int b29, .ref b30, .ref b31, .ref b32, .ref b33, .ref b34, .ref b35, .int b36, .ref b37, .ref b38, .ref b39, .ref b40, .ref b41, .ref b42])), (b38, .inl (G.2 0, 240, .inl b43)), (b42, .inl (G.2 0, 241, .inl b44))] (fun v w => ∃ (e0 : Nat → Int32), ∃ (e1 : Nat → Int32), v = none ∧ w = [(b0, .inr (11, [.ref b4, .ref b5, .int b9])), (b4, .inl (G.2 0, 20, .inl e0)), (b5, .inl (G.2 0, 20, .inl e1)), (b1, .inr (2, [.int b9, .int b10, .int b11, .ref b12, .ref b13, .ref b14])), (b12, .inl (G.2 0, 20, .inl b15)), (b2, .inr (3, [.int b16, .int b17, .int b18, .ref b19, .ref b20, .ref b21, .ref b22, .ref b23, .ref b24, .ref b25, .ref b26])), (b26, .inl (G.2 0, 260, .inl b27)), (b3, .inr (5, [.int b28, .int b29, .ref b30, .ref b31, .ref b32, .ref b33, .ref b34, .ref b35, .int b36, .ref b37, .ref b38, .ref b39, .ref b40, .ref b41, .ref b42])), (b38, .inl (G.2 0, 240, .inl b43)), (b42, .inl (G.2 0, 241, .inl b44))]) := by
  refine z_start (by decide +kernel) (Nat.le_of_ble_eq_true rfl) ?_
  intro p e s m below meth c A Z hr hnm hA hP hD hS ls hl
  have Z : zC p s m _ meth c prog_5_method_2_code 6 "TraceMachines$Odds" G := Z
  obtain ⟨hx, hb, hml, hown, hts, hK, hN, hlocks⟩ := id Z
  have hl : lv_has ls 6 [(0, .ref b0), (1, .ref b1), (2, .ref b2), (3, .ref b3)] := hl
  refine lv_aload_n hx hb d_Odds_weigh_0 rfl (lv_at hl 0 rfl) ?_
  refine lv_aload_n hx hb d_Odds_weigh_1 rfl (lv_at hl 1 rfl) ?_
  refine va_get (D := G.1) (ci := 2) (v := .int b9) (C := R_Traces) (T := F_Traces) (N := 6) hx hb hts i_Traces hown hK hP 3 rfl rfl 0 (by decide) (hts _ q53) (fun _ h9 => h9) rfl d_Odds_weigh_2 ?_
  refine va_put (D := G.1) (ci := 11) (v := .int b9) (ty := .int) (C := R_Odds) (T := F_Odds) (N := 3) hx hb hts i_Odds t_Odds t_Odds_ok n_Odds hown hK hP hD hS 0 rfl rfl 2 (by decide) (hts _ q406) (fun _ h9 => h9) rfl (by decide +kernel) rfl rfl (Nat.le_of_ble_eq_true rfl) d_Odds_weigh_5 (fun H locs hP hD hS => ?_)
  have hP : va_P G.1 classes [(b0, .inr (11, [.ref b4, .ref b5, .int b9])), (b4, .inl (G.2 0, 20, .inl b7)), (b5, .inl (G.2 0, 20, .inl b8)), (b1, .inr (2, [.int b9, .int b10, .int b11, .ref b12, .ref b13, .ref b14])), (b12, .inl (G.2 0, 20, .inl b15)), (b2, .inr (3, [.int b16, .int b17, .int b18, .ref b19, .ref b20, .ref b21, .ref b22, .ref b23, .ref b24, .ref b25, .ref b26])), (b26, .inl (G.2 0, 260, .inl b27)), (b3, .inr (5, [.int b28, .int b29, .ref b30, .ref b31, .ref b32, .ref b33, .ref b34, .ref b35, .int b36, .ref b37, .ref b38, .ref b39, .ref b40, .ref b41, .ref b42])), (b38, .inl (G.2 0, 240, .inl b43)), (b42, .inl (G.2 0, 241, .inl b44))] H := hP
  have hD := z_tie hP hD rfl
  refine lv_iconst (v := 0) hx hb d_Odds_weigh_8 (by decide) ?_
  refine lv_istore (lv' := [(4, .int 0), (0, .ref b0), (1, .ref b1), (2, .ref b2), (3, .ref b3)]) hx hb d_Odds_weigh_9 hl (by decide) rfl (fun ls hl => ?_)
  suffices key : ∀ (k_51 : Nat) (y_52 : Int32) (y_53 : Nat → Int32) (y_54 : Nat → Int32) (H : Heap) (locs : List Loc) (ls : Array Slot), (zI y_52 0 20) → (20 : Int) - y_52.toInt < (k_51 : Int) → va_P G.1 classes [(b0, .inr (11, [.ref b4, .ref b5, .int b9])), (b4, .inl (G.2 0, 20, .inl y_53)), (b5, .inl (G.2 0, 20, .inl y_54)), (b1, .inr (2, [.int b9, .int b10, .int b11, .ref b12, .ref b13, .ref b14])), (b12, .inl (G.2 0, 20, .inl b15)), (b2, .inr (3, [.int b16, .int b17, .int b18, .ref b19, .ref b20, .ref b21, .ref b22, .ref b23, .ref b24, .ref b25, .ref b26])), (b26, .inl (G.2 0, 260, .inl b27)), (b3, .inr (5, [.int b28, .int b29, .ref b30, .ref b31, .ref b32, .ref b33, .ref b34, .ref b35, .int b36, .ref b37, .ref b38, .ref b39, .ref b40, .ref b41, .ref b42])), (b38, .inl (G.2 0, 240, .inl b43)), (b42, .inl (G.2 0, 241, .inl b44))] H → va_D A [(b0, .inr (11, [.ref b4, .ref b5, .int b9])), (b4, .inl (G.2 0, 20, .inl y_53)), (b5, .inl (G.2 0, 20, .inl y_54)), (b1, .inr (2, [.int b9, .int b10, .int b11, .ref b12, .ref b13, .ref b14])), (b12, .inl (G.2 0, 20, .inl b15)), (b2, .inr (3, [.int b16, .int b17, .int b18, .ref b19, .ref b20, .ref b21, .ref b22, .ref b23, .ref b24, .ref b25, .ref b26])), (b26, .inl (G.2 0, 260, .inl b27)), (b3, .inr (5, [.int b28, .int b29, .ref b30, .ref b31, .ref b32, .ref b33, .ref b34, .ref b35, .int b36, .ref b37, .ref b38, .ref b39, .ref b40, .ref b41, .ref b42])), (b38, .inl (G.2 0, 240, .inl b43)), (b42, .inl (G.2 0, 241, .inl b44))] → va_S A s.heap H locs → lv_has ls 6 [(4, .int y_52), (0, .ref b0), (1, .ref b1), (2, .ref b2), (3, .ref b3)] → W p l e m_s1_Odds_weigh s m ([.ref b0, .ref b1, .ref b2, .ref b3] : List Value).toArray below meth c H locs 0 0 (MQ below (zQ G (fun v w => ∃ (e0 : Nat → Int32), ∃ (e1 : Nat → Int32), v = none ∧ w = [(b0, .inr (11, [.ref b4, .ref b5, .int b9])), (b4, .inl (G.2 0, 20, .inl e0)), (b5, .inl (G.2 0, 20, .inl e1)), (b1, .inr (2, [.int b9, .int b10, .int b11, .ref b12, .ref b13, .ref b14])), (b12, .inl (G.2 0, 20, .inl b15)), (b2, .inr (3, [.int b16, .int b17, .int b18, .ref b19, .ref b20, .ref b21, .ref b22, .ref b23, .ref b24, .ref b25, .ref b26])), (b26, .inl (G.2 0, 260, .inl b27)), (b3, .inr (5, [.int b28, .int b29, .ref b30, .ref b31, .ref b32, .ref b33, .ref b34, .ref b35, .int b36, .ref b37, .ref b38, .ref b39, .ref b40, .ref b41, .ref b42])), (b38, .inl (G.2 0, 240, .inl b43)), (b42, .inl (G.2 0, 241, .inl b44))]) A) ([.ref b0, .ref b1, .ref b2, .ref b3] : List Value).toArray s m_s1_Odds_weigh.cells m_s1_Odds_weigh.slots A) (F0 m 11 ls []) by
    exact key 21 (0) (b7) (b8) _ _ _ (zI.wk (l' := 0) (h' := 20) zc_0 (by decide)) (zm_upi (zI.wk (l' := 0) (h' := 20) zc_0 (by decide)) (by decide)) hP hD hS (lv_sub hl [0, 1, 2, 3, 4] rfl)
  intro k_51
  induction k_51 with
  | zero =>
    intro y_52 y_53 y_54 H locs ls hy_52 hmk_51 hP hD hS hl
    exact (zm_up0 hy_52 hmk_51).elim
  | succ k_51 ihk_51 =>
    intro y_52 y_53 y_54 H locs ls hy_52 hmk_51 hP hD hS hl
    refine lv_iload hx hb d_Odds_weigh_11 (lv_at hl 0 rfl) ?_
    refine lv_aload_n hx hb d_Odds_weigh_13 rfl (lv_at hl 1 rfl) ?_
    refine va_get (D := G.1) (ci := 11) (v := .int b9) (C := R_Odds) (T := F_Odds) (N := 3) hx hb hts i_Odds hown hK hP 0 rfl rfl 2 (by decide) (hts _ q406) (fun _ h9 => h9) rfl d_Odds_weigh_14 ?_
    refine lv_icmp_ge (tgt := 89) hx hb d_Odds_weigh_17 (by decide) (fun hc_55 => ?_) (fun hc_55 => ?_)
    · have _nhc_55 := hc_55
      have ni_56 := (fa_le _ _).mp hc_55
      exact z_vret hx hb hr hlocks hP hD hS (Nat.le_of_ble_eq_true rfl) (Nat.le_of_ble_eq_true rfl) d_Odds_weigh_89 ⟨y_53, y_54, rfl, rfl⟩
    · have _nhc_55 := hc_55
      have ni_57 := (fa_lt _ _).mp (zi_nle hc_55)
      have hv_58 : zI y_52 0 19 := zI.lt_l hy_52 hb9 (zi_nle hc_55) (by decide)
      have hv_59 : zI b9 1 20 := zI.lt_r hy_52 hb9 (zi_nle hc_55) (by decide)
      refine lv_aload_n hx hb d_Odds_weigh_20 rfl (lv_at hl 1 rfl) ?_
      refine va_get (D := G.1) (ci := 11) (v := .ref b4) (C := R_Odds) (T := F_Odds) (N := 3) hx hb hts i_Odds hown hK hP 0 rfl rfl 0 (by decide) (hts _ q402) (fun _ h9 => h9) rfl d_Odds_weigh_21 ?_
      refine lv_iload hx hb d_Odds_weigh_24 (lv_at hl 0 rfl) ?_
      refine lv_sipush (v := 999) hx hb d_Odds_weigh_26 (by decide) ?_
      refine va_iast hx hb hK hP hD hS 1 0 rfl rfl (zI.inn hv_58 (by decide)) d_Odds_weigh_29 (fun H locs hP hD hS => ?_)
      obtain ⟨f_60, gf_60, uf_60, hP, hD⟩ := z_newFu 1 hP hD rfl
      have hP : va_P G.1 classes [(b0, .inr (11, [.ref b4, .ref b5, .int b9])), (b4, .inl (G.2 0, 20, .inl f_60)), (b5, .inl (G.2 0, 20, .inl y_54)), (b1, .inr (2, [.int b9, .int b10, .int b11, .ref b12, .ref b13, .ref b14])), (b12, .inl (G.2 0, 20, .inl b15)), (b2, .inr (3, [.int b16, .int b17, .int b18, .ref b19, .ref b20, .ref b21, .ref b22, .ref b23, .ref b24, .ref b25, .ref b26])), (b26, .inl (G.2 0, 260, .inl b27)), (b3, .inr (5, [.int b28, .int b29, .ref b30, .ref b31, .ref b32, .ref b33, .ref b34, .ref b35, .int b36, .ref b37, .ref b38, .ref b39, .ref b40, .ref b41, .ref b42])), (b38, .inl (G.2 0, 240, .inl b43)), (b42, .inl (G.2 0, 241, .inl b44))] H := hP
      have hD := z_tie hP hD rfl
      refine lv_aload_n hx hb d_Odds_weigh_30 rfl (lv_at hl 1 rfl) ?_
      refine va_get (D := G.1) (ci := 11) (v := .ref b5) (C := R_Odds) (T := F_Odds) (N := 3) hx hb hts i_Odds hown hK hP 0 rfl rfl 1 (by decide) (hts _ q404) (fun _ h9 => h9) rfl d_Odds_weigh_31 ?_
      refine lv_iload hx hb d_Odds_weigh_34 (lv_at hl 0 rfl) ?_
      refine lv_iconst (v := 0) hx hb d_Odds_weigh_36 (by decide) ?_
      refine va_iast hx hb hK hP hD hS 2 0 rfl rfl (zI.inn hv_58 (by decide)) d_Odds_weigh_37 (fun H locs hP hD hS => ?_)
      obtain ⟨f_61, gf_61, uf_61, hP, hD⟩ := z_newFu 2 hP hD rfl
      have hP : va_P G.1 classes [(b0, .inr (11, [.ref b4, .ref b5, .int b9])), (b4, .inl (G.2 0, 20, .inl f_60)), (b5, .inl (G.2 0, 20, .inl f_61)), (b1, .inr (2, [.int b9, .int b10, .int b11, .ref b12, .ref b13, .ref b14])), (b12, .inl (G.2 0, 20, .inl b15)), (b2, .inr (3, [.int b16, .int b17, .int b18, .ref b19, .ref b20, .ref b21, .ref b22, .ref b23, .ref b24, .ref b25, .ref b26])), (b26, .inl (G.2 0, 260, .inl b27)), (b3, .inr (5, [.int b28, .int b29, .ref b30, .ref b31, .ref b32, .ref b33, .ref b34, .ref b35, .int b36, .ref b37, .ref b38, .ref b39, .ref b40, .ref b41, .ref b42])), (b38, .inl (G.2 0, 240, .inl b43)), (b42, .inl (G.2 0, 241, .inl b44))] H := hP
      have hD := z_tie hP hD rfl
      refine lv_iconst (v := 1) hx hb d_Odds_weigh_38 (by decide) ?_
      refine lv_istore (lv' := [(5, .int 1), (4, .int y_52), (0, .ref b0), (1, .ref b1), (2, .ref b2), (3, .ref b3)]) hx hb d_Odds_weigh_39 hl (by decide) rfl (fun ls hl => ?_)
      suffices key : ∀ (k_82 : Nat) (y_83 : Int32) (y_84 : Nat → Int32) (y_85 : Nat → Int32) (H : Heap) (locs : List Loc) (ls : Array Slot), (zI y_83 1 13) → (13 : Int) - y_83.toInt < (k_82 : Int) → va_P G.1 classes [(b0, .inr (11, [.ref b4, .ref b5, .int b9])), (b4, .inl (G.2 0, 20, .inl y_84)), (b5, .inl (G.2 0, 20, .inl y_85)), (b1, .inr (2, [.int b9, .int b10, .int b11, .ref b12, .ref b13, .ref b14])), (b12, .inl (G.2 0, 20, .inl b15)), (b2, .inr (3, [.int b16, .int b17, .int b18, .ref b19, .ref b20, .ref b21, .ref b22, .ref b23, .ref b24, .ref b25, .ref b26])), (b26, .inl (G.2 0, 260, .inl b27)), (b3, .inr (5, [.int b28, .int b29, .ref b30, .ref b31, .ref b32, .ref b33, .ref b34, .ref b35, .int b36, .ref b37, .ref b38, .ref b39, .ref b40, .ref b41, .ref b42])), (b38, .inl (G.2 0, 240, .inl b43)), (b42, .inl (G.2 0, 241, .inl b44))] H → va_D A [(b0, .inr (11, [.ref b4, .ref b5, .int b9])), (b4, .inl (G.2 0, 20, .inl y_84)), (b5, .inl (G.2 0, 20, .inl y_85)), (b1, .inr (2, [.int b9, .int b10, .int b11, .ref b12, .ref b13, .ref b14])), (b12, .inl (G.2 0, 20, .inl b15)), (b2, .inr (3, [.int b16, .int b17, .int b18, .ref b19, .ref b20, .ref b21, .ref b22, .ref b23, .ref b24, .ref b25, .ref b26])), (b26, .inl (G.2 0, 260, .inl b27)), (b3, .inr (5, [.int b28, .int b29, .ref b30, .ref b31, .ref b32, .ref b33, .ref b34, .ref b35, .int b36, .ref b37, .ref b38, .ref b39, .ref b40, .ref b41, .ref b42])), (b38, .inl (G.2 0, 240, .inl b43)), (b42, .inl (G.2 0, 241, .inl b44))] → va_S A s.heap H locs → lv_has ls 6 [(5, .int y_83), (4, .int y_52), (0, .ref b0), (1, .ref b1), (2, .ref b2), (3, .ref b3)] → W p l e m_s1_Odds_weigh s m ([.ref b0, .ref b1, .ref b2, .ref b3] : List Value).toArray below meth c H locs 0 0 (MQ below (zQ G (fun v w => ∃ (e0 : Nat → Int32), ∃ (e1 : Nat → Int32), v = none ∧ w = [(b0, .inr (11, [.ref b4, .ref b5, .int b9])), (b4, .inl (G.2 0, 20, .inl e0)), (b5, .inl (G.2 0, 20, .inl e1)), (b1, .inr (2, [.int b9, .int b10, .int b11, .ref b12, .ref b13, .ref b14])), (b12, .inl (G.2 0, 20, .inl b15)), (b2, .inr (3, [.int b16, .int b17, .int b18, .ref b19, .ref b20, .ref b21, .ref b22, .ref b23, .ref b24, .ref b25, .ref b26])), (b26, .inl (G.2 0, 260, .inl b27)), (b3, .inr (5, [.int b28, .int b29, .ref b30, .ref b31, .ref b32, .ref b33, .ref b34, .ref b35, .int b36, .ref b37, .ref b38, .ref b39, .ref b40, .ref b41, .ref b42])), (b38, .inl (G.2 0, 240, .inl b43)), (b42, .inl (G.2 0, 241, .inl b44))]) A) ([.ref b0, .ref b1, .ref b2, .ref b3] : List Value).toArray s m_s1_Odds_weigh.cells m_s1_Odds_weigh.slots A) (F0 m 41 ls []) by
        exact key 13 (1) (f_60) (f_61) _ _ _ (zI.wk (l' := 1) (h' := 13) zc_1 (by decide)) (zm_upi (zI.wk (l' := 1) (h' := 13) zc_1 (by decide)) (by decide)) hP hD hS (lv_sub hl [0, 1, 2, 3, 4, 5] rfl)
      intro k_82
      induction k_82 with
      | zero =>
        intro y_83 y_84 y_85 H locs ls hy_83 hmk_82 hP hD hS hl
        exact (zm_up0 hy_83 hmk_82).elim
      | succ k_82 ihk_82 =>
        intro y_83 y_84 y_85 H locs ls hy_83 hmk_82 hP hD hS hl
        refine lv_iload hx hb d_Odds_weigh_41 (lv_at hl 0 rfl) ?_
        refine lv_aload_n hx hb d_Odds_weigh_43 rfl (lv_at hl 3 rfl) ?_
        refine va_get (D := G.1) (ci := 2) (v := .ref b12) (C := R_Traces) (T := F_Traces) (N := 6) hx hb hts i_Traces hown hK hP 3 rfl rfl 3 (by decide) (hts _ q64) (fun _ h9 => h9) rfl d_Odds_weigh_44 ?_
        refine lv_iload hx hb d_Odds_weigh_47 (lv_at hl 1 rfl) ?_
        refine va_iald hx hb hK hP 4 0 rfl rfl (zI.inn hv_58 (by decide)) d_Odds_weigh_49 ?_
        refine lv_topi (fun v_86 ev_86 => ?_)
        have hv_86 : zI v_86 0 12 := (hb15 _).eq ev_86
        refine lv_icmp_gt (tgt := 83) hx hb d_Odds_weigh_50 (by decide) (fun hc_87 => ?_) (fun hc_87 => ?_)
        · have _nhc_87 := hc_87
          have ni_88 := (fa_lt _ _).mp hc_87
          obtain ⟨v_89, ev_89⟩ : ∃ z : Int32, z = y_52 + 1 := ⟨_, rfl⟩
          obtain ⟨qv_89, hv_89⟩ := zI_add (l := 1) (h := 20) hv_58 zc_1 ev_89 (by decide)
          rw [li_1] at qv_89
          refine lv_iinc (v := v_89) (lv' := [(4, .int v_89), (5, .int y_83), (0, .ref b0), (1, .ref b1), (2, .ref b2), (3, .ref b3)]) hx hb d_Odds_weigh_83 hl (k := 1) rfl (by rw [ev_89]; rfl) (by decide) rfl (fun ls hl => ?_)
          refine lv_goto (tgt := 11) hx hb d_Odds_weigh_86 (by decide) ?_
          exact ihk_51 (v_89) (y_84) (y_85) _ _ _ (zI.wk (l' := 0) (h' := 20) hv_89 (by decide)) (zm_up qv_89 hmk_51 (by decide)) hP hD hS (lv_sub hl [0, 2, 3, 4, 5] rfl)
        · have _nhc_87 := hc_87
          have ni_90 := (fa_le _ _).mp (zi_nlt hc_87)
          have hv_91 : zI y_83 1 12 := zI.le_l hy_83 hv_86 (zi_nlt hc_87) (by decide)
          have hv_92 : zI v_86 1 12 := zI.le_r hy_83 hv_86 (zi_nlt hc_87) (by decide)
          refine lv_aload_n hx hb d_Odds_weigh_53 rfl (lv_at hl 2 rfl) ?_
          refine lv_iload hx hb d_Odds_weigh_54 (lv_at hl 1 rfl) ?_
          refine lv_aload_n hx hb d_Odds_weigh_56 rfl (lv_at hl 5 rfl) ?_
          refine va_get (D := G.1) (ci := 5) (v := .ref b38) (C := R_Machine) (T := F_Machine) (N := 15) hx hb hts i_Machine hown hK hP 7 rfl rfl 10 (by decide) (hts _ q188) (fun _ h9 => h9) rfl d_Odds_weigh_57 ?_
          refine lv_aload_n hx hb d_Odds_weigh_60 rfl (lv_at hl 5 rfl) ?_
          refine va_get (D := G.1) (ci := 5) (v := .ref b42) (C := R_Machine) (T := F_Machine) (N := 15) hx hb hts i_Machine hown hK hP 7 rfl rfl 14 (by decide) (hts _ q199) (fun _ h9 => h9) rfl d_Odds_weigh_61 ?_
          refine lv_aload_n hx hb d_Odds_weigh_64 rfl (lv_at hl 4 rfl) ?_
          refine lv_iload hx hb d_Odds_weigh_65 (lv_at hl 1 rfl) ?_
          refine lv_iload hx hb d_Odds_weigh_67 (lv_at hl 0 rfl) ?_
          refine z_callV (index := 36) (As := [.int y_52, .int y_83]) (rest := [.ref b42, .ref b38, .int y_52, .ref b0]) (wr := [(b0, .inr (11, [.ref b4, .ref b5, .int b9])), (b4, .inl (G.2 0, 20, .inl y_84)), (b5, .inl (G.2 0, 20, .inl y_85)), (b1, .inr (2, [.int b9, .int b10, .int b11, .ref b12, .ref b13, .ref b14])), (b12, .inl (G.2 0, 20, .inl b15)), (b3, .inr (5, [.int b28, .int b29, .ref b30, .ref b31, .ref b32, .ref b33, .ref b34, .ref b35, .int b36, .ref b37, .ref b38, .ref b39, .ref b40, .ref b41, .ref b42])), (b38, .inl (G.2 0, 240, .inl b43)), (b42, .inl (G.2 0, 241, .inl b44))]) Z (s1_Tree_prefixAt l G (b2) (y_52) (y_83) (b16) (b17) (b18) (b19) (b20) (b21) (b22) (b23) (b24) (b25) (b26) (b27) hv_58 (zI.wk (l' := 0) (h' := 12) hv_91 (by decide)) hb16 hb18 hb27) hl.1 q965 q607 q608 q4 q609 ⟨by decide, by decide, by show _ = some 2; decide +kernel⟩ ⟨Nat.le_of_ble_eq_true rfl, Nat.le_of_ble_eq_true rfl⟩ ⟨Nat.le_of_ble_eq_true rfl, Nat.le_of_ble_eq_true rfl⟩ rfl (Nat.le_of_ble_eq_true rfl) d_Odds_weigh_69 hP hD hS hA 5 3 rfl rfl rfl [5, 6] [0, 1, 2, 3, 4, 7, 8, 9] rfl rfl rfl rfl (by decide) (fun v w1 H locs hw_93 hP hD hS => ?_)
          obtain ⟨x_94, rfl, rfl, hx_94, hfx_95, hfx_96⟩ := hw_93
          have hP : va_P G.1 classes [(b0, .inr (11, [.ref b4, .ref b5, .int b9])), (b4, .inl (G.2 0, 20, .inl y_84)), (b5, .inl (G.2 0, 20, .inl y_85)), (b1, .inr (2, [.int b9, .int b10, .int b11, .ref b12, .ref b13, .ref b14])), (b12, .inl (G.2 0, 20, .inl b15)), (b3, .inr (5, [.int b28, .int b29, .ref b30, .ref b31, .ref b32, .ref b33, .ref b34, .ref b35, .int b36, .ref b37, .ref b38, .ref b39, .ref b40, .ref b41, .ref b42])), (b38, .inl (G.2 0, 240, .inl b43)), (b42, .inl (G.2 0, 241, .inl b44)), (b2, .inr (3, [.int b16, .int b17, .int b18, .ref b19, .ref b20, .ref b21, .ref b22, .ref b23, .ref b24, .ref b25, .ref b26])), (b26, .inl (G.2 0, 260, .inl b27))] H := hP
          have hD := z_tie hP hD rfl
          refine W.widen (k := 0) (n := 0) (Nat.le_of_ble_eq_true rfl) (Nat.le_of_ble_eq_true rfl) ?_
          refine va_iald hx hb hK hP 7 0 rfl rfl (zI.inn hx_94 (by decide)) d_Odds_weigh_72 ?_
          refine lv_topi (fun v_97 ev_97 => ?_)
          have hv_97 : zI v_97 0 239 := (hb44 _).eq ev_97
          refine va_iald hx hb hK hP 6 0 rfl rfl (zI.inn hv_97 (by decide)) d_Odds_weigh_73 ?_
          refine lv_topi (fun v_98 ev_98 => ?_)
          refine z_callV (index := 42) (As := [.int y_52, .int v_98]) (rest := []) (wr := [(b1, .inr (2, [.int b9, .int b10, .int b11, .ref b12, .ref b13, .ref b14])), (b12, .inl (G.2 0, 20, .inl b15)), (b3, .inr (5, [.int b28, .int b29, .ref b30, .ref b31, .ref b32, .ref b33, .ref b34, .ref b35, .int b36, .ref b37, .ref b38, .ref b39, .ref b40, .ref b41, .ref b42])), (b38, .inl (G.2 0, 240, .inl b43)), (b42, .inl (G.2 0, 241, .inl b44)), (b2, .inr (3, [.int b16, .int b17, .int b18, .ref b19, .ref b20, .ref b21, .ref b22, .ref b23, .ref b24, .ref b25, .ref b26])), (b26, .inl (G.2 0, 260, .inl b27))]) Z (s8_Odds_meet l G (b0) (y_52) (v_98) (b4) (b5) (b9) (y_84) (y_85) hv_58 (zI.wk (l' := 0) (h' := 20) hv_59 (by decide))) hl.1 q966 q968 qs38 q12 q969 ⟨by decide, by decide, by show _ = some 2; decide +kernel⟩ ⟨Nat.le_of_ble_eq_true rfl, Nat.le_of_ble_eq_true rfl⟩ ⟨Nat.le_of_ble_eq_true rfl, Nat.le_of_ble_eq_true rfl⟩ rfl (Nat.le_of_ble_eq_true rfl) d_Odds_weigh_74 hP hD hS hA 0 11 rfl rfl rfl [0, 1, 2] [3, 4, 5, 6, 7, 8, 9] rfl rfl rfl rfl (by decide) (fun v w1 H locs hw_99 hP hD hS => ?_)
          obtain ⟨f_100, f_101, rfl, rfl⟩ := hw_99
          have hP : va_P G.1 classes [(b1, .inr (2, [.int b9, .int b10, .int b11, .ref b12, .ref b13, .ref b14])), (b12, .inl (G.2 0, 20, .inl b15)), (b3, .inr (5, [.int b28, .int b29, .ref b30, .ref b31, .ref b32, .ref b33, .ref b34, .ref b35, .int b36, .ref b37, .ref b38, .ref b39, .ref b40, .ref b41, .ref b42])), (b38, .inl (G.2 0, 240, .inl b43)), (b42, .inl (G.2 0, 241, .inl b44)), (b2, .inr (3, [.int b16, .int b17, .int b18, .ref b19, .ref b20, .ref b21, .ref b22, .ref b23, .ref b24, .ref b25, .ref b26])), (b26, .inl (G.2 0, 260, .inl b27)), (b0, .inr (11, [.ref b4, .ref b5, .int b9])), (b4, .inl (G.2 0, 20, .inl f_100)), (b5, .inl (G.2 0, 20, .inl f_101))] H := hP
          have hD := z_tie hP hD rfl
          refine W.widen (k := 0) (n := 0) (Nat.le_of_ble_eq_true rfl) (Nat.le_of_ble_eq_true rfl) ?_
          obtain ⟨v_102, ev_102⟩ : ∃ z : Int32, z = y_83 + 1 := ⟨_, rfl⟩
          obtain ⟨qv_102, hv_102⟩ := zI_add (l := 2) (h := 13) hv_91 zc_1 ev_102 (by decide)
          rw [li_1] at qv_102
          refine lv_iinc (v := v_102) (lv' := [(5, .int v_102), (4, .int y_52), (0, .ref b0), (1, .ref b1), (2, .ref b2), (3, .ref b3)]) hx hb d_Odds_weigh_77 hl (k := 0) rfl (by rw [ev_102]; rfl) (by decide) rfl (fun ls hl => ?_)
          refine lv_goto (tgt := 41) hx hb d_Odds_weigh_80 (by decide) ?_
          exact ihk_82 (v_102) (f_100) (f_101) _ _ _ (zI.wk (l' := 1) (h' := 13) hv_102 (by decide)) (zm_up qv_102 hmk_82 (by decide)) (hP.sub [7, 8, 9, 0, 1, 5, 6, 2, 3, 4] rfl) (hD.sub [7, 8, 9, 0, 1, 5, 6, 2, 3, 4] (by decide) rfl) hS (lv_sub hl [0, 1, 2, 3, 4, 5] rfl)
theorem d_Cover_gather_0 : decode prog_2_method_3_code 0 = .ok (.aload_n 0, 1) := by decide +kernel
theorem d_Cover_gather_1 : decode prog_2_method_3_code 1 = .ok (.aload_n 3, 1) := by decide +kernel
theorem d_Cover_gather_2 : decode prog_2_method_3_code 2 = .ok (.getfield 42, 3) := by decide +kernel
theorem d_Cover_gather_5 : decode prog_2_method_3_code 5 = .ok (.putfield 47, 3) := by decide +kernel
theorem d_Cover_gather_8 : decode prog_2_method_3_code 8 = .ok (.aload_n 0, 1) := by decide +kernel
theorem d_Cover_gather_9 : decode prog_2_method_3_code 9 = .ok (.getfield 9, 3) := by decide +kernel
theorem d_Cover_gather_12 : decode prog_2_method_3_code 12 = .ok (.iconst 0, 1) := by decide +kernel
theorem d_Cover_gather_13 : decode prog_2_method_3_code 13 = .ok (.invokestatic 48, 3) := by decide +kernel
theorem d_Cover_gather_16 : decode prog_2_method_3_code 16 = .ok (.iconst 0, 1) := by decide +kernel
theorem d_Cover_gather_17 : decode prog_2_method_3_code 17 = .ok (.istore 4, 2) := by decide +kernel
theorem d_Cover_gather_19 : decode prog_2_method_3_code 19 = .ok (.iload 4, 2) := by decide +kernel
theorem d_Cover_gather_21 : decode prog_2_method_3_code 21 = .ok (.aload_n 1, 1) := by decide +kernel
theorem d_Cover_gather_22 : decode prog_2_method_3_code 22 = .ok (.getfield 26, 3) := by decide +kernel
theorem d_Cover_gather_25 : decode prog_2_method_3_code 25 = .ok (.if_icmp .ge 55, 3) := by decide +kernel
theorem d_Cover_gather_28 : decode prog_2_method_3_code 28 = .ok (.iconst 1, 1) := by decide +kernel
theorem d_Cover_gather_29 : decode prog_2_method_3_code 29 = .ok (.istore 5, 2) := by decide +kernel
theorem d_Cover_gather_31 : decode prog_2_method_3_code 31 = .ok (.iload 5, 2) := by decide +kernel
theorem d_Cover_gather_33 : decode prog_2_method_3_code 33 = .ok (.aload_n 1, 1) := by decide +kernel
theorem d_Cover_gather_34 : decode prog_2_method_3_code 34 = .ok (.getfield 54, 3) := by decide +kernel
theorem d_Cover_gather_37 : decode prog_2_method_3_code 37 = .ok (.iload 4, 2) := by decide +kernel
theorem d_Cover_gather_39 : decode prog_2_method_3_code 39 = .ok (.iaload, 1) := by decide +kernel
theorem d_Cover_gather_40 : decode prog_2_method_3_code 40 = .ok (.if_icmp .gt 34, 3) := by decide +kernel
theorem d_Cover_gather_43 : decode prog_2_method_3_code 43 = .ok (.aload_n 0, 1) := by decide +kernel
theorem d_Cover_gather_44 : decode prog_2_method_3_code 44 = .ok (.getfield 9, 3) := by decide +kernel
theorem d_Cover_gather_47 : decode prog_2_method_3_code 47 = .ok (.aload_n 3, 1) := by decide +kernel
theorem d_Cover_gather_48 : decode prog_2_method_3_code 48 = .ok (.getfield 57, 3) := by decide +kernel
theorem d_Cover_gather_51 : decode prog_2_method_3_code 51 = .ok (.aload_n 2, 1) := by decide +kernel
theorem d_Cover_gather_52 : decode prog_2_method_3_code 52 = .ok (.iload 4, 2) := by decide +kernel
theorem d_Cover_gather_54 : decode prog_2_method_3_code 54 = .ok (.iload 5, 2) := by decide +kernel
theorem d_Cover_gather_56 : decode prog_2_method_3_code 56 = .ok (.invokevirtual 60, 3) := by decide +kernel
theorem d_Cover_gather_59 : decode prog_2_method_3_code 59 = .ok (.iaload, 1) := by decide +kernel
theorem d_Cover_gather_60 : decode prog_2_method_3_code 60 = .ok (.dup2, 1) := by decide +kernel
theorem d_Cover_gather_61 : decode prog_2_method_3_code 61 = .ok (.iaload, 1) := by decide +kernel
theorem d_Cover_gather_62 : decode prog_2_method_3_code 62 = .ok (.iconst 1, 1) := by decide +kernel
theorem d_Cover_gather_63 : decode prog_2_method_3_code 63 = .ok (.iload 4, 2) := by decide +kernel
theorem d_Cover_gather_65 : decode prog_2_method_3_code 65 = .ok (.ishl, 1) := by decide +kernel
theorem d_Cover_gather_66 : decode prog_2_method_3_code 66 = .ok (.ior, 1) := by decide +kernel
theorem d_Cover_gather_67 : decode prog_2_method_3_code 67 = .ok (.iastore, 1) := by decide +kernel
theorem d_Cover_gather_68 : decode prog_2_method_3_code 68 = .ok (.iinc 5 1, 3) := by decide +kernel
theorem d_Cover_gather_71 : decode prog_2_method_3_code 71 = .ok (.goto (-40), 3) := by decide +kernel
theorem d_Cover_gather_74 : decode prog_2_method_3_code 74 = .ok (.iinc 4 1, 3) := by decide +kernel
theorem d_Cover_gather_77 : decode prog_2_method_3_code 77 = .ok (.goto (-58), 3) := by decide +kernel
theorem d_Cover_gather_80 : decode prog_2_method_3_code 80 = .ok (.return_, 1) := by decide +kernel
abbrev m_s1_Cover_gather : Room := { frames := 1, cells := 0, slots := 0, locals := 23 }
set_option maxHeartbeats 4000000 in
set_option maxRecDepth 100000 in
theorem s1_Cover_gather (l : Launch) (G : zG) (b0 : Nat) (b1 : Nat) (b2 : Nat) (b3 : Nat) (b4 : Int32) (b5 : Int32) (b6 : Int32) (b7 : Nat) (b8 : Int32) (b9 : Nat → Int32) (b10 : Int32) (b11 : Int32) (b12 : Int32) (b13 : Nat) (b14 : Nat) (b15 : Nat) (b16 : Nat → Int32) (b17 : Int32) (b18 : Int32) (b19 : Int32) (b20 : Nat) (b21 : Nat) (b22 : Nat) (b23 : Nat) (b24 : Nat) (b25 : Nat) (b26 : Nat) (b27 : Nat) (b28 : Nat → Int32) (b29 : Int32) (b30 : Int32) (b31 : Nat) (b32 : Nat) (b33 : Nat) (b34 : Nat) (b35 : Nat) (b36 : Nat) (b37 : Int32) (b38 : Nat) (b39 : Nat) (b40 : Nat) (b41 : Nat) (b42 : Nat) (b43 : Nat) (b44 : Nat → Int32) (hb4 : zI b4 0 1) (hb8 : zI b8 0 240) (hb10 : zI b10 0 20) (hb11 : zI b11 0 3) (hb12 : zI b12 0 20) (hb17 : zI b17 0 1) (hb19 : zI b19 0 241) (hb29 : zI b29 0 1) (hb30 : zI b30 0 241) (hb37 : zI b37 0 240) (hb16 : zR b16 0 12) (hb28 : zqa qP b28) (hb44 : zR b44 0 239) : zM l G y_Cover_gather prog_2_method_3_code 6 (Option.none : Option Jvm.ClassFile.FieldType) m_s1_Cover_gather [.ref b0, .ref b1, .ref b2, .ref b3] [(b0, .inr (9, [.int b4, .int b5, .int b6, .ref b7, .int b8])), (b7, .inl (G.2 0, 240, .inl b9)), (b1, .inr (2, [.int b10, .int b11, .int b12, .ref b13, .ref b14, .ref b15])), (b13, .inl (G.2 0, 20, .inl b16)), (b2, .inr (3, [.int b17, .int b18, .int b19, .ref b20, .ref b21, .ref b22, .ref b23, .ref b24, .ref b25, .ref b26, .ref b27])), (b27, .inl (G.2 0, 260, .inl b28)), (b3, .inr (5, [.int b29, .int b30, .ref b31, .ref b32, .ref b33, .ref b34, .ref b35, .ref b36, .int b37, .ref b38, .ref b39, .ref b40, .ref b41, .ref b42, .ref b43])), (b43, .inl (G.2 0, 241, .inl b44))] (fun v w => ∃ (e0 : Nat → Int32), v = none ∧ w = [(b0, .inr (9, [.int b4, .int b5, .int b6, .ref b7, .int b37])), (b7, .inl (G.2 0, 240, .inl e0)), (b1, .inr (2, [.int b10, .int b11, .int b12, .ref b13, .ref b14, .ref b15])), (b13, .inl (G.2 0, 20, .inl b16)), (b2, .inr (3, [.int b17, .int b18, .int b19, .ref b20, .ref b21, .ref b22, .ref b23, .ref b24, .ref b25, .ref b26, .ref b27])), (b27, .inl (G.2 0, 260, .inl b28)), (b3, .inr (5, [.int b29, .int b30, .ref b31, .ref b32, .ref b33, .ref b34, .ref b35, .ref b36, .int b37, .ref b38, .ref b39, .ref b40, .ref b41, .ref b42, .ref b43])), (b43, .inl (G.2 0, 241, .inl b44))]) := by
  refine z_start (by decide +kernel) (Nat.le_of_ble_eq_true rfl) ?_
  intro p e s m below meth c A Z hr hnm hA hP hD hS ls hl
  have Z : zC p s m _ meth c prog_2_method_3_code 6 "TraceMachines$Cover" G := Z
  obtain ⟨hx, hb, hml, hown, hts, hK, hN, hlocks⟩ := id Z
  have hl : lv_has ls 6 [(0, .ref b0), (1, .ref b1), (2, .ref b2), (3, .ref b3)] := hl
  refine lv_aload_n hx hb d_Cover_gather_0 rfl (lv_at hl 0 rfl) ?_
  refine lv_aload_n hx hb d_Cover_gather_1 rfl (lv_at hl 3 rfl) ?_
  refine va_get (D := G.1) (ci := 5) (v := .int b37) (C := R_Machine) (T := F_Machine) (N := 15) hx hb hts i_Machine hown hK hP 6 rfl rfl 8 (by decide) (hts _ q182) (fun _ h9 => h9) rfl d_Cover_gather_2 ?_
  refine va_put (D := G.1) (ci := 9) (v := .int b37) (ty := .int) (C := R_Cover) (T := F_Cover) (N := 5) hx hb hts i_Cover t_Cover t_Cover_ok n_Cover hown hK hP hD hS 0 rfl rfl 4 (by decide) (hts _ q345) (fun _ h9 => h9) rfl (by decide +kernel) rfl rfl (Nat.le_of_ble_eq_true rfl) d_Cover_gather_5 (fun H locs hP hD hS => ?_)
  have hP : va_P G.1 classes [(b0, .inr (9, [.int b4, .int b5, .int b6, .ref b7, .int b37])), (b7, .inl (G.2 0, 240, .inl b9)), (b1, .inr (2, [.int b10, .int b11, .int b12, .ref b13, .ref b14, .ref b15])), (b13, .inl (G.2 0, 20, .inl b16)), (b2, .inr (3, [.int b17, .int b18, .int b19, .ref b20, .ref b21, .ref b22, .ref b23, .ref b24, .ref b25, .ref b26, .ref b27])), (b27, .inl (G.2 0, 260, .inl b28)), (b3, .inr (5, [.int b29, .int b30, .ref b31, .ref b32, .ref b33, .ref b34, .ref b35, .ref b36, .int b37, .ref b38, .ref b39, .ref b40, .ref b41, .ref b42, .ref b43])), (b43, .inl (G.2 0, 241, .inl b44))] H := hP
  have hD := z_tie hP hD rfl
  refine lv_aload_n hx hb d_Cover_gather_8 rfl (lv_at hl 0 rfl) ?_
  refine va_get (D := G.1) (ci := 9) (v := .ref b7) (C := R_Cover) (T := F_Cover) (N := 5) hx hb hts i_Cover hown hK hP 0 rfl rfl 3 (by decide) (hts _ q344) (fun _ h9 => h9) rfl d_Cover_gather_9 ?_
  refine lv_iconst (v := 0) hx hb d_Cover_gather_12 (by decide) ?_
  refine z_callS (index := 48) (As := [.ref b7, .int 0]) (rest := []) (wr := [(b0, .inr (9, [.int b4, .int b5, .int b6, .ref b7, .int b37])), (b1, .inr (2, [.int b10, .int b11, .int b12, .ref b13, .ref b14, .ref b15])), (b13, .inl (G.2 0, 20, .inl b16)), (b2, .inr (3, [.int b17, .int b18, .int b19, .ref b20, .ref b21, .ref b22, .ref b23, .ref b24, .ref b25, .ref b26, .ref b27])), (b27, .inl (G.2 0, 260, .inl b28)), (b3, .inr (5, [.int b29, .int b30, .ref b31, .ref b32, .ref b33, .ref b34, .ref b35, .ref b36, .int b37, .ref b38, .ref b39, .ref b40, .ref b41, .ref b42, .ref b43])), (b43, .inl (G.2 0, 241, .inl b44))]) Z (c_fill_I l G (b7) (240) (b9) (0) (by decide)) hl.1 q771 q415 q13 q416 ⟨by decide, by decide, by show _ = some 2; decide +kernel⟩ ⟨Nat.le_of_ble_eq_true rfl, Nat.le_of_ble_eq_true rfl⟩ ⟨Nat.le_of_ble_eq_true rfl, Nat.le_of_ble_eq_true rfl⟩ rfl (Nat.le_of_ble_eq_true rfl) d_Cover_gather_13 hP hD hS hA [1] [0, 2, 3, 4, 5, 6, 7] rfl rfl rfl rfl (by decide) (fun v w1 H locs hw_1 hP hD hS => ?_)
  obtain ⟨rfl, rfl⟩ := hw_1
  have hP : va_P G.1 classes [(b0, .inr (9, [.int b4, .int b5, .int b6, .ref b7, .int b37])), (b1, .inr (2, [.int b10, .int b11, .int b12, .ref b13, .ref b14, .ref b15])), (b13, .inl (G.2 0, 20, .inl b16)), (b2, .inr (3, [.int b17, .int b18, .int b19, .ref b20, .ref b21, .ref b22, .ref b23, .ref b24, .ref b25, .ref b26, .ref b27])), (b27, .inl (G.2 0, 260, .inl b28)), (b3, .inr (5, [.int b29, .int b30, .ref b31, .ref b32, .ref b33, .ref b34, .ref b35, .ref b36, .int b37, .ref b38, .ref b39, .ref b40, .ref b41, .ref b42, .ref b43])), (b43, .inl (G.2 0, 241, .inl b44)), (b7, .inl (G.2 0, 240, .inl (fun _ => 0)))] H := hP
  have hD := z_tie hP hD rfl
  refine W.widen (k := 0) (n := 0) (Nat.le_of_ble_eq_true rfl) (Nat.le_of_ble_eq_true rfl) ?_
  refine lv_iconst (v := 0) hx hb d_Cover_gather_16 (by decide) ?_
  refine lv_istore (lv' := [(4, .int 0), (0, .ref b0), (1, .ref b1), (2, .ref b2), (3, .ref b3)]) hx hb d_Cover_gather_17 hl (by decide) rfl (fun ls hl => ?_)
  suffices key : ∀ (k_47 : Nat) (y_48 : Int32) (y_49 : Nat → Int32) (H : Heap) (locs : List Loc) (ls : Array Slot), (zI y_48 0 20) → (20 : Int) - y_48.toInt < (k_47 : Int) → va_P G.1 classes [(b0, .inr (9, [.int b4, .int b5, .int b6, .ref b7, .int b37])), (b1, .inr (2, [.int b10, .int b11, .int b12, .ref b13, .ref b14, .ref b15])), (b13, .inl (G.2 0, 20, .inl b16)), (b2, .inr (3, [.int b17, .int b18, .int b19, .ref b20, .ref b21, .ref b22, .ref b23, .ref b24, .ref b25, .ref b26, .ref b27])), (b27, .inl (G.2 0, 260, .inl b28)), (b3, .inr (5, [.int b29, .int b30, .ref b31, .ref b32, .ref b33, .ref b34, .ref b35, .ref b36, .int b37, .ref b38, .ref b39, .ref b40, .ref b41, .ref b42, .ref b43])), (b43, .inl (G.2 0, 241, .inl b44)), (b7, .inl (G.2 0, 240, .inl y_49))] H → va_D A [(b0, .inr (9, [.int b4, .int b5, .int b6, .ref b7, .int b37])), (b1, .inr (2, [.int b10, .int b11, .int b12, .ref b13, .ref b14, .ref b15])), (b13, .inl (G.2 0, 20, .inl b16)), (b2, .inr (3, [.int b17, .int b18, .int b19, .ref b20, .ref b21, .ref b22, .ref b23, .ref b24, .ref b25, .ref b26, .ref b27])), (b27, .inl (G.2 0, 260, .inl b28)), (b3, .inr (5, [.int b29, .int b30, .ref b31, .ref b32, .ref b33, .ref b34, .ref b35, .ref b36, .int b37, .ref b38, .ref b39, .ref b40, .ref b41, .ref b42, .ref b43])), (b43, .inl (G.2 0, 241, .inl b44)), (b7, .inl (G.2 0, 240, .inl y_49))] → va_S A s.heap H locs → lv_has ls 6 [(4, .int y_48), (0, .ref b0), (1, .ref b1), (2, .ref b2), (3, .ref b3)] → W p l e m_s1_Cover_gather s m ([.ref b0, .ref b1, .ref b2, .ref b3] : List Value).toArray below meth c H locs 0 0 (MQ below (zQ G (fun v w => ∃ (e0 : Nat → Int32), v = none ∧ w = [(b0, .inr (9, [.int b4, .int b5, .int b6, .ref b7, .int b37])), (b7, .inl (G.2 0, 240, .inl e0)), (b1, .inr (2, [.int b10, .int b11, .int b12, .ref b13, .ref b14, .ref b15])), (b13, .inl (G.2 0, 20, .inl b16)), (b2, .inr (3, [.int b17, .int b18, .int b19, .ref b20, .ref b21, .ref b22, .ref b23, .ref b24, .ref b25, .ref b26, .ref b27])), (b27, .inl (G.2 0, 260, .inl b28)), (b3, .inr (5, [.int b29, .int b30, .ref b31, .ref b32, .ref b33, .ref b34, .ref b35, .ref b36, .int b37, .ref b38, .ref b39, .ref b40, .ref b41, .ref b42, .ref b43])), (b43, .inl (G.2 0, 241, .inl b44))]) A) ([.ref b0, .ref b1, .ref b2, .ref b3] : List Value).toArray s m_s1_Cover_gather.cells m_s1_Cover_gather.slots A) (F0 m 19 ls []) by
    exact key 21 (0) ((fun _ => 0)) _ _ _ (zI.wk (l' := 0) (h' := 20) zc_0 (by decide)) (zm_upi (zI.wk (l' := 0) (h' := 20) zc_0 (by decide)) (by decide)) hP hD hS (lv_sub hl [0, 1, 2, 3, 4] rfl)
  intro k_47
  induction k_47 with
  | zero =>
    intro y_48 y_49 H locs ls hy_48 hmk_47 hP hD hS hl
    exact (zm_up0 hy_48 hmk_47).elim
  | succ k_47 ihk_47 =>
    intro y_48 y_49 H locs ls hy_48 hmk_47 hP hD hS hl
    refine lv_iload hx hb d_Cover_gather_19 (lv_at hl 0 rfl) ?_
    refine lv_aload_n hx hb d_Cover_gather_21 rfl (lv_at hl 2 rfl) ?_
    refine va_get (D := G.1) (ci := 2) (v := .int b10) (C := R_Traces) (T := F_Traces) (N := 6) hx hb hts i_Traces hown hK hP 1 rfl rfl 0 (by decide) (hts _ q54) (fun _ h9 => h9) rfl d_Cover_gather_22 ?_
    refine lv_icmp_ge (tgt := 80) hx hb d_Cover_gather_25 (by decide) (fun hc_50 => ?_) (fun hc_50 => ?_)
    · have _nhc_50 := hc_50
      have ni_51 := (fa_le _ _).mp hc_50
      exact z_vret hx hb hr hlocks (hP.sub [0, 7, 1, 2, 3, 4, 5, 6] rfl) (hD.sub [0, 7, 1, 2, 3, 4, 5, 6] (by decide) rfl) hS (Nat.le_of_ble_eq_true rfl) (Nat.le_of_ble_eq_true rfl) d_Cover_gather_80 ⟨y_49, rfl, rfl⟩
    · have _nhc_50 := hc_50
      have ni_52 := (fa_lt _ _).mp (zi_nle hc_50)
      have hv_53 : zI y_48 0 19 := zI.lt_l hy_48 hb10 (zi_nle hc_50) (by decide)
      have hv_54 : zI b10 1 20 := zI.lt_r hy_48 hb10 (zi_nle hc_50) (by decide)
      refine lv_iconst (v := 1) hx hb d_Cover_gather_28 (by decide) ?_
      refine lv_istore (lv' := [(5, .int 1), (4, .int y_48), (0, .ref b0), (1, .ref b1), (2, .ref b2), (3, .ref b3)]) hx hb d_Cover_gather_29 hl (by decide) rfl (fun ls hl => ?_)
      suffices key : ∀ (k_74 : Nat) (y_75 : Int32) (y_76 : Nat → Int32) (H : Heap) (locs : List Loc) (ls : Array Slot), (zI y_75 1 13) → (13 : Int) - y_75.toInt < (k_74 : Int) → va_P G.1 classes [(b0, .inr (9, [.int b4, .int b5, .int b6, .ref b7, .int b37])), (b1, .inr (2, [.int b10, .int b11, .int b12, .ref b13, .ref b14, .ref b15])), (b13, .inl (G.2 0, 20, .inl b16)), (b2, .inr (3, [.int b17, .int b18, .int b19, .ref b20, .ref b21, .ref b22, .ref b23, .ref b24, .ref b25, .ref b26, .ref b27])), (b27, .inl (G.2 0, 260, .inl b28)), (b3, .inr (5, [.int b29, .int b30, .ref b31, .ref b32, .ref b33, .ref b34, .ref b35, .ref b36, .int b37, .ref b38, .ref b39, .ref b40, .ref b41, .ref b42, .ref b43])), (b43, .inl (G.2 0, 241, .inl b44)), (b7, .inl (G.2 0, 240, .inl y_76))] H → va_D A [(b0, .inr (9, [.int b4, .int b5, .int b6, .ref b7, .int b37])), (b1, .inr (2, [.int b10, .int b11, .int b12, .ref b13, .ref b14, .ref b15])), (b13, .inl (G.2 0, 20, .inl b16)), (b2, .inr (3, [.int b17, .int b18, .int b19, .ref b20, .ref b21, .ref b22, .ref b23, .ref b24, .ref b25, .ref b26, .ref b27])), (b27, .inl (G.2 0, 260, .inl b28)), (b3, .inr (5, [.int b29, .int b30, .ref b31, .ref b32, .ref b33, .ref b34, .ref b35, .ref b36, .int b37, .ref b38, .ref b39, .ref b40, .ref b41, .ref b42, .ref b43])), (b43, .inl (G.2 0, 241, .inl b44)), (b7, .inl (G.2 0, 240, .inl y_76))] → va_S A s.heap H locs → lv_has ls 6 [(5, .int y_75), (4, .int y_48), (0, .ref b0), (1, .ref b1), (2, .ref b2), (3, .ref b3)] → W p l e m_s1_Cover_gather s m ([.ref b0, .ref b1, .ref b2, .ref b3] : List Value).toArray below meth c H locs 0 0 (MQ below (zQ G (fun v w => ∃ (e0 : Nat → Int32), v = none ∧ w = [(b0, .inr (9, [.int b4, .int b5, .int b6, .ref b7, .int b37])), (b7, .inl (G.2 0, 240, .inl e0)), (b1, .inr (2, [.int b10, .int b11, .int b12, .ref b13, .ref b14, .ref b15])), (b13, .inl (G.2 0, 20, .inl b16)), (b2, .inr (3, [.int b17, .int b18, .int b19, .ref b20, .ref b21, .ref b22, .ref b23, .ref b24, .ref b25, .ref b26, .ref b27])), (b27, .inl (G.2 0, 260, .inl b28)), (b3, .inr (5, [.int b29, .int b30, .ref b31, .ref b32, .ref b33, .ref b34, .ref b35, .ref b36, .int b37, .ref b38, .ref b39, .ref b40, .ref b41, .ref b42, .ref b43])), (b43, .inl (G.2 0, 241, .inl b44))]) A) ([.ref b0, .ref b1, .ref b2, .ref b3] : List Value).toArray s m_s1_Cover_gather.cells m_s1_Cover_gather.slots A) (F0 m 31 ls []) by
        exact key 13 (1) (y_49) _ _ _ (zI.wk (l' := 1) (h' := 13) zc_1 (by decide)) (zm_upi (zI.wk (l' := 1) (h' := 13) zc_1 (by decide)) (by decide)) hP hD hS (lv_sub hl [0, 1, 2, 3, 4, 5] rfl)
      intro k_74
      induction k_74 with
      | zero =>
        intro y_75 y_76 H locs ls hy_75 hmk_74 hP hD hS hl
        exact (zm_up0 hy_75 hmk_74).elim
      | succ k_74 ihk_74 =>
        intro y_75 y_76 H locs ls hy_75 hmk_74 hP hD hS hl
        refine lv_iload hx hb d_Cover_gather_31 (lv_at hl 0 rfl) ?_
        refine lv_aload_n hx hb d_Cover_gather_33 rfl (lv_at hl 3 rfl) ?_
        refine va_get (D := G.1) (ci := 2) (v := .ref b13) (C := R_Traces) (T := F_Traces) (N := 6) hx hb hts i_Traces hown hK hP 1 rfl rfl 3 (by decide) (hts _ q66) (fun _ h9 => h9) rfl d_Cover_gather_34 ?_
        refine lv_iload hx hb d_Cover_gather_37 (lv_at hl 1 rfl) ?_
        refine va_iald hx hb hK hP 2 0 rfl rfl (zI.inn hv_53 (by decide)) d_Cover_gather_39 ?_
        refine lv_topi (fun v_77 ev_77 => ?_)
        have hv_77 : zI v_77 0 12 := (hb16 _).eq ev_77
        refine lv_icmp_gt (tgt := 74) hx hb d_Cover_gather_40 (by decide) (fun hc_78 => ?_) (fun hc_78 => ?_)
        · have _nhc_78 := hc_78
          have ni_79 := (fa_lt _ _).mp hc_78
          obtain ⟨v_80, ev_80⟩ : ∃ z : Int32, z = y_48 + 1 := ⟨_, rfl⟩
          obtain ⟨qv_80, hv_80⟩ := zI_add (l := 1) (h := 20) hv_53 zc_1 ev_80 (by decide)
          rw [li_1] at qv_80
          refine lv_iinc (v := v_80) (lv' := [(4, .int v_80), (5, .int y_75), (0, .ref b0), (1, .ref b1), (2, .ref b2), (3, .ref b3)]) hx hb d_Cover_gather_74 hl (k := 1) rfl (by rw [ev_80]; rfl) (by decide) rfl (fun ls hl => ?_)
          refine lv_goto (tgt := 19) hx hb d_Cover_gather_77 (by decide) ?_
          exact ihk_47 (v_80) (y_76) _ _ _ (zI.wk (l' := 0) (h' := 20) hv_80 (by decide)) (zm_up qv_80 hmk_47 (by decide)) hP hD hS (lv_sub hl [0, 2, 3, 4, 5] rfl)
        · have _nhc_78 := hc_78
          have ni_81 := (fa_le _ _).mp (zi_nlt hc_78)
          have hv_82 : zI y_75 1 12 := zI.le_l hy_75 hv_77 (zi_nlt hc_78) (by decide)
          have hv_83 : zI v_77 1 12 := zI.le_r hy_75 hv_77 (zi_nlt hc_78) (by decide)
          refine lv_aload_n hx hb d_Cover_gather_43 rfl (lv_at hl 2 rfl) ?_
          refine va_get (D := G.1) (ci := 9) (v := .ref b7) (C := R_Cover) (T := F_Cover) (N := 5) hx hb hts i_Cover hown hK hP 0 rfl rfl 3 (by decide) (hts _ q344) (fun _ h9 => h9) rfl d_Cover_gather_44 ?_
          refine lv_aload_n hx hb d_Cover_gather_47 rfl (lv_at hl 5 rfl) ?_
          refine va_get (D := G.1) (ci := 5) (v := .ref b43) (C := R_Machine) (T := F_Machine) (N := 15) hx hb hts i_Machine hown hK hP 5 rfl rfl 14 (by decide) (hts _ q200) (fun _ h9 => h9) rfl d_Cover_gather_48 ?_
          refine lv_aload_n hx hb d_Cover_gather_51 rfl (lv_at hl 4 rfl) ?_
          refine lv_iload hx hb d_Cover_gather_52 (lv_at hl 1 rfl) ?_
          refine lv_iload hx hb d_Cover_gather_54 (lv_at hl 0 rfl) ?_
          refine z_callV (index := 60) (As := [.int y_48, .int y_75]) (rest := [.ref b43, .ref b7]) (wr := [(b0, .inr (9, [.int b4, .int b5, .int b6, .ref b7, .int b37])), (b1, .inr (2, [.int b10, .int b11, .int b12, .ref b13, .ref b14, .ref b15])), (b13, .inl (G.2 0, 20, .inl b16)), (b3, .inr (5, [.int b29, .int b30, .ref b31, .ref b32, .ref b33, .ref b34, .ref b35, .ref b36, .int b37, .ref b38, .ref b39, .ref b40, .ref b41, .ref b42, .ref b43])), (b43, .inl (G.2 0, 241, .inl b44)), (b7, .inl (G.2 0, 240, .inl y_76))]) Z (s1_Tree_prefixAt l G (b2) (y_48) (y_75) (b17) (b18) (b19) (b20) (b21) (b22) (b23) (b24) (b25) (b26) (b27) (b28) hv_53 (zI.wk (l' := 0) (h' := 12) hv_82 (by decide)) hb17 hb19 hb28) hl.1 q772 q607 q608 q4 q609 ⟨by decide, by decide, by show _ = some 2; decide +kernel⟩ ⟨Nat.le_of_ble_eq_true rfl, Nat.le_of_ble_eq_true rfl⟩ ⟨Nat.le_of_ble_eq_true rfl, Nat.le_of_ble_eq_true rfl⟩ rfl (Nat.le_of_ble_eq_true rfl) d_Cover_gather_56 hP hD hS hA 3 3 rfl rfl rfl [3, 4] [0, 1, 2, 5, 6, 7] rfl rfl rfl rfl (by decide) (fun v w1 H locs hw_84 hP hD hS => ?_)
          obtain ⟨x_85, rfl, rfl, hx_85, hfx_86, hfx_87⟩ := hw_84
          have hP : va_P G.1 classes [(b0, .inr (9, [.int b4, .int b5, .int b6, .ref b7, .int b37])), (b1, .inr (2, [.int b10, .int b11, .int b12, .ref b13, .ref b14, .ref b15])), (b13, .inl (G.2 0, 20, .inl b16)), (b3, .inr (5, [.int b29, .int b30, .ref b31, .ref b32, .ref b33, .ref b34, .ref b35, .ref b36, .int b37, .ref b38, .ref b39, .ref b40, .ref b41, .ref b42, .ref b43])), (b43, .inl (G.2 0, 241, .inl b44)), (b7, .inl (G.2 0, 240, .inl y_76)), (b2, .inr (3, [.int b17, .int b18, .int b19, .ref b20, .ref b21, .ref b22, .ref b23, .ref b24, .ref b25, .ref b26, .ref b27])), (b27, .inl (G.2 0, 260, .inl b28))] H := hP
          have hD := z_tie hP hD rfl
          refine W.widen (k := 0) (n := 0) (Nat.le_of_ble_eq_true rfl) (Nat.le_of_ble_eq_true rfl) ?_
          refine va_iald hx hb hK hP 4 0 rfl rfl (zI.inn hx_85 (by decide)) d_Cover_gather_59 ?_
          refine lv_topi (fun v_88 ev_88 => ?_)
          have hv_88 : zI v_88 0 239 := (hb44 _).eq ev_88
          refine lv_dup2_11 hx hb d_Cover_gather_60 rfl rfl ?_
          refine va_iald hx hb hK hP 5 0 rfl rfl (zI.inn hv_88 (by decide)) d_Cover_gather_61 ?_
          refine lv_topi (fun v_89 ev_89 => ?_)
          refine lv_iconst (v := 1) hx hb d_Cover_gather_62 (by decide) ?_
          refine lv_iload hx hb d_Cover_gather_63 (lv_at hl 1 rfl) ?_
          refine lv_ishl hx hb d_Cover_gather_65 ?_
          refine lv_topi (fun v_90 ev_90 => ?_)
          refine lv_ior hx hb d_Cover_gather_66 ?_
          refine lv_topi (fun v_91 ev_91 => ?_)
          refine va_iast hx hb hK hP hD hS 5 0 rfl rfl (zI.inn hv_88 (by decide)) d_Cover_gather_67 (fun H locs hP hD hS => ?_)
          obtain ⟨f_92, gf_92, uf_92, hP, hD⟩ := z_newFu 5 hP hD rfl
          have hP : va_P G.1 classes [(b0, .inr (9, [.int b4, .int b5, .int b6, .ref b7, .int b37])), (b1, .inr (2, [.int b10, .int b11, .int b12, .ref b13, .ref b14, .ref b15])), (b13, .inl (G.2 0, 20, .inl b16)), (b3, .inr (5, [.int b29, .int b30, .ref b31, .ref b32, .ref b33, .ref b34, .ref b35, .ref b36, .int b37, .ref b38, .ref b39, .ref b40, .ref b41, .ref b42, .ref b43])), (b43, .inl (G.2 0, 241, .inl b44)), (b7, .inl (G.2 0, 240, .inl f_92)), (b2, .inr (3, [.int b17, .int b18, .int b19, .ref b20, .ref b21, .ref b22, .ref b23, .ref b24, .ref b25, .ref b26, .ref b27])), (b27, .inl (G.2 0, 260, .inl b28))] H := hP
          have hD := z_tie hP hD rfl
          obtain ⟨v_93, ev_93⟩ : ∃ z : Int32, z = y_75 + 1 := ⟨_, rfl⟩
          obtain ⟨qv_93, hv_93⟩ := zI_add (l := 2) (h := 13) hv_82 zc_1 ev_93 (by decide)
          rw [li_1] at qv_93
          refine lv_iinc (v := v_93) (lv' := [(5, .int v_93), (4, .int y_48), (0, .ref b0), (1, .ref b1), (2, .ref b2), (3, .ref b3)]) hx hb d_Cover_gather_68 hl (k := 0) rfl (by rw [ev_93]; rfl) (by decide) rfl (fun ls hl => ?_)
          refine lv_goto (tgt := 31) hx hb d_Cover_gather_71 (by decide) ?_
          exact ihk_74 (v_93) (f_92) _ _ _ (zI.wk (l' := 1) (h' := 13) hv_93 (by decide)) (zm_up qv_93 hmk_74 (by decide)) (hP.sub [0, 1, 2, 6, 7, 3, 4, 5] rfl) (hD.sub [0, 1, 2, 6, 7, 3, 4, 5] (by decide) rfl) hS (lv_sub hl [0, 1, 2, 3, 4, 5] rfl)
theorem d_Cover_leaveOutImplied_0 : decode prog_2_method_4_code 0 = .ok (.iconst 0, 1) := by decide +kernel
theorem d_Cover_leaveOutImplied_1 : decode prog_2_method_4_code 1 = .ok (.istore_n 1, 1) := by decide +kernel
theorem d_Cover_leaveOutImplied_2 : decode prog_2_method_4_code 2 = .ok (.iconst 0, 1) := by decide +kernel
theorem d_Cover_leaveOutImplied_3 : decode prog_2_method_4_code 3 = .ok (.istore_n 2, 1) := by decide +kernel
theorem d_Cover_leaveOutImplied_4 : decode prog_2_method_4_code 4 = .ok (.iload_n 2, 1) := by decide +kernel
theorem d_Cover_leaveOutImplied_5 : decode prog_2_method_4_code 5 = .ok (.aload_n 0, 1) := by decide +kernel
theorem d_Cover_leaveOutImplied_6 : decode prog_2_method_4_code 6 = .ok (.getfield 47, 3) := by decide +kernel
theorem d_Cover_leaveOutImplied_9 : decode prog_2_method_4_code 9 = .ok (.if_icmp .ge 33, 3) := by decide +kernel
theorem d_Cover_leaveOutImplied_12 : decode prog_2_method_4_code 12 = .ok (.aload_n 0, 1) := by decide +kernel
theorem d_Cover_leaveOutImplied_13 : decode prog_2_method_4_code 13 = .ok (.iload_n 2, 1) := by decide +kernel
theorem d_Cover_leaveOutImplied_14 : decode prog_2_method_4_code 14 = .ok (.iload_n 1, 1) := by decide +kernel
theorem d_Cover_leaveOutImplied_15 : decode prog_2_method_4_code 15 = .ok (.invokevirtual 66, 3) := by decide +kernel
theorem d_Cover_leaveOutImplied_18 : decode prog_2_method_4_code 18 = .ok (.ifCond .ne 18, 3) := by decide +kernel
theorem d_Cover_leaveOutImplied_21 : decode prog_2_method_4_code 21 = .ok (.aload_n 0, 1) := by decide +kernel
theorem d_Cover_leaveOutImplied_22 : decode prog_2_method_4_code 22 = .ok (.getfield 9, 3) := by decide +kernel
theorem d_Cover_leaveOutImplied_25 : decode prog_2_method_4_code 25 = .ok (.iload_n 1, 1) := by decide +kernel
theorem d_Cover_leaveOutImplied_26 : decode prog_2_method_4_code 26 = .ok (.aload_n 0, 1) := by decide +kernel
theorem d_Cover_leaveOutImplied_27 : decode prog_2_method_4_code 27 = .ok (.getfield 9, 3) := by decide +kernel
theorem d_Cover_leaveOutImplied_30 : decode prog_2_method_4_code 30 = .ok (.iload_n 2, 1) := by decide +kernel
theorem d_Cover_leaveOutImplied_31 : decode prog_2_method_4_code 31 = .ok (.iaload, 1) := by decide +kernel
theorem d_Cover_leaveOutImplied_32 : decode prog_2_method_4_code 32 = .ok (.iastore, 1) := by decide +kernel
theorem d_Cover_leaveOutImplied_33 : decode prog_2_method_4_code 33 = .ok (.iinc 1 1, 3) := by decide +kernel
theorem d_Cover_leaveOutImplied_36 : decode prog_2_method_4_code 36 = .ok (.iinc 2 1, 3) := by decide +kernel
theorem d_Cover_leaveOutImplied_39 : decode prog_2_method_4_code 39 = .ok (.goto (-35), 3) := by decide +kernel
theorem d_Cover_leaveOutImplied_42 : decode prog_2_method_4_code 42 = .ok (.aload_n 0, 1) := by decide +kernel
theorem d_Cover_leaveOutImplied_43 : decode prog_2_method_4_code 43 = .ok (.iload_n 1, 1) := by decide +kernel
theorem d_Cover_leaveOutImplied_44 : decode prog_2_method_4_code 44 = .ok (.putfield 47, 3) := by decide +kernel
theorem d_Cover_leaveOutImplied_47 : decode prog_2_method_4_code 47 = .ok (.return_, 1) := by decide +kernel
theorem d_Cover_isImplied_0 : decode prog_2_method_5_code 0 = .ok (.iconst 0, 1) := by decide +kernel
theorem d_Cover_isImplied_1 : decode prog_2_method_5_code 1 = .ok (.istore_n 3, 1) := by decide +kernel
theorem d_Cover_isImplied_2 : decode prog_2_method_5_code 2 = .ok (.iload_n 3, 1) := by decide +kernel
theorem d_Cover_isImplied_3 : decode prog_2_method_5_code 3 = .ok (.iload_n 2, 1) := by decide +kernel
theorem d_Cover_isImplied_4 : decode prog_2_method_5_code 4 = .ok (.if_icmp .ge 29, 3) := by decide +kernel
theorem d_Cover_isImplied_7 : decode prog_2_method_5_code 7 = .ok (.aload_n 0, 1) := by decide +kernel
theorem d_Cover_isImplied_8 : decode prog_2_method_5_code 8 = .ok (.getfield 9, 3) := by decide +kernel
theorem d_Cover_isImplied_11 : decode prog_2_method_5_code 11 = .ok (.iload_n 3, 1) := by decide +kernel
theorem d_Cover_isImplied_12 : decode prog_2_method_5_code 12 = .ok (.iaload, 1) := by decide +kernel
theorem d_Cover_isImplied_13 : decode prog_2_method_5_code 13 = .ok (.aload_n 0, 1) := by decide +kernel
theorem d_Cover_isImplied_14 : decode prog_2_method_5_code 14 = .ok (.getfield 9, 3) := by decide +kernel
theorem d_Cover_isImplied_17 : decode prog_2_method_5_code 17 = .ok (.iload_n 1, 1) := by decide +kernel
theorem d_Cover_isImplied_18 : decode prog_2_method_5_code 18 = .ok (.iaload, 1) := by decide +kernel
theorem d_Cover_isImplied_19 : decode prog_2_method_5_code 19 = .ok (.iconst (-1), 1) := by decide +kernel
theorem d_Cover_isImplied_20 : decode prog_2_method_5_code 20 = .ok (.ixor, 1) := by decide +kernel
theorem d_Cover_isImplied_21 : decode prog_2_method_5_code 21 = .ok (.iand, 1) := by decide +kernel
theorem d_Cover_isImplied_22 : decode prog_2_method_5_code 22 = .ok (.ifCond .ne 5, 3) := by decide +kernel
theorem d_Cover_isImplied_25 : decode prog_2_method_5_code 25 = .ok (.iconst 1, 1) := by decide +kernel
theorem d_Cover_isImplied_26 : decode prog_2_method_5_code 26 = .ok (.ireturn, 1) := by decide +kernel
theorem d_Cover_isImplied_27 : decode prog_2_method_5_code 27 = .ok (.iinc 3 1, 3) := by decide +kernel
theorem d_Cover_isImplied_30 : decode prog_2_method_5_code 30 = .ok (.goto (-28), 3) := by decide +kernel
theorem d_Cover_isImplied_33 : decode prog_2_method_5_code 33 = .ok (.iload_n 1, 1) := by decide +kernel
theorem d_Cover_isImplied_34 : decode prog_2_method_5_code 34 = .ok (.iconst 1, 1) := by decide +kernel
theorem d_Cover_isImplied_35 : decode prog_2_method_5_code 35 = .ok (.iadd, 1) := by decide +kernel
theorem d_Cover_isImplied_36 : decode prog_2_method_5_code 36 = .ok (.istore_n 3, 1) := by decide +kernel
theorem d_Cover_isImplied_37 : decode prog_2_method_5_code 37 = .ok (.iload_n 3, 1) := by decide +kernel
theorem d_Cover_isImplied_38 : decode prog_2_method_5_code 38 = .ok (.aload_n 0, 1) := by decide +kernel
theorem d_Cover_isImplied_39 : decode prog_2_method_5_code 39 = .ok (.getfield 47, 3) := by decide +kernel
theorem d_Cover_isImplied_42 : decode prog_2_method_5_code 42 = .ok (.if_icmp .ge 44, 3) := by decide +kernel
theorem d_Cover_isImplied_45 : decode prog_2_method_5_code 45 = .ok (.aload_n 0, 1) := by decide +kernel
theorem d_Cover_isImplied_46 : decode prog_2_method_5_code 46 = .ok (.getfield 9, 3) := by decide +kernel
theorem d_Cover_isImplied_49 : decode prog_2_method_5_code 49 = .ok (.iload_n 3, 1) := by decide +kernel
theorem d_Cover_isImplied_50 : decode prog_2_method_5_code 50 = .ok (.iaload, 1) := by decide +kernel
theorem d_Cover_isImplied_51 : decode prog_2_method_5_code 51 = .ok (.aload_n 0, 1) := by decide +kernel
theorem d_Cover_isImplied_52 : decode prog_2_method_5_code 52 = .ok (.getfield 9, 3) := by decide +kernel
theorem d_Cover_isImplied_55 : decode prog_2_method_5_code 55 = .ok (.iload_n 1, 1) := by decide +kernel
theorem d_Cover_isImplied_56 : decode prog_2_method_5_code 56 = .ok (.iaload, 1) := by decide +kernel
theorem d_Cover_isImplied_57 : decode prog_2_method_5_code 57 = .ok (.iconst (-1), 1) := by decide +kernel
theorem d_Cover_isImplied_58 : decode prog_2_method_5_code 58 = .ok (.ixor, 1) := by decide +kernel
theorem d_Cover_isImplied_59 : decode prog_2_method_5_code 59 = .ok (.iand, 1) := by decide +kernel
theorem d_Cover_isImplied_60 : decode prog_2_method_5_code 60 = .ok (.ifCond .ne 20, 3) := by decide +kernel
theorem d_Cover_isImplied_63 : decode prog_2_method_5_code 63 = .ok (.aload_n 0, 1) := by decide +kernel
theorem d_Cover_isImplied_64 : decode prog_2_method_5_code 64 = .ok (.getfield 9, 3) := by decide +kernel
theorem d_Cover_isImplied_67 : decode prog_2_method_5_code 67 = .ok (.iload_n 3, 1) := by decide +kernel
theorem d_Cover_isImplied_68 : decode prog_2_method_5_code 68 = .ok (.iaload, 1) := by decide +kernel
theorem d_Cover_isImplied_69 : decode prog_2_method_5_code 69 = .ok (.aload_n 0, 1) := by decide +kernel
theorem d_Cover_isImplied_70 : decode prog_2_method_5_code 70 = .ok (.getfield 9, 3) := by decide +kernel
theorem d_Cover_isImplied_73 : decode prog_2_method_5_code 73 = .ok (.iload_n 1, 1) := by decide +kernel
theorem d_Cover_isImplied_74 : decode prog_2_method_5_code 74 = .ok (.iaload, 1) := by decide +kernel
theorem d_Cover_isImplied_75 : decode prog_2_method_5_code 75 = .ok (.if_icmp .eq 5, 3) := by decide +kernel
theorem d_Cover_isImplied_78 : decode prog_2_method_5_code 78 = .ok (.iconst 1, 1) := by decide +kernel
theorem d_Cover_isImplied_79 : decode prog_2_method_5_code 79 = .ok (.ireturn, 1) := by decide +kernel
theorem d_Cover_isImplied_80 : decode prog_2_method_5_code 80 = .ok (.iinc 3 1, 3) := by decide +kernel
theorem d_Cover_isImplied_83 : decode prog_2_method_5_code 83 = .ok (.goto (-46), 3) := by decide +kernel
theorem d_Cover_isImplied_86 : decode prog_2_method_5_code 86 = .ok (.iconst 0, 1) := by decide +kernel
theorem d_Cover_isImplied_87 : decode prog_2_method_5_code 87 = .ok (.ireturn, 1) := by decide +kernel
abbrev m_s2_Cover_isImplied : Room := { frames := 0, cells := 0, slots := 0, locals := 0 }
set_option maxHeartbeats 4000000 in
set_option maxRecDepth 100000 in
theorem s2_Cover_isImplied (l : Launch) (G : zG) (b0 : Nat) (b1 : Int32) (b2 : Int32) (b3 : Int32) (b4 : Int32) (b5 : Int32) (b6 : Nat) (b7 : Int32) (b8 : Nat → Int32) (hb1 : zI b1 0 239) (hb2 : zI b2 0 239) (hb3 : zI b3 0 1) (hb7 : zI b7 0 240) : zM l G y_Cover_isImplied prog_2_method_5_code 4 (Option.some Jvm.ClassFile.FieldType.boolean) m_s2_Cover_isImplied [.ref b0, .int b1, .int b2] [(b0, .inr (9, [.int b3, .int b4, .int b5, .ref b6, .int b7])), (b6, .inl (G.2 0, 240, .inl b8))] (fun v w => ∃ (e0 : Int32), v = some (.int e0) ∧ w = [(b0, .inr (9, [.int b3, .int b4, .int b5, .ref b6, .int b7])), (b6, .inl (G.2 0, 240, .inl b8))] ∧ (zI e0 0 1)) := by
  refine z_start (by decide +kernel) (Nat.le_of_ble_eq_true rfl) ?_
  intro p e s m below meth c A Z hr hnm hA hP hD hS ls hl
  have Z : zC p s m _ meth c prog_2_method_5_code 4 "TraceMachines$Cover" G := Z
  obtain ⟨hx, hb, hml, hown, hts, hK, hN, hlocks⟩ := id Z
  have hl : lv_has ls 4 [(0, .ref b0), (1, .int b1), (2, .int b2)] := hl
  refine lv_iconst (v := 0) hx hb d_Cover_isImplied_0 (by decide) ?_
  refine lv_istore_n (lv' := [(3, .int 0), (0, .ref b0), (1, .int b1), (2, .int b2)]) hx hb d_Cover_isImplied_1 rfl hl (by decide) rfl (fun ls hl => ?_)
  suffices key : ∀ (k_59 : Nat) (y_60 : Int32) (H : Heap) (locs : List Loc) (ls : Array Slot), (zI y_60 0 239) → (239 : Int) - y_60.toInt < (k_59 : Int) → va_P G.1 classes [(b0, .inr (9, [.int b3, .int b4, .int b5, .ref b6, .int b7])), (b6, .inl (G.2 0, 240, .inl b8))] H → va_D A [(b0, .inr (9, [.int b3, .int b4, .int b5, .ref b6, .int b7])), (b6, .inl (G.2 0, 240, .inl b8))] → va_S A s.heap H locs → lv_has ls 4 [(3, .int y_60), (0, .ref b0), (1, .int b1), (2, .int b2)] → W p l e m_s2_Cover_isImplied s m ([.ref b0, .int b1, .int b2] : List Value).toArray below meth c H locs 0 0 (MQ below (zQ G (fun v w => ∃ (e0 : Int32), v = some (.int e0) ∧ w = [(b0, .inr (9, [.int b3, .int b4, .int b5, .ref b6, .int b7])), (b6, .inl (G.2 0, 240, .inl b8))] ∧ (zI e0 0 1)) A) ([.ref b0, .int b1, .int b2] : List Value).toArray s m_s2_Cover_isImplied.cells m_s2_Cover_isImplied.slots A) (F0 m 2 ls []) by
    exact key 240 (0) _ _ _ (zI.wk (l' := 0) (h' := 239) zc_0 (by decide)) (zm_upi (zI.wk (l' := 0) (h' := 239) zc_0 (by decide)) (by decide)) hP hD hS (lv_sub hl [0, 1, 2, 3] rfl)
  intro k_59
  induction k_59 with
  | zero =>
    intro y_60 H locs ls hy_60 hmk_59 hP hD hS hl
    exact (zm_up0 hy_60 hmk_59).elim
  | succ k_59 ihk_59 =>
    intro y_60 H locs ls hy_60 hmk_59 hP hD hS hl
    refine lv_iload_n hx hb d_Cover_isImplied_2 rfl (lv_at hl 0 rfl) ?_
    refine lv_iload_n hx hb d_Cover_isImplied_3 rfl (lv_at hl 3 rfl) ?_
    refine lv_icmp_ge (tgt := 33) hx hb d_Cover_isImplied_4 (by decide) (fun hc_61 => ?_) (fun hc_61 => ?_)
    · have _nhc_61 := hc_61
      have ni_62 := (fa_le _ _).mp hc_61
      refine lv_iload_n hx hb d_Cover_isImplied_33 rfl (lv_at hl 2 rfl) ?_
      refine lv_iconst (v := 1) hx hb d_Cover_isImplied_34 (by decide) ?_
      refine lv_iadd hx hb d_Cover_isImplied_35 ?_
      refine lv_topi (fun v_63 ev_63 => ?_)
      obtain ⟨qv_63, hv_63⟩ := zI_add (l := 1) (h := 240) hb1 zc_1 ev_63 (by decide)
      rw [li_1] at qv_63
      refine lv_istore_n (lv' := [(3, .int v_63), (0, .ref b0), (1, .int b1), (2, .int b2)]) hx hb d_Cover_isImplied_36 rfl hl (by decide) rfl (fun ls hl => ?_)
      suffices key : ∀ (k_85 : Nat) (y_86 : Int32) (H : Heap) (locs : List Loc) (ls : Array Slot), (zI y_86 1 240) → (240 : Int) - y_86.toInt < (k_85 : Int) → va_P G.1 classes [(b0, .inr (9, [.int b3, .int b4, .int b5, .ref b6, .int b7])), (b6, .inl (G.2 0, 240, .inl b8))] H → va_D A [(b0, .inr (9, [.int b3, .int b4, .int b5, .ref b6, .int b7])), (b6, .inl (G.2 0, 240, .inl b8))] → va_S A s.heap H locs → lv_has ls 4 [(3, .int y_86), (0, .ref b0), (1, .int b1), (2, .int b2)] → W p l e m_s2_Cover_isImplied s m ([.ref b0, .int b1, .int b2] : List Value).toArray below meth c H locs 0 0 (MQ below (zQ G (fun v w => ∃ (e0 : Int32), v = some (.int e0) ∧ w = [(b0, .inr (9, [.int b3, .int b4, .int b5, .ref b6, .int b7])), (b6, .inl (G.2 0, 240, .inl b8))] ∧ (zI e0 0 1)) A) ([.ref b0, .int b1, .int b2] : List Value).toArray s m_s2_Cover_isImplied.cells m_s2_Cover_isImplied.slots A) (F0 m 37 ls []) by
        exact key 240 (v_63) _ _ _ hv_63 (zm_upi hv_63 (by decide)) hP hD hS (lv_sub hl [0, 1, 2, 3] rfl)
      intro k_85
      induction k_85 with
      | zero =>
        intro y_86 H locs ls hy_86 hmk_85 hP hD hS hl
        exact (zm_up0 hy_86 hmk_85).elim
      | succ k_85 ihk_85 =>
        intro y_86 H locs ls hy_86 hmk_85 hP hD hS hl
        refine lv_iload_n hx hb d_Cover_isImplied_37 rfl (lv_at hl 0 rfl) ?_
        refine lv_aload_n hx hb d_Cover_isImplied_38 rfl (lv_at hl 1 rfl) ?_
        refine va_get (D := G.1) (ci := 9) (v := .int b7) (C := R_Cover) (T := F_Cover) (N := 5) hx hb hts i_Cover hown hK hP 0 rfl rfl 4 (by decide) (hts _ q345) (fun _ h9 => h9) rfl d_Cover_isImplied_39 ?_
        refine lv_icmp_ge (tgt := 86) hx hb d_Cover_isImplied_42 (by decide) (fun hc_87 => ?_) (fun hc_87 => ?_)
        · have _nhc_87 := hc_87
          have ni_88 := (fa_le _ _).mp hc_87
          refine lv_iconst (v := 0) hx hb d_Cover_isImplied_86 (by decide) ?_
          exact z_zret hx hb hr hlocks rfl hP hD hS (Nat.le_of_ble_eq_true rfl) (Nat.le_of_ble_eq_true rfl) d_Cover_isImplied_87 ⟨0, rfl, rfl, (zI.wk (l' := 0) (h' := 1) zc_0 (by decide))⟩
        · have _nhc_87 := hc_87
          have ni_89 := (fa_lt _ _).mp (zi_nle hc_87)
          have hv_90 : zI y_86 1 239 := zI.lt_l hy_86 hb7 (zi_nle hc_87) (by decide)
          have hv_91 : zI b7 2 240 := zI.lt_r hy_86 hb7 (zi_nle hc_87) (by decide)
          refine lv_aload_n hx hb d_Cover_isImplied_45 rfl (lv_at hl 1 rfl) ?_
          refine va_get (D := G.1) (ci := 9) (v := .ref b6) (C := R_Cover) (T := F_Cover) (N := 5) hx hb hts i_Cover hown hK hP 0 rfl rfl 3 (by decide) (hts _ q344) (fun _ h9 => h9) rfl d_Cover_isImplied_46 ?_
          refine lv_iload_n hx hb d_Cover_isImplied_49 rfl (lv_at hl 0 rfl) ?_
          refine va_iald hx hb hK hP 1 0 rfl rfl (zI.inn hv_90 (by decide)) d_Cover_isImplied_50 ?_
          refine lv_topi (fun v_92 ev_92 => ?_)
          refine lv_aload_n hx hb d_Cover_isImplied_51 rfl (lv_at hl 1 rfl) ?_
          refine va_get (D := G.1) (ci := 9) (v := .ref b6) (C := R_Cover) (T := F_Cover) (N := 5) hx hb hts i_Cover hown hK hP 0 rfl rfl 3 (by decide) (hts _ q344) (fun _ h9 => h9) rfl d_Cover_isImplied_52 ?_
          refine lv_iload_n hx hb d_Cover_isImplied_55 rfl (lv_at hl 2 rfl) ?_
          refine va_iald hx hb hK hP 1 0 rfl rfl (zI.inn hb1 (by decide)) d_Cover_isImplied_56 ?_
          refine lv_topi (fun v_93 ev_93 => ?_)
          refine lv_iconst (v := (-1)) hx hb d_Cover_isImplied_57 (by decide) ?_
          refine lv_ixor hx hb d_Cover_isImplied_58 ?_
          refine lv_topi (fun v_94 ev_94 => ?_)
          refine lv_iand hx hb d_Cover_isImplied_59 ?_
          refine lv_topi (fun v_95 ev_95 => ?_)
          refine lv_if_ne (tgt := 80) hx hb d_Cover_isImplied_60 (by decide) (fun hc_96 => ?_) (fun hc_96 => ?_)
          · have _nhc_96 := hc_96
            have ni_97 : ¬ (v_95 : Int32).toInt = (0 : Int32).toInt := fun z => hc_96 ((fa_eq _ _).mpr z)
            simp only [li_0] at ni_97
            obtain ⟨v_98, ev_98⟩ : ∃ z : Int32, z = y_86 + 1 := ⟨_, rfl⟩
            obtain ⟨qv_98, hv_98⟩ := zI_add (l := 2) (h := 240) hv_90 zc_1 ev_98 (by decide)
            rw [li_1] at qv_98
            refine lv_iinc (v := v_98) (lv' := [(3, .int v_98), (0, .ref b0), (1, .int b1), (2, .int b2)]) hx hb d_Cover_isImplied_80 hl (k := 0) rfl (by rw [ev_98]; rfl) (by decide) rfl (fun ls hl => ?_)
            refine lv_goto (tgt := 37) hx hb d_Cover_isImplied_83 (by decide) ?_
            exact ihk_85 (v_98) _ _ _ (zI.wk (l' := 1) (h' := 240) hv_98 (by decide)) (zm_up qv_98 hmk_85 (by decide)) hP hD hS (lv_sub hl [0, 1, 2, 3] rfl)
          · have _nhc_96 := hc_96
            have ni_99 := (fa_eq _ _).mp hc_96
            rw [li_0] at ni_99
            have hv_100 : zI v_95 0 0 := zI.eq_l (zI_all v_95) zc_0 hc_96
            refine lv_aload_n hx hb d_Cover_isImplied_63 rfl (lv_at hl 1 rfl) ?_
            refine va_get (D := G.1) (ci := 9) (v := .ref b6) (C := R_Cover) (T := F_Cover) (N := 5) hx hb hts i_Cover hown hK hP 0 rfl rfl 3 (by decide) (hts _ q344) (fun _ h9 => h9) rfl d_Cover_isImplied_64 ?_
            refine lv_iload_n hx hb d_Cover_isImplied_67 rfl (lv_at hl 0 rfl) ?_
            refine va_iald hx hb hK hP 1 0 rfl rfl (zI.inn hv_90 (by decide)) d_Cover_isImplied_68 ?_
            refine lv_topi (fun v_101 ev_101 => ?_)
            obtain rfl : v_92 = v_101 := ev_92.trans ev_101.symm
            refine lv_aload_n hx hb d_Cover_isImplied_69 rfl (lv_at hl 1 rfl) ?_
            refine va_get (D := G.1) (ci := 9) (v := .ref b6) (C := R_Cover) (T := F_Cover) (N := 5) hx hb hts i_Cover hown hK hP 0 rfl rfl 3 (by decide) (hts _ q344) (fun _ h9 => h9) rfl d_Cover_isImplied_70 ?_
            refine lv_iload_n hx hb d_Cover_isImplied_73 rfl (lv_at hl 2 rfl) ?_
            refine va_iald hx hb hK hP 1 0 rfl rfl (zI.inn hb1 (by decide)) d_Cover_isImplied_74 ?_
            refine lv_topi (fun v_102 ev_102 => ?_)
            obtain rfl : v_93 = v_102 := ev_93.trans ev_102.symm
            refine lv_icmp_eq (tgt := 80) hx hb d_Cover_isImplied_75 (by decide) (fun hc_103 => ?_) (fun hc_103 => ?_)
            · have _nhc_103 := hc_103
              have ni_104 := (fa_eq _ _).mp hc_103
              obtain ⟨v_105, ev_105⟩ : ∃ z : Int32, z = y_86 + 1 := ⟨_, rfl⟩
              obtain ⟨qv_105, hv_105⟩ := zI_add (l := 2) (h := 240) hv_90 zc_1 ev_105 (by decide)
              rw [li_1] at qv_105
              refine lv_iinc (v := v_105) (lv' := [(3, .int v_105), (0, .ref b0), (1, .int b1), (2, .int b2)]) hx hb d_Cover_isImplied_80 hl (k := 0) rfl (by rw [ev_105]; rfl) (by decide) rfl (fun ls hl => ?_)
              refine lv_goto (tgt := 37) hx hb d_Cover_isImplied_83 (by decide) ?_
              exact ihk_85 (v_105) _ _ _ (zI.wk (l' := 1) (h' := 240) hv_105 (by decide)) (zm_up qv_105 hmk_85 (by decide)) hP hD hS (lv_sub hl [0, 1, 2, 3] rfl)
            · have _nhc_103 := hc_103
              have ni_106 : ¬ (v_92 : Int32).toInt = (v_93 : Int32).toInt := fun z => hc_103 ((fa_eq _ _).mpr z)
              refine lv_iconst (v := 1) hx hb d_Cover_isImplied_78 (by decide) ?_
              exact z_zret hx hb hr hlocks rfl hP hD hS (Nat.le_of_ble_eq_true rfl) (Nat.le_of_ble_eq_true rfl) d_Cover_isImplied_79 ⟨1, rfl, rfl, (zI.wk (l' := 0) (h' := 1) zc_1 (by decide))⟩
    · have _nhc_61 := hc_61
      have ni_107 := (fa_lt _ _).mp (zi_nle hc_61)
      have hv_108 : zI y_60 0 238 := zI.lt_l hy_60 hb2 (zi_nle hc_61) (by decide)
      have hv_109 : zI b2 1 239 := zI.lt_r hy_60 hb2 (zi_nle hc_61) (by decide)
      refine lv_aload_n hx hb d_Cover_isImplied_7 rfl (lv_at hl 1 rfl) ?_
      refine va_get (D := G.1) (ci := 9) (v := .ref b6) (C := R_Cover) (T := F_Cover) (N := 5) hx hb hts i_Cover hown hK hP 0 rfl rfl 3 (by decide) (hts _ q344) (fun _ h9 => h9) rfl d_Cover_isImplied_8 ?_
      refine lv_iload_n hx hb d_Cover_isImplied_11 rfl (lv_at hl 0 rfl) ?_
      refine va_iald hx hb hK hP 1 0 rfl rfl (zI.inn hv_108 (by decide)) d_Cover_isImplied_12 ?_
      refine lv_topi (fun v_110 ev_110 => ?_)
      refine lv_aload_n hx hb d_Cover_isImplied_13 rfl (lv_at hl 1 rfl) ?_
      refine va_get (D := G.1) (ci := 9) (v := .ref b6) (C := R_Cover) (T := F_Cover) (N := 5) hx hb hts i_Cover hown hK hP 0 rfl rfl 3 (by decide) (hts _ q344) (fun _ h9 => h9) rfl d_Cover_isImplied_14 ?_
      refine lv_iload_n hx hb d_Cover_isImplied_17 rfl (lv_at hl 2 rfl) ?_
      refine va_iald hx hb hK hP 1 0 rfl rfl (zI.inn hb1 (by decide)) d_Cover_isImplied_18 ?_
      refine lv_topi (fun v_111 ev_111 => ?_)
      refine lv_iconst (v := (-1)) hx hb d_Cover_isImplied_19 (by decide) ?_
      refine lv_ixor hx hb d_Cover_isImplied_20 ?_
      refine lv_topi (fun v_112 ev_112 => ?_)
      refine lv_iand hx hb d_Cover_isImplied_21 ?_
      refine lv_topi (fun v_113 ev_113 => ?_)
      refine lv_if_ne (tgt := 27) hx hb d_Cover_isImplied_22 (by decide) (fun hc_114 => ?_) (fun hc_114 => ?_)
      · have _nhc_114 := hc_114
        have ni_115 : ¬ (v_113 : Int32).toInt = (0 : Int32).toInt := fun z => hc_114 ((fa_eq _ _).mpr z)
        simp only [li_0] at ni_115
        obtain ⟨v_116, ev_116⟩ : ∃ z : Int32, z = y_60 + 1 := ⟨_, rfl⟩
        obtain ⟨qv_116, hv_116⟩ := zI_add (l := 1) (h := 239) hv_108 zc_1 ev_116 (by decide)
        rw [li_1] at qv_116
        refine lv_iinc (v := v_116) (lv' := [(3, .int v_116), (0, .ref b0), (1, .int b1), (2, .int b2)]) hx hb d_Cover_isImplied_27 hl (k := 0) rfl (by rw [ev_116]; rfl) (by decide) rfl (fun ls hl => ?_)
        refine lv_goto (tgt := 2) hx hb d_Cover_isImplied_30 (by decide) ?_
        exact ihk_59 (v_116) _ _ _ (zI.wk (l' := 0) (h' := 239) hv_116 (by decide)) (zm_up qv_116 hmk_59 (by decide)) hP hD hS (lv_sub hl [0, 1, 2, 3] rfl)
      · have _nhc_114 := hc_114
        have ni_117 := (fa_eq _ _).mp hc_114
        rw [li_0] at ni_117
        have hv_118 : zI v_113 0 0 := zI.eq_l (zI_all v_113) zc_0 hc_114
        refine lv_iconst (v := 1) hx hb d_Cover_isImplied_25 (by decide) ?_
        exact z_zret hx hb hr hlocks rfl hP hD hS (Nat.le_of_ble_eq_true rfl) (Nat.le_of_ble_eq_true rfl) d_Cover_isImplied_26 ⟨1, rfl, rfl, (zI.wk (l' := 0) (h' := 1) zc_1 (by decide))⟩
abbrev m_s1_Cover_leaveOutImplied : Room := { frames := 1, cells := 0, slots := 0, locals := 23 }
set_option maxHeartbeats 4000000 in
set_option maxRecDepth 100000 in
theorem s1_Cover_leaveOutImplied (l : Launch) (G : zG) (b0 : Nat) (b1 : Int32) (b2 : Int32) (b3 : Int32) (b4 : Nat) (b5 : Int32) (b6 : Nat → Int32) (hb1 : zI b1 0 1) (hb5 : zI b5 0 240) : zM l G y_Cover_leaveOutImplied prog_2_method_4_code 3 (Option.none : Option Jvm.ClassFile.FieldType) m_s1_Cover_leaveOutImplied [.ref b0] [(b0, .inr (9, [.int b1, .int b2, .int b3, .ref b4, .int b5])), (b4, .inl (G.2 0, 240, .inl b6))] (fun v w => ∃ (e0 : Int32), ∃ (e1 : Nat → Int32), v = none ∧ w = [(b0, .inr (9, [.int b1, .int b2, .int b3, .ref b4, .int e0])), (b4, .inl (G.2 0, 240, .inl e1))] ∧ (zI e0 0 240)) := by
  refine z_start (by decide +kernel) (Nat.le_of_ble_eq_true rfl) ?_
  intro p e s m below meth c A Z hr hnm hA hP hD hS ls hl
  have Z : zC p s m _ meth c prog_2_method_4_code 3 "TraceMachines$Cover" G := Z
  obtain ⟨hx, hb, hml, hown, hts, hK, hN, hlocks⟩ := id Z
  have hl : lv_has ls 3 [(0, .ref b0)] := hl
  refine lv_iconst (v := 0) hx hb d_Cover_leaveOutImplied_0 (by decide) ?_
  refine lv_istore_n (lv' := [(1, .int 0), (0, .ref b0)]) hx hb d_Cover_leaveOutImplied_1 rfl hl (by decide) rfl (fun ls hl => ?_)
  refine lv_iconst (v := 0) hx hb d_Cover_leaveOutImplied_2 (by decide) ?_
  refine lv_istore_n (lv' := [(2, .int 0), (1, .int 0), (0, .ref b0)]) hx hb d_Cover_leaveOutImplied_3 rfl hl (by decide) rfl (fun ls hl => ?_)
  suffices key : ∀ (k_22 : Nat) (y_23 : Int32) (y_24 : Int32) (y_25 : Nat → Int32) (H : Heap) (locs : List Loc) (ls : Array Slot), (zI y_23 0 240) → (zI y_24 0 240) → (y_24.toInt ≤ y_23.toInt) → (240 : Int) - y_23.toInt < (k_22 : Int) → va_P G.1 classes [(b0, .inr (9, [.int b1, .int b2, .int b3, .ref b4, .int b5])), (b4, .inl (G.2 0, 240, .inl y_25))] H → va_D A [(b0, .inr (9, [.int b1, .int b2, .int b3, .ref b4, .int b5])), (b4, .inl (G.2 0, 240, .inl y_25))] → va_S A s.heap H locs → lv_has ls 3 [(2, .int y_23), (1, .int y_24), (0, .ref b0)] → W p l e m_s1_Cover_leaveOutImplied s m ([.ref b0] : List Value).toArray below meth c H locs 0 0 (MQ below (zQ G (fun v w => ∃ (e0 : Int32), ∃ (e1 : Nat → Int32), v = none ∧ w = [(b0, .inr (9, [.int b1, .int b2, .int b3, .ref b4, .int e0])), (b4, .inl (G.2 0, 240, .inl e1))] ∧ (zI e0 0 240)) A) ([.ref b0] : List Value).toArray s m_s1_Cover_leaveOutImplied.cells m_s1_Cover_leaveOutImplied.slots A) (F0 m 4 ls []) by
    exact key 241 (0) (0) (b6) _ _ _ (zI.wk (l' := 0) (h' := 240) zc_0 (by decide)) (zI.wk (l' := 0) (h' := 240) zc_0 (by decide)) (by have _l0 := li_0; have _l1 := li_0; omega) (zm_upi (zI.wk (l' := 0) (h' := 240) zc_0 (by decide)) (by decide)) hP hD hS (lv_sub hl [0, 1, 2] rfl)
  intro k_22
  induction k_22 with
  | zero =>
    intro y_23 y_24 y_25 H locs ls hy_23 hy_24 hli_26 hmk_22 hP hD hS hl
    exact (zm_up0 hy_23 hmk_22).elim
  | succ k_22 ihk_22 =>
    intro y_23 y_24 y_25 H locs ls hy_23 hy_24 hli_26 hmk_22 hP hD hS hl
    refine lv_iload_n hx hb d_Cover_leaveOutImplied_4 rfl (lv_at hl 0 rfl) ?_
    refine lv_aload_n hx hb d_Cover_leaveOutImplied_5 rfl (lv_at hl 2 rfl) ?_
    refine va_get (D := G.1) (ci := 9) (v := .int b5) (C := R_Cover) (T := F_Cover) (N := 5) hx hb hts i_Cover hown hK hP 0 rfl rfl 4 (by decide) (hts _ q345) (fun _ h9 => h9) rfl d_Cover_leaveOutImplied_6 ?_
    refine lv_icmp_ge (tgt := 42) hx hb d_Cover_leaveOutImplied_9 (by decide) (fun hc_27 => ?_) (fun hc_27 => ?_)
    · have _nhc_27 := hc_27
      have ni_28 := (fa_le _ _).mp hc_27
      refine lv_aload_n hx hb d_Cover_leaveOutImplied_42 rfl (lv_at hl 2 rfl) ?_
      refine lv_iload_n hx hb d_Cover_leaveOutImplied_43 rfl (lv_at hl 1 rfl) ?_
      refine va_put (D := G.1) (ci := 9) (v := .int y_24) (ty := .int) (C := R_Cover) (T := F_Cover) (N := 5) hx hb hts i_Cover t_Cover t_Cover_ok n_Cover hown hK hP hD hS 0 rfl rfl 4 (by decide) (hts _ q345) (fun _ h9 => h9) rfl (by decide +kernel) rfl rfl (Nat.le_of_ble_eq_true rfl) d_Cover_leaveOutImplied_44 (fun H locs hP hD hS => ?_)
      have hP : va_P G.1 classes [(b0, .inr (9, [.int b1, .int b2, .int b3, .ref b4, .int y_24])), (b4, .inl (G.2 0, 240, .inl y_25))] H := hP
      have hD := z_tie hP hD rfl
      exact z_vret hx hb hr hlocks hP hD hS (Nat.le_of_ble_eq_true rfl) (Nat.le_of_ble_eq_true rfl) d_Cover_leaveOutImplied_47 ⟨y_24, y_25, rfl, rfl, hy_24⟩
    · have _nhc_27 := hc_27
      have ni_29 := (fa_lt _ _).mp (zi_nle hc_27)
      have hv_30 : zI y_23 0 239 := zI.lt_l hy_23 hb5 (zi_nle hc_27) (by decide)
      have hv_31 : zI b5 1 240 := zI.lt_r hy_23 hb5 (zi_nle hc_27) (by decide)
      have hv_32 : zI y_24 0 239 := ⟨by omega, by omega⟩
      refine lv_aload_n hx hb d_Cover_leaveOutImplied_12 rfl (lv_at hl 2 rfl) ?_
      refine lv_iload_n hx hb d_Cover_leaveOutImplied_13 rfl (lv_at hl 0 rfl) ?_
      refine lv_iload_n hx hb d_Cover_leaveOutImplied_14 rfl (lv_at hl 1 rfl) ?_
      refine z_callV (index := 66) (As := [.int y_23, .int y_24]) (rest := []) (wr := []) Z (s2_Cover_isImplied l G (b0) (y_23) (y_24) (b1) (b2) (b3) (b4) (b5) (y_25) hv_30 hv_32 hb1 (zI.wk (l' := 0) (h' := 240) hv_31 (by decide))) hl.1 q777 q779 qs19 q10 q780 ⟨by decide, by decide, by show _ = some 2; decide +kernel⟩ ⟨Nat.le_of_ble_eq_true rfl, Nat.le_of_ble_eq_true rfl⟩ ⟨Nat.le_of_ble_eq_true rfl, Nat.le_of_ble_eq_true rfl⟩ rfl (Nat.le_of_ble_eq_true rfl) d_Cover_leaveOutImplied_15 hP hD hS hA 0 9 rfl rfl rfl [0, 1] [] rfl rfl rfl rfl (by decide) (fun v w1 H locs hw_33 hP hD hS => ?_)
      obtain ⟨x_34, rfl, rfl, hx_34⟩ := hw_33
      have hP : va_P G.1 classes [(b0, .inr (9, [.int b1, .int b2, .int b3, .ref b4, .int b5])), (b4, .inl (G.2 0, 240, .inl y_25))] H := hP
      have hD := z_tie hP hD rfl
      refine W.widen (k := 0) (n := 0) (Nat.le_of_ble_eq_true rfl) (Nat.le_of_ble_eq_true rfl) ?_
      refine lv_if_ne (tgt := 36) hx hb d_Cover_leaveOutImplied_18 (by decide) (fun hc_35 => ?_) (fun hc_35 => ?_)
      · have _nhc_35 := hc_35
        have ni_36 : ¬ (x_34 : Int32).toInt = (0 : Int32).toInt := fun z => hc_35 ((fa_eq _ _).mpr z)
        simp only [li_0] at ni_36
        have hv_37 : zI x_34 1 1 := zI.ne_lo hx_34 zc_0 hc_35 (by decide)
        obtain ⟨v_38, ev_38⟩ : ∃ z : Int32, z = y_23 + 1 := ⟨_, rfl⟩
        obtain ⟨qv_38, hv_38⟩ := zI_add (l := 1) (h := 240) hv_30 zc_1 ev_38 (by decide)
        rw [li_1] at qv_38
        refine lv_iinc (v := v_38) (lv' := [(2, .int v_38), (1, .int y_24), (0, .ref b0)]) hx hb d_Cover_leaveOutImplied_36 hl (k := 0) rfl (by rw [ev_38]; rfl) (by decide) rfl (fun ls hl => ?_)
        refine lv_goto (tgt := 4) hx hb d_Cover_leaveOutImplied_39 (by decide) ?_
        exact ihk_22 (v_38) (y_24) (y_25) _ _ _ (zI.wk (l' := 0) (h' := 240) hv_38 (by decide)) (zI.wk (l' := 0) (h' := 240) hv_32 (by decide)) (by omega) (zm_up qv_38 hmk_22 (by decide)) hP hD hS (lv_sub hl [0, 1, 2] rfl)
      · have _nhc_35 := hc_35
        have ni_39 := (fa_eq _ _).mp hc_35
        rw [li_0] at ni_39
        have hv_40 : zI x_34 0 0 := zI.eq_l hx_34 zc_0 hc_35
        refine lv_aload_n hx hb d_Cover_leaveOutImplied_21 rfl (lv_at hl 2 rfl) ?_
        refine va_get (D := G.1) (ci := 9) (v := .ref b4) (C := R_Cover) (T := F_Cover) (N := 5) hx hb hts i_Cover hown hK hP 0 rfl rfl 3 (by decide) (hts _ q344) (fun _ h9 => h9) rfl d_Cover_leaveOutImplied_22 ?_
        refine lv_iload_n hx hb d_Cover_leaveOutImplied_25 rfl (lv_at hl 1 rfl) ?_
        refine lv_aload_n hx hb d_Cover_leaveOutImplied_26 rfl (lv_at hl 2 rfl) ?_
        refine va_get (D := G.1) (ci := 9) (v := .ref b4) (C := R_Cover) (T := F_Cover) (N := 5) hx hb hts i_Cover hown hK hP 0 rfl rfl 3 (by decide) (hts _ q344) (fun _ h9 => h9) rfl d_Cover_leaveOutImplied_27 ?_
        refine lv_iload_n hx hb d_Cover_leaveOutImplied_30 rfl (lv_at hl 0 rfl) ?_
        refine va_iald hx hb hK hP 1 0 rfl rfl (zI.inn hv_30 (by decide)) d_Cover_leaveOutImplied_31 ?_
        refine lv_topi (fun v_41 ev_41 => ?_)
        refine va_iast hx hb hK hP hD hS 1 0 rfl rfl (zI.inn hv_32 (by decide)) d_Cover_leaveOutImplied_32 (fun H locs hP hD hS => ?_)
        obtain ⟨f_42, gf_42, uf_42, hP, hD⟩ := z_newFu 1 hP hD rfl
        have hP : va_P G.1 classes [(b0, .inr (9, [.int b1, .int b2, .int b3, .ref b4, .int b5])), (b4, .inl (G.2 0, 240, .inl f_42))] H := hP
        have hD := z_tie hP hD rfl
        obtain ⟨v_43, ev_43⟩ : ∃ z : Int32, z = y_24 + 1 := ⟨_, rfl⟩
        obtain ⟨qv_43, hv_43⟩ := zI_add (l := 1) (h := 240) hv_32 zc_1 ev_43 (by decide)
        rw [li_1] at qv_43
        refine lv_iinc (v := v_43) (lv' := [(1, .int v_43), (2, .int y_23), (0, .ref b0)]) hx hb d_Cover_leaveOutImplied_33 hl (k := 1) rfl (by rw [ev_43]; rfl) (by decide) rfl (fun ls hl => ?_)
        obtain ⟨v_44, ev_44⟩ : ∃ z : Int32, z = y_23 + 1 := ⟨_, rfl⟩
        obtain ⟨qv_44, hv_44⟩ := zI_add (l := 1) (h := 240) hv_30 zc_1 ev_44 (by decide)
        rw [li_1] at qv_44
        refine lv_iinc (v := v_44) (lv' := [(2, .int v_44), (1, .int v_43), (0, .ref b0)]) hx hb d_Cover_leaveOutImplied_36 hl (k := 1) rfl (by rw [ev_44]; rfl) (by decide) rfl (fun ls hl => ?_)
        refine lv_goto (tgt := 4) hx hb d_Cover_leaveOutImplied_39 (by decide) ?_
        exact ihk_22 (v_44) (v_43) (f_42) _ _ _ (zI.wk (l' := 0) (h' := 240) hv_44 (by decide)) (zI.wk (l' := 0) (h' := 240) hv_43 (by decide)) (by omega) (zm_up qv_44 hmk_22 (by decide)) hP hD hS (lv_sub hl [0, 1, 2] rfl)
theorem d_Cover_hardest_0 : decode prog_2_method_7_code 0 = .ok (.iconst (-1), 1) := by decide +kernel
theorem d_Cover_hardest_1 : decode prog_2_method_7_code 1 = .ok (.istore_n 3, 1) := by decide +kernel
theorem d_Cover_hardest_2 : decode prog_2_method_7_code 2 = .ok (.bipush 21, 2) := by decide +kernel
theorem d_Cover_hardest_4 : decode prog_2_method_7_code 4 = .ok (.istore 4, 2) := by decide +kernel
theorem d_Cover_hardest_6 : decode prog_2_method_7_code 6 = .ok (.iconst 0, 1) := by decide +kernel
theorem d_Cover_hardest_7 : decode prog_2_method_7_code 7 = .ok (.istore 5, 2) := by decide +kernel
theorem d_Cover_hardest_9 : decode prog_2_method_7_code 9 = .ok (.iload 5, 2) := by decide +kernel
theorem d_Cover_hardest_11 : decode prog_2_method_7_code 11 = .ok (.aload_n 0, 1) := by decide +kernel
theorem d_Cover_hardest_12 : decode prog_2_method_7_code 12 = .ok (.getfield 47, 3) := by decide +kernel
theorem d_Cover_hardest_15 : decode prog_2_method_7_code 15 = .ok (.if_icmp .ge 51, 3) := by decide +kernel
theorem d_Cover_hardest_18 : decode prog_2_method_7_code 18 = .ok (.aload_n 0, 1) := by decide +kernel
theorem d_Cover_hardest_19 : decode prog_2_method_7_code 19 = .ok (.getfield 9, 3) := by decide +kernel
theorem d_Cover_hardest_22 : decode prog_2_method_7_code 22 = .ok (.iload 5, 2) := by decide +kernel
theorem d_Cover_hardest_24 : decode prog_2_method_7_code 24 = .ok (.iaload, 1) := by decide +kernel
theorem d_Cover_hardest_25 : decode prog_2_method_7_code 25 = .ok (.iload_n 1, 1) := by decide +kernel
theorem d_Cover_hardest_26 : decode prog_2_method_7_code 26 = .ok (.iand, 1) := by decide +kernel
theorem d_Cover_hardest_27 : decode prog_2_method_7_code 27 = .ok (.ifCond .ne 33, 3) := by decide +kernel
theorem d_Cover_hardest_30 : decode prog_2_method_7_code 30 = .ok (.aload_n 0, 1) := by decide +kernel
theorem d_Cover_hardest_31 : decode prog_2_method_7_code 31 = .ok (.getfield 9, 3) := by decide +kernel
theorem d_Cover_hardest_34 : decode prog_2_method_7_code 34 = .ok (.iload 5, 2) := by decide +kernel
theorem d_Cover_hardest_36 : decode prog_2_method_7_code 36 = .ok (.iaload, 1) := by decide +kernel
theorem d_Cover_hardest_37 : decode prog_2_method_7_code 37 = .ok (.iload_n 2, 1) := by decide +kernel
theorem d_Cover_hardest_38 : decode prog_2_method_7_code 38 = .ok (.iconst (-1), 1) := by decide +kernel
theorem d_Cover_hardest_39 : decode prog_2_method_7_code 39 = .ok (.ixor, 1) := by decide +kernel
theorem d_Cover_hardest_40 : decode prog_2_method_7_code 40 = .ok (.iand, 1) := by decide +kernel
theorem d_Cover_hardest_41 : decode prog_2_method_7_code 41 = .ok (.invokestatic 73, 3) := by decide +kernel
theorem d_Cover_hardest_44 : decode prog_2_method_7_code 44 = .ok (.istore 6, 2) := by decide +kernel
theorem d_Cover_hardest_46 : decode prog_2_method_7_code 46 = .ok (.iload 6, 2) := by decide +kernel
theorem d_Cover_hardest_48 : decode prog_2_method_7_code 48 = .ok (.iload 4, 2) := by decide +kernel
theorem d_Cover_hardest_50 : decode prog_2_method_7_code 50 = .ok (.if_icmp .ge 10, 3) := by decide +kernel
theorem d_Cover_hardest_53 : decode prog_2_method_7_code 53 = .ok (.iload 6, 2) := by decide +kernel
theorem d_Cover_hardest_55 : decode prog_2_method_7_code 55 = .ok (.istore 4, 2) := by decide +kernel
theorem d_Cover_hardest_57 : decode prog_2_method_7_code 57 = .ok (.iload 5, 2) := by decide +kernel
theorem d_Cover_hardest_59 : decode prog_2_method_7_code 59 = .ok (.istore_n 3, 1) := by decide +kernel
theorem d_Cover_hardest_60 : decode prog_2_method_7_code 60 = .ok (.iinc 5 1, 3) := by decide +kernel
theorem d_Cover_hardest_63 : decode prog_2_method_7_code 63 = .ok (.goto (-54), 3) := by decide +kernel
theorem d_Cover_hardest_66 : decode prog_2_method_7_code 66 = .ok (.iload_n 3, 1) := by decide +kernel
theorem d_Cover_hardest_67 : decode prog_2_method_7_code 67 = .ok (.ireturn, 1) := by decide +kernel
theorem d_Integer_bitCount_0 : decode prog_17_method_49_code 0 = .ok (.iload_n 0, 1) := by decide +kernel
theorem d_Integer_bitCount_1 : decode prog_17_method_49_code 1 = .ok (.iload_n 0, 1) := by decide +kernel
theorem d_Integer_bitCount_2 : decode prog_17_method_49_code 2 = .ok (.iconst 1, 1) := by decide +kernel
theorem d_Integer_bitCount_3 : decode prog_17_method_49_code 3 = .ok (.iushr, 1) := by decide +kernel
theorem d_Integer_bitCount_4 : decode prog_17_method_49_code 4 = .ok (.ldc_w 265, 3) := by decide +kernel
theorem d_Integer_bitCount_7 : decode prog_17_method_49_code 7 = .ok (.iand, 1) := by decide +kernel
theorem d_Integer_bitCount_8 : decode prog_17_method_49_code 8 = .ok (.isub, 1) := by decide +kernel
theorem d_Integer_bitCount_9 : decode prog_17_method_49_code 9 = .ok (.istore_n 0, 1) := by decide +kernel
theorem d_Integer_bitCount_10 : decode prog_17_method_49_code 10 = .ok (.iload_n 0, 1) := by decide +kernel
theorem d_Integer_bitCount_11 : decode prog_17_method_49_code 11 = .ok (.ldc_w 266, 3) := by decide +kernel
theorem d_Integer_bitCount_14 : decode prog_17_method_49_code 14 = .ok (.iand, 1) := by decide +kernel
theorem d_Integer_bitCount_15 : decode prog_17_method_49_code 15 = .ok (.iload_n 0, 1) := by decide +kernel
theorem d_Integer_bitCount_16 : decode prog_17_method_49_code 16 = .ok (.iconst 2, 1) := by decide +kernel
theorem d_Integer_bitCount_17 : decode prog_17_method_49_code 17 = .ok (.iushr, 1) := by decide +kernel
theorem d_Integer_bitCount_18 : decode prog_17_method_49_code 18 = .ok (.ldc_w 266, 3) := by decide +kernel
theorem d_Integer_bitCount_21 : decode prog_17_method_49_code 21 = .ok (.iand, 1) := by decide +kernel
theorem d_Integer_bitCount_22 : decode prog_17_method_49_code 22 = .ok (.iadd, 1) := by decide +kernel
theorem d_Integer_bitCount_23 : decode prog_17_method_49_code 23 = .ok (.istore_n 0, 1) := by decide +kernel
theorem d_Integer_bitCount_24 : decode prog_17_method_49_code 24 = .ok (.iload_n 0, 1) := by decide +kernel
theorem d_Integer_bitCount_25 : decode prog_17_method_49_code 25 = .ok (.iload_n 0, 1) := by decide +kernel
theorem d_Integer_bitCount_26 : decode prog_17_method_49_code 26 = .ok (.iconst 4, 1) := by decide +kernel
theorem d_Integer_bitCount_27 : decode prog_17_method_49_code 27 = .ok (.iushr, 1) := by decide +kernel
theorem d_Integer_bitCount_28 : decode prog_17_method_49_code 28 = .ok (.iadd, 1) := by decide +kernel
theorem d_Integer_bitCount_29 : decode prog_17_method_49_code 29 = .ok (.ldc_w 267, 3) := by decide +kernel
theorem d_Integer_bitCount_32 : decode prog_17_method_49_code 32 = .ok (.iand, 1) := by decide +kernel
theorem d_Integer_bitCount_33 : decode prog_17_method_49_code 33 = .ok (.istore_n 0, 1) := by decide +kernel
theorem d_Integer_bitCount_34 : decode prog_17_method_49_code 34 = .ok (.iload_n 0, 1) := by decide +kernel
theorem d_Integer_bitCount_35 : decode prog_17_method_49_code 35 = .ok (.iload_n 0, 1) := by decide +kernel
theorem d_Integer_bitCount_36 : decode prog_17_method_49_code 36 = .ok (.bipush 8, 2) := by decide +kernel
theorem d_Integer_bitCount_38 : decode prog_17_method_49_code 38 = .ok (.iushr, 1) := by decide +kernel
theorem d_Integer_bitCount_39 : decode prog_17_method_49_code 39 = .ok (.iadd, 1) := by decide +kernel
theorem d_Integer_bitCount_40 : decode prog_17_method_49_code 40 = .ok (.istore_n 0, 1) := by decide +kernel
theorem d_Integer_bitCount_41 : decode prog_17_method_49_code 41 = .ok (.iload_n 0, 1) := by decide +kernel
theorem d_Integer_bitCount_42 : decode prog_17_method_49_code 42 = .ok (.iload_n 0, 1) := by decide +kernel
theorem d_Integer_bitCount_43 : decode prog_17_method_49_code 43 = .ok (.bipush 16, 2) := by decide +kernel
theorem d_Integer_bitCount_45 : decode prog_17_method_49_code 45 = .ok (.iushr, 1) := by decide +kernel
theorem d_Integer_bitCount_46 : decode prog_17_method_49_code 46 = .ok (.iadd, 1) := by decide +kernel
theorem d_Integer_bitCount_47 : decode prog_17_method_49_code 47 = .ok (.istore_n 0, 1) := by decide +kernel
theorem d_Integer_bitCount_48 : decode prog_17_method_49_code 48 = .ok (.iload_n 0, 1) := by decide +kernel
theorem d_Integer_bitCount_49 : decode prog_17_method_49_code 49 = .ok (.bipush 63, 2) := by decide +kernel
theorem d_Integer_bitCount_51 : decode prog_17_method_49_code 51 = .ok (.iand, 1) := by decide +kernel
theorem d_Integer_bitCount_52 : decode prog_17_method_49_code 52 = .ok (.ireturn, 1) := by decide +kernel
theorem zc_21 : zI 21 21 21 := ⟨by decide +kernel, by decide +kernel⟩
theorem li_21 : (21 : Int32).toInt = 21 := by decide +kernel
abbrev m_s2_Integer_bitCount : Room := { frames := 0, cells := 0, slots := 0, locals := 0 }
set_option maxHeartbeats 4000000 in
set_option maxRecDepth 100000 in
theorem s2_Integer_bitCount (l : Launch) (G : zG) (b0 : Int32)  : zM l G y_Integer_bitCount prog_17_method_49_code 1 (Option.some Jvm.ClassFile.FieldType.int) m_s2_Integer_bitCount [.int b0] [] (fun v w => ∃ (e0 : Int32), v = some (.int e0) ∧ w = [] ∧ (zI e0 0 63)) := by
  refine z_start (by decide +kernel) (Nat.le_of_ble_eq_true rfl) ?_
  intro p e s m below meth c A Z hr hnm hA hP hD hS ls hl
  have Z : zC p s m _ meth c prog_17_method_49_code 1 "java/lang/Integer" G := Z
  obtain ⟨hx, hb, hml, hown, hts, hK, hN, hlocks⟩ := id Z
  have hl : lv_has ls 1 [(0, .int b0)] := hl
  refine lv_iload_n hx hb d_Integer_bitCount_0 rfl (lv_at hl 0 rfl) ?_
  refine lv_iload_n hx hb d_Integer_bitCount_1 rfl (lv_at hl 0 rfl) ?_
  refine lv_iconst (v := 1) hx hb d_Integer_bitCount_2 (by decide) ?_
  obtain ⟨v_1, ev_1⟩ : ∃ z : Int32, z = ((b0).toUInt32 >>> ((1 : Int32).toUInt32 &&& Int32.toUInt32 31)).toInt32 := ⟨_, rfl⟩
  refine lv_iushr (v := v_1) hx hb d_Integer_bitCount_3 ev_1.symm ?_
  refine lv_ldcw hx hb hown (hts _ q792) d_Integer_bitCount_4 ?_
  refine lv_iand hx hb d_Integer_bitCount_7 ?_
  refine lv_topi (fun v_2 ev_2 => ?_)
  refine lv_isub hx hb d_Integer_bitCount_8 ?_
  refine lv_topi (fun v_3 ev_3 => ?_)
  refine lv_istore_n (lv' := [(0, .int v_3)]) hx hb d_Integer_bitCount_9 rfl hl (by decide) rfl (fun ls hl => ?_)
  refine lv_iload_n hx hb d_Integer_bitCount_10 rfl (lv_at hl 0 rfl) ?_
  refine lv_ldcw hx hb hown (hts _ q793) d_Integer_bitCount_11 ?_
  refine lv_iand hx hb d_Integer_bitCount_14 ?_
  refine lv_topi (fun v_4 ev_4 => ?_)
  refine lv_iload_n hx hb d_Integer_bitCount_15 rfl (lv_at hl 0 rfl) ?_
  refine lv_iconst (v := 2) hx hb d_Integer_bitCount_16 (by decide) ?_
  obtain ⟨v_5, ev_5⟩ : ∃ z : Int32, z = ((v_3).toUInt32 >>> ((2 : Int32).toUInt32 &&& Int32.toUInt32 31)).toInt32 := ⟨_, rfl⟩
  refine lv_iushr (v := v_5) hx hb d_Integer_bitCount_17 ev_5.symm ?_
  refine lv_ldcw hx hb hown (hts _ q793) d_Integer_bitCount_18 ?_
  refine lv_iand hx hb d_Integer_bitCount_21 ?_
  refine lv_topi (fun v_6 ev_6 => ?_)
  refine lv_iadd hx hb d_Integer_bitCount_22 ?_
  refine lv_topi (fun v_7 ev_7 => ?_)
  refine lv_istore_n (lv' := [(0, .int v_7)]) hx hb d_Integer_bitCount_23 rfl hl (by decide) rfl (fun ls hl => ?_)
  refine lv_iload_n hx hb d_Integer_bitCount_24 rfl (lv_at hl 0 rfl) ?_
  refine lv_iload_n hx hb d_Integer_bitCount_25 rfl (lv_at hl 0 rfl) ?_
  refine lv_iconst (v := 4) hx hb d_Integer_bitCount_26 (by decide) ?_
  obtain ⟨v_8, ev_8⟩ : ∃ z : Int32, z = ((v_7).toUInt32 >>> ((4 : Int32).toUInt32 &&& Int32.toUInt32 31)).toInt32 := ⟨_, rfl⟩
  refine lv_iushr (v := v_8) hx hb d_Integer_bitCount_27 ev_8.symm ?_
  refine lv_iadd hx hb d_Integer_bitCount_28 ?_
  refine lv_topi (fun v_9 ev_9 => ?_)
  refine lv_ldcw hx hb hown (hts _ q794) d_Integer_bitCount_29 ?_
  refine lv_iand hx hb d_Integer_bitCount_32 ?_
  refine lv_topi (fun v_10 ev_10 => ?_)
  refine lv_istore_n (lv' := [(0, .int v_10)]) hx hb d_Integer_bitCount_33 rfl hl (by decide) rfl (fun ls hl => ?_)
  refine lv_iload_n hx hb d_Integer_bitCount_34 rfl (lv_at hl 0 rfl) ?_
  refine lv_iload_n hx hb d_Integer_bitCount_35 rfl (lv_at hl 0 rfl) ?_
  refine lv_bipush (v := 8) hx hb d_Integer_bitCount_36 (by decide) ?_
  obtain ⟨v_11, ev_11⟩ : ∃ z : Int32, z = ((v_10).toUInt32 >>> ((8 : Int32).toUInt32 &&& Int32.toUInt32 31)).toInt32 := ⟨_, rfl⟩
  refine lv_iushr (v := v_11) hx hb d_Integer_bitCount_38 ev_11.symm ?_
  refine lv_iadd hx hb d_Integer_bitCount_39 ?_
  refine lv_topi (fun v_12 ev_12 => ?_)
  refine lv_istore_n (lv' := [(0, .int v_12)]) hx hb d_Integer_bitCount_40 rfl hl (by decide) rfl (fun ls hl => ?_)
  refine lv_iload_n hx hb d_Integer_bitCount_41 rfl (lv_at hl 0 rfl) ?_
  refine lv_iload_n hx hb d_Integer_bitCount_42 rfl (lv_at hl 0 rfl) ?_
  refine lv_bipush (v := 16) hx hb d_Integer_bitCount_43 (by decide) ?_
  obtain ⟨v_13, ev_13⟩ : ∃ z : Int32, z = ((v_12).toUInt32 >>> ((16 : Int32).toUInt32 &&& Int32.toUInt32 31)).toInt32 := ⟨_, rfl⟩
  refine lv_iushr (v := v_13) hx hb d_Integer_bitCount_45 ev_13.symm ?_
  refine lv_iadd hx hb d_Integer_bitCount_46 ?_
  refine lv_topi (fun v_14 ev_14 => ?_)
  refine lv_istore_n (lv' := [(0, .int v_14)]) hx hb d_Integer_bitCount_47 rfl hl (by decide) rfl (fun ls hl => ?_)
  refine lv_iload_n hx hb d_Integer_bitCount_48 rfl (lv_at hl 0 rfl) ?_
  refine lv_bipush (v := 63) hx hb d_Integer_bitCount_49 (by decide) ?_
  refine lv_iand hx hb d_Integer_bitCount_51 ?_
  refine lv_topi (fun v_15 ev_15 => ?_)
  have hv_15 := zI_and (k := 6) (h := 63) (by decide +kernel) ev_15 (by decide)
  exact z_iret hx hb hr hlocks hP hD hS (Nat.le_of_ble_eq_true rfl) (Nat.le_of_ble_eq_true rfl) d_Integer_bitCount_52 ⟨v_15, rfl, rfl, hv_15⟩
abbrev m_s1_Cover_hardest : Room := { frames := 1, cells := 0, slots := 0, locals := 20 }
set_option maxHeartbeats 4000000 in
set_option maxRecDepth 100000 in
theorem s1_Cover_hardest (l : Launch) (G : zG) (b0 : Nat) (b1 : Int32) (b2 : Int32) (b3 : Int32) (b4 : Int32) (b5 : Int32) (b6 : Nat) (b7 : Int32) (b8 : Nat → Int32) (hb3 : zI b3 0 1) (hb7 : zI b7 0 240) : zM l G y_Cover_hardest prog_2_method_7_code 7 (Option.some Jvm.ClassFile.FieldType.int) m_s1_Cover_hardest [.ref b0, .int b1, .int b2] [(b0, .inr (9, [.int b3, .int b4, .int b5, .ref b6, .int b7])), (b6, .inl (G.2 0, 240, .inl b8))] (fun v w => ∃ (e0 : Int32), v = some (.int e0) ∧ w = [(b0, .inr (9, [.int b3, .int b4, .int b5, .ref b6, .int b7])), (b6, .inl (G.2 0, 240, .inl b8))] ∧ (zI e0 (-1) 239)) := by
  refine z_start (by decide +kernel) (Nat.le_of_ble_eq_true rfl) ?_
  intro p e s m below meth c A Z hr hnm hA hP hD hS ls hl
  have Z : zC p s m _ meth c prog_2_method_7_code 7 "TraceMachines$Cover" G := Z
  obtain ⟨hx, hb, hml, hown, hts, hK, hN, hlocks⟩ := id Z
  have hl : lv_has ls 7 [(0, .ref b0), (1, .int b1), (2, .int b2)] := hl
  refine lv_iconst (v := (-1)) hx hb d_Cover_hardest_0 (by decide) ?_
  refine lv_istore_n (lv' := [(3, .int (-1)), (0, .ref b0), (1, .int b1), (2, .int b2)]) hx hb d_Cover_hardest_1 rfl hl (by decide) rfl (fun ls hl => ?_)
  refine lv_bipush (v := 21) hx hb d_Cover_hardest_2 (by decide) ?_
  refine lv_istore (lv' := [(4, .int 21), (3, .int (-1)), (0, .ref b0), (1, .int b1), (2, .int b2)]) hx hb d_Cover_hardest_4 hl (by decide) rfl (fun ls hl => ?_)
  refine lv_iconst (v := 0) hx hb d_Cover_hardest_6 (by decide) ?_
  refine lv_istore (lv' := [(5, .int 0), (4, .int 21), (3, .int (-1)), (0, .ref b0), (1, .int b1), (2, .int b2)]) hx hb d_Cover_hardest_7 hl (by decide) rfl (fun ls hl => ?_)
  suffices key : ∀ (k_28 : Nat) (y_29 : Int32) (y_30 : Int32) (y_31 : Int32) (H : Heap) (locs : List Loc) (ls : Array Slot), (zI y_29 0 240) → (zI y_30 0 21) → (zI y_31 (-1) 239) → (240 : Int) - y_29.toInt < (k_28 : Int) → va_P G.1 classes [(b0, .inr (9, [.int b3, .int b4, .int b5, .ref b6, .int b7])), (b6, .inl (G.2 0, 240, .inl b8))] H → va_D A [(b0, .inr (9, [.int b3, .int b4, .int b5, .ref b6, .int b7])), (b6, .inl (G.2 0, 240, .inl b8))] → va_S A s.heap H locs → lv_has ls 7 [(5, .int y_29), (4, .int y_30), (3, .int y_31), (0, .ref b0), (1, .int b1), (2, .int b2)] → W p l e m_s1_Cover_hardest s m ([.ref b0, .int b1, .int b2] : List Value).toArray below meth c H locs 0 0 (MQ below (zQ G (fun v w => ∃ (e0 : Int32), v = some (.int e0) ∧ w = [(b0, .inr (9, [.int b3, .int b4, .int b5, .ref b6, .int b7])), (b6, .inl (G.2 0, 240, .inl b8))] ∧ (zI e0 (-1) 239)) A) ([.ref b0, .int b1, .int b2] : List Value).toArray s m_s1_Cover_hardest.cells m_s1_Cover_hardest.slots A) (F0 m 9 ls []) by
    exact key 241 (0) (21) ((-1)) _ _ _ (zI.wk (l' := 0) (h' := 240) zc_0 (by decide)) (zI.wk (l' := 0) (h' := 21) zc_21 (by decide)) (zI.wk (l' := (-1)) (h' := 239) zc_m1 (by decide)) (zm_upi (zI.wk (l' := 0) (h' := 240) zc_0 (by decide)) (by decide)) hP hD hS (lv_sub hl [0, 1, 2, 3, 4, 5] rfl)
  intro k_28
  induction k_28 with
  | zero =>
    intro y_29 y_30 y_31 H locs ls hy_29 hy_30 hy_31 hmk_28 hP hD hS hl
    exact (zm_up0 hy_29 hmk_28).elim
  | succ k_28 ihk_28 =>
    intro y_29 y_30 y_31 H locs ls hy_29 hy_30 hy_31 hmk_28 hP hD hS hl
    refine lv_iload hx hb d_Cover_hardest_9 (lv_at hl 0 rfl) ?_
    refine lv_aload_n hx hb d_Cover_hardest_11 rfl (lv_at hl 3 rfl) ?_
    refine va_get (D := G.1) (ci := 9) (v := .int b7) (C := R_Cover) (T := F_Cover) (N := 5) hx hb hts i_Cover hown hK hP 0 rfl rfl 4 (by decide) (hts _ q345) (fun _ h9 => h9) rfl d_Cover_hardest_12 ?_
    refine lv_icmp_ge (tgt := 66) hx hb d_Cover_hardest_15 (by decide) (fun hc_32 => ?_) (fun hc_32 => ?_)
    · have _nhc_32 := hc_32
      have ni_33 := (fa_le _ _).mp hc_32
      refine lv_iload_n hx hb d_Cover_hardest_66 rfl (lv_at hl 2 rfl) ?_
      exact z_iret hx hb hr hlocks hP hD hS (Nat.le_of_ble_eq_true rfl) (Nat.le_of_ble_eq_true rfl) d_Cover_hardest_67 ⟨y_31, rfl, rfl, hy_31⟩
    · have _nhc_32 := hc_32
      have ni_34 := (fa_lt _ _).mp (zi_nle hc_32)
      have hv_35 : zI y_29 0 239 := zI.lt_l hy_29 hb7 (zi_nle hc_32) (by decide)
      have hv_36 : zI b7 1 240 := zI.lt_r hy_29 hb7 (zi_nle hc_32) (by decide)
      refine lv_aload_n hx hb d_Cover_hardest_18 rfl (lv_at hl 3 rfl) ?_
      refine va_get (D := G.1) (ci := 9) (v := .ref b6) (C := R_Cover) (T := F_Cover) (N := 5) hx hb hts i_Cover hown hK hP 0 rfl rfl 3 (by decide) (hts _ q344) (fun _ h9 => h9) rfl d_Cover_hardest_19 ?_
      refine lv_iload hx hb d_Cover_hardest_22 (lv_at hl 0 rfl) ?_
      refine va_iald hx hb hK hP 1 0 rfl rfl (zI.inn hv_35 (by decide)) d_Cover_hardest_24 ?_
      refine lv_topi (fun v_37 ev_37 => ?_)
      refine lv_iload_n hx hb d_Cover_hardest_25 rfl (lv_at hl 4 rfl) ?_
      refine lv_iand hx hb d_Cover_hardest_26 ?_
      refine lv_topi (fun v_38 ev_38 => ?_)
      refine lv_if_ne (tgt := 60) hx hb d_Cover_hardest_27 (by decide) (fun hc_39 => ?_) (fun hc_39 => ?_)
      · have _nhc_39 := hc_39
        have ni_40 : ¬ (v_38 : Int32).toInt = (0 : Int32).toInt := fun z => hc_39 ((fa_eq _ _).mpr z)
        simp only [li_0] at ni_40
        obtain ⟨v_41, ev_41⟩ : ∃ z : Int32, z = y_29 + 1 := ⟨_, rfl⟩
        obtain ⟨qv_41, hv_41⟩ := zI_add (l := 1) (h := 240) hv_35 zc_1 ev_41 (by decide)
        rw [li_1] at qv_41
        refine lv_iinc (v := v_41) (lv' := [(5, .int v_41), (4, .int y_30), (3, .int y_31), (0, .ref b0), (1, .int b1), (2, .int b2)]) hx hb d_Cover_hardest_60 hl (k := 0) rfl (by rw [ev_41]; rfl) (by decide) rfl (fun ls hl => ?_)
        refine lv_goto (tgt := 9) hx hb d_Cover_hardest_63 (by decide) ?_
        exact ihk_28 (v_41) (y_30) (y_31) _ _ _ (zI.wk (l' := 0) (h' := 240) hv_41 (by decide)) hy_30 hy_31 (zm_up qv_41 hmk_28 (by decide)) hP hD hS (lv_sub hl [0, 1, 2, 3, 4, 5] rfl)
      · have _nhc_39 := hc_39
        have ni_42 := (fa_eq _ _).mp hc_39
        rw [li_0] at ni_42
        have hv_43 : zI v_38 0 0 := zI.eq_l (zI_all v_38) zc_0 hc_39
        refine lv_aload_n hx hb d_Cover_hardest_30 rfl (lv_at hl 3 rfl) ?_
        refine va_get (D := G.1) (ci := 9) (v := .ref b6) (C := R_Cover) (T := F_Cover) (N := 5) hx hb hts i_Cover hown hK hP 0 rfl rfl 3 (by decide) (hts _ q344) (fun _ h9 => h9) rfl d_Cover_hardest_31 ?_
        refine lv_iload hx hb d_Cover_hardest_34 (lv_at hl 0 rfl) ?_
        refine va_iald hx hb hK hP 1 0 rfl rfl (zI.inn hv_35 (by decide)) d_Cover_hardest_36 ?_
        refine lv_topi (fun v_44 ev_44 => ?_)
        obtain rfl : v_37 = v_44 := ev_37.trans ev_44.symm
        refine lv_iload_n hx hb d_Cover_hardest_37 rfl (lv_at hl 5 rfl) ?_
        refine lv_iconst (v := (-1)) hx hb d_Cover_hardest_38 (by decide) ?_
        refine lv_ixor hx hb d_Cover_hardest_39 ?_
        refine lv_topi (fun v_45 ev_45 => ?_)
        refine lv_iand hx hb d_Cover_hardest_40 ?_
        refine lv_topi (fun v_46 ev_46 => ?_)
        refine z_callS (index := 73) (As := [.int v_46]) (rest := []) (wr := [(b0, .inr (9, [.int b3, .int b4, .int b5, .ref b6, .int b7])), (b6, .inl (G.2 0, 240, .inl b8))]) Z (s2_Integer_bitCount l G (v_46)) hl.1 q789 q790 q22 q791 ⟨by decide, by decide, by show _ = some 1; decide +kernel⟩ ⟨Nat.le_of_ble_eq_true rfl, Nat.le_of_ble_eq_true rfl⟩ ⟨Nat.le_of_ble_eq_true rfl, Nat.le_of_ble_eq_true rfl⟩ rfl (Nat.le_of_ble_eq_true rfl) d_Cover_hardest_41 hP hD hS hA [] [0, 1] rfl rfl rfl rfl (by decide) (fun v w1 H locs hw_47 hP hD hS => ?_)
        obtain ⟨x_48, rfl, rfl, hx_48⟩ := hw_47
        have hP : va_P G.1 classes [(b0, .inr (9, [.int b3, .int b4, .int b5, .ref b6, .int b7])), (b6, .inl (G.2 0, 240, .inl b8))] H := hP
        have hD := z_tie hP hD rfl
        refine W.widen (k := 0) (n := 0) (Nat.le_of_ble_eq_true rfl) (Nat.le_of_ble_eq_true rfl) ?_
        refine lv_istore (lv' := [(6, .int x_48), (5, .int y_29), (4, .int y_30), (3, .int y_31), (0, .ref b0), (1, .int b1), (2, .int b2)]) hx hb d_Cover_hardest_44 hl (by decide) rfl (fun ls hl => ?_)
        refine lv_iload hx hb d_Cover_hardest_46 (lv_at hl 0 rfl) ?_
        refine lv_iload hx hb d_Cover_hardest_48 (lv_at hl 2 rfl) ?_
        refine lv_icmp_ge (tgt := 60) hx hb d_Cover_hardest_50 (by decide) (fun hc_49 => ?_) (fun hc_49 => ?_)
        · have _nhc_49 := hc_49
          have ni_50 := (fa_le _ _).mp hc_49
          obtain ⟨v_51, ev_51⟩ : ∃ z : Int32, z = y_29 + 1 := ⟨_, rfl⟩
          obtain ⟨qv_51, hv_51⟩ := zI_add (l := 1) (h := 240) hv_35 zc_1 ev_51 (by decide)
          rw [li_1] at qv_51
          refine lv_iinc (v := v_51) (lv' := [(5, .int v_51), (6, .int x_48), (4, .int y_30), (3, .int y_31), (0, .ref b0), (1, .int b1), (2, .int b2)]) hx hb d_Cover_hardest_60 hl (k := 1) rfl (by rw [ev_51]; rfl) (by decide) rfl (fun ls hl => ?_)
          refine lv_goto (tgt := 9) hx hb d_Cover_hardest_63 (by decide) ?_
          exact ihk_28 (v_51) (y_30) (y_31) _ _ _ (zI.wk (l' := 0) (h' := 240) hv_51 (by decide)) hy_30 hy_31 (zm_up qv_51 hmk_28 (by decide)) hP hD hS (lv_sub hl [0, 2, 3, 4, 5, 6] rfl)
        · have _nhc_49 := hc_49
          have ni_52 := (fa_lt _ _).mp (zi_nle hc_49)
          have hv_53 : zI x_48 0 20 := zI.lt_l hx_48 hy_30 (zi_nle hc_49) (by decide)
          have hv_54 : zI y_30 1 21 := zI.lt_r hx_48 hy_30 (zi_nle hc_49) (by decide)
          refine lv_iload hx hb d_Cover_hardest_53 (lv_at hl 0 rfl) ?_
          refine lv_istore (lv' := [(4, .int x_48), (6, .int x_48), (5, .int y_29), (3, .int y_31), (0, .ref b0), (1, .int b1), (2, .int b2)]) hx hb d_Cover_hardest_55 hl (by decide) rfl (fun ls hl => ?_)
          refine lv_iload hx hb d_Cover_hardest_57 (lv_at hl 2 rfl) ?_
          refine lv_istore_n (lv' := [(3, .int y_29), (4, .int x_48), (6, .int x_48), (5, .int y_29), (0, .ref b0), (1, .int b1), (2, .int b2)]) hx hb d_Cover_hardest_59 rfl hl (by decide) rfl (fun ls hl => ?_)
          obtain ⟨v_55, ev_55⟩ : ∃ z : Int32, z = y_29 + 1 := ⟨_, rfl⟩
          obtain ⟨qv_55, hv_55⟩ := zI_add (l := 1) (h := 240) hv_35 zc_1 ev_55 (by decide)
          rw [li_1] at qv_55
          refine lv_iinc (v := v_55) (lv' := [(5, .int v_55), (3, .int y_29), (4, .int x_48), (6, .int x_48), (0, .ref b0), (1, .int b1), (2, .int b2)]) hx hb d_Cover_hardest_60 hl (k := 3) rfl (by rw [ev_55]; rfl) (by decide) rfl (fun ls hl => ?_)
          refine lv_goto (tgt := 9) hx hb d_Cover_hardest_63 (by decide) ?_
          exact ihk_28 (v_55) (x_48) (y_29) _ _ _ (zI.wk (l' := 0) (h' := 240) hv_55 (by decide)) (zI.wk (l' := 0) (h' := 21) hv_53 (by decide)) (zI.wk (l' := (-1)) (h' := 239) hv_35 (by decide)) (zm_up qv_55 hmk_28 (by decide)) hP hD hS (lv_sub hl [0, 2, 1, 4, 5, 6] rfl)
theorem d_Text_parse_0 : decode prog_9_method_4_code 0 = .ok (.iconst 0, 1) := by decide +kernel
theorem d_Text_parse_1 : decode prog_9_method_4_code 1 = .ok (.istore_n 3, 1) := by decide +kernel
theorem d_Text_parse_2 : decode prog_9_method_4_code 2 = .ok (.iconst 0, 1) := by decide +kernel
theorem d_Text_parse_3 : decode prog_9_method_4_code 3 = .ok (.istore 4, 2) := by decide +kernel
theorem d_Text_parse_5 : decode prog_9_method_4_code 5 = .ok (.iconst 0, 1) := by decide +kernel
theorem d_Text_parse_6 : decode prog_9_method_4_code 6 = .ok (.istore 5, 2) := by decide +kernel
theorem d_Text_parse_8 : decode prog_9_method_4_code 8 = .ok (.iload 5, 2) := by decide +kernel
theorem d_Text_parse_10 : decode prog_9_method_4_code 10 = .ok (.aload_n 0, 1) := by decide +kernel
theorem d_Text_parse_11 : decode prog_9_method_4_code 11 = .ok (.getfield 15, 3) := by decide +kernel
theorem d_Text_parse_14 : decode prog_9_method_4_code 14 = .ok (.if_icmp .ge 129, 3) := by decide +kernel
theorem d_Text_parse_17 : decode prog_9_method_4_code 17 = .ok (.aload_n 0, 1) := by decide +kernel
theorem d_Text_parse_18 : decode prog_9_method_4_code 18 = .ok (.getfield 9, 3) := by decide +kernel
theorem d_Text_parse_21 : decode prog_9_method_4_code 21 = .ok (.iload 5, 2) := by decide +kernel
theorem d_Text_parse_23 : decode prog_9_method_4_code 23 = .ok (.caload, 1) := by decide +kernel
theorem d_Text_parse_24 : decode prog_9_method_4_code 24 = .ok (.istore 6, 2) := by decide +kernel
theorem d_Text_parse_26 : decode prog_9_method_4_code 26 = .ok (.iload 4, 2) := by decide +kernel
theorem d_Text_parse_28 : decode prog_9_method_4_code 28 = .ok (.ifCond .le 32, 3) := by decide +kernel
theorem d_Text_parse_31 : decode prog_9_method_4_code 31 = .ok (.iload 6, 2) := by decide +kernel
theorem d_Text_parse_33 : decode prog_9_method_4_code 33 = .ok (.bipush 48, 2) := by decide +kernel
theorem d_Text_parse_35 : decode prog_9_method_4_code 35 = .ok (.if_icmp .lt 25, 3) := by decide +kernel
theorem d_Text_parse_38 : decode prog_9_method_4_code 38 = .ok (.iload 6, 2) := by decide +kernel
theorem d_Text_parse_40 : decode prog_9_method_4_code 40 = .ok (.bipush 57, 2) := by decide +kernel
theorem d_Text_parse_42 : decode prog_9_method_4_code 42 = .ok (.if_icmp .gt 18, 3) := by decide +kernel
theorem d_Text_parse_45 : decode prog_9_method_4_code 45 = .ok (.aload_n 1, 1) := by decide +kernel
theorem d_Text_parse_46 : decode prog_9_method_4_code 46 = .ok (.iload 6, 2) := by decide +kernel
theorem d_Text_parse_48 : decode prog_9_method_4_code 48 = .ok (.bipush 48, 2) := by decide +kernel
theorem d_Text_parse_50 : decode prog_9_method_4_code 50 = .ok (.isub, 1) := by decide +kernel
theorem d_Text_parse_51 : decode prog_9_method_4_code 51 = .ok (.invokevirtual 19, 3) := by decide +kernel
theorem d_Text_parse_54 : decode prog_9_method_4_code 54 = .ok (.iinc 4 (-1), 3) := by decide +kernel
theorem d_Text_parse_57 : decode prog_9_method_4_code 57 = .ok (.goto 80, 3) := by decide +kernel
theorem d_Text_parse_60 : decode prog_9_method_4_code 60 = .ok (.iconst 0, 1) := by decide +kernel
theorem d_Text_parse_61 : decode prog_9_method_4_code 61 = .ok (.istore 4, 2) := by decide +kernel
theorem d_Text_parse_63 : decode prog_9_method_4_code 63 = .ok (.iload 6, 2) := by decide +kernel
theorem d_Text_parse_65 : decode prog_9_method_4_code 65 = .ok (.bipush 32, 2) := by decide +kernel
theorem d_Text_parse_67 : decode prog_9_method_4_code 67 = .ok (.if_icmp .ne 6, 3) := by decide +kernel
theorem d_Text_parse_70 : decode prog_9_method_4_code 70 = .ok (.goto 67, 3) := by decide +kernel
theorem d_Text_parse_73 : decode prog_9_method_4_code 73 = .ok (.iload_n 3, 1) := by decide +kernel
theorem d_Text_parse_74 : decode prog_9_method_4_code 74 = .ok (.ifCond .ne 13, 3) := by decide +kernel
theorem d_Text_parse_77 : decode prog_9_method_4_code 77 = .ok (.aload_n 1, 1) := by decide +kernel
theorem d_Text_parse_78 : decode prog_9_method_4_code 78 = .ok (.invokevirtual 25, 3) := by decide +kernel
theorem d_Text_parse_81 : decode prog_9_method_4_code 81 = .ok (.ifCond .ne 6, 3) := by decide +kernel
theorem d_Text_parse_84 : decode prog_9_method_4_code 84 = .ok (.iload 5, 2) := by decide +kernel
theorem d_Text_parse_87 : decode prog_9_method_4_code 87 = .ok (.iconst 1, 1) := by decide +kernel
theorem d_Text_parse_88 : decode prog_9_method_4_code 88 = .ok (.istore_n 3, 1) := by decide +kernel
theorem d_Text_parse_89 : decode prog_9_method_4_code 89 = .ok (.iload 6, 2) := by decide +kernel
theorem d_Text_parse_91 : decode prog_9_method_4_code 91 = .ok (.bipush 59, 2) := by decide +kernel
theorem d_Text_parse_93 : decode prog_9_method_4_code 93 = .ok (.if_icmp .ne 12, 3) := by decide +kernel
theorem d_Text_parse_96 : decode prog_9_method_4_code 96 = .ok (.iload_n 2, 1) := by decide +kernel
theorem d_Text_parse_97 : decode prog_9_method_4_code 97 = .ok (.ifCond .ne 8, 3) := by decide +kernel
theorem d_Text_parse_100 : decode prog_9_method_4_code 100 = .ok (.iconst 0, 1) := by decide +kernel
theorem d_Text_parse_101 : decode prog_9_method_4_code 101 = .ok (.istore_n 3, 1) := by decide +kernel
theorem d_Text_parse_102 : decode prog_9_method_4_code 102 = .ok (.goto 35, 3) := by decide +kernel
theorem d_Text_parse_105 : decode prog_9_method_4_code 105 = .ok (.iload 6, 2) := by decide +kernel
theorem d_Text_parse_107 : decode prog_9_method_4_code 107 = .ok (.bipush 97, 2) := by decide +kernel
theorem d_Text_parse_109 : decode prog_9_method_4_code 109 = .ok (.isub, 1) := by decide +kernel
theorem d_Text_parse_110 : decode prog_9_method_4_code 110 = .ok (.invokestatic 29, 3) := by decide +kernel
theorem d_Text_parse_113 : decode prog_9_method_4_code 113 = .ok (.ifCond .eq 21, 3) := by decide +kernel
theorem d_Text_parse_116 : decode prog_9_method_4_code 116 = .ok (.aload_n 1, 1) := by decide +kernel
theorem d_Text_parse_117 : decode prog_9_method_4_code 117 = .ok (.iload 6, 2) := by decide +kernel
theorem d_Text_parse_119 : decode prog_9_method_4_code 119 = .ok (.bipush 97, 2) := by decide +kernel
theorem d_Text_parse_121 : decode prog_9_method_4_code 121 = .ok (.isub, 1) := by decide +kernel
theorem d_Text_parse_122 : decode prog_9_method_4_code 122 = .ok (.invokevirtual 33, 3) := by decide +kernel
theorem d_Text_parse_125 : decode prog_9_method_4_code 125 = .ok (.ifCond .eq 9, 3) := by decide +kernel
theorem d_Text_parse_128 : decode prog_9_method_4_code 128 = .ok (.iconst 2, 1) := by decide +kernel
theorem d_Text_parse_129 : decode prog_9_method_4_code 129 = .ok (.istore 4, 2) := by decide +kernel
theorem d_Text_parse_131 : decode prog_9_method_4_code 131 = .ok (.goto 6, 3) := by decide +kernel
theorem d_Text_parse_134 : decode prog_9_method_4_code 134 = .ok (.iload 5, 2) := by decide +kernel
theorem d_Text_parse_137 : decode prog_9_method_4_code 137 = .ok (.iinc 5 1, 3) := by decide +kernel
theorem d_Text_parse_140 : decode prog_9_method_4_code 140 = .ok (.goto (-132), 3) := by decide +kernel
theorem d_Text_parse_143 : decode prog_9_method_4_code 143 = .ok (.iload_n 3, 1) := by decide +kernel
theorem d_Text_parse_144 : decode prog_9_method_4_code 144 = .ok (.ifCond .ne 10, 3) := by decide +kernel
theorem d_Text_parse_147 : decode prog_9_method_4_code 147 = .ok (.aload_n 1, 1) := by decide +kernel
theorem d_Text_parse_148 : decode prog_9_method_4_code 148 = .ok (.invokevirtual 25, 3) := by decide +kernel
theorem d_Text_parse_151 : decode prog_9_method_4_code 151 = .ok (.ifCond .eq 7, 3) := by decide +kernel
theorem d_Text_parse_154 : decode prog_9_method_4_code 154 = .ok (.iconst (-1), 1) := by decide +kernel
theorem d_Text_parse_155 : decode prog_9_method_4_code 155 = .ok (.goto 7, 3) := by decide +kernel
theorem d_Text_parse_158 : decode prog_9_method_4_code 158 = .ok (.aload_n 0, 1) := by decide +kernel
theorem d_Text_parse_159 : decode prog_9_method_4_code 159 = .ok (.getfield 15, 3) := by decide +kernel
theorem d_Text_parse_162 : decode prog_9_method_4_code 162 = .ok (.ireturn, 1) := by decide +kernel
theorem d_X_isLetter_0 : decode prog_1_method_32_code 0 = .ok (.iload_n 0, 1) := by decide +kernel
theorem d_X_isLetter_1 : decode prog_1_method_32_code 1 = .ok (.ifCond .lt 13, 3) := by decide +kernel
theorem d_X_isLetter_4 : decode prog_1_method_32_code 4 = .ok (.iload_n 0, 1) := by decide +kernel
theorem d_X_isLetter_5 : decode prog_1_method_32_code 5 = .ok (.bipush 10, 2) := by decide +kernel
theorem d_X_isLetter_7 : decode prog_1_method_32_code 7 = .ok (.if_icmp .ge 7, 3) := by decide +kernel
theorem d_X_isLetter_10 : decode prog_1_method_32_code 10 = .ok (.iconst 1, 1) := by decide +kernel
theorem d_X_isLetter_11 : decode prog_1_method_32_code 11 = .ok (.goto 4, 3) := by decide +kernel
theorem d_X_isLetter_14 : decode prog_1_method_32_code 14 = .ok (.iconst 0, 1) := by decide +kernel
theorem d_X_isLetter_15 : decode prog_1_method_32_code 15 = .ok (.ireturn, 1) := by decide +kernel
theorem zc_32 : zI 32 32 32 := ⟨by decide +kernel, by decide +kernel⟩
theorem li_32 : (32 : Int32).toInt = 32 := by decide +kernel
theorem zc_59 : zI 59 59 59 := ⟨by decide +kernel, by decide +kernel⟩
theorem li_59 : (59 : Int32).toInt = 59 := by decide +kernel
theorem zc_97 : zI 97 97 97 := ⟨by decide +kernel, by decide +kernel⟩
theorem li_97 : (97 : Int32).toInt = 97 := by decide +kernel
theorem zc_48 : zI 48 48 48 := ⟨by decide +kernel, by decide +kernel⟩
theorem li_48 : (48 : Int32).toInt = 48 := by decide +kernel
theorem zc_57 : zI 57 57 57 := ⟨by decide +kernel, by decide +kernel⟩
theorem li_57 : (57 : Int32).toInt = 57 := by decide +kernel
abbrev m_s2_X_isLetter : Room := { frames := 0, cells := 0, slots := 0, locals := 0 }
set_option maxHeartbeats 4000000 in
set_option maxRecDepth 100000 in
theorem s2_X_isLetter (l : Launch) (G : zG) (b0 : Int32)  : zM l G y_X_isLetter prog_1_method_32_code 1 (Option.some Jvm.ClassFile.FieldType.boolean) m_s2_X_isLetter [.int b0] [] (fun v w => (v = some (.int 0) ∧ w = [] ∧ b0.toInt < 0) ∨ (v = some (.int 0) ∧ w = [] ∧ 0 ≤ b0.toInt ∧ 10 ≤ b0.toInt) ∨ (v = some (.int 1) ∧ w = [] ∧ 0 ≤ b0.toInt ∧ b0.toInt < 10)) := by
  refine z_start (by decide +kernel) (Nat.le_of_ble_eq_true rfl) ?_
  intro p e s m below meth c A Z hr hnm hA hP hD hS ls hl
  have Z : zC p s m _ meth c prog_1_method_32_code 1 "TraceMachines" G := Z
  obtain ⟨hx, hb, hml, hown, hts, hK, hN, hlocks⟩ := id Z
  have hl : lv_has ls 1 [(0, .int b0)] := hl
  refine lv_iload_n hx hb d_X_isLetter_0 rfl (lv_at hl 0 rfl) ?_
  refine lv_if_lt (tgt := 14) hx hb d_X_isLetter_1 (by decide) (fun hc_1 => ?_) (fun hc_1 => ?_)
  · have _nhc_1 := hc_1
    have ni_2 := (fa_lt _ _).mp hc_1
    rw [li_0] at ni_2
    have hv_3 : zI b0 (-2147483648) (-1) := zI.lt_l (zI_all b0) zc_0 hc_1 (by decide)
    refine lv_iconst (v := 0) hx hb d_X_isLetter_14 (by decide) ?_
    exact z_zret hx hb hr hlocks rfl hP hD hS (Nat.le_of_ble_eq_true rfl) (Nat.le_of_ble_eq_true rfl) d_X_isLetter_15 (Or.inl ⟨rfl, rfl, by omega⟩)
  · have _nhc_1 := hc_1
    have ni_4 := (fa_le _ _).mp (zi_nlt hc_1)
    rw [li_0] at ni_4
    have hv_5 : zI b0 0 2147483647 := zI.le_r zc_0 (zI_all b0) (zi_nlt hc_1) (by decide)
    refine lv_iload_n hx hb d_X_isLetter_4 rfl (lv_at hl 0 rfl) ?_
    refine lv_bipush (v := 10) hx hb d_X_isLetter_5 (by decide) ?_
    refine lv_icmp_ge (tgt := 14) hx hb d_X_isLetter_7 (by decide) (fun hc_6 => ?_) (fun hc_6 => ?_)
    · have _nhc_6 := hc_6
      have ni_7 := (fa_le _ _).mp hc_6
      rw [li_10] at ni_7
      have hv_8 : zI b0 10 2147483647 := zI.le_r zc_10 hv_5 hc_6 (by decide)
      refine lv_iconst (v := 0) hx hb d_X_isLetter_14 (by decide) ?_
      exact z_zret hx hb hr hlocks rfl hP hD hS (Nat.le_of_ble_eq_true rfl) (Nat.le_of_ble_eq_true rfl) d_X_isLetter_15 (Or.inr (Or.inl ⟨rfl, rfl, by omega, by omega⟩))
    · have _nhc_6 := hc_6
      have ni_9 := (fa_lt _ _).mp (zi_nle hc_6)
      rw [li_10] at ni_9
      have hv_10 : zI b0 0 9 := zI.lt_l hv_5 zc_10 (zi_nle hc_6) (by decide)
      refine lv_iconst (v := 1) hx hb d_X_isLetter_10 (by decide) ?_
      refine lv_goto (tgt := 15) hx hb d_X_isLetter_11 (by decide) ?_
      exact z_zret hx hb hr hlocks rfl hP hD hS (Nat.le_of_ble_eq_true rfl) (Nat.le_of_ble_eq_true rfl) d_X_isLetter_15 (Or.inr (Or.inr (⟨rfl, rfl, by omega, by omega⟩)))
theorem d_Text_parse_86 : decode prog_9_method_4_code 86 = .ok (.ireturn, 1) := by decide +kernel
theorem d_Text_parse_136 : decode prog_9_method_4_code 136 = .ok (.ireturn, 1) := by decide +kernel
theorem zc_2 : zI 2 2 2 := ⟨by decide +kernel, by decide +kernel⟩
abbrev m_s1_Text_parse : Room := { frames := 1, cells := 0, slots := 0, locals := 23 }
set_option maxHeartbeats 4000000 in
set_option maxRecDepth 100000 in
theorem s1_Text_parse (l : Launch) (G : zG) (b0 : Nat) (b1 : Nat) (b2 : Int32) (b3 : Int32) (b4 : Nat) (b5 : Nat → Int32) (b6 : Int32) (b7 : Int32) (b8 : Int32) (b9 : Nat) (b10 : Nat) (b11 : Nat) (b12 : Nat → Int32) (b13 : Nat → Int32) (b14 : Nat → Int32) (hb2 : zI b2 0 1) (hb3 : zI b3 0 240) (hb6 : zI b6 0 20) (hb7 : zI b7 0 3) (hb8 : zI b8 0 20) (hb12 : zR b12 0 12) (hb13 : zR b13 0 9) : zM l G y_Text_parse prog_9_method_4_code 7 (Option.some Jvm.ClassFile.FieldType.int) m_s1_Text_parse [.ref b0, .ref b1, .int b2] [(b0, .inr (1, [.int b3, .ref b4])), (b4, .inl (G.2 2, 240, .inl b5)), (b1, .inr (2, [.int b6, .int b7, .int b8, .ref b9, .ref b10, .ref b11])), (b9, .inl (G.2 0, 20, .inl b12)), (b10, .inl (G.2 0, 240, .inl b13)), (b11, .inl (G.2 0, 240, .inl b14))] (fun v w => ∃ (e0 : Int32), ∃ (e1 : Int32), ∃ (e2 : Nat → Int32), ∃ (e3 : Nat → Int32), ∃ (e4 : Nat → Int32), v = some (.int e0) ∧ w = [(b0, .inr (1, [.int b3, .ref b4])), (b4, .inl (G.2 2, 240, .inl b5)), (b1, .inr (2, [.int e1, .int b7, .int b8, .ref b9, .ref b10, .ref b11])), (b9, .inl (G.2 0, 20, .inl e2)), (b10, .inl (G.2 0, 240, .inl e3)), (b11, .inl (G.2 0, 240, .inl e4))] ∧ (zI e0 (-1) 240) ∧ (zI e1 0 20) ∧ (zR e2 0 12) ∧ (zR e3 0 9)) := by
  refine z_start (by decide +kernel) (Nat.le_of_ble_eq_true rfl) ?_
  intro p e s m below meth c A Z hr hnm hA hP hD hS ls hl
  have Z : zC p s m _ meth c prog_9_method_4_code 7 "TraceMachines$Text" G := Z
  obtain ⟨hx, hb, hml, hown, hts, hK, hN, hlocks⟩ := id Z
  have hl : lv_has ls 7 [(0, .ref b0), (1, .ref b1), (2, .int b2)] := hl
  refine lv_iconst (v := 0) hx hb d_Text_parse_0 (by decide) ?_
  refine lv_istore_n (lv' := [(3, .int 0), (0, .ref b0), (1, .ref b1), (2, .int b2)]) hx hb d_Text_parse_1 rfl hl (by decide) rfl (fun ls hl => ?_)
  refine lv_iconst (v := 0) hx hb d_Text_parse_2 (by decide) ?_
  refine lv_istore (lv' := [(4, .int 0), (3, .int 0), (0, .ref b0), (1, .ref b1), (2, .int b2)]) hx hb d_Text_parse_3 hl (by decide) rfl (fun ls hl => ?_)
  refine lv_iconst (v := 0) hx hb d_Text_parse_5 (by decide) ?_
  refine lv_istore (lv' := [(5, .int 0), (4, .int 0), (3, .int 0), (0, .ref b0), (1, .ref b1), (2, .int b2)]) hx hb d_Text_parse_6 hl (by decide) rfl (fun ls hl => ?_)
  suffices key : ∀ (k_312 : Nat) (y_313 : Int32) (y_314 : Int32) (y_315 : Int32) (y_316 : Int32) (y_317 : Nat → Int32) (y_318 : Nat → Int32) (y_319 : Nat → Int32) (H : Heap) (locs : List Loc) (ls : Array Slot), (zI y_313 0 240) → (zI y_314 0 2) → (zI y_315 0 1) → (zI y_316 0 20) → (zR y_317 0 9) → (zR y_319 0 12) → (240 : Int) - y_313.toInt < (k_312 : Int) → va_P G.1 classes [(b0, .inr (1, [.int b3, .ref b4])), (b4, .inl (G.2 2, 240, .inl b5)), (b1, .inr (2, [.int y_316, .int b7, .int b8, .ref b9, .ref b10, .ref b11])), (b9, .inl (G.2 0, 20, .inl y_319)), (b10, .inl (G.2 0, 240, .inl y_317)), (b11, .inl (G.2 0, 240, .inl y_318))] H → va_D A [(b0, .inr (1, [.int b3, .ref b4])), (b4, .inl (G.2 2, 240, .inl b5)), (b1, .inr (2, [.int y_316, .int b7, .int b8, .ref b9, .ref b10, .ref b11])), (b9, .inl (G.2 0, 20, .inl y_319)), (b10, .inl (G.2 0, 240, .inl y_317)), (b11, .inl (G.2 0, 240, .inl y_318))] → va_S A s.heap H locs → lv_has ls 7 [(5, .int y_313), (4, .int y_314), (3, .int y_315), (0, .ref b0), (1, .ref b1), (2, .int b2)] → W p l e m_s1_Text_parse s m ([.ref b0, .ref b1, .int b2] : List Value).toArray below meth c H locs 0 0 (MQ below (zQ G (fun v w => ∃ (e0 : Int32), ∃ (e1 : Int32), ∃ (e2 : Nat → Int32), ∃ (e3 : Nat → Int32), ∃ (e4 : Nat → Int32), v = some (.int e0) ∧ w = [(b0, .inr (1, [.int b3, .ref b4])), (b4, .inl (G.2 2, 240, .inl b5)), (b1, .inr (2, [.int e1, .int b7, .int b8, .ref b9, .ref b10, .ref b11])), (b9, .inl (G.2 0, 20, .inl e2)), (b10, .inl (G.2 0, 240, .inl e3)), (b11, .inl (G.2 0, 240, .inl e4))] ∧ (zI e0 (-1) 240) ∧ (zI e1 0 20) ∧ (zR e2 0 12) ∧ (zR e3 0 9)) A) ([.ref b0, .ref b1, .int b2] : List Value).toArray s m_s1_Text_parse.cells m_s1_Text_parse.slots A) (F0 m 8 ls []) by
    exact key 241 (0) (0) (0) (b6) (b13) (b14) (b12) _ _ _ (zI.wk (l' := 0) (h' := 240) zc_0 (by decide)) (zI.wk (l' := 0) (h' := 2) zc_0 (by decide)) (zI.wk (l' := 0) (h' := 1) zc_0 (by decide)) hb6 hb13 hb12 (zm_upi (zI.wk (l' := 0) (h' := 240) zc_0 (by decide)) (by decide)) hP hD hS (lv_sub hl [0, 1, 2, 3, 4, 5] rfl)
  intro k_312
  induction k_312 with
  | zero =>
    intro y_313 y_314 y_315 y_316 y_317 y_318 y_319 H locs ls hy_313 hy_314 hy_315 hy_316 hy_317 hy_319 hmk_312 hP hD hS hl
    exact (zm_up0 hy_313 hmk_312).elim
  | succ k_312 ihk_312 =>
    intro y_313 y_314 y_315 y_316 y_317 y_318 y_319 H locs ls hy_313 hy_314 hy_315 hy_316 hy_317 hy_319 hmk_312 hP hD hS hl
    refine lv_iload hx hb d_Text_parse_8 (lv_at hl 0 rfl) ?_
    refine lv_aload_n hx hb d_Text_parse_10 rfl (lv_at hl 3 rfl) ?_
    refine va_get (D := G.1) (ci := 1) (v := .int b3) (C := R_Text) (T := F_Text) (N := 2) hx hb hts i_Text hown hK hP 0 rfl rfl 0 (by decide) (hts _ q37) (fun _ h9 => h9) rfl d_Text_parse_11 ?_
    refine lv_icmp_ge (tgt := 143) hx hb d_Text_parse_14 (by decide) (fun hc_320 => ?_) (fun hc_320 => ?_)
    · have _nhc_320 := hc_320
      have ni_321 := (fa_le _ _).mp hc_320
      refine lv_iload_n hx hb d_Text_parse_143 rfl (lv_at hl 2 rfl) ?_
      refine lv_if_ne (tgt := 154) hx hb d_Text_parse_144 (by decide) (fun hc_322 => ?_) (fun hc_322 => ?_)
      · have _nhc_322 := hc_322
        have ni_323 : ¬ (y_315 : Int32).toInt = (0 : Int32).toInt := fun z => hc_322 ((fa_eq _ _).mpr z)
        simp only [li_0] at ni_323
        have hv_324 : zI y_315 1 1 := zI.ne_lo hy_315 zc_0 hc_322 (by decide)
        refine lv_iconst (v := (-1)) hx hb d_Text_parse_154 (by decide) ?_
        refine lv_goto (tgt := 162) hx hb d_Text_parse_155 (by decide) ?_
        exact z_iret hx hb hr hlocks hP hD hS (Nat.le_of_ble_eq_true rfl) (Nat.le_of_ble_eq_true rfl) d_Text_parse_162 ⟨(-1), y_316, y_319, y_317, y_318, rfl, rfl, (zI.wk (l' := (-1)) (h' := 240) zc_m1 (by decide)), hy_316, hy_319, hy_317⟩
      · have _nhc_322 := hc_322
        have ni_325 := (fa_eq _ _).mp hc_322
        rw [li_0] at ni_325
        have hv_326 : zI y_315 0 0 := zI.eq_l hy_315 zc_0 hc_322
        refine lv_aload_n hx hb d_Text_parse_147 rfl (lv_at hl 4 rfl) ?_
        refine z_callV (index := 25) (As := []) (rest := []) (wr := [(b0, .inr (1, [.int b3, .ref b4])), (b4, .inl (G.2 2, 240, .inl b5)), (b10, .inl (G.2 0, 240, .inl y_317)), (b11, .inl (G.2 0, 240, .inl y_318))]) Z (s1_Traces_open l G (b1) (y_316) (b7) (b8) (b9) (b10) (b11) (y_319) hy_316 hb7 hb8 hy_319) hl.1 q513 q514 q515 q3 q516 ⟨by decide, by decide, by show _ = some 0; decide +kernel⟩ ⟨Nat.le_of_ble_eq_true rfl, Nat.le_of_ble_eq_true rfl⟩ ⟨Nat.le_of_ble_eq_true rfl, Nat.le_of_ble_eq_true rfl⟩ rfl (Nat.le_of_ble_eq_true rfl) d_Text_parse_148 hP hD hS hA 2 2 rfl rfl rfl [2, 3] [0, 1, 4, 5] rfl rfl rfl rfl (by decide) (fun v w1 H locs hw_327 hP hD hS => ?_)
        obtain ⟨x_328, x_329, f_330, rfl, rfl, hx_328, hx_329, hf_330⟩ := hw_327
        have hP : va_P G.1 classes [(b0, .inr (1, [.int b3, .ref b4])), (b4, .inl (G.2 2, 240, .inl b5)), (b10, .inl (G.2 0, 240, .inl y_317)), (b11, .inl (G.2 0, 240, .inl y_318)), (b1, .inr (2, [.int x_329, .int b7, .int b8, .ref b9, .ref b10, .ref b11])), (b9, .inl (G.2 0, 20, .inl f_330))] H := hP
        have hD := z_tie hP hD rfl
        refine W.widen (k := 0) (n := 0) (Nat.le_of_ble_eq_true rfl) (Nat.le_of_ble_eq_true rfl) ?_
        refine lv_if_eq (tgt := 158) hx hb d_Text_parse_151 (by decide) (fun hc_331 => ?_) (fun hc_331 => ?_)
        · have _nhc_331 := hc_331
          have ni_332 := (fa_eq _ _).mp hc_331
          rw [li_0] at ni_332
          have hv_333 : zI x_328 0 0 := zI.eq_l hx_328 zc_0 hc_331
          refine lv_aload_n hx hb d_Text_parse_158 rfl (lv_at hl 3 rfl) ?_
          refine va_get (D := G.1) (ci := 1) (v := .int b3) (C := R_Text) (T := F_Text) (N := 2) hx hb hts i_Text hown hK hP 0 rfl rfl 0 (by decide) (hts _ q37) (fun _ h9 => h9) rfl d_Text_parse_159 ?_
          exact z_iret hx hb hr hlocks (hP.sub [0, 1, 4, 5, 2, 3] rfl) (hD.sub [0, 1, 4, 5, 2, 3] (by decide) rfl) hS (Nat.le_of_ble_eq_true rfl) (Nat.le_of_ble_eq_true rfl) d_Text_parse_162 ⟨b3, x_329, f_330, y_317, y_318, rfl, rfl, (zI.wk (l' := (-1)) (h' := 240) hb3 (by decide)), hx_329, hf_330, hy_317⟩
        · have _nhc_331 := hc_331
          have ni_334 : ¬ (x_328 : Int32).toInt = (0 : Int32).toInt := fun z => hc_331 ((fa_eq _ _).mpr z)
          simp only [li_0] at ni_334
          have hv_335 : zI x_328 1 1 := zI.ne_lo hx_328 zc_0 hc_331 (by decide)
          refine lv_iconst (v := (-1)) hx hb d_Text_parse_154 (by decide) ?_
          refine lv_goto (tgt := 162) hx hb d_Text_parse_155 (by decide) ?_
          exact z_iret hx hb hr hlocks (hP.sub [0, 1, 4, 5, 2, 3] rfl) (hD.sub [0, 1, 4, 5, 2, 3] (by decide) rfl) hS (Nat.le_of_ble_eq_true rfl) (Nat.le_of_ble_eq_true rfl) d_Text_parse_162 ⟨(-1), x_329, f_330, y_317, y_318, rfl, rfl, (zI.wk (l' := (-1)) (h' := 240) zc_m1 (by decide)), hx_329, hf_330, hy_317⟩
    · have _nhc_320 := hc_320
      have ni_336 := (fa_lt _ _).mp (zi_nle hc_320)
      have hv_337 : zI y_313 0 239 := zI.lt_l hy_313 hb3 (zi_nle hc_320) (by decide)
      have hv_338 : zI b3 1 240 := zI.lt_r hy_313 hb3 (zi_nle hc_320) (by decide)
      refine lv_aload_n hx hb d_Text_parse_17 rfl (lv_at hl 3 rfl) ?_
      refine va_get (D := G.1) (ci := 1) (v := .ref b4) (C := R_Text) (T := F_Text) (N := 2) hx hb hts i_Text hown hK hP 0 rfl rfl 1 (by decide) (hts _ q39) (fun _ h9 => h9) rfl d_Text_parse_18 ?_
      refine lv_iload hx hb d_Text_parse_21 (lv_at hl 0 rfl) ?_
      refine va_cald hx hb hK hP 1 2 rfl rfl (zI.inn hv_337 (by decide)) d_Text_parse_23 ?_
      refine lv_topi (fun v_339 ev_339 => ?_)
      refine lv_istore (lv' := [(6, .int v_339), (5, .int y_313), (4, .int y_314), (3, .int y_315), (0, .ref b0), (1, .ref b1), (2, .int b2)]) hx hb d_Text_parse_24 hl (by decide) rfl (fun ls hl => ?_)
      refine lv_iload hx hb d_Text_parse_26 (lv_at hl 2 rfl) ?_
      refine lv_if_le (tgt := 60) hx hb d_Text_parse_28 (by decide) (fun hc_340 => ?_) (fun hc_340 => ?_)
      · have _nhc_340 := hc_340
        have ni_341 := (fa_le _ _).mp hc_340
        rw [li_0] at ni_341
        have hv_342 : zI y_314 0 0 := zI.le_l hy_314 zc_0 hc_340 (by decide)
        refine lv_iconst (v := 0) hx hb d_Text_parse_60 (by decide) ?_
        refine lv_istore (lv' := [(4, .int 0), (6, .int v_339), (5, .int y_313), (3, .int y_315), (0, .ref b0), (1, .ref b1), (2, .int b2)]) hx hb d_Text_parse_61 hl (by decide) rfl (fun ls hl => ?_)
        refine lv_iload hx hb d_Text_parse_63 (lv_at hl 1 rfl) ?_
        refine lv_bipush (v := 32) hx hb d_Text_parse_65 (by decide) ?_
        refine lv_icmp_ne (tgt := 73) hx hb d_Text_parse_67 (by decide) (fun hc_343 => ?_) (fun hc_343 => ?_)
        · have _nhc_343 := hc_343
          have ni_344 : ¬ (v_339 : Int32).toInt = (32 : Int32).toInt := fun z => hc_343 ((fa_eq _ _).mpr z)
          simp only [li_32] at ni_344
          refine lv_iload_n hx hb d_Text_parse_73 rfl (lv_at hl 3 rfl) ?_
          refine lv_if_ne (tgt := 87) hx hb d_Text_parse_74 (by decide) (fun hc_345 => ?_) (fun hc_345 => ?_)
          · have _nhc_345 := hc_345
            have ni_346 : ¬ (y_315 : Int32).toInt = (0 : Int32).toInt := fun z => hc_345 ((fa_eq _ _).mpr z)
            simp only [li_0] at ni_346
            have hv_347 : zI y_315 1 1 := zI.ne_lo hy_315 zc_0 hc_345 (by decide)
            refine lv_iconst (v := 1) hx hb d_Text_parse_87 (by decide) ?_
            refine lv_istore_n (lv' := [(3, .int 1), (4, .int 0), (6, .int v_339), (5, .int y_313), (0, .ref b0), (1, .ref b1), (2, .int b2)]) hx hb d_Text_parse_88 rfl hl (by decide) rfl (fun ls hl => ?_)
            refine lv_iload hx hb d_Text_parse_89 (lv_at hl 2 rfl) ?_
            refine lv_bipush (v := 59) hx hb d_Text_parse_91 (by decide) ?_
            refine lv_icmp_ne (tgt := 105) hx hb d_Text_parse_93 (by decide) (fun hc_348 => ?_) (fun hc_348 => ?_)
            · have _nhc_348 := hc_348
              have ni_349 : ¬ (v_339 : Int32).toInt = (59 : Int32).toInt := fun z => hc_348 ((fa_eq _ _).mpr z)
              simp only [li_59] at ni_349
              refine lv_iload hx hb d_Text_parse_105 (lv_at hl 2 rfl) ?_
              refine lv_bipush (v := 97) hx hb d_Text_parse_107 (by decide) ?_
              refine lv_isub hx hb d_Text_parse_109 ?_
              refine lv_topi (fun v_350 ev_350 => ?_)
              refine z_callSN (host := "TraceMachines") (index := 29) (As := [.int v_350]) (rest := []) (wr := [(b0, .inr (1, [.int b3, .ref b4])), (b4, .inl (G.2 2, 240, .inl b5)), (b1, .inr (2, [.int y_316, .int b7, .int b8, .ref b9, .ref b10, .ref b11])), (b9, .inl (G.2 0, 20, .inl y_319)), (b10, .inl (G.2 0, 240, .inl y_317)), (b11, .inl (G.2 0, 240, .inl y_318))]) Z (s2_X_isLetter l G (v_350)) hl.1 (by decide +kernel) q518 q1 q519 ⟨by decide, by decide, by show _ = some 1; decide +kernel⟩ ⟨Nat.le_of_ble_eq_true rfl, Nat.le_of_ble_eq_true rfl⟩ ⟨Nat.le_of_ble_eq_true rfl, Nat.le_of_ble_eq_true rfl⟩ rfl (Nat.le_of_ble_eq_true rfl) d_Text_parse_110 hP hD hS hA [] [0, 1, 2, 3, 4, 5] rfl rfl rfl rfl (by decide) (fun v w1 H locs hw_351 hP hD hS => ?_)
              rcases hw_351 with ⟨rfl, rfl, hq_352⟩ | ⟨rfl, rfl, hq_353, hq_354⟩ | ⟨rfl, rfl, hq_355, hq_356⟩
              · have hP : va_P G.1 classes [(b0, .inr (1, [.int b3, .ref b4])), (b4, .inl (G.2 2, 240, .inl b5)), (b1, .inr (2, [.int y_316, .int b7, .int b8, .ref b9, .ref b10, .ref b11])), (b9, .inl (G.2 0, 20, .inl y_319)), (b10, .inl (G.2 0, 240, .inl y_317)), (b11, .inl (G.2 0, 240, .inl y_318))] H := hP
                have hD := z_tie hP hD rfl
                have hv_357 : zI v_350 (-2147483648) (-1) := by have _a := hq_352; have _b := (zI_all v_350); have _c := zc_0; exact ⟨by omega, by omega⟩
                refine W.widen (k := 0) (n := 0) (Nat.le_of_ble_eq_true rfl) (Nat.le_of_ble_eq_true rfl) ?_
                refine lv_if_eq (tgt := 134) hx hb d_Text_parse_113 (by decide) (fun _ => ?_) (fun hc => absurd hc (by decide +kernel))
                refine lv_iload hx hb d_Text_parse_134 (lv_at hl 3 rfl) ?_
                exact z_iret hx hb hr hlocks hP hD hS (Nat.le_of_ble_eq_true rfl) (Nat.le_of_ble_eq_true rfl) d_Text_parse_136 ⟨y_313, y_316, y_319, y_317, y_318, rfl, rfl, (zI.wk (l' := (-1)) (h' := 240) hv_337 (by decide)), hy_316, hy_319, hy_317⟩
              · have hP : va_P G.1 classes [(b0, .inr (1, [.int b3, .ref b4])), (b4, .inl (G.2 2, 240, .inl b5)), (b1, .inr (2, [.int y_316, .int b7, .int b8, .ref b9, .ref b10, .ref b11])), (b9, .inl (G.2 0, 20, .inl y_319)), (b10, .inl (G.2 0, 240, .inl y_317)), (b11, .inl (G.2 0, 240, .inl y_318))] H := hP
                have hD := z_tie hP hD rfl
                have hv_358 : zI v_350 0 2147483647 := by have _a := hq_353; have _b := (zI_all v_350); have _c := zc_0; exact ⟨by omega, by omega⟩
                have hv_359 : zI v_350 10 2147483647 := by have _a := hq_354; have _b := hv_358; have _c := zc_10; exact ⟨by omega, by omega⟩
                refine W.widen (k := 0) (n := 0) (Nat.le_of_ble_eq_true rfl) (Nat.le_of_ble_eq_true rfl) ?_
                refine lv_if_eq (tgt := 134) hx hb d_Text_parse_113 (by decide) (fun _ => ?_) (fun hc => absurd hc (by decide +kernel))
                refine lv_iload hx hb d_Text_parse_134 (lv_at hl 3 rfl) ?_
                exact z_iret hx hb hr hlocks hP hD hS (Nat.le_of_ble_eq_true rfl) (Nat.le_of_ble_eq_true rfl) d_Text_parse_136 ⟨y_313, y_316, y_319, y_317, y_318, rfl, rfl, (zI.wk (l' := (-1)) (h' := 240) hv_337 (by decide)), hy_316, hy_319, hy_317⟩
              · have hP : va_P G.1 classes [(b0, .inr (1, [.int b3, .ref b4])), (b4, .inl (G.2 2, 240, .inl b5)), (b1, .inr (2, [.int y_316, .int b7, .int b8, .ref b9, .ref b10, .ref b11])), (b9, .inl (G.2 0, 20, .inl y_319)), (b10, .inl (G.2 0, 240, .inl y_317)), (b11, .inl (G.2 0, 240, .inl y_318))] H := hP
                have hD := z_tie hP hD rfl
                have hv_360 : zI v_350 0 2147483647 := by have _a := hq_355; have _b := (zI_all v_350); have _c := zc_0; exact ⟨by omega, by omega⟩
                have hv_361 : zI v_350 0 9 := by have _a := hq_356; have _b := hv_360; have _c := zc_10; exact ⟨by omega, by omega⟩
                refine W.widen (k := 0) (n := 0) (Nat.le_of_ble_eq_true rfl) (Nat.le_of_ble_eq_true rfl) ?_
                refine lv_if_eq (tgt := 134) hx hb d_Text_parse_113 (by decide) (fun hc => absurd hc (by decide +kernel)) (fun _ => ?_)
                refine lv_aload_n hx hb d_Text_parse_116 rfl (lv_at hl 5 rfl) ?_
                refine lv_iload hx hb d_Text_parse_117 (lv_at hl 2 rfl) ?_
                refine lv_bipush (v := 97) hx hb d_Text_parse_119 (by decide) ?_
                refine lv_isub hx hb d_Text_parse_121 ?_
                refine lv_topi (fun v_362 ev_362 => ?_)
                obtain rfl : v_350 = v_362 := ev_350.trans ev_362.symm
                refine z_callV (index := 33) (As := [.int v_350]) (rest := []) (wr := [(b0, .inr (1, [.int b3, .ref b4])), (b4, .inl (G.2 2, 240, .inl b5))]) Z (s1_Traces_add l G (b1) (v_350) (y_316) (b7) (b8) (b9) (b10) (b11) (y_319) (y_317) (y_318) hv_361 hy_316 hb7 hb8 hy_319 hy_317) hl.1 q520 q521 q522 q3 q523 ⟨by decide, by decide, by show _ = some 1; decide +kernel⟩ ⟨Nat.le_of_ble_eq_true rfl, Nat.le_of_ble_eq_true rfl⟩ ⟨Nat.le_of_ble_eq_true rfl, Nat.le_of_ble_eq_true rfl⟩ rfl (Nat.le_of_ble_eq_true rfl) d_Text_parse_122 hP hD hS hA 2 2 rfl rfl rfl [2, 3, 4, 5] [0, 1] rfl rfl rfl rfl (by decide) (fun v w1 H locs hw_363 hP hD hS => ?_)
                obtain ⟨x_364, f_365, f_366, f_367, rfl, rfl, hx_364, hf_365, hf_366⟩ := hw_363
                have hP : va_P G.1 classes [(b0, .inr (1, [.int b3, .ref b4])), (b4, .inl (G.2 2, 240, .inl b5)), (b1, .inr (2, [.int y_316, .int b7, .int b8, .ref b9, .ref b10, .ref b11])), (b9, .inl (G.2 0, 20, .inl f_365)), (b10, .inl (G.2 0, 240, .inl f_366)), (b11, .inl (G.2 0, 240, .inl f_367))] H := hP
                have hD := z_tie hP hD rfl
                refine W.widen (k := 0) (n := 0) (Nat.le_of_ble_eq_true rfl) (Nat.le_of_ble_eq_true rfl) ?_
                refine lv_if_eq (tgt := 134) hx hb d_Text_parse_125 (by decide) (fun hc_368 => ?_) (fun hc_368 => ?_)
                · have _nhc_368 := hc_368
                  have ni_369 := (fa_eq _ _).mp hc_368
                  rw [li_0] at ni_369
                  have hv_370 : zI x_364 0 0 := zI.eq_l hx_364 zc_0 hc_368
                  refine lv_iload hx hb d_Text_parse_134 (lv_at hl 3 rfl) ?_
                  exact z_iret hx hb hr hlocks hP hD hS (Nat.le_of_ble_eq_true rfl) (Nat.le_of_ble_eq_true rfl) d_Text_parse_136 ⟨y_313, y_316, f_365, f_366, f_367, rfl, rfl, (zI.wk (l' := (-1)) (h' := 240) hv_337 (by decide)), hy_316, hf_365, hf_366⟩
                · have _nhc_368 := hc_368
                  have ni_371 : ¬ (x_364 : Int32).toInt = (0 : Int32).toInt := fun z => hc_368 ((fa_eq _ _).mpr z)
                  simp only [li_0] at ni_371
                  have hv_372 : zI x_364 1 1 := zI.ne_lo hx_364 zc_0 hc_368 (by decide)
                  refine lv_iconst (v := 2) hx hb d_Text_parse_128 (by decide) ?_
                  refine lv_istore (lv' := [(4, .int 2), (3, .int 1), (6, .int v_339), (5, .int y_313), (0, .ref b0), (1, .ref b1), (2, .int b2)]) hx hb d_Text_parse_129 hl (by decide) rfl (fun ls hl => ?_)
                  refine lv_goto (tgt := 137) hx hb d_Text_parse_131 (by decide) ?_
                  obtain ⟨v_373, ev_373⟩ : ∃ z : Int32, z = y_313 + 1 := ⟨_, rfl⟩
                  obtain ⟨qv_373, hv_373⟩ := zI_add (l := 1) (h := 240) hv_337 zc_1 ev_373 (by decide)
                  rw [li_1] at qv_373
                  refine lv_iinc (v := v_373) (lv' := [(5, .int v_373), (4, .int 2), (3, .int 1), (6, .int v_339), (0, .ref b0), (1, .ref b1), (2, .int b2)]) hx hb d_Text_parse_137 hl (k := 3) rfl (by rw [ev_373]; rfl) (by decide) rfl (fun ls hl => ?_)
                  refine lv_goto (tgt := 8) hx hb d_Text_parse_140 (by decide) ?_
                  exact ihk_312 (v_373) (2) (1) (y_316) (f_366) (f_367) (f_365) _ _ _ (zI.wk (l' := 0) (h' := 240) hv_373 (by decide)) (zI.wk (l' := 0) (h' := 2) zc_2 (by decide)) (zI.wk (l' := 0) (h' := 1) zc_1 (by decide)) hy_316 hf_366 hf_365 (zm_up qv_373 hmk_312 (by decide)) hP hD hS (lv_sub hl [0, 1, 2, 4, 5, 6] rfl)
            · have _nhc_348 := hc_348
              have ni_374 := (fa_eq _ _).mp hc_348
              rw [li_59] at ni_374
              have hv_375 : zI v_339 59 59 := zI.eq_l (zI_all v_339) zc_59 hc_348
              refine lv_iload_n hx hb d_Text_parse_96 rfl (lv_at hl 6 rfl) ?_
              refine lv_if_ne (tgt := 105) hx hb d_Text_parse_97 (by decide) (fun hc_376 => ?_) (fun hc_376 => ?_)
              · have _nhc_376 := hc_376
                have ni_377 : ¬ (b2 : Int32).toInt = (0 : Int32).toInt := fun z => hc_376 ((fa_eq _ _).mpr z)
                simp only [li_0] at ni_377
                have hv_378 : zI b2 1 1 := zI.ne_lo hb2 zc_0 hc_376 (by decide)
                refine lv_iload hx hb d_Text_parse_105 (lv_at hl 2 rfl) ?_
                refine lv_bipush (v := 97) hx hb d_Text_parse_107 (by decide) ?_
                refine lv_isub hx hb d_Text_parse_109 ?_
                refine lv_topi (fun v_379 ev_379 => ?_)
                obtain ⟨qv_379, hv_379⟩ := zI_sub (l := -38) (h := -38) hv_375 zc_97 ev_379 (by decide)
                rw [li_97] at qv_379
                refine z_callSN (host := "TraceMachines") (index := 29) (As := [.int v_379]) (rest := []) (wr := [(b0, .inr (1, [.int b3, .ref b4])), (b4, .inl (G.2 2, 240, .inl b5)), (b1, .inr (2, [.int y_316, .int b7, .int b8, .ref b9, .ref b10, .ref b11])), (b9, .inl (G.2 0, 20, .inl y_319)), (b10, .inl (G.2 0, 240, .inl y_317)), (b11, .inl (G.2 0, 240, .inl y_318))]) Z (s2_X_isLetter l G (v_379)) hl.1 (by decide +kernel) q518 q1 q519 ⟨by decide, by decide, by show _ = some 1; decide +kernel⟩ ⟨Nat.le_of_ble_eq_true rfl, Nat.le_of_ble_eq_true rfl⟩ ⟨Nat.le_of_ble_eq_true rfl, Nat.le_of_ble_eq_true rfl⟩ rfl (Nat.le_of_ble_eq_true rfl) d_Text_parse_110 hP hD hS hA [] [0, 1, 2, 3, 4, 5] rfl rfl rfl rfl (by decide) (fun v w1 H locs hw_380 hP hD hS => ?_)
                rcases hw_380 with ⟨rfl, rfl, hq_381⟩ | ⟨rfl, rfl, hq_382, hq_383⟩ | ⟨rfl, rfl, hq_384, hq_385⟩
                · have hP : va_P G.1 classes [(b0, .inr (1, [.int b3, .ref b4])), (b4, .inl (G.2 2, 240, .inl b5)), (b1, .inr (2, [.int y_316, .int b7, .int b8, .ref b9, .ref b10, .ref b11])), (b9, .inl (G.2 0, 20, .inl y_319)), (b10, .inl (G.2 0, 240, .inl y_317)), (b11, .inl (G.2 0, 240, .inl y_318))] H := hP
                  have hD := z_tie hP hD rfl
                  refine W.widen (k := 0) (n := 0) (Nat.le_of_ble_eq_true rfl) (Nat.le_of_ble_eq_true rfl) ?_
                  refine lv_if_eq (tgt := 134) hx hb d_Text_parse_113 (by decide) (fun _ => ?_) (fun hc => absurd hc (by decide +kernel))
                  refine lv_iload hx hb d_Text_parse_134 (lv_at hl 3 rfl) ?_
                  exact z_iret hx hb hr hlocks hP hD hS (Nat.le_of_ble_eq_true rfl) (Nat.le_of_ble_eq_true rfl) d_Text_parse_136 ⟨y_313, y_316, y_319, y_317, y_318, rfl, rfl, (zI.wk (l' := (-1)) (h' := 240) hv_337 (by decide)), hy_316, hy_319, hy_317⟩
                · exfalso; have _q := hq_382; have _u0 := hv_379; omega
                · exfalso; have _q := hq_384; have _u0 := hv_379; omega
              · have _nhc_376 := hc_376
                have ni_386 := (fa_eq _ _).mp hc_376
                rw [li_0] at ni_386
                have hv_387 : zI b2 0 0 := zI.eq_l hb2 zc_0 hc_376
                refine lv_iconst (v := 0) hx hb d_Text_parse_100 (by decide) ?_
                refine lv_istore_n (lv' := [(3, .int 0), (4, .int 0), (6, .int v_339), (5, .int y_313), (0, .ref b0), (1, .ref b1), (2, .int b2)]) hx hb d_Text_parse_101 rfl hl (by decide) rfl (fun ls hl => ?_)
                refine lv_goto (tgt := 137) hx hb d_Text_parse_102 (by decide) ?_
                obtain ⟨v_388, ev_388⟩ : ∃ z : Int32, z = y_313 + 1 := ⟨_, rfl⟩
                obtain ⟨qv_388, hv_388⟩ := zI_add (l := 1) (h := 240) hv_337 zc_1 ev_388 (by decide)
                rw [li_1] at qv_388
                refine lv_iinc (v := v_388) (lv' := [(5, .int v_388), (3, .int 0), (4, .int 0), (6, .int v_339), (0, .ref b0), (1, .ref b1), (2, .int b2)]) hx hb d_Text_parse_137 hl (k := 3) rfl (by rw [ev_388]; rfl) (by decide) rfl (fun ls hl => ?_)
                refine lv_goto (tgt := 8) hx hb d_Text_parse_140 (by decide) ?_
                exact ihk_312 (v_388) (0) (0) (y_316) (y_317) (y_318) (y_319) _ _ _ (zI.wk (l' := 0) (h' := 240) hv_388 (by decide)) (zI.wk (l' := 0) (h' := 2) zc_0 (by decide)) (zI.wk (l' := 0) (h' := 1) zc_0 (by decide)) hy_316 hy_317 hy_319 (zm_up qv_388 hmk_312 (by decide)) hP hD hS (lv_sub hl [0, 2, 1, 4, 5, 6] rfl)
          · have _nhc_345 := hc_345
            have ni_389 := (fa_eq _ _).mp hc_345
            rw [li_0] at ni_389
            have hv_390 : zI y_315 0 0 := zI.eq_l hy_315 zc_0 hc_345
            refine lv_aload_n hx hb d_Text_parse_77 rfl (lv_at hl 5 rfl) ?_
            refine z_callV (index := 25) (As := []) (rest := []) (wr := [(b0, .inr (1, [.int b3, .ref b4])), (b4, .inl (G.2 2, 240, .inl b5)), (b10, .inl (G.2 0, 240, .inl y_317)), (b11, .inl (G.2 0, 240, .inl y_318))]) Z (s1_Traces_open l G (b1) (y_316) (b7) (b8) (b9) (b10) (b11) (y_319) hy_316 hb7 hb8 hy_319) hl.1 q513 q514 q515 q3 q516 ⟨by decide, by decide, by show _ = some 0; decide +kernel⟩ ⟨Nat.le_of_ble_eq_true rfl, Nat.le_of_ble_eq_true rfl⟩ ⟨Nat.le_of_ble_eq_true rfl, Nat.le_of_ble_eq_true rfl⟩ rfl (Nat.le_of_ble_eq_true rfl) d_Text_parse_78 hP hD hS hA 2 2 rfl rfl rfl [2, 3] [0, 1, 4, 5] rfl rfl rfl rfl (by decide) (fun v w1 H locs hw_391 hP hD hS => ?_)
            obtain ⟨x_392, x_393, f_394, rfl, rfl, hx_392, hx_393, hf_394⟩ := hw_391
            have hP : va_P G.1 classes [(b0, .inr (1, [.int b3, .ref b4])), (b4, .inl (G.2 2, 240, .inl b5)), (b10, .inl (G.2 0, 240, .inl y_317)), (b11, .inl (G.2 0, 240, .inl y_318)), (b1, .inr (2, [.int x_393, .int b7, .int b8, .ref b9, .ref b10, .ref b11])), (b9, .inl (G.2 0, 20, .inl f_394))] H := hP
            have hD := z_tie hP hD rfl
            refine W.widen (k := 0) (n := 0) (Nat.le_of_ble_eq_true rfl) (Nat.le_of_ble_eq_true rfl) ?_
            refine lv_if_ne (tgt := 87) hx hb d_Text_parse_81 (by decide) (fun hc_395 => ?_) (fun hc_395 => ?_)
            · have _nhc_395 := hc_395
              have ni_396 : ¬ (x_392 : Int32).toInt = (0 : Int32).toInt := fun z => hc_395 ((fa_eq _ _).mpr z)
              simp only [li_0] at ni_396
              have hv_397 : zI x_392 1 1 := zI.ne_lo hx_392 zc_0 hc_395 (by decide)
              refine lv_iconst (v := 1) hx hb d_Text_parse_87 (by decide) ?_
              refine lv_istore_n (lv' := [(3, .int 1), (4, .int 0), (6, .int v_339), (5, .int y_313), (0, .ref b0), (1, .ref b1), (2, .int b2)]) hx hb d_Text_parse_88 rfl hl (by decide) rfl (fun ls hl => ?_)
              refine lv_iload hx hb d_Text_parse_89 (lv_at hl 2 rfl) ?_
              refine lv_bipush (v := 59) hx hb d_Text_parse_91 (by decide) ?_
              refine lv_icmp_ne (tgt := 105) hx hb d_Text_parse_93 (by decide) (fun hc_398 => ?_) (fun hc_398 => ?_)
              · have _nhc_398 := hc_398
                have ni_399 : ¬ (v_339 : Int32).toInt = (59 : Int32).toInt := fun z => hc_398 ((fa_eq _ _).mpr z)
                simp only [li_59] at ni_399
                refine lv_iload hx hb d_Text_parse_105 (lv_at hl 2 rfl) ?_
                refine lv_bipush (v := 97) hx hb d_Text_parse_107 (by decide) ?_
                refine lv_isub hx hb d_Text_parse_109 ?_
                refine lv_topi (fun v_400 ev_400 => ?_)
                refine z_callSN (host := "TraceMachines") (index := 29) (As := [.int v_400]) (rest := []) (wr := [(b0, .inr (1, [.int b3, .ref b4])), (b4, .inl (G.2 2, 240, .inl b5)), (b10, .inl (G.2 0, 240, .inl y_317)), (b11, .inl (G.2 0, 240, .inl y_318)), (b1, .inr (2, [.int x_393, .int b7, .int b8, .ref b9, .ref b10, .ref b11])), (b9, .inl (G.2 0, 20, .inl f_394))]) Z (s2_X_isLetter l G (v_400)) hl.1 (by decide +kernel) q518 q1 q519 ⟨by decide, by decide, by show _ = some 1; decide +kernel⟩ ⟨Nat.le_of_ble_eq_true rfl, Nat.le_of_ble_eq_true rfl⟩ ⟨Nat.le_of_ble_eq_true rfl, Nat.le_of_ble_eq_true rfl⟩ rfl (Nat.le_of_ble_eq_true rfl) d_Text_parse_110 hP hD hS hA [] [0, 1, 2, 3, 4, 5] rfl rfl rfl rfl (by decide) (fun v w1 H locs hw_401 hP hD hS => ?_)
                rcases hw_401 with ⟨rfl, rfl, hq_402⟩ | ⟨rfl, rfl, hq_403, hq_404⟩ | ⟨rfl, rfl, hq_405, hq_406⟩
                · have hP : va_P G.1 classes [(b0, .inr (1, [.int b3, .ref b4])), (b4, .inl (G.2 2, 240, .inl b5)), (b10, .inl (G.2 0, 240, .inl y_317)), (b11, .inl (G.2 0, 240, .inl y_318)), (b1, .inr (2, [.int x_393, .int b7, .int b8, .ref b9, .ref b10, .ref b11])), (b9, .inl (G.2 0, 20, .inl f_394))] H := hP
                  have hD := z_tie hP hD rfl
                  have hv_407 : zI v_400 (-2147483648) (-1) := by have _a := hq_402; have _b := (zI_all v_400); have _c := zc_0; exact ⟨by omega, by omega⟩
                  refine W.widen (k := 0) (n := 0) (Nat.le_of_ble_eq_true rfl) (Nat.le_of_ble_eq_true rfl) ?_
                  refine lv_if_eq (tgt := 134) hx hb d_Text_parse_113 (by decide) (fun _ => ?_) (fun hc => absurd hc (by decide +kernel))
                  refine lv_iload hx hb d_Text_parse_134 (lv_at hl 3 rfl) ?_
                  exact z_iret hx hb hr hlocks (hP.sub [0, 1, 4, 5, 2, 3] rfl) (hD.sub [0, 1, 4, 5, 2, 3] (by decide) rfl) hS (Nat.le_of_ble_eq_true rfl) (Nat.le_of_ble_eq_true rfl) d_Text_parse_136 ⟨y_313, x_393, f_394, y_317, y_318, rfl, rfl, (zI.wk (l' := (-1)) (h' := 240) hv_337 (by decide)), hx_393, hf_394, hy_317⟩
                · have hP : va_P G.1 classes [(b0, .inr (1, [.int b3, .ref b4])), (b4, .inl (G.2 2, 240, .inl b5)), (b10, .inl (G.2 0, 240, .inl y_317)), (b11, .inl (G.2 0, 240, .inl y_318)), (b1, .inr (2, [.int x_393, .int b7, .int b8, .ref b9, .ref b10, .ref b11])), (b9, .inl (G.2 0, 20, .inl f_394))] H := hP
                  have hD := z_tie hP hD rfl
                  have hv_408 : zI v_400 0 2147483647 := by have _a := hq_403; have _b := (zI_all v_400); have _c := zc_0; exact ⟨by omega, by omega⟩
                  have hv_409 : zI v_400 10 2147483647 := by have _a := hq_404; have _b := hv_408; have _c := zc_10; exact ⟨by omega, by omega⟩
                  refine W.widen (k := 0) (n := 0) (Nat.le_of_ble_eq_true rfl) (Nat.le_of_ble_eq_true rfl) ?_
                  refine lv_if_eq (tgt := 134) hx hb d_Text_parse_113 (by decide) (fun _ => ?_) (fun hc => absurd hc (by decide +kernel))
                  refine lv_iload hx hb d_Text_parse_134 (lv_at hl 3 rfl) ?_
                  exact z_iret hx hb hr hlocks (hP.sub [0, 1, 4, 5, 2, 3] rfl) (hD.sub [0, 1, 4, 5, 2, 3] (by decide) rfl) hS (Nat.le_of_ble_eq_true rfl) (Nat.le_of_ble_eq_true rfl) d_Text_parse_136 ⟨y_313, x_393, f_394, y_317, y_318, rfl, rfl, (zI.wk (l' := (-1)) (h' := 240) hv_337 (by decide)), hx_393, hf_394, hy_317⟩
                · have hP : va_P G.1 classes [(b0, .inr (1, [.int b3, .ref b4])), (b4, .inl (G.2 2, 240, .inl b5)), (b10, .inl (G.2 0, 240, .inl y_317)), (b11, .inl (G.2 0, 240, .inl y_318)), (b1, .inr (2, [.int x_393, .int b7, .int b8, .ref b9, .ref b10, .ref b11])), (b9, .inl (G.2 0, 20, .inl f_394))] H := hP
                  have hD := z_tie hP hD rfl
                  have hv_410 : zI v_400 0 2147483647 := by have _a := hq_405; have _b := (zI_all v_400); have _c := zc_0; exact ⟨by omega, by omega⟩
                  have hv_411 : zI v_400 0 9 := by have _a := hq_406; have _b := hv_410; have _c := zc_10; exact ⟨by omega, by omega⟩
                  refine W.widen (k := 0) (n := 0) (Nat.le_of_ble_eq_true rfl) (Nat.le_of_ble_eq_true rfl) ?_
                  refine lv_if_eq (tgt := 134) hx hb d_Text_parse_113 (by decide) (fun hc => absurd hc (by decide +kernel)) (fun _ => ?_)
                  refine lv_aload_n hx hb d_Text_parse_116 rfl (lv_at hl 5 rfl) ?_
                  refine lv_iload hx hb d_Text_parse_117 (lv_at hl 2 rfl) ?_
                  refine lv_bipush (v := 97) hx hb d_Text_parse_119 (by decide) ?_
                  refine lv_isub hx hb d_Text_parse_121 ?_
                  refine lv_topi (fun v_412 ev_412 => ?_)
                  obtain rfl : v_400 = v_412 := ev_400.trans ev_412.symm
                  refine z_callV (index := 33) (As := [.int v_400]) (rest := []) (wr := [(b0, .inr (1, [.int b3, .ref b4])), (b4, .inl (G.2 2, 240, .inl b5))]) Z (s1_Traces_add l G (b1) (v_400) (x_393) (b7) (b8) (b9) (b10) (b11) (f_394) (y_317) (y_318) hv_411 hx_393 hb7 hb8 hf_394 hy_317) hl.1 q520 q521 q522 q3 q523 ⟨by decide, by decide, by show _ = some 1; decide +kernel⟩ ⟨Nat.le_of_ble_eq_true rfl, Nat.le_of_ble_eq_true rfl⟩ ⟨Nat.le_of_ble_eq_true rfl, Nat.le_of_ble_eq_true rfl⟩ rfl (Nat.le_of_ble_eq_true rfl) d_Text_parse_122 hP hD hS hA 4 2 rfl rfl rfl [4, 5, 2, 3] [0, 1] rfl rfl rfl rfl (by decide) (fun v w1 H locs hw_413 hP hD hS => ?_)
                  obtain ⟨x_414, f_415, f_416, f_417, rfl, rfl, hx_414, hf_415, hf_416⟩ := hw_413
                  have hP : va_P G.1 classes [(b0, .inr (1, [.int b3, .ref b4])), (b4, .inl (G.2 2, 240, .inl b5)), (b1, .inr (2, [.int x_393, .int b7, .int b8, .ref b9, .ref b10, .ref b11])), (b9, .inl (G.2 0, 20, .inl f_415)), (b10, .inl (G.2 0, 240, .inl f_416)), (b11, .inl (G.2 0, 240, .inl f_417))] H := hP
                  have hD := z_tie hP hD rfl
                  refine W.widen (k := 0) (n := 0) (Nat.le_of_ble_eq_true rfl) (Nat.le_of_ble_eq_true rfl) ?_
                  refine lv_if_eq (tgt := 134) hx hb d_Text_parse_125 (by decide) (fun hc_418 => ?_) (fun hc_418 => ?_)
                  · have _nhc_418 := hc_418
                    have ni_419 := (fa_eq _ _).mp hc_418
                    rw [li_0] at ni_419
                    have hv_420 : zI x_414 0 0 := zI.eq_l hx_414 zc_0 hc_418
                    refine lv_iload hx hb d_Text_parse_134 (lv_at hl 3 rfl) ?_
                    exact z_iret hx hb hr hlocks hP hD hS (Nat.le_of_ble_eq_true rfl) (Nat.le_of_ble_eq_true rfl) d_Text_parse_136 ⟨y_313, x_393, f_415, f_416, f_417, rfl, rfl, (zI.wk (l' := (-1)) (h' := 240) hv_337 (by decide)), hx_393, hf_415, hf_416⟩
                  · have _nhc_418 := hc_418
                    have ni_421 : ¬ (x_414 : Int32).toInt = (0 : Int32).toInt := fun z => hc_418 ((fa_eq _ _).mpr z)
                    simp only [li_0] at ni_421
                    have hv_422 : zI x_414 1 1 := zI.ne_lo hx_414 zc_0 hc_418 (by decide)
                    refine lv_iconst (v := 2) hx hb d_Text_parse_128 (by decide) ?_
                    refine lv_istore (lv' := [(4, .int 2), (3, .int 1), (6, .int v_339), (5, .int y_313), (0, .ref b0), (1, .ref b1), (2, .int b2)]) hx hb d_Text_parse_129 hl (by decide) rfl (fun ls hl => ?_)
                    refine lv_goto (tgt := 137) hx hb d_Text_parse_131 (by decide) ?_
                    obtain ⟨v_423, ev_423⟩ : ∃ z : Int32, z = y_313 + 1 := ⟨_, rfl⟩
                    obtain ⟨qv_423, hv_423⟩ := zI_add (l := 1) (h := 240) hv_337 zc_1 ev_423 (by decide)
                    rw [li_1] at qv_423
                    refine lv_iinc (v := v_423) (lv' := [(5, .int v_423), (4, .int 2), (3, .int 1), (6, .int v_339), (0, .ref b0), (1, .ref b1), (2, .int b2)]) hx hb d_Text_parse_137 hl (k := 3) rfl (by rw [ev_423]; rfl) (by decide) rfl (fun ls hl => ?_)
                    refine lv_goto (tgt := 8) hx hb d_Text_parse_140 (by decide) ?_
                    exact ihk_312 (v_423) (2) (1) (x_393) (f_416) (f_417) (f_415) _ _ _ (zI.wk (l' := 0) (h' := 240) hv_423 (by decide)) (zI.wk (l' := 0) (h' := 2) zc_2 (by decide)) (zI.wk (l' := 0) (h' := 1) zc_1 (by decide)) hx_393 hf_416 hf_415 (zm_up qv_423 hmk_312 (by decide)) hP hD hS (lv_sub hl [0, 1, 2, 4, 5, 6] rfl)
              · have _nhc_398 := hc_398
                have ni_424 := (fa_eq _ _).mp hc_398
                rw [li_59] at ni_424
                have hv_425 : zI v_339 59 59 := zI.eq_l (zI_all v_339) zc_59 hc_398
                refine lv_iload_n hx hb d_Text_parse_96 rfl (lv_at hl 6 rfl) ?_
                refine lv_if_ne (tgt := 105) hx hb d_Text_parse_97 (by decide) (fun hc_426 => ?_) (fun hc_426 => ?_)
                · have _nhc_426 := hc_426
                  have ni_427 : ¬ (b2 : Int32).toInt = (0 : Int32).toInt := fun z => hc_426 ((fa_eq _ _).mpr z)
                  simp only [li_0] at ni_427
                  have hv_428 : zI b2 1 1 := zI.ne_lo hb2 zc_0 hc_426 (by decide)
                  refine lv_iload hx hb d_Text_parse_105 (lv_at hl 2 rfl) ?_
                  refine lv_bipush (v := 97) hx hb d_Text_parse_107 (by decide) ?_
                  refine lv_isub hx hb d_Text_parse_109 ?_
                  refine lv_topi (fun v_429 ev_429 => ?_)
                  obtain ⟨qv_429, hv_429⟩ := zI_sub (l := -38) (h := -38) hv_425 zc_97 ev_429 (by decide)
                  rw [li_97] at qv_429
                  refine z_callSN (host := "TraceMachines") (index := 29) (As := [.int v_429]) (rest := []) (wr := [(b0, .inr (1, [.int b3, .ref b4])), (b4, .inl (G.2 2, 240, .inl b5)), (b10, .inl (G.2 0, 240, .inl y_317)), (b11, .inl (G.2 0, 240, .inl y_318)), (b1, .inr (2, [.int x_393, .int b7, .int b8, .ref b9, .ref b10, .ref b11])), (b9, .inl (G.2 0, 20, .inl f_394))]) Z (s2_X_isLetter l G (v_429)) hl.1 (by decide +kernel) q518 q1 q519 ⟨by decide, by decide, by show _ = some 1; decide +kernel⟩ ⟨Nat.le_of_ble_eq_true rfl, Nat.le_of_ble_eq_true rfl⟩ ⟨Nat.le_of_ble_eq_true rfl, Nat.le_of_ble_eq_true rfl⟩ rfl (Nat.le_of_ble_eq_true rfl) d_Text_parse_110 hP hD hS hA [] [0, 1, 2, 3, 4, 5] rfl rfl rfl rfl (by decide) (fun v w1 H locs hw_430 hP hD hS => ?_)
                  rcases hw_430 with ⟨rfl, rfl, hq_431⟩ | ⟨rfl, rfl, hq_432, hq_433⟩ | ⟨rfl, rfl, hq_434, hq_435⟩
                  · have hP : va_P G.1 classes [(b0, .inr (1, [.int b3, .ref b4])), (b4, .inl (G.2 2, 240, .inl b5)), (b10, .inl (G.2 0, 240, .inl y_317)), (b11, .inl (G.2 0, 240, .inl y_318)), (b1, .inr (2, [.int x_393, .int b7, .int b8, .ref b9, .ref b10, .ref b11])), (b9, .inl (G.2 0, 20, .inl f_394))] H := hP
                    have hD := z_tie hP hD rfl
                    refine W.widen (k := 0) (n := 0) (Nat.le_of_ble_eq_true rfl) (Nat.le_of_ble_eq_true rfl) ?_
                    refine lv_if_eq (tgt := 134) hx hb d_Text_parse_113 (by decide) (fun _ => ?_) (fun hc => absurd hc (by decide +kernel))
                    refine lv_iload hx hb d_Text_parse_134 (lv_at hl 3 rfl) ?_
                    exact z_iret hx hb hr hlocks (hP.sub [0, 1, 4, 5, 2, 3] rfl) (hD.sub [0, 1, 4, 5, 2, 3] (by decide) rfl) hS (Nat.le_of_ble_eq_true rfl) (Nat.le_of_ble_eq_true rfl) d_Text_parse_136 ⟨y_313, x_393, f_394, y_317, y_318, rfl, rfl, (zI.wk (l' := (-1)) (h' := 240) hv_337 (by decide)), hx_393, hf_394, hy_317⟩
                  · exfalso; have _q := hq_432; have _u0 := hv_429; omega
                  · exfalso; have _q := hq_434; have _u0 := hv_429; omega
                · have _nhc_426 := hc_426
                  have ni_436 := (fa_eq _ _).mp hc_426
                  rw [li_0] at ni_436
                  have hv_437 : zI b2 0 0 := zI.eq_l hb2 zc_0 hc_426
                  refine lv_iconst (v := 0) hx hb d_Text_parse_100 (by decide) ?_
                  refine lv_istore_n (lv' := [(3, .int 0), (4, .int 0), (6, .int v_339), (5, .int y_313), (0, .ref b0), (1, .ref b1), (2, .int b2)]) hx hb d_Text_parse_101 rfl hl (by decide) rfl (fun ls hl => ?_)
                  refine lv_goto (tgt := 137) hx hb d_Text_parse_102 (by decide) ?_
                  obtain ⟨v_438, ev_438⟩ : ∃ z : Int32, z = y_313 + 1 := ⟨_, rfl⟩
                  obtain ⟨qv_438, hv_438⟩ := zI_add (l := 1) (h := 240) hv_337 zc_1 ev_438 (by decide)
                  rw [li_1] at qv_438
                  refine lv_iinc (v := v_438) (lv' := [(5, .int v_438), (3, .int 0), (4, .int 0), (6, .int v_339), (0, .ref b0), (1, .ref b1), (2, .int b2)]) hx hb d_Text_parse_137 hl (k := 3) rfl (by rw [ev_438]; rfl) (by decide) rfl (fun ls hl => ?_)
                  refine lv_goto (tgt := 8) hx hb d_Text_parse_140 (by decide) ?_
                  exact ihk_312 (v_438) (0) (0) (x_393) (y_317) (y_318) (f_394) _ _ _ (zI.wk (l' := 0) (h' := 240) hv_438 (by decide)) (zI.wk (l' := 0) (h' := 2) zc_0 (by decide)) (zI.wk (l' := 0) (h' := 1) zc_0 (by decide)) hx_393 hy_317 hf_394 (zm_up qv_438 hmk_312 (by decide)) (hP.sub [0, 1, 4, 5, 2, 3] rfl) (hD.sub [0, 1, 4, 5, 2, 3] (by decide) rfl) hS (lv_sub hl [0, 2, 1, 4, 5, 6] rfl)
            · have _nhc_395 := hc_395
              have ni_439 := (fa_eq _ _).mp hc_395
              rw [li_0] at ni_439
              have hv_440 : zI x_392 0 0 := zI.eq_l hx_392 zc_0 hc_395
              refine lv_iload hx hb d_Text_parse_84 (lv_at hl 2 rfl) ?_
              exact z_iret hx hb hr hlocks (hP.sub [0, 1, 4, 5, 2, 3] rfl) (hD.sub [0, 1, 4, 5, 2, 3] (by decide) rfl) hS (Nat.le_of_ble_eq_true rfl) (Nat.le_of_ble_eq_true rfl) d_Text_parse_86 ⟨y_313, x_393, f_394, y_317, y_318, rfl, rfl, (zI.wk (l' := (-1)) (h' := 240) hv_337 (by decide)), hx_393, hf_394, hy_317⟩
        · have _nhc_343 := hc_343
          have ni_441 := (fa_eq _ _).mp hc_343
          rw [li_32] at ni_441
          have hv_442 : zI v_339 32 32 := zI.eq_l (zI_all v_339) zc_32 hc_343
          refine lv_goto (tgt := 137) hx hb d_Text_parse_70 (by decide) ?_
          obtain ⟨v_443, ev_443⟩ : ∃ z : Int32, z = y_313 + 1 := ⟨_, rfl⟩
          obtain ⟨qv_443, hv_443⟩ := zI_add (l := 1) (h := 240) hv_337 zc_1 ev_443 (by decide)
          rw [li_1] at qv_443
          refine lv_iinc (v := v_443) (lv' := [(5, .int v_443), (4, .int 0), (6, .int v_339), (3, .int y_315), (0, .ref b0), (1, .ref b1), (2, .int b2)]) hx hb d_Text_parse_137 hl (k := 2) rfl (by rw [ev_443]; rfl) (by decide) rfl (fun ls hl => ?_)
          refine lv_goto (tgt := 8) hx hb d_Text_parse_140 (by decide) ?_
          exact ihk_312 (v_443) (0) (y_315) (y_316) (y_317) (y_318) (y_319) _ _ _ (zI.wk (l' := 0) (h' := 240) hv_443 (by decide)) (zI.wk (l' := 0) (h' := 2) zc_0 (by decide)) hy_315 hy_316 hy_317 hy_319 (zm_up qv_443 hmk_312 (by decide)) hP hD hS (lv_sub hl [0, 1, 3, 4, 5, 6] rfl)
      · have _nhc_340 := hc_340
        have ni_444 := (fa_lt _ _).mp (zi_nle hc_340)
        rw [li_0] at ni_444
        have hv_445 : zI y_314 1 2 := zI.lt_r zc_0 hy_314 (zi_nle hc_340) (by decide)
        refine lv_iload hx hb d_Text_parse_31 (lv_at hl 0 rfl) ?_
        refine lv_bipush (v := 48) hx hb d_Text_parse_33 (by decide) ?_
        refine lv_icmp_lt (tgt := 60) hx hb d_Text_parse_35 (by decide) (fun hc_446 => ?_) (fun hc_446 => ?_)
        · have _nhc_446 := hc_446
          have ni_447 := (fa_lt _ _).mp hc_446
          rw [li_48] at ni_447
          have hv_448 : zI v_339 (-2147483648) 47 := zI.lt_l (zI_all v_339) zc_48 hc_446 (by decide)
          refine lv_iconst (v := 0) hx hb d_Text_parse_60 (by decide) ?_
          refine lv_istore (lv' := [(4, .int 0), (6, .int v_339), (5, .int y_313), (3, .int y_315), (0, .ref b0), (1, .ref b1), (2, .int b2)]) hx hb d_Text_parse_61 hl (by decide) rfl (fun ls hl => ?_)
          refine lv_iload hx hb d_Text_parse_63 (lv_at hl 1 rfl) ?_
          refine lv_bipush (v := 32) hx hb d_Text_parse_65 (by decide) ?_
          refine lv_icmp_ne (tgt := 73) hx hb d_Text_parse_67 (by decide) (fun hc_449 => ?_) (fun hc_449 => ?_)
          · have _nhc_449 := hc_449
            have ni_450 : ¬ (v_339 : Int32).toInt = (32 : Int32).toInt := fun z => hc_449 ((fa_eq _ _).mpr z)
            simp only [li_32] at ni_450
            refine lv_iload_n hx hb d_Text_parse_73 rfl (lv_at hl 3 rfl) ?_
            refine lv_if_ne (tgt := 87) hx hb d_Text_parse_74 (by decide) (fun hc_451 => ?_) (fun hc_451 => ?_)
            · have _nhc_451 := hc_451
              have ni_452 : ¬ (y_315 : Int32).toInt = (0 : Int32).toInt := fun z => hc_451 ((fa_eq _ _).mpr z)
              simp only [li_0] at ni_452
              have hv_453 : zI y_315 1 1 := zI.ne_lo hy_315 zc_0 hc_451 (by decide)
              refine lv_iconst (v := 1) hx hb d_Text_parse_87 (by decide) ?_
              refine lv_istore_n (lv' := [(3, .int 1), (4, .int 0), (6, .int v_339), (5, .int y_313), (0, .ref b0), (1, .ref b1), (2, .int b2)]) hx hb d_Text_parse_88 rfl hl (by decide) rfl (fun ls hl => ?_)
              refine lv_iload hx hb d_Text_parse_89 (lv_at hl 2 rfl) ?_
              refine lv_bipush (v := 59) hx hb d_Text_parse_91 (by decide) ?_
              refine lv_icmp_ne (tgt := 105) hx hb d_Text_parse_93 (by decide) (fun _ => ?_) (fun hc => zI.no_eq hv_448 zc_59 hc (by decide))
              refine lv_iload hx hb d_Text_parse_105 (lv_at hl 2 rfl) ?_
              refine lv_bipush (v := 97) hx hb d_Text_parse_107 (by decide) ?_
              refine lv_isub hx hb d_Text_parse_109 ?_
              refine lv_topi (fun v_454 ev_454 => ?_)
              refine z_callSN (host := "TraceMachines") (index := 29) (As := [.int v_454]) (rest := []) (wr := [(b0, .inr (1, [.int b3, .ref b4])), (b4, .inl (G.2 2, 240, .inl b5)), (b1, .inr (2, [.int y_316, .int b7, .int b8, .ref b9, .ref b10, .ref b11])), (b9, .inl (G.2 0, 20, .inl y_319)), (b10, .inl (G.2 0, 240, .inl y_317)), (b11, .inl (G.2 0, 240, .inl y_318))]) Z (s2_X_isLetter l G (v_454)) hl.1 (by decide +kernel) q518 q1 q519 ⟨by decide, by decide, by show _ = some 1; decide +kernel⟩ ⟨Nat.le_of_ble_eq_true rfl, Nat.le_of_ble_eq_true rfl⟩ ⟨Nat.le_of_ble_eq_true rfl, Nat.le_of_ble_eq_true rfl⟩ rfl (Nat.le_of_ble_eq_true rfl) d_Text_parse_110 hP hD hS hA [] [0, 1, 2, 3, 4, 5] rfl rfl rfl rfl (by decide) (fun v w1 H locs hw_455 hP hD hS => ?_)
              rcases hw_455 with ⟨rfl, rfl, hq_456⟩ | ⟨rfl, rfl, hq_457, hq_458⟩ | ⟨rfl, rfl, hq_459, hq_460⟩
              · have hP : va_P G.1 classes [(b0, .inr (1, [.int b3, .ref b4])), (b4, .inl (G.2 2, 240, .inl b5)), (b1, .inr (2, [.int y_316, .int b7, .int b8, .ref b9, .ref b10, .ref b11])), (b9, .inl (G.2 0, 20, .inl y_319)), (b10, .inl (G.2 0, 240, .inl y_317)), (b11, .inl (G.2 0, 240, .inl y_318))] H := hP
                have hD := z_tie hP hD rfl
                have hv_461 : zI v_454 (-2147483648) (-1) := by have _a := hq_456; have _b := (zI_all v_454); have _c := zc_0; exact ⟨by omega, by omega⟩
                refine W.widen (k := 0) (n := 0) (Nat.le_of_ble_eq_true rfl) (Nat.le_of_ble_eq_true rfl) ?_
                refine lv_if_eq (tgt := 134) hx hb d_Text_parse_113 (by decide) (fun _ => ?_) (fun hc => absurd hc (by decide +kernel))
                refine lv_iload hx hb d_Text_parse_134 (lv_at hl 3 rfl) ?_
                exact z_iret hx hb hr hlocks hP hD hS (Nat.le_of_ble_eq_true rfl) (Nat.le_of_ble_eq_true rfl) d_Text_parse_136 ⟨y_313, y_316, y_319, y_317, y_318, rfl, rfl, (zI.wk (l' := (-1)) (h' := 240) hv_337 (by decide)), hy_316, hy_319, hy_317⟩
              · have hP : va_P G.1 classes [(b0, .inr (1, [.int b3, .ref b4])), (b4, .inl (G.2 2, 240, .inl b5)), (b1, .inr (2, [.int y_316, .int b7, .int b8, .ref b9, .ref b10, .ref b11])), (b9, .inl (G.2 0, 20, .inl y_319)), (b10, .inl (G.2 0, 240, .inl y_317)), (b11, .inl (G.2 0, 240, .inl y_318))] H := hP
                have hD := z_tie hP hD rfl
                have hv_462 : zI v_454 0 2147483647 := by have _a := hq_457; have _b := (zI_all v_454); have _c := zc_0; exact ⟨by omega, by omega⟩
                have hv_463 : zI v_454 10 2147483647 := by have _a := hq_458; have _b := hv_462; have _c := zc_10; exact ⟨by omega, by omega⟩
                refine W.widen (k := 0) (n := 0) (Nat.le_of_ble_eq_true rfl) (Nat.le_of_ble_eq_true rfl) ?_
                refine lv_if_eq (tgt := 134) hx hb d_Text_parse_113 (by decide) (fun _ => ?_) (fun hc => absurd hc (by decide +kernel))
                refine lv_iload hx hb d_Text_parse_134 (lv_at hl 3 rfl) ?_
                exact z_iret hx hb hr hlocks hP hD hS (Nat.le_of_ble_eq_true rfl) (Nat.le_of_ble_eq_true rfl) d_Text_parse_136 ⟨y_313, y_316, y_319, y_317, y_318, rfl, rfl, (zI.wk (l' := (-1)) (h' := 240) hv_337 (by decide)), hy_316, hy_319, hy_317⟩
              · have hP : va_P G.1 classes [(b0, .inr (1, [.int b3, .ref b4])), (b4, .inl (G.2 2, 240, .inl b5)), (b1, .inr (2, [.int y_316, .int b7, .int b8, .ref b9, .ref b10, .ref b11])), (b9, .inl (G.2 0, 20, .inl y_319)), (b10, .inl (G.2 0, 240, .inl y_317)), (b11, .inl (G.2 0, 240, .inl y_318))] H := hP
                have hD := z_tie hP hD rfl
                have hv_464 : zI v_454 0 2147483647 := by have _a := hq_459; have _b := (zI_all v_454); have _c := zc_0; exact ⟨by omega, by omega⟩
                have hv_465 : zI v_454 0 9 := by have _a := hq_460; have _b := hv_464; have _c := zc_10; exact ⟨by omega, by omega⟩
                refine W.widen (k := 0) (n := 0) (Nat.le_of_ble_eq_true rfl) (Nat.le_of_ble_eq_true rfl) ?_
                refine lv_if_eq (tgt := 134) hx hb d_Text_parse_113 (by decide) (fun hc => absurd hc (by decide +kernel)) (fun _ => ?_)
                refine lv_aload_n hx hb d_Text_parse_116 rfl (lv_at hl 5 rfl) ?_
                refine lv_iload hx hb d_Text_parse_117 (lv_at hl 2 rfl) ?_
                refine lv_bipush (v := 97) hx hb d_Text_parse_119 (by decide) ?_
                refine lv_isub hx hb d_Text_parse_121 ?_
                refine lv_topi (fun v_466 ev_466 => ?_)
                obtain rfl : v_454 = v_466 := ev_454.trans ev_466.symm
                refine z_callV (index := 33) (As := [.int v_454]) (rest := []) (wr := [(b0, .inr (1, [.int b3, .ref b4])), (b4, .inl (G.2 2, 240, .inl b5))]) Z (s1_Traces_add l G (b1) (v_454) (y_316) (b7) (b8) (b9) (b10) (b11) (y_319) (y_317) (y_318) hv_465 hy_316 hb7 hb8 hy_319 hy_317) hl.1 q520 q521 q522 q3 q523 ⟨by decide, by decide, by show _ = some 1; decide +kernel⟩ ⟨Nat.le_of_ble_eq_true rfl, Nat.le_of_ble_eq_true rfl⟩ ⟨Nat.le_of_ble_eq_true rfl, Nat.le_of_ble_eq_true rfl⟩ rfl (Nat.le_of_ble_eq_true rfl) d_Text_parse_122 hP hD hS hA 2 2 rfl rfl rfl [2, 3, 4, 5] [0, 1] rfl rfl rfl rfl (by decide) (fun v w1 H locs hw_467 hP hD hS => ?_)
                obtain ⟨x_468, f_469, f_470, f_471, rfl, rfl, hx_468, hf_469, hf_470⟩ := hw_467
                have hP : va_P G.1 classes [(b0, .inr (1, [.int b3, .ref b4])), (b4, .inl (G.2 2, 240, .inl b5)), (b1, .inr (2, [.int y_316, .int b7, .int b8, .ref b9, .ref b10, .ref b11])), (b9, .inl (G.2 0, 20, .inl f_469)), (b10, .inl (G.2 0, 240, .inl f_470)), (b11, .inl (G.2 0, 240, .inl f_471))] H := hP
                have hD := z_tie hP hD rfl
                refine W.widen (k := 0) (n := 0) (Nat.le_of_ble_eq_true rfl) (Nat.le_of_ble_eq_true rfl) ?_
                refine lv_if_eq (tgt := 134) hx hb d_Text_parse_125 (by decide) (fun hc_472 => ?_) (fun hc_472 => ?_)
                · have _nhc_472 := hc_472
                  have ni_473 := (fa_eq _ _).mp hc_472
                  rw [li_0] at ni_473
                  have hv_474 : zI x_468 0 0 := zI.eq_l hx_468 zc_0 hc_472
                  refine lv_iload hx hb d_Text_parse_134 (lv_at hl 3 rfl) ?_
                  exact z_iret hx hb hr hlocks hP hD hS (Nat.le_of_ble_eq_true rfl) (Nat.le_of_ble_eq_true rfl) d_Text_parse_136 ⟨y_313, y_316, f_469, f_470, f_471, rfl, rfl, (zI.wk (l' := (-1)) (h' := 240) hv_337 (by decide)), hy_316, hf_469, hf_470⟩
                · have _nhc_472 := hc_472
                  have ni_475 : ¬ (x_468 : Int32).toInt = (0 : Int32).toInt := fun z => hc_472 ((fa_eq _ _).mpr z)
                  simp only [li_0] at ni_475
                  have hv_476 : zI x_468 1 1 := zI.ne_lo hx_468 zc_0 hc_472 (by decide)
                  refine lv_iconst (v := 2) hx hb d_Text_parse_128 (by decide) ?_
                  refine lv_istore (lv' := [(4, .int 2), (3, .int 1), (6, .int v_339), (5, .int y_313), (0, .ref b0), (1, .ref b1), (2, .int b2)]) hx hb d_Text_parse_129 hl (by decide) rfl (fun ls hl => ?_)
                  refine lv_goto (tgt := 137) hx hb d_Text_parse_131 (by decide) ?_
                  obtain ⟨v_477, ev_477⟩ : ∃ z : Int32, z = y_313 + 1 := ⟨_, rfl⟩
                  obtain ⟨qv_477, hv_477⟩ := zI_add (l := 1) (h := 240) hv_337 zc_1 ev_477 (by decide)
                  rw [li_1] at qv_477
                  refine lv_iinc (v := v_477) (lv' := [(5, .int v_477), (4, .int 2), (3, .int 1), (6, .int v_339), (0, .ref b0), (1, .ref b1), (2, .int b2)]) hx hb d_Text_parse_137 hl (k := 3) rfl (by rw [ev_477]; rfl) (by decide) rfl (fun ls hl => ?_)
                  refine lv_goto (tgt := 8) hx hb d_Text_parse_140 (by decide) ?_
                  exact ihk_312 (v_477) (2) (1) (y_316) (f_470) (f_471) (f_469) _ _ _ (zI.wk (l' := 0) (h' := 240) hv_477 (by decide)) (zI.wk (l' := 0) (h' := 2) zc_2 (by decide)) (zI.wk (l' := 0) (h' := 1) zc_1 (by decide)) hy_316 hf_470 hf_469 (zm_up qv_477 hmk_312 (by decide)) hP hD hS (lv_sub hl [0, 1, 2, 4, 5, 6] rfl)
            · have _nhc_451 := hc_451
              have ni_478 := (fa_eq _ _).mp hc_451
              rw [li_0] at ni_478
              have hv_479 : zI y_315 0 0 := zI.eq_l hy_315 zc_0 hc_451
              refine lv_aload_n hx hb d_Text_parse_77 rfl (lv_at hl 5 rfl) ?_
              refine z_callV (index := 25) (As := []) (rest := []) (wr := [(b0, .inr (1, [.int b3, .ref b4])), (b4, .inl (G.2 2, 240, .inl b5)), (b10, .inl (G.2 0, 240, .inl y_317)), (b11, .inl (G.2 0, 240, .inl y_318))]) Z (s1_Traces_open l G (b1) (y_316) (b7) (b8) (b9) (b10) (b11) (y_319) hy_316 hb7 hb8 hy_319) hl.1 q513 q514 q515 q3 q516 ⟨by decide, by decide, by show _ = some 0; decide +kernel⟩ ⟨Nat.le_of_ble_eq_true rfl, Nat.le_of_ble_eq_true rfl⟩ ⟨Nat.le_of_ble_eq_true rfl, Nat.le_of_ble_eq_true rfl⟩ rfl (Nat.le_of_ble_eq_true rfl) d_Text_parse_78 hP hD hS hA 2 2 rfl rfl rfl [2, 3] [0, 1, 4, 5] rfl rfl rfl rfl (by decide) (fun v w1 H locs hw_480 hP hD hS => ?_)
              obtain ⟨x_481, x_482, f_483, rfl, rfl, hx_481, hx_482, hf_483⟩ := hw_480
              have hP : va_P G.1 classes [(b0, .inr (1, [.int b3, .ref b4])), (b4, .inl (G.2 2, 240, .inl b5)), (b10, .inl (G.2 0, 240, .inl y_317)), (b11, .inl (G.2 0, 240, .inl y_318)), (b1, .inr (2, [.int x_482, .int b7, .int b8, .ref b9, .ref b10, .ref b11])), (b9, .inl (G.2 0, 20, .inl f_483))] H := hP
              have hD := z_tie hP hD rfl
              refine W.widen (k := 0) (n := 0) (Nat.le_of_ble_eq_true rfl) (Nat.le_of_ble_eq_true rfl) ?_
              refine lv_if_ne (tgt := 87) hx hb d_Text_parse_81 (by decide) (fun hc_484 => ?_) (fun hc_484 => ?_)
              · have _nhc_484 := hc_484
                have ni_485 : ¬ (x_481 : Int32).toInt = (0 : Int32).toInt := fun z => hc_484 ((fa_eq _ _).mpr z)
                simp only [li_0] at ni_485
                have hv_486 : zI x_481 1 1 := zI.ne_lo hx_481 zc_0 hc_484 (by decide)
                refine lv_iconst (v := 1) hx hb d_Text_parse_87 (by decide) ?_
                refine lv_istore_n (lv' := [(3, .int 1), (4, .int 0), (6, .int v_339), (5, .int y_313), (0, .ref b0), (1, .ref b1), (2, .int b2)]) hx hb d_Text_parse_88 rfl hl (by decide) rfl (fun ls hl => ?_)
                refine lv_iload hx hb d_Text_parse_89 (lv_at hl 2 rfl) ?_
                refine lv_bipush (v := 59) hx hb d_Text_parse_91 (by decide) ?_
                refine lv_icmp_ne (tgt := 105) hx hb d_Text_parse_93 (by decide) (fun _ => ?_) (fun hc => zI.no_eq hv_448 zc_59 hc (by decide))
                refine lv_iload hx hb d_Text_parse_105 (lv_at hl 2 rfl) ?_
                refine lv_bipush (v := 97) hx hb d_Text_parse_107 (by decide) ?_
                refine lv_isub hx hb d_Text_parse_109 ?_
                refine lv_topi (fun v_487 ev_487 => ?_)
                refine z_callSN (host := "TraceMachines") (index := 29) (As := [.int v_487]) (rest := []) (wr := [(b0, .inr (1, [.int b3, .ref b4])), (b4, .inl (G.2 2, 240, .inl b5)), (b10, .inl (G.2 0, 240, .inl y_317)), (b11, .inl (G.2 0, 240, .inl y_318)), (b1, .inr (2, [.int x_482, .int b7, .int b8, .ref b9, .ref b10, .ref b11])), (b9, .inl (G.2 0, 20, .inl f_483))]) Z (s2_X_isLetter l G (v_487)) hl.1 (by decide +kernel) q518 q1 q519 ⟨by decide, by decide, by show _ = some 1; decide +kernel⟩ ⟨Nat.le_of_ble_eq_true rfl, Nat.le_of_ble_eq_true rfl⟩ ⟨Nat.le_of_ble_eq_true rfl, Nat.le_of_ble_eq_true rfl⟩ rfl (Nat.le_of_ble_eq_true rfl) d_Text_parse_110 hP hD hS hA [] [0, 1, 2, 3, 4, 5] rfl rfl rfl rfl (by decide) (fun v w1 H locs hw_488 hP hD hS => ?_)
                rcases hw_488 with ⟨rfl, rfl, hq_489⟩ | ⟨rfl, rfl, hq_490, hq_491⟩ | ⟨rfl, rfl, hq_492, hq_493⟩
                · have hP : va_P G.1 classes [(b0, .inr (1, [.int b3, .ref b4])), (b4, .inl (G.2 2, 240, .inl b5)), (b10, .inl (G.2 0, 240, .inl y_317)), (b11, .inl (G.2 0, 240, .inl y_318)), (b1, .inr (2, [.int x_482, .int b7, .int b8, .ref b9, .ref b10, .ref b11])), (b9, .inl (G.2 0, 20, .inl f_483))] H := hP
                  have hD := z_tie hP hD rfl
                  have hv_494 : zI v_487 (-2147483648) (-1) := by have _a := hq_489; have _b := (zI_all v_487); have _c := zc_0; exact ⟨by omega, by omega⟩
                  refine W.widen (k := 0) (n := 0) (Nat.le_of_ble_eq_true rfl) (Nat.le_of_ble_eq_true rfl) ?_
                  refine lv_if_eq (tgt := 134) hx hb d_Text_parse_113 (by decide) (fun _ => ?_) (fun hc => absurd hc (by decide +kernel))
                  refine lv_iload hx hb d_Text_parse_134 (lv_at hl 3 rfl) ?_
                  exact z_iret hx hb hr hlocks (hP.sub [0, 1, 4, 5, 2, 3] rfl) (hD.sub [0, 1, 4, 5, 2, 3] (by decide) rfl) hS (Nat.le_of_ble_eq_true rfl) (Nat.le_of_ble_eq_true rfl) d_Text_parse_136 ⟨y_313, x_482, f_483, y_317, y_318, rfl, rfl, (zI.wk (l' := (-1)) (h' := 240) hv_337 (by decide)), hx_482, hf_483, hy_317⟩
                · have hP : va_P G.1 classes [(b0, .inr (1, [.int b3, .ref b4])), (b4, .inl (G.2 2, 240, .inl b5)), (b10, .inl (G.2 0, 240, .inl y_317)), (b11, .inl (G.2 0, 240, .inl y_318)), (b1, .inr (2, [.int x_482, .int b7, .int b8, .ref b9, .ref b10, .ref b11])), (b9, .inl (G.2 0, 20, .inl f_483))] H := hP
                  have hD := z_tie hP hD rfl
                  have hv_495 : zI v_487 0 2147483647 := by have _a := hq_490; have _b := (zI_all v_487); have _c := zc_0; exact ⟨by omega, by omega⟩
                  have hv_496 : zI v_487 10 2147483647 := by have _a := hq_491; have _b := hv_495; have _c := zc_10; exact ⟨by omega, by omega⟩
                  refine W.widen (k := 0) (n := 0) (Nat.le_of_ble_eq_true rfl) (Nat.le_of_ble_eq_true rfl) ?_
                  refine lv_if_eq (tgt := 134) hx hb d_Text_parse_113 (by decide) (fun _ => ?_) (fun hc => absurd hc (by decide +kernel))
                  refine lv_iload hx hb d_Text_parse_134 (lv_at hl 3 rfl) ?_
                  exact z_iret hx hb hr hlocks (hP.sub [0, 1, 4, 5, 2, 3] rfl) (hD.sub [0, 1, 4, 5, 2, 3] (by decide) rfl) hS (Nat.le_of_ble_eq_true rfl) (Nat.le_of_ble_eq_true rfl) d_Text_parse_136 ⟨y_313, x_482, f_483, y_317, y_318, rfl, rfl, (zI.wk (l' := (-1)) (h' := 240) hv_337 (by decide)), hx_482, hf_483, hy_317⟩
                · have hP : va_P G.1 classes [(b0, .inr (1, [.int b3, .ref b4])), (b4, .inl (G.2 2, 240, .inl b5)), (b10, .inl (G.2 0, 240, .inl y_317)), (b11, .inl (G.2 0, 240, .inl y_318)), (b1, .inr (2, [.int x_482, .int b7, .int b8, .ref b9, .ref b10, .ref b11])), (b9, .inl (G.2 0, 20, .inl f_483))] H := hP
                  have hD := z_tie hP hD rfl
                  have hv_497 : zI v_487 0 2147483647 := by have _a := hq_492; have _b := (zI_all v_487); have _c := zc_0; exact ⟨by omega, by omega⟩
                  have hv_498 : zI v_487 0 9 := by have _a := hq_493; have _b := hv_497; have _c := zc_10; exact ⟨by omega, by omega⟩
                  refine W.widen (k := 0) (n := 0) (Nat.le_of_ble_eq_true rfl) (Nat.le_of_ble_eq_true rfl) ?_
                  refine lv_if_eq (tgt := 134) hx hb d_Text_parse_113 (by decide) (fun hc => absurd hc (by decide +kernel)) (fun _ => ?_)
                  refine lv_aload_n hx hb d_Text_parse_116 rfl (lv_at hl 5 rfl) ?_
                  refine lv_iload hx hb d_Text_parse_117 (lv_at hl 2 rfl) ?_
                  refine lv_bipush (v := 97) hx hb d_Text_parse_119 (by decide) ?_
                  refine lv_isub hx hb d_Text_parse_121 ?_
                  refine lv_topi (fun v_499 ev_499 => ?_)
                  obtain rfl : v_487 = v_499 := ev_487.trans ev_499.symm
                  refine z_callV (index := 33) (As := [.int v_487]) (rest := []) (wr := [(b0, .inr (1, [.int b3, .ref b4])), (b4, .inl (G.2 2, 240, .inl b5))]) Z (s1_Traces_add l G (b1) (v_487) (x_482) (b7) (b8) (b9) (b10) (b11) (f_483) (y_317) (y_318) hv_498 hx_482 hb7 hb8 hf_483 hy_317) hl.1 q520 q521 q522 q3 q523 ⟨by decide, by decide, by show _ = some 1; decide +kernel⟩ ⟨Nat.le_of_ble_eq_true rfl, Nat.le_of_ble_eq_true rfl⟩ ⟨Nat.le_of_ble_eq_true rfl, Nat.le_of_ble_eq_true rfl⟩ rfl (Nat.le_of_ble_eq_true rfl) d_Text_parse_122 hP hD hS hA 4 2 rfl rfl rfl [4, 5, 2, 3] [0, 1] rfl rfl rfl rfl (by decide) (fun v w1 H locs hw_500 hP hD hS => ?_)
                  obtain ⟨x_501, f_502, f_503, f_504, rfl, rfl, hx_501, hf_502, hf_503⟩ := hw_500
                  have hP : va_P G.1 classes [(b0, .inr (1, [.int b3, .ref b4])), (b4, .inl (G.2 2, 240, .inl b5)), (b1, .inr (2, [.int x_482, .int b7, .int b8, .ref b9, .ref b10, .ref b11])), (b9, .inl (G.2 0, 20, .inl f_502)), (b10, .inl (G.2 0, 240, .inl f_503)), (b11, .inl (G.2 0, 240, .inl f_504))] H := hP
                  have hD := z_tie hP hD rfl
                  refine W.widen (k := 0) (n := 0) (Nat.le_of_ble_eq_true rfl) (Nat.le_of_ble_eq_true rfl) ?_
                  refine lv_if_eq (tgt := 134) hx hb d_Text_parse_125 (by decide) (fun hc_505 => ?_) (fun hc_505 => ?_)
                  · have _nhc_505 := hc_505
                    have ni_506 := (fa_eq _ _).mp hc_505
                    rw [li_0] at ni_506
                    have hv_507 : zI x_501 0 0 := zI.eq_l hx_501 zc_0 hc_505
                    refine lv_iload hx hb d_Text_parse_134 (lv_at hl 3 rfl) ?_
                    exact z_iret hx hb hr hlocks hP hD hS (Nat.le_of_ble_eq_true rfl) (Nat.le_of_ble_eq_true rfl) d_Text_parse_136 ⟨y_313, x_482, f_502, f_503, f_504, rfl, rfl, (zI.wk (l' := (-1)) (h' := 240) hv_337 (by decide)), hx_482, hf_502, hf_503⟩
                  · have _nhc_505 := hc_505
                    have ni_508 : ¬ (x_501 : Int32).toInt = (0 : Int32).toInt := fun z => hc_505 ((fa_eq _ _).mpr z)
                    simp only [li_0] at ni_508
                    have hv_509 : zI x_501 1 1 := zI.ne_lo hx_501 zc_0 hc_505 (by decide)
                    refine lv_iconst (v := 2) hx hb d_Text_parse_128 (by decide) ?_
                    refine lv_istore (lv' := [(4, .int 2), (3, .int 1), (6, .int v_339), (5, .int y_313), (0, .ref b0), (1, .ref b1), (2, .int b2)]) hx hb d_Text_parse_129 hl (by decide) rfl (fun ls hl => ?_)
                    refine lv_goto (tgt := 137) hx hb d_Text_parse_131 (by decide) ?_
                    obtain ⟨v_510, ev_510⟩ : ∃ z : Int32, z = y_313 + 1 := ⟨_, rfl⟩
                    obtain ⟨qv_510, hv_510⟩ := zI_add (l := 1) (h := 240) hv_337 zc_1 ev_510 (by decide)
                    rw [li_1] at qv_510
                    refine lv_iinc (v := v_510) (lv' := [(5, .int v_510), (4, .int 2), (3, .int 1), (6, .int v_339), (0, .ref b0), (1, .ref b1), (2, .int b2)]) hx hb d_Text_parse_137 hl (k := 3) rfl (by rw [ev_510]; rfl) (by decide) rfl (fun ls hl => ?_)
                    refine lv_goto (tgt := 8) hx hb d_Text_parse_140 (by decide) ?_
                    exact ihk_312 (v_510) (2) (1) (x_482) (f_503) (f_504) (f_502) _ _ _ (zI.wk (l' := 0) (h' := 240) hv_510 (by decide)) (zI.wk (l' := 0) (h' := 2) zc_2 (by decide)) (zI.wk (l' := 0) (h' := 1) zc_1 (by decide)) hx_482 hf_503 hf_502 (zm_up qv_510 hmk_312 (by decide)) hP hD hS (lv_sub hl [0, 1, 2, 4, 5, 6] rfl)
              · have _nhc_484 := hc_484
                have ni_511 := (fa_eq _ _).mp hc_484
                rw [li_0] at ni_511
                have hv_512 : zI x_481 0 0 := zI.eq_l hx_481 zc_0 hc_484
                refine lv_iload hx hb d_Text_parse_84 (lv_at hl 2 rfl) ?_
                exact z_iret hx hb hr hlocks (hP.sub [0, 1, 4, 5, 2, 3] rfl) (hD.sub [0, 1, 4, 5, 2, 3] (by decide) rfl) hS (Nat.le_of_ble_eq_true rfl) (Nat.le_of_ble_eq_true rfl) d_Text_parse_86 ⟨y_313, x_482, f_483, y_317, y_318, rfl, rfl, (zI.wk (l' := (-1)) (h' := 240) hv_337 (by decide)), hx_482, hf_483, hy_317⟩
          · have _nhc_449 := hc_449
            have ni_513 := (fa_eq _ _).mp hc_449
            rw [li_32] at ni_513
            have hv_514 : zI v_339 32 32 := zI.eq_l hv_448 zc_32 hc_449
            refine lv_goto (tgt := 137) hx hb d_Text_parse_70 (by decide) ?_
            obtain ⟨v_515, ev_515⟩ : ∃ z : Int32, z = y_313 + 1 := ⟨_, rfl⟩
            obtain ⟨qv_515, hv_515⟩ := zI_add (l := 1) (h := 240) hv_337 zc_1 ev_515 (by decide)
            rw [li_1] at qv_515
            refine lv_iinc (v := v_515) (lv' := [(5, .int v_515), (4, .int 0), (6, .int v_339), (3, .int y_315), (0, .ref b0), (1, .ref b1), (2, .int b2)]) hx hb d_Text_parse_137 hl (k := 2) rfl (by rw [ev_515]; rfl) (by decide) rfl (fun ls hl => ?_)
            refine lv_goto (tgt := 8) hx hb d_Text_parse_140 (by decide) ?_
            exact ihk_312 (v_515) (0) (y_315) (y_316) (y_317) (y_318) (y_319) _ _ _ (zI.wk (l' := 0) (h' := 240) hv_515 (by decide)) (zI.wk (l' := 0) (h' := 2) zc_0 (by decide)) hy_315 hy_316 hy_317 hy_319 (zm_up qv_515 hmk_312 (by decide)) hP hD hS (lv_sub hl [0, 1, 3, 4, 5, 6] rfl)
        · have _nhc_446 := hc_446
          have ni_516 := (fa_le _ _).mp (zi_nlt hc_446)
          rw [li_48] at ni_516
          have hv_517 : zI v_339 48 2147483647 := zI.le_r zc_48 (zI_all v_339) (zi_nlt hc_446) (by decide)
          refine lv_iload hx hb d_Text_parse_38 (lv_at hl 0 rfl) ?_
          refine lv_bipush (v := 57) hx hb d_Text_parse_40 (by decide) ?_
          refine lv_icmp_gt (tgt := 60) hx hb d_Text_parse_42 (by decide) (fun hc_518 => ?_) (fun hc_518 => ?_)
          · have _nhc_518 := hc_518
            have ni_519 := (fa_lt _ _).mp hc_518
            rw [li_57] at ni_519
            have hv_520 : zI v_339 58 2147483647 := zI.lt_r zc_57 hv_517 hc_518 (by decide)
            refine lv_iconst (v := 0) hx hb d_Text_parse_60 (by decide) ?_
            refine lv_istore (lv' := [(4, .int 0), (6, .int v_339), (5, .int y_313), (3, .int y_315), (0, .ref b0), (1, .ref b1), (2, .int b2)]) hx hb d_Text_parse_61 hl (by decide) rfl (fun ls hl => ?_)
            refine lv_iload hx hb d_Text_parse_63 (lv_at hl 1 rfl) ?_
            refine lv_bipush (v := 32) hx hb d_Text_parse_65 (by decide) ?_
            refine lv_icmp_ne (tgt := 73) hx hb d_Text_parse_67 (by decide) (fun _ => ?_) (fun hc => zI.no_eq hv_520 zc_32 hc (by decide))
            refine lv_iload_n hx hb d_Text_parse_73 rfl (lv_at hl 3 rfl) ?_
            refine lv_if_ne (tgt := 87) hx hb d_Text_parse_74 (by decide) (fun hc_521 => ?_) (fun hc_521 => ?_)
            · have _nhc_521 := hc_521
              have ni_522 : ¬ (y_315 : Int32).toInt = (0 : Int32).toInt := fun z => hc_521 ((fa_eq _ _).mpr z)
              simp only [li_0] at ni_522
              have hv_523 : zI y_315 1 1 := zI.ne_lo hy_315 zc_0 hc_521 (by decide)
              refine lv_iconst (v := 1) hx hb d_Text_parse_87 (by decide) ?_
              refine lv_istore_n (lv' := [(3, .int 1), (4, .int 0), (6, .int v_339), (5, .int y_313), (0, .ref b0), (1, .ref b1), (2, .int b2)]) hx hb d_Text_parse_88 rfl hl (by decide) rfl (fun ls hl => ?_)
              refine lv_iload hx hb d_Text_parse_89 (lv_at hl 2 rfl) ?_
              refine lv_bipush (v := 59) hx hb d_Text_parse_91 (by decide) ?_
              refine lv_icmp_ne (tgt := 105) hx hb d_Text_parse_93 (by decide) (fun hc_524 => ?_) (fun hc_524 => ?_)
              · have _nhc_524 := hc_524
                have ni_525 : ¬ (v_339 : Int32).toInt = (59 : Int32).toInt := fun z => hc_524 ((fa_eq _ _).mpr z)
                simp only [li_59] at ni_525
                refine lv_iload hx hb d_Text_parse_105 (lv_at hl 2 rfl) ?_
                refine lv_bipush (v := 97) hx hb d_Text_parse_107 (by decide) ?_
                refine lv_isub hx hb d_Text_parse_109 ?_
                refine lv_topi (fun v_526 ev_526 => ?_)
                obtain ⟨qv_526, hv_526⟩ := zI_sub (l := -39) (h := 2147483550) hv_520 zc_97 ev_526 (by decide)
                rw [li_97] at qv_526
                refine z_callSN (host := "TraceMachines") (index := 29) (As := [.int v_526]) (rest := []) (wr := [(b0, .inr (1, [.int b3, .ref b4])), (b4, .inl (G.2 2, 240, .inl b5)), (b1, .inr (2, [.int y_316, .int b7, .int b8, .ref b9, .ref b10, .ref b11])), (b9, .inl (G.2 0, 20, .inl y_319)), (b10, .inl (G.2 0, 240, .inl y_317)), (b11, .inl (G.2 0, 240, .inl y_318))]) Z (s2_X_isLetter l G (v_526)) hl.1 (by decide +kernel) q518 q1 q519 ⟨by decide, by decide, by show _ = some 1; decide +kernel⟩ ⟨Nat.le_of_ble_eq_true rfl, Nat.le_of_ble_eq_true rfl⟩ ⟨Nat.le_of_ble_eq_true rfl, Nat.le_of_ble_eq_true rfl⟩ rfl (Nat.le_of_ble_eq_true rfl) d_Text_parse_110 hP hD hS hA [] [0, 1, 2, 3, 4, 5] rfl rfl rfl rfl (by decide) (fun v w1 H locs hw_527 hP hD hS => ?_)
                rcases hw_527 with ⟨rfl, rfl, hq_528⟩ | ⟨rfl, rfl, hq_529, hq_530⟩ | ⟨rfl, rfl, hq_531, hq_532⟩
                · have hP : va_P G.1 classes [(b0, .inr (1, [.int b3, .ref b4])), (b4, .inl (G.2 2, 240, .inl b5)), (b1, .inr (2, [.int y_316, .int b7, .int b8, .ref b9, .ref b10, .ref b11])), (b9, .inl (G.2 0, 20, .inl y_319)), (b10, .inl (G.2 0, 240, .inl y_317)), (b11, .inl (G.2 0, 240, .inl y_318))] H := hP
                  have hD := z_tie hP hD rfl
                  have hv_533 : zI v_526 (-39) (-1) := by have _a := hq_528; have _b := hv_526; have _c := zc_0; exact ⟨by omega, by omega⟩
                  refine W.widen (k := 0) (n := 0) (Nat.le_of_ble_eq_true rfl) (Nat.le_of_ble_eq_true rfl) ?_
                  refine lv_if_eq (tgt := 134) hx hb d_Text_parse_113 (by decide) (fun _ => ?_) (fun hc => absurd hc (by decide +kernel))
                  refine lv_iload hx hb d_Text_parse_134 (lv_at hl 3 rfl) ?_
                  exact z_iret hx hb hr hlocks hP hD hS (Nat.le_of_ble_eq_true rfl) (Nat.le_of_ble_eq_true rfl) d_Text_parse_136 ⟨y_313, y_316, y_319, y_317, y_318, rfl, rfl, (zI.wk (l' := (-1)) (h' := 240) hv_337 (by decide)), hy_316, hy_319, hy_317⟩
                · have hP : va_P G.1 classes [(b0, .inr (1, [.int b3, .ref b4])), (b4, .inl (G.2 2, 240, .inl b5)), (b1, .inr (2, [.int y_316, .int b7, .int b8, .ref b9, .ref b10, .ref b11])), (b9, .inl (G.2 0, 20, .inl y_319)), (b10, .inl (G.2 0, 240, .inl y_317)), (b11, .inl (G.2 0, 240, .inl y_318))] H := hP
                  have hD := z_tie hP hD rfl
                  have hv_534 : zI v_526 0 2147483550 := by have _a := hq_529; have _b := hv_526; have _c := zc_0; exact ⟨by omega, by omega⟩
                  have hv_535 : zI v_526 10 2147483550 := by have _a := hq_530; have _b := hv_534; have _c := zc_10; exact ⟨by omega, by omega⟩
                  refine W.widen (k := 0) (n := 0) (Nat.le_of_ble_eq_true rfl) (Nat.le_of_ble_eq_true rfl) ?_
                  refine lv_if_eq (tgt := 134) hx hb d_Text_parse_113 (by decide) (fun _ => ?_) (fun hc => absurd hc (by decide +kernel))
                  refine lv_iload hx hb d_Text_parse_134 (lv_at hl 3 rfl) ?_
                  exact z_iret hx hb hr hlocks hP hD hS (Nat.le_of_ble_eq_true rfl) (Nat.le_of_ble_eq_true rfl) d_Text_parse_136 ⟨y_313, y_316, y_319, y_317, y_318, rfl, rfl, (zI.wk (l' := (-1)) (h' := 240) hv_337 (by decide)), hy_316, hy_319, hy_317⟩
                · have hP : va_P G.1 classes [(b0, .inr (1, [.int b3, .ref b4])), (b4, .inl (G.2 2, 240, .inl b5)), (b1, .inr (2, [.int y_316, .int b7, .int b8, .ref b9, .ref b10, .ref b11])), (b9, .inl (G.2 0, 20, .inl y_319)), (b10, .inl (G.2 0, 240, .inl y_317)), (b11, .inl (G.2 0, 240, .inl y_318))] H := hP
                  have hD := z_tie hP hD rfl
                  have hv_536 : zI v_526 0 2147483550 := by have _a := hq_531; have _b := hv_526; have _c := zc_0; exact ⟨by omega, by omega⟩
                  have hv_537 : zI v_526 0 9 := by have _a := hq_532; have _b := hv_536; have _c := zc_10; exact ⟨by omega, by omega⟩
                  refine W.widen (k := 0) (n := 0) (Nat.le_of_ble_eq_true rfl) (Nat.le_of_ble_eq_true rfl) ?_
                  refine lv_if_eq (tgt := 134) hx hb d_Text_parse_113 (by decide) (fun hc => absurd hc (by decide +kernel)) (fun _ => ?_)
                  refine lv_aload_n hx hb d_Text_parse_116 rfl (lv_at hl 5 rfl) ?_
                  refine lv_iload hx hb d_Text_parse_117 (lv_at hl 2 rfl) ?_
                  refine lv_bipush (v := 97) hx hb d_Text_parse_119 (by decide) ?_
                  refine lv_isub hx hb d_Text_parse_121 ?_
                  refine lv_topi (fun v_538 ev_538 => ?_)
                  obtain rfl : v_526 = v_538 := ev_526.trans ev_538.symm
                  refine z_callV (index := 33) (As := [.int v_526]) (rest := []) (wr := [(b0, .inr (1, [.int b3, .ref b4])), (b4, .inl (G.2 2, 240, .inl b5))]) Z (s1_Traces_add l G (b1) (v_526) (y_316) (b7) (b8) (b9) (b10) (b11) (y_319) (y_317) (y_318) hv_537 hy_316 hb7 hb8 hy_319 hy_317) hl.1 q520 q521 q522 q3 q523 ⟨by decide, by decide, by show _ = some 1; decide +kernel⟩ ⟨Nat.le_of_ble_eq_true rfl, Nat.le_of_ble_eq_true rfl⟩ ⟨Nat.le_of_ble_eq_true rfl, Nat.le_of_ble_eq_true rfl⟩ rfl (Nat.le_of_ble_eq_true rfl) d_Text_parse_122 hP hD hS hA 2 2 rfl rfl rfl [2, 3, 4, 5] [0, 1] rfl rfl rfl rfl (by decide) (fun v w1 H locs hw_539 hP hD hS => ?_)
                  obtain ⟨x_540, f_541, f_542, f_543, rfl, rfl, hx_540, hf_541, hf_542⟩ := hw_539
                  have hP : va_P G.1 classes [(b0, .inr (1, [.int b3, .ref b4])), (b4, .inl (G.2 2, 240, .inl b5)), (b1, .inr (2, [.int y_316, .int b7, .int b8, .ref b9, .ref b10, .ref b11])), (b9, .inl (G.2 0, 20, .inl f_541)), (b10, .inl (G.2 0, 240, .inl f_542)), (b11, .inl (G.2 0, 240, .inl f_543))] H := hP
                  have hD := z_tie hP hD rfl
                  refine W.widen (k := 0) (n := 0) (Nat.le_of_ble_eq_true rfl) (Nat.le_of_ble_eq_true rfl) ?_
                  refine lv_if_eq (tgt := 134) hx hb d_Text_parse_125 (by decide) (fun hc_544 => ?_) (fun hc_544 => ?_)
                  · have _nhc_544 := hc_544
                    have ni_545 := (fa_eq _ _).mp hc_544
                    rw [li_0] at ni_545
                    have hv_546 : zI x_540 0 0 := zI.eq_l hx_540 zc_0 hc_544
                    refine lv_iload hx hb d_Text_parse_134 (lv_at hl 3 rfl) ?_
                    exact z_iret hx hb hr hlocks hP hD hS (Nat.le_of_ble_eq_true rfl) (Nat.le_of_ble_eq_true rfl) d_Text_parse_136 ⟨y_313, y_316, f_541, f_542, f_543, rfl, rfl, (zI.wk (l' := (-1)) (h' := 240) hv_337 (by decide)), hy_316, hf_541, hf_542⟩
                  · have _nhc_544 := hc_544
                    have ni_547 : ¬ (x_540 : Int32).toInt = (0 : Int32).toInt := fun z => hc_544 ((fa_eq _ _).mpr z)
                    simp only [li_0] at ni_547
                    have hv_548 : zI x_540 1 1 := zI.ne_lo hx_540 zc_0 hc_544 (by decide)
                    refine lv_iconst (v := 2) hx hb d_Text_parse_128 (by decide) ?_
                    refine lv_istore (lv' := [(4, .int 2), (3, .int 1), (6, .int v_339), (5, .int y_313), (0, .ref b0), (1, .ref b1), (2, .int b2)]) hx hb d_Text_parse_129 hl (by decide) rfl (fun ls hl => ?_)
                    refine lv_goto (tgt := 137) hx hb d_Text_parse_131 (by decide) ?_
                    obtain ⟨v_549, ev_549⟩ : ∃ z : Int32, z = y_313 + 1 := ⟨_, rfl⟩
                    obtain ⟨qv_549, hv_549⟩ := zI_add (l := 1) (h := 240) hv_337 zc_1 ev_549 (by decide)
                    rw [li_1] at qv_549
                    refine lv_iinc (v := v_549) (lv' := [(5, .int v_549), (4, .int 2), (3, .int 1), (6, .int v_339), (0, .ref b0), (1, .ref b1), (2, .int b2)]) hx hb d_Text_parse_137 hl (k := 3) rfl (by rw [ev_549]; rfl) (by decide) rfl (fun ls hl => ?_)
                    refine lv_goto (tgt := 8) hx hb d_Text_parse_140 (by decide) ?_
                    exact ihk_312 (v_549) (2) (1) (y_316) (f_542) (f_543) (f_541) _ _ _ (zI.wk (l' := 0) (h' := 240) hv_549 (by decide)) (zI.wk (l' := 0) (h' := 2) zc_2 (by decide)) (zI.wk (l' := 0) (h' := 1) zc_1 (by decide)) hy_316 hf_542 hf_541 (zm_up qv_549 hmk_312 (by decide)) hP hD hS (lv_sub hl [0, 1, 2, 4, 5, 6] rfl)
              · have _nhc_524 := hc_524
                have ni_550 := (fa_eq _ _).mp hc_524
                rw [li_59] at ni_550
                have hv_551 : zI v_339 59 59 := zI.eq_l hv_520 zc_59 hc_524
                refine lv_iload_n hx hb d_Text_parse_96 rfl (lv_at hl 6 rfl) ?_
                refine lv_if_ne (tgt := 105) hx hb d_Text_parse_97 (by decide) (fun hc_552 => ?_) (fun hc_552 => ?_)
                · have _nhc_552 := hc_552
                  have ni_553 : ¬ (b2 : Int32).toInt = (0 : Int32).toInt := fun z => hc_552 ((fa_eq _ _).mpr z)
                  simp only [li_0] at ni_553
                  have hv_554 : zI b2 1 1 := zI.ne_lo hb2 zc_0 hc_552 (by decide)
                  refine lv_iload hx hb d_Text_parse_105 (lv_at hl 2 rfl) ?_
                  refine lv_bipush (v := 97) hx hb d_Text_parse_107 (by decide) ?_
                  refine lv_isub hx hb d_Text_parse_109 ?_
                  refine lv_topi (fun v_555 ev_555 => ?_)
                  obtain ⟨qv_555, hv_555⟩ := zI_sub (l := -38) (h := -38) hv_551 zc_97 ev_555 (by decide)
                  rw [li_97] at qv_555
                  refine z_callSN (host := "TraceMachines") (index := 29) (As := [.int v_555]) (rest := []) (wr := [(b0, .inr (1, [.int b3, .ref b4])), (b4, .inl (G.2 2, 240, .inl b5)), (b1, .inr (2, [.int y_316, .int b7, .int b8, .ref b9, .ref b10, .ref b11])), (b9, .inl (G.2 0, 20, .inl y_319)), (b10, .inl (G.2 0, 240, .inl y_317)), (b11, .inl (G.2 0, 240, .inl y_318))]) Z (s2_X_isLetter l G (v_555)) hl.1 (by decide +kernel) q518 q1 q519 ⟨by decide, by decide, by show _ = some 1; decide +kernel⟩ ⟨Nat.le_of_ble_eq_true rfl, Nat.le_of_ble_eq_true rfl⟩ ⟨Nat.le_of_ble_eq_true rfl, Nat.le_of_ble_eq_true rfl⟩ rfl (Nat.le_of_ble_eq_true rfl) d_Text_parse_110 hP hD hS hA [] [0, 1, 2, 3, 4, 5] rfl rfl rfl rfl (by decide) (fun v w1 H locs hw_556 hP hD hS => ?_)
                  rcases hw_556 with ⟨rfl, rfl, hq_557⟩ | ⟨rfl, rfl, hq_558, hq_559⟩ | ⟨rfl, rfl, hq_560, hq_561⟩
                  · have hP : va_P G.1 classes [(b0, .inr (1, [.int b3, .ref b4])), (b4, .inl (G.2 2, 240, .inl b5)), (b1, .inr (2, [.int y_316, .int b7, .int b8, .ref b9, .ref b10, .ref b11])), (b9, .inl (G.2 0, 20, .inl y_319)), (b10, .inl (G.2 0, 240, .inl y_317)), (b11, .inl (G.2 0, 240, .inl y_318))] H := hP
                    have hD := z_tie hP hD rfl
                    refine W.widen (k := 0) (n := 0) (Nat.le_of_ble_eq_true rfl) (Nat.le_of_ble_eq_true rfl) ?_
                    refine lv_if_eq (tgt := 134) hx hb d_Text_parse_113 (by decide) (fun _ => ?_) (fun hc => absurd hc (by decide +kernel))
                    refine lv_iload hx hb d_Text_parse_134 (lv_at hl 3 rfl) ?_
                    exact z_iret hx hb hr hlocks hP hD hS (Nat.le_of_ble_eq_true rfl) (Nat.le_of_ble_eq_true rfl) d_Text_parse_136 ⟨y_313, y_316, y_319, y_317, y_318, rfl, rfl, (zI.wk (l' := (-1)) (h' := 240) hv_337 (by decide)), hy_316, hy_319, hy_317⟩
                  · exfalso; have _q := hq_558; have _u0 := hv_555; omega
                  · exfalso; have _q := hq_560; have _u0 := hv_555; omega
                · have _nhc_552 := hc_552
                  have ni_562 := (fa_eq _ _).mp hc_552
                  rw [li_0] at ni_562
                  have hv_563 : zI b2 0 0 := zI.eq_l hb2 zc_0 hc_552
                  refine lv_iconst (v := 0) hx hb d_Text_parse_100 (by decide) ?_
                  refine lv_istore_n (lv' := [(3, .int 0), (4, .int 0), (6, .int v_339), (5, .int y_313), (0, .ref b0), (1, .ref b1), (2, .int b2)]) hx hb d_Text_parse_101 rfl hl (by decide) rfl (fun ls hl => ?_)
                  refine lv_goto (tgt := 137) hx hb d_Text_parse_102 (by decide) ?_
                  obtain ⟨v_564, ev_564⟩ : ∃ z : Int32, z = y_313 + 1 := ⟨_, rfl⟩
                  obtain ⟨qv_564, hv_564⟩ := zI_add (l := 1) (h := 240) hv_337 zc_1 ev_564 (by decide)
                  rw [li_1] at qv_564
                  refine lv_iinc (v := v_564) (lv' := [(5, .int v_564), (3, .int 0), (4, .int 0), (6, .int v_339), (0, .ref b0), (1, .ref b1), (2, .int b2)]) hx hb d_Text_parse_137 hl (k := 3) rfl (by rw [ev_564]; rfl) (by decide) rfl (fun ls hl => ?_)
                  refine lv_goto (tgt := 8) hx hb d_Text_parse_140 (by decide) ?_
                  exact ihk_312 (v_564) (0) (0) (y_316) (y_317) (y_318) (y_319) _ _ _ (zI.wk (l' := 0) (h' := 240) hv_564 (by decide)) (zI.wk (l' := 0) (h' := 2) zc_0 (by decide)) (zI.wk (l' := 0) (h' := 1) zc_0 (by decide)) hy_316 hy_317 hy_319 (zm_up qv_564 hmk_312 (by decide)) hP hD hS (lv_sub hl [0, 2, 1, 4, 5, 6] rfl)
            · have _nhc_521 := hc_521
              have ni_565 := (fa_eq _ _).mp hc_521
              rw [li_0] at ni_565
              have hv_566 : zI y_315 0 0 := zI.eq_l hy_315 zc_0 hc_521
              refine lv_aload_n hx hb d_Text_parse_77 rfl (lv_at hl 5 rfl) ?_
              refine z_callV (index := 25) (As := []) (rest := []) (wr := [(b0, .inr (1, [.int b3, .ref b4])), (b4, .inl (G.2 2, 240, .inl b5)), (b10, .inl (G.2 0, 240, .inl y_317)), (b11, .inl (G.2 0, 240, .inl y_318))]) Z (s1_Traces_open l G (b1) (y_316) (b7) (b8) (b9) (b10) (b11) (y_319) hy_316 hb7 hb8 hy_319) hl.1 q513 q514 q515 q3 q516 ⟨by decide, by decide, by show _ = some 0; decide +kernel⟩ ⟨Nat.le_of_ble_eq_true rfl, Nat.le_of_ble_eq_true rfl⟩ ⟨Nat.le_of_ble_eq_true rfl, Nat.le_of_ble_eq_true rfl⟩ rfl (Nat.le_of_ble_eq_true rfl) d_Text_parse_78 hP hD hS hA 2 2 rfl rfl rfl [2, 3] [0, 1, 4, 5] rfl rfl rfl rfl (by decide) (fun v w1 H locs hw_567 hP hD hS => ?_)
              obtain ⟨x_568, x_569, f_570, rfl, rfl, hx_568, hx_569, hf_570⟩ := hw_567
              have hP : va_P G.1 classes [(b0, .inr (1, [.int b3, .ref b4])), (b4, .inl (G.2 2, 240, .inl b5)), (b10, .inl (G.2 0, 240, .inl y_317)), (b11, .inl (G.2 0, 240, .inl y_318)), (b1, .inr (2, [.int x_569, .int b7, .int b8, .ref b9, .ref b10, .ref b11])), (b9, .inl (G.2 0, 20, .inl f_570))] H := hP
              have hD := z_tie hP hD rfl
              refine W.widen (k := 0) (n := 0) (Nat.le_of_ble_eq_true rfl) (Nat.le_of_ble_eq_true rfl) ?_
              refine lv_if_ne (tgt := 87) hx hb d_Text_parse_81 (by decide) (fun hc_571 => ?_) (fun hc_571 => ?_)
              · have _nhc_571 := hc_571
                have ni_572 : ¬ (x_568 : Int32).toInt = (0 : Int32).toInt := fun z => hc_571 ((fa_eq _ _).mpr z)
                simp only [li_0] at ni_572
                have hv_573 : zI x_568 1 1 := zI.ne_lo hx_568 zc_0 hc_571 (by decide)
                refine lv_iconst (v := 1) hx hb d_Text_parse_87 (by decide) ?_
                refine lv_istore_n (lv' := [(3, .int 1), (4, .int 0), (6, .int v_339), (5, .int y_313), (0, .ref b0), (1, .ref b1), (2, .int b2)]) hx hb d_Text_parse_88 rfl hl (by decide) rfl (fun ls hl => ?_)
                refine lv_iload hx hb d_Text_parse_89 (lv_at hl 2 rfl) ?_
                refine lv_bipush (v := 59) hx hb d_Text_parse_91 (by decide) ?_
                refine lv_icmp_ne (tgt := 105) hx hb d_Text_parse_93 (by decide) (fun hc_574 => ?_) (fun hc_574 => ?_)
                · have _nhc_574 := hc_574
                  have ni_575 : ¬ (v_339 : Int32).toInt = (59 : Int32).toInt := fun z => hc_574 ((fa_eq _ _).mpr z)
                  simp only [li_59] at ni_575
                  refine lv_iload hx hb d_Text_parse_105 (lv_at hl 2 rfl) ?_
                  refine lv_bipush (v := 97) hx hb d_Text_parse_107 (by decide) ?_
                  refine lv_isub hx hb d_Text_parse_109 ?_
                  refine lv_topi (fun v_576 ev_576 => ?_)
                  obtain ⟨qv_576, hv_576⟩ := zI_sub (l := -39) (h := 2147483550) hv_520 zc_97 ev_576 (by decide)
                  rw [li_97] at qv_576
                  refine z_callSN (host := "TraceMachines") (index := 29) (As := [.int v_576]) (rest := []) (wr := [(b0, .inr (1, [.int b3, .ref b4])), (b4, .inl (G.2 2, 240, .inl b5)), (b10, .inl (G.2 0, 240, .inl y_317)), (b11, .inl (G.2 0, 240, .inl y_318)), (b1, .inr (2, [.int x_569, .int b7, .int b8, .ref b9, .ref b10, .ref b11])), (b9, .inl (G.2 0, 20, .inl f_570))]) Z (s2_X_isLetter l G (v_576)) hl.1 (by decide +kernel) q518 q1 q519 ⟨by decide, by decide, by show _ = some 1; decide +kernel⟩ ⟨Nat.le_of_ble_eq_true rfl, Nat.le_of_ble_eq_true rfl⟩ ⟨Nat.le_of_ble_eq_true rfl, Nat.le_of_ble_eq_true rfl⟩ rfl (Nat.le_of_ble_eq_true rfl) d_Text_parse_110 hP hD hS hA [] [0, 1, 2, 3, 4, 5] rfl rfl rfl rfl (by decide) (fun v w1 H locs hw_577 hP hD hS => ?_)
                  rcases hw_577 with ⟨rfl, rfl, hq_578⟩ | ⟨rfl, rfl, hq_579, hq_580⟩ | ⟨rfl, rfl, hq_581, hq_582⟩
                  · have hP : va_P G.1 classes [(b0, .inr (1, [.int b3, .ref b4])), (b4, .inl (G.2 2, 240, .inl b5)), (b10, .inl (G.2 0, 240, .inl y_317)), (b11, .inl (G.2 0, 240, .inl y_318)), (b1, .inr (2, [.int x_569, .int b7, .int b8, .ref b9, .ref b10, .ref b11])), (b9, .inl (G.2 0, 20, .inl f_570))] H := hP
                    have hD := z_tie hP hD rfl
                    have hv_583 : zI v_576 (-39) (-1) := by have _a := hq_578; have _b := hv_576; have _c := zc_0; exact ⟨by omega, by omega⟩
                    refine W.widen (k := 0) (n := 0) (Nat.le_of_ble_eq_true rfl) (Nat.le_of_ble_eq_true rfl) ?_
                    refine lv_if_eq (tgt := 134) hx hb d_Text_parse_113 (by decide) (fun _ => ?_) (fun hc => absurd hc (by decide +kernel))
                    refine lv_iload hx hb d_Text_parse_134 (lv_at hl 3 rfl) ?_
                    exact z_iret hx hb hr hlocks (hP.sub [0, 1, 4, 5, 2, 3] rfl) (hD.sub [0, 1, 4, 5, 2, 3] (by decide) rfl) hS (Nat.le_of_ble_eq_true rfl) (Nat.le_of_ble_eq_true rfl) d_Text_parse_136 ⟨y_313, x_569, f_570, y_317, y_318, rfl, rfl, (zI.wk (l' := (-1)) (h' := 240) hv_337 (by decide)), hx_569, hf_570, hy_317⟩
                  · have hP : va_P G.1 classes [(b0, .inr (1, [.int b3, .ref b4])), (b4, .inl (G.2 2, 240, .inl b5)), (b10, .inl (G.2 0, 240, .inl y_317)), (b11, .inl (G.2 0, 240, .inl y_318)), (b1, .inr (2, [.int x_569, .int b7, .int b8, .ref b9, .ref b10, .ref b11])), (b9, .inl (G.2 0, 20, .inl f_570))] H := hP
                    have hD := z_tie hP hD rfl
                    have hv_584 : zI v_576 0 2147483550 := by have _a := hq_579; have _b := hv_576; have _c := zc_0; exact ⟨by omega, by omega⟩
                    have hv_585 : zI v_576 10 2147483550 := by have _a := hq_580; have _b := hv_584; have _c := zc_10; exact ⟨by omega, by omega⟩
                    refine W.widen (k := 0) (n := 0) (Nat.le_of_ble_eq_true rfl) (Nat.le_of_ble_eq_true rfl) ?_
                    refine lv_if_eq (tgt := 134) hx hb d_Text_parse_113 (by decide) (fun _ => ?_) (fun hc => absurd hc (by decide +kernel))
                    refine lv_iload hx hb d_Text_parse_134 (lv_at hl 3 rfl) ?_
                    exact z_iret hx hb hr hlocks (hP.sub [0, 1, 4, 5, 2, 3] rfl) (hD.sub [0, 1, 4, 5, 2, 3] (by decide) rfl) hS (Nat.le_of_ble_eq_true rfl) (Nat.le_of_ble_eq_true rfl) d_Text_parse_136 ⟨y_313, x_569, f_570, y_317, y_318, rfl, rfl, (zI.wk (l' := (-1)) (h' := 240) hv_337 (by decide)), hx_569, hf_570, hy_317⟩
                  · have hP : va_P G.1 classes [(b0, .inr (1, [.int b3, .ref b4])), (b4, .inl (G.2 2, 240, .inl b5)), (b10, .inl (G.2 0, 240, .inl y_317)), (b11, .inl (G.2 0, 240, .inl y_318)), (b1, .inr (2, [.int x_569, .int b7, .int b8, .ref b9, .ref b10, .ref b11])), (b9, .inl (G.2 0, 20, .inl f_570))] H := hP
                    have hD := z_tie hP hD rfl
                    have hv_586 : zI v_576 0 2147483550 := by have _a := hq_581; have _b := hv_576; have _c := zc_0; exact ⟨by omega, by omega⟩
                    have hv_587 : zI v_576 0 9 := by have _a := hq_582; have _b := hv_586; have _c := zc_10; exact ⟨by omega, by omega⟩
                    refine W.widen (k := 0) (n := 0) (Nat.le_of_ble_eq_true rfl) (Nat.le_of_ble_eq_true rfl) ?_
                    refine lv_if_eq (tgt := 134) hx hb d_Text_parse_113 (by decide) (fun hc => absurd hc (by decide +kernel)) (fun _ => ?_)
                    refine lv_aload_n hx hb d_Text_parse_116 rfl (lv_at hl 5 rfl) ?_
                    refine lv_iload hx hb d_Text_parse_117 (lv_at hl 2 rfl) ?_
                    refine lv_bipush (v := 97) hx hb d_Text_parse_119 (by decide) ?_
                    refine lv_isub hx hb d_Text_parse_121 ?_
                    refine lv_topi (fun v_588 ev_588 => ?_)
                    obtain rfl : v_576 = v_588 := ev_576.trans ev_588.symm
                    refine z_callV (index := 33) (As := [.int v_576]) (rest := []) (wr := [(b0, .inr (1, [.int b3, .ref b4])), (b4, .inl (G.2 2, 240, .inl b5))]) Z (s1_Traces_add l G (b1) (v_576) (x_569) (b7) (b8) (b9) (b10) (b11) (f_570) (y_317) (y_318) hv_587 hx_569 hb7 hb8 hf_570 hy_317) hl.1 q520 q521 q522 q3 q523 ⟨by decide, by decide, by show _ = some 1; decide +kernel⟩ ⟨Nat.le_of_ble_eq_true rfl, Nat.le_of_ble_eq_true rfl⟩ ⟨Nat.le_of_ble_eq_true rfl, Nat.le_of_ble_eq_true rfl⟩ rfl (Nat.le_of_ble_eq_true rfl) d_Text_parse_122 hP hD hS hA 4 2 rfl rfl rfl [4, 5, 2, 3] [0, 1] rfl rfl rfl rfl (by decide) (fun v w1 H locs hw_589 hP hD hS => ?_)
                    obtain ⟨x_590, f_591, f_592, f_593, rfl, rfl, hx_590, hf_591, hf_592⟩ := hw_589
                    have hP : va_P G.1 classes [(b0, .inr (1, [.int b3, .ref b4])), (b4, .inl (G.2 2, 240, .inl b5)), (b1, .inr (2, [.int x_569, .int b7, .int b8, .ref b9, .ref b10, .ref b11])), (b9, .inl (G.2 0, 20, .inl f_591)), (b10, .inl (G.2 0, 240, .inl f_592)), (b11, .inl (G.2 0, 240, .inl f_593))] H := hP
                    have hD := z_tie hP hD rfl
                    refine W.widen (k := 0) (n := 0) (Nat.le_of_ble_eq_true rfl) (Nat.le_of_ble_eq_true rfl) ?_
                    refine lv_if_eq (tgt := 134) hx hb d_Text_parse_125 (by decide) (fun hc_594 => ?_) (fun hc_594 => ?_)
                    · have _nhc_594 := hc_594
                      have ni_595 := (fa_eq _ _).mp hc_594
                      rw [li_0] at ni_595
                      have hv_596 : zI x_590 0 0 := zI.eq_l hx_590 zc_0 hc_594
                      refine lv_iload hx hb d_Text_parse_134 (lv_at hl 3 rfl) ?_
                      exact z_iret hx hb hr hlocks hP hD hS (Nat.le_of_ble_eq_true rfl) (Nat.le_of_ble_eq_true rfl) d_Text_parse_136 ⟨y_313, x_569, f_591, f_592, f_593, rfl, rfl, (zI.wk (l' := (-1)) (h' := 240) hv_337 (by decide)), hx_569, hf_591, hf_592⟩
                    · have _nhc_594 := hc_594
                      have ni_597 : ¬ (x_590 : Int32).toInt = (0 : Int32).toInt := fun z => hc_594 ((fa_eq _ _).mpr z)
                      simp only [li_0] at ni_597
                      have hv_598 : zI x_590 1 1 := zI.ne_lo hx_590 zc_0 hc_594 (by decide)
                      refine lv_iconst (v := 2) hx hb d_Text_parse_128 (by decide) ?_
                      refine lv_istore (lv' := [(4, .int 2), (3, .int 1), (6, .int v_339), (5, .int y_313), (0, .ref b0), (1, .ref b1), (2, .int b2)]) hx hb d_Text_parse_129 hl (by decide) rfl (fun ls hl => ?_)
                      refine lv_goto (tgt := 137) hx hb d_Text_parse_131 (by decide) ?_
                      obtain ⟨v_599, ev_599⟩ : ∃ z : Int32, z = y_313 + 1 := ⟨_, rfl⟩
                      obtain ⟨qv_599, hv_599⟩ := zI_add (l := 1) (h := 240) hv_337 zc_1 ev_599 (by decide)
                      rw [li_1] at qv_599
                      refine lv_iinc (v := v_599) (lv' := [(5, .int v_599), (4, .int 2), (3, .int 1), (6, .int v_339), (0, .ref b0), (1, .ref b1), (2, .int b2)]) hx hb d_Text_parse_137 hl (k := 3) rfl (by rw [ev_599]; rfl) (by decide) rfl (fun ls hl => ?_)
                      refine lv_goto (tgt := 8) hx hb d_Text_parse_140 (by decide) ?_
                      exact ihk_312 (v_599) (2) (1) (x_569) (f_592) (f_593) (f_591) _ _ _ (zI.wk (l' := 0) (h' := 240) hv_599 (by decide)) (zI.wk (l' := 0) (h' := 2) zc_2 (by decide)) (zI.wk (l' := 0) (h' := 1) zc_1 (by decide)) hx_569 hf_592 hf_591 (zm_up qv_599 hmk_312 (by decide)) hP hD hS (lv_sub hl [0, 1, 2, 4, 5, 6] rfl)
                · have _nhc_574 := hc_574
                  have ni_600 := (fa_eq _ _).mp hc_574
                  rw [li_59] at ni_600
                  have hv_601 : zI v_339 59 59 := zI.eq_l hv_520 zc_59 hc_574
                  refine lv_iload_n hx hb d_Text_parse_96 rfl (lv_at hl 6 rfl) ?_
                  refine lv_if_ne (tgt := 105) hx hb d_Text_parse_97 (by decide) (fun hc_602 => ?_) (fun hc_602 => ?_)
                  · have _nhc_602 := hc_602
                    have ni_603 : ¬ (b2 : Int32).toInt = (0 : Int32).toInt := fun z => hc_602 ((fa_eq _ _).mpr z)
                    simp only [li_0] at ni_603
                    have hv_604 : zI b2 1 1 := zI.ne_lo hb2 zc_0 hc_602 (by decide)
                    refine lv_iload hx hb d_Text_parse_105 (lv_at hl 2 rfl) ?_
                    refine lv_bipush (v := 97) hx hb d_Text_parse_107 (by decide) ?_
                    refine lv_isub hx hb d_Text_parse_109 ?_
                    refine lv_topi (fun v_605 ev_605 => ?_)
                    obtain ⟨qv_605, hv_605⟩ := zI_sub (l := -38) (h := -38) hv_601 zc_97 ev_605 (by decide)
                    rw [li_97] at qv_605
                    refine z_callSN (host := "TraceMachines") (index := 29) (As := [.int v_605]) (rest := []) (wr := [(b0, .inr (1, [.int b3, .ref b4])), (b4, .inl (G.2 2, 240, .inl b5)), (b10, .inl (G.2 0, 240, .inl y_317)), (b11, .inl (G.2 0, 240, .inl y_318)), (b1, .inr (2, [.int x_569, .int b7, .int b8, .ref b9, .ref b10, .ref b11])), (b9, .inl (G.2 0, 20, .inl f_570))]) Z (s2_X_isLetter l G (v_605)) hl.1 (by decide +kernel) q518 q1 q519 ⟨by decide, by decide, by show _ = some 1; decide +kernel⟩ ⟨Nat.le_of_ble_eq_true rfl, Nat.le_of_ble_eq_true rfl⟩ ⟨Nat.le_of_ble_eq_true rfl, Nat.le_of_ble_eq_true rfl⟩ rfl (Nat.le_of_ble_eq_true rfl) d_Text_parse_110 hP hD hS hA [] [0, 1, 2, 3, 4, 5] rfl rfl rfl rfl (by decide) (fun v w1 H locs hw_606 hP hD hS => ?_)
                    rcases hw_606 with ⟨rfl, rfl, hq_607⟩ | ⟨rfl, rfl, hq_608, hq_609⟩ | ⟨rfl, rfl, hq_610, hq_611⟩
                    · have hP : va_P G.1 classes [(b0, .inr (1, [.int b3, .ref b4])), (b4, .inl (G.2 2, 240, .inl b5)), (b10, .inl (G.2 0, 240, .inl y_317)), (b11, .inl (G.2 0, 240, .inl y_318)), (b1, .inr (2, [.int x_569, .int b7, .int b8, .ref b9, .ref b10, .ref b11])), (b9, .inl (G.2 0, 20, .inl f_570))] H := hP
                      have hD := z_tie hP hD rfl
                      refine W.widen (k := 0) (n := 0) (Nat.le_of_ble_eq_true rfl) (Nat.le_of_ble_eq_true rfl) ?_
                      refine lv_if_eq (tgt := 134) hx hb d_Text_parse_113 (by decide) (fun _ => ?_) (fun hc => absurd hc (by decide +kernel))
                      refine lv_iload hx hb d_Text_parse_134 (lv_at hl 3 rfl) ?_
                      exact z_iret hx hb hr hlocks (hP.sub [0, 1, 4, 5, 2, 3] rfl) (hD.sub [0, 1, 4, 5, 2, 3] (by decide) rfl) hS (Nat.le_of_ble_eq_true rfl) (Nat.le_of_ble_eq_true rfl) d_Text_parse_136 ⟨y_313, x_569, f_570, y_317, y_318, rfl, rfl, (zI.wk (l' := (-1)) (h' := 240) hv_337 (by decide)), hx_569, hf_570, hy_317⟩
                    · exfalso; have _q := hq_608; have _u0 := hv_605; omega
                    · exfalso; have _q := hq_610; have _u0 := hv_605; omega
                  · have _nhc_602 := hc_602
                    have ni_612 := (fa_eq _ _).mp hc_602
                    rw [li_0] at ni_612
                    have hv_613 : zI b2 0 0 := zI.eq_l hb2 zc_0 hc_602
                    refine lv_iconst (v := 0) hx hb d_Text_parse_100 (by decide) ?_
                    refine lv_istore_n (lv' := [(3, .int 0), (4, .int 0), (6, .int v_339), (5, .int y_313), (0, .ref b0), (1, .ref b1), (2, .int b2)]) hx hb d_Text_parse_101 rfl hl (by decide) rfl (fun ls hl => ?_)
                    refine lv_goto (tgt := 137) hx hb d_Text_parse_102 (by decide) ?_
                    obtain ⟨v_614, ev_614⟩ : ∃ z : Int32, z = y_313 + 1 := ⟨_, rfl⟩
                    obtain ⟨qv_614, hv_614⟩ := zI_add (l := 1) (h := 240) hv_337 zc_1 ev_614 (by decide)
                    rw [li_1] at qv_614
                    refine lv_iinc (v := v_614) (lv' := [(5, .int v_614), (3, .int 0), (4, .int 0), (6, .int v_339), (0, .ref b0), (1, .ref b1), (2, .int b2)]) hx hb d_Text_parse_137 hl (k := 3) rfl (by rw [ev_614]; rfl) (by decide) rfl (fun ls hl => ?_)
                    refine lv_goto (tgt := 8) hx hb d_Text_parse_140 (by decide) ?_
                    exact ihk_312 (v_614) (0) (0) (x_569) (y_317) (y_318) (f_570) _ _ _ (zI.wk (l' := 0) (h' := 240) hv_614 (by decide)) (zI.wk (l' := 0) (h' := 2) zc_0 (by decide)) (zI.wk (l' := 0) (h' := 1) zc_0 (by decide)) hx_569 hy_317 hf_570 (zm_up qv_614 hmk_312 (by decide)) (hP.sub [0, 1, 4, 5, 2, 3] rfl) (hD.sub [0, 1, 4, 5, 2, 3] (by decide) rfl) hS (lv_sub hl [0, 2, 1, 4, 5, 6] rfl)
              · have _nhc_571 := hc_571
                have ni_615 := (fa_eq _ _).mp hc_571
                rw [li_0] at ni_615
                have hv_616 : zI x_568 0 0 := zI.eq_l hx_568 zc_0 hc_571
                refine lv_iload hx hb d_Text_parse_84 (lv_at hl 2 rfl) ?_
                exact z_iret hx hb hr hlocks (hP.sub [0, 1, 4, 5, 2, 3] rfl) (hD.sub [0, 1, 4, 5, 2, 3] (by decide) rfl) hS (Nat.le_of_ble_eq_true rfl) (Nat.le_of_ble_eq_true rfl) d_Text_parse_86 ⟨y_313, x_569, f_570, y_317, y_318, rfl, rfl, (zI.wk (l' := (-1)) (h' := 240) hv_337 (by decide)), hx_569, hf_570, hy_317⟩
          · have _nhc_518 := hc_518
            have ni_617 := (fa_le _ _).mp (zi_nlt hc_518)
            rw [li_57] at ni_617
            have hv_618 : zI v_339 48 57 := zI.le_l hv_517 zc_57 (zi_nlt hc_518) (by decide)
            refine lv_aload_n hx hb d_Text_parse_45 rfl (lv_at hl 5 rfl) ?_
            refine lv_iload hx hb d_Text_parse_46 (lv_at hl 0 rfl) ?_
            refine lv_bipush (v := 48) hx hb d_Text_parse_48 (by decide) ?_
            refine lv_isub hx hb d_Text_parse_50 ?_
            refine lv_topi (fun v_619 ev_619 => ?_)
            obtain ⟨qv_619, hv_619⟩ := zI_sub (l := 0) (h := 9) hv_618 zc_48 ev_619 (by decide)
            rw [li_48] at qv_619
            refine z_callV (index := 19) (As := [.int v_619]) (rest := []) (wr := [(b0, .inr (1, [.int b3, .ref b4])), (b4, .inl (G.2 2, 240, .inl b5)), (b10, .inl (G.2 0, 240, .inl y_317))]) Z (s1_Traces_addDigit l G (b1) (v_619) (y_316) (b7) (b8) (b9) (b10) (b11) (y_319) (y_318) hv_619 hy_316 hb7 hb8 hy_319) hl.1 q509 q510 q511 q3 q512 ⟨by decide, by decide, by show _ = some 1; decide +kernel⟩ ⟨Nat.le_of_ble_eq_true rfl, Nat.le_of_ble_eq_true rfl⟩ ⟨Nat.le_of_ble_eq_true rfl, Nat.le_of_ble_eq_true rfl⟩ rfl (Nat.le_of_ble_eq_true rfl) d_Text_parse_51 hP hD hS hA 2 2 rfl rfl rfl [2, 3, 5] [0, 1, 4] rfl rfl rfl rfl (by decide) (fun v w1 H locs hw_620 hP hD hS => ?_)
            obtain ⟨f_621, rfl, rfl⟩ := hw_620
            have hP : va_P G.1 classes [(b0, .inr (1, [.int b3, .ref b4])), (b4, .inl (G.2 2, 240, .inl b5)), (b10, .inl (G.2 0, 240, .inl y_317)), (b1, .inr (2, [.int y_316, .int b7, .int b8, .ref b9, .ref b10, .ref b11])), (b9, .inl (G.2 0, 20, .inl y_319)), (b11, .inl (G.2 0, 240, .inl f_621))] H := hP
            have hD := z_tie hP hD rfl
            refine W.widen (k := 0) (n := 0) (Nat.le_of_ble_eq_true rfl) (Nat.le_of_ble_eq_true rfl) ?_
            obtain ⟨v_622, ev_622⟩ : ∃ z : Int32, z = y_314 + (-1) := ⟨_, rfl⟩
            obtain ⟨qv_622, hv_622⟩ := zI_add (l := 0) (h := 1) hv_445 zc_m1 ev_622 (by decide)
            rw [li_m1] at qv_622
            refine lv_iinc (v := v_622) (lv' := [(4, .int v_622), (6, .int v_339), (5, .int y_313), (3, .int y_315), (0, .ref b0), (1, .ref b1), (2, .int b2)]) hx hb d_Text_parse_54 hl (k := 2) rfl (by rw [ev_622]; rfl) (by decide) rfl (fun ls hl => ?_)
            refine lv_goto (tgt := 137) hx hb d_Text_parse_57 (by decide) ?_
            obtain ⟨v_623, ev_623⟩ : ∃ z : Int32, z = y_313 + 1 := ⟨_, rfl⟩
            obtain ⟨qv_623, hv_623⟩ := zI_add (l := 1) (h := 240) hv_337 zc_1 ev_623 (by decide)
            rw [li_1] at qv_623
            refine lv_iinc (v := v_623) (lv' := [(5, .int v_623), (4, .int v_622), (6, .int v_339), (3, .int y_315), (0, .ref b0), (1, .ref b1), (2, .int b2)]) hx hb d_Text_parse_137 hl (k := 2) rfl (by rw [ev_623]; rfl) (by decide) rfl (fun ls hl => ?_)
            refine lv_goto (tgt := 8) hx hb d_Text_parse_140 (by decide) ?_
            exact ihk_312 (v_623) (v_622) (y_315) (y_316) (y_317) (f_621) (y_319) _ _ _ (zI.wk (l' := 0) (h' := 240) hv_623 (by decide)) (zI.wk (l' := 0) (h' := 2) hv_622 (by decide)) hy_315 hy_316 hy_317 hy_319 (zm_up qv_623 hmk_312 (by decide)) (hP.sub [0, 1, 3, 4, 2, 5] rfl) (hD.sub [0, 1, 3, 4, 2, 5] (by decide) rfl) hS (lv_sub hl [0, 1, 3, 4, 5, 6] rfl)
theorem d_Traces_copyFrom_0 : decode prog_10_method_2_code 0 = .ok (.aload_n 0, 1) := by decide +kernel
theorem d_Traces_copyFrom_1 : decode prog_10_method_2_code 1 = .ok (.aload_n 1, 1) := by decide +kernel
theorem d_Traces_copyFrom_2 : decode prog_10_method_2_code 2 = .ok (.getfield 25, 3) := by decide +kernel
theorem d_Traces_copyFrom_5 : decode prog_10_method_2_code 5 = .ok (.putfield 25, 3) := by decide +kernel
theorem d_Traces_copyFrom_8 : decode prog_10_method_2_code 8 = .ok (.aload_n 0, 1) := by decide +kernel
theorem d_Traces_copyFrom_9 : decode prog_10_method_2_code 9 = .ok (.aload_n 1, 1) := by decide +kernel
theorem d_Traces_copyFrom_10 : decode prog_10_method_2_code 10 = .ok (.getfield 9, 3) := by decide +kernel
theorem d_Traces_copyFrom_13 : decode prog_10_method_2_code 13 = .ok (.putfield 9, 3) := by decide +kernel
theorem d_Traces_copyFrom_16 : decode prog_10_method_2_code 16 = .ok (.aload_n 0, 1) := by decide +kernel
theorem d_Traces_copyFrom_17 : decode prog_10_method_2_code 17 = .ok (.aload_n 1, 1) := by decide +kernel
theorem d_Traces_copyFrom_18 : decode prog_10_method_2_code 18 = .ok (.getfield 28, 3) := by decide +kernel
theorem d_Traces_copyFrom_21 : decode prog_10_method_2_code 21 = .ok (.putfield 28, 3) := by decide +kernel
theorem d_Traces_copyFrom_24 : decode prog_10_method_2_code 24 = .ok (.aload_n 1, 1) := by decide +kernel
theorem d_Traces_copyFrom_25 : decode prog_10_method_2_code 25 = .ok (.getfield 15, 3) := by decide +kernel
theorem d_Traces_copyFrom_28 : decode prog_10_method_2_code 28 = .ok (.iconst 0, 1) := by decide +kernel
theorem d_Traces_copyFrom_29 : decode prog_10_method_2_code 29 = .ok (.aload_n 0, 1) := by decide +kernel
theorem d_Traces_copyFrom_30 : decode prog_10_method_2_code 30 = .ok (.getfield 15, 3) := by decide +kernel
theorem d_Traces_copyFrom_33 : decode prog_10_method_2_code 33 = .ok (.iconst 0, 1) := by decide +kernel
theorem d_Traces_copyFrom_34 : decode prog_10_method_2_code 34 = .ok (.aload_n 0, 1) := by decide +kernel
theorem d_Traces_copyFrom_35 : decode prog_10_method_2_code 35 = .ok (.getfield 25, 3) := by decide +kernel
theorem d_Traces_copyFrom_38 : decode prog_10_method_2_code 38 = .ok (.invokestatic 31, 3) := by decide +kernel
theorem d_Traces_copyFrom_41 : decode prog_10_method_2_code 41 = .ok (.aload_n 1, 1) := by decide +kernel
theorem d_Traces_copyFrom_42 : decode prog_10_method_2_code 42 = .ok (.getfield 19, 3) := by decide +kernel
theorem d_Traces_copyFrom_45 : decode prog_10_method_2_code 45 = .ok (.iconst 0, 1) := by decide +kernel
theorem d_Traces_copyFrom_46 : decode prog_10_method_2_code 46 = .ok (.aload_n 0, 1) := by decide +kernel
theorem d_Traces_copyFrom_47 : decode prog_10_method_2_code 47 = .ok (.getfield 19, 3) := by decide +kernel
theorem d_Traces_copyFrom_50 : decode prog_10_method_2_code 50 = .ok (.iconst 0, 1) := by decide +kernel
theorem d_Traces_copyFrom_51 : decode prog_10_method_2_code 51 = .ok (.aload_n 0, 1) := by decide +kernel
theorem d_Traces_copyFrom_52 : decode prog_10_method_2_code 52 = .ok (.getfield 25, 3) := by decide +kernel
theorem d_Traces_copyFrom_55 : decode prog_10_method_2_code 55 = .ok (.bipush 12, 2) := by decide +kernel
theorem d_Traces_copyFrom_57 : decode prog_10_method_2_code 57 = .ok (.imul, 1) := by decide +kernel
theorem d_Traces_copyFrom_58 : decode prog_10_method_2_code 58 = .ok (.invokestatic 31, 3) := by decide +kernel
theorem d_Traces_copyFrom_61 : decode prog_10_method_2_code 61 = .ok (.aload_n 1, 1) := by decide +kernel
theorem d_Traces_copyFrom_62 : decode prog_10_method_2_code 62 = .ok (.getfield 22, 3) := by decide +kernel
theorem d_Traces_copyFrom_65 : decode prog_10_method_2_code 65 = .ok (.iconst 0, 1) := by decide +kernel
theorem d_Traces_copyFrom_66 : decode prog_10_method_2_code 66 = .ok (.aload_n 0, 1) := by decide +kernel
theorem d_Traces_copyFrom_67 : decode prog_10_method_2_code 67 = .ok (.getfield 22, 3) := by decide +kernel
theorem d_Traces_copyFrom_70 : decode prog_10_method_2_code 70 = .ok (.iconst 0, 1) := by decide +kernel
theorem d_Traces_copyFrom_71 : decode prog_10_method_2_code 71 = .ok (.aload_n 0, 1) := by decide +kernel
theorem d_Traces_copyFrom_72 : decode prog_10_method_2_code 72 = .ok (.getfield 25, 3) := by decide +kernel
theorem d_Traces_copyFrom_75 : decode prog_10_method_2_code 75 = .ok (.bipush 12, 2) := by decide +kernel
theorem d_Traces_copyFrom_77 : decode prog_10_method_2_code 77 = .ok (.imul, 1) := by decide +kernel
theorem d_Traces_copyFrom_78 : decode prog_10_method_2_code 78 = .ok (.invokestatic 31, 3) := by decide +kernel
theorem d_Traces_copyFrom_81 : decode prog_10_method_2_code 81 = .ok (.return_, 1) := by decide +kernel
abbrev m_s1_Traces_copyFrom : Room := { frames := 1, cells := 0, slots := 0, locals := 18 }
set_option maxHeartbeats 4000000 in
set_option maxRecDepth 100000 in
theorem s1_Traces_copyFrom (l : Launch) (G : zG) (b0 : Nat) (b1 : Int32) (b2 : Int32) (b3 : Int32) (b4 : Nat) (b5 : Nat) (b6 : Nat) (b7 : Nat → Int32) (b8 : Nat → Int32) (b9 : Nat → Int32) (hb1 : zI b1 0 20) (hb2 : zI b2 0 3) (hb3 : zI b3 0 20) (hb7 : zR b7 0 12) (hb8 : zR b8 0 9) : zM l G y_Traces_copyFrom prog_10_method_2_code 2 (Option.none : Option Jvm.ClassFile.FieldType) m_s1_Traces_copyFrom [.ref b0, .ref b0] [(b0, .inr (2, [.int b1, .int b2, .int b3, .ref b4, .ref b5, .ref b6])), (b4, .inl (G.2 0, 20, .inl b7)), (b5, .inl (G.2 0, 240, .inl b8)), (b6, .inl (G.2 0, 240, .inl b9))] (fun v w => ∃ (e0 : Nat → Int32), ∃ (e1 : Nat → Int32), ∃ (e2 : Nat → Int32), v = none ∧ w = [(b0, .inr (2, [.int b1, .int b2, .int b3, .ref b4, .ref b5, .ref b6])), (b4, .inl (G.2 0, 20, .inl e0)), (b5, .inl (G.2 0, 240, .inl e1)), (b6, .inl (G.2 0, 240, .inl e2))] ∧ (zR e0 0 12) ∧ (zR e1 0 9)) := by
  refine z_start (by decide +kernel) (Nat.le_of_ble_eq_true rfl) ?_
  intro p e s m below meth c A Z hr hnm hA hP hD hS ls hl
  have Z : zC p s m _ meth c prog_10_method_2_code 2 "TraceMachines$Traces" G := Z
  obtain ⟨hx, hb, hml, hown, hts, hK, hN, hlocks⟩ := id Z
  have hl : lv_has ls 2 [(0, .ref b0), (1, .ref b0)] := hl
  refine lv_aload_n hx hb d_Traces_copyFrom_0 rfl (lv_at hl 0 rfl) ?_
  refine lv_aload_n hx hb d_Traces_copyFrom_1 rfl (lv_at hl 1 rfl) ?_
  refine va_get (D := G.1) (ci := 2) (v := .int b1) (C := R_Traces) (T := F_Traces) (N := 6) hx hb hts i_Traces hown hK hP 0 rfl rfl 0 (by decide) (hts _ q52) (fun _ h9 => h9) rfl d_Traces_copyFrom_2 ?_
  refine va_put (D := G.1) (ci := 2) (v := .int b1) (ty := .int) (C := R_Traces) (T := F_Traces) (N := 6) hx hb hts i_Traces t_Traces t_Traces_ok n_Traces hown hK hP hD hS 0 rfl rfl 0 (by decide) (hts _ q52) (fun _ h9 => h9) rfl (by decide +kernel) rfl rfl (Nat.le_of_ble_eq_true rfl) d_Traces_copyFrom_5 (fun H locs hP hD hS => ?_)
  have hP : va_P G.1 classes [(b0, .inr (2, [.int b1, .int b2, .int b3, .ref b4, .ref b5, .ref b6])), (b4, .inl (G.2 0, 20, .inl b7)), (b5, .inl (G.2 0, 240, .inl b8)), (b6, .inl (G.2 0, 240, .inl b9))] H := hP
  have hD := z_tie hP hD rfl
  refine lv_aload_n hx hb d_Traces_copyFrom_8 rfl (lv_at hl 0 rfl) ?_
  refine lv_aload_n hx hb d_Traces_copyFrom_9 rfl (lv_at hl 1 rfl) ?_
  refine va_get (D := G.1) (ci := 2) (v := .int b2) (C := R_Traces) (T := F_Traces) (N := 6) hx hb hts i_Traces hown hK hP 0 rfl rfl 1 (by decide) (hts _ q59) (fun _ h9 => h9) rfl d_Traces_copyFrom_10 ?_
  refine va_put (D := G.1) (ci := 2) (v := .int b2) (ty := .int) (C := R_Traces) (T := F_Traces) (N := 6) hx hb hts i_Traces t_Traces t_Traces_ok n_Traces hown hK hP hD hS 0 rfl rfl 1 (by decide) (hts _ q59) (fun _ h9 => h9) rfl (by decide +kernel) rfl rfl (Nat.le_of_ble_eq_true rfl) d_Traces_copyFrom_13 (fun H locs hP hD hS => ?_)
  have hP : va_P G.1 classes [(b0, .inr (2, [.int b1, .int b2, .int b3, .ref b4, .ref b5, .ref b6])), (b4, .inl (G.2 0, 20, .inl b7)), (b5, .inl (G.2 0, 240, .inl b8)), (b6, .inl (G.2 0, 240, .inl b9))] H := hP
  have hD := z_tie hP hD rfl
  refine lv_aload_n hx hb d_Traces_copyFrom_16 rfl (lv_at hl 0 rfl) ?_
  refine lv_aload_n hx hb d_Traces_copyFrom_17 rfl (lv_at hl 1 rfl) ?_
  refine va_get (D := G.1) (ci := 2) (v := .int b3) (C := R_Traces) (T := F_Traces) (N := 6) hx hb hts i_Traces hown hK hP 0 rfl rfl 2 (by decide) (hts _ q61) (fun _ h9 => h9) rfl d_Traces_copyFrom_18 ?_
  refine va_put (D := G.1) (ci := 2) (v := .int b3) (ty := .int) (C := R_Traces) (T := F_Traces) (N := 6) hx hb hts i_Traces t_Traces t_Traces_ok n_Traces hown hK hP hD hS 0 rfl rfl 2 (by decide) (hts _ q61) (fun _ h9 => h9) rfl (by decide +kernel) rfl rfl (Nat.le_of_ble_eq_true rfl) d_Traces_copyFrom_21 (fun H locs hP hD hS => ?_)
  have hP : va_P G.1 classes [(b0, .inr (2, [.int b1, .int b2, .int b3, .ref b4, .ref b5, .ref b6])), (b4, .inl (G.2 0, 20, .inl b7)), (b5, .inl (G.2 0, 240, .inl b8)), (b6, .inl (G.2 0, 240, .inl b9))] H := hP
  have hD := z_tie hP hD rfl
  refine lv_aload_n hx hb d_Traces_copyFrom_24 rfl (lv_at hl 1 rfl) ?_
  refine va_get (D := G.1) (ci := 2) (v := .ref b4) (C := R_Traces) (T := F_Traces) (N := 6) hx hb hts i_Traces hown hK hP 0 rfl rfl 3 (by decide) (hts _ q63) (fun _ h9 => h9) rfl d_Traces_copyFrom_25 ?_
  refine lv_iconst (v := 0) hx hb d_Traces_copyFrom_28 (by decide) ?_
  refine lv_aload_n hx hb d_Traces_copyFrom_29 rfl (lv_at hl 0 rfl) ?_
  refine va_get (D := G.1) (ci := 2) (v := .ref b4) (C := R_Traces) (T := F_Traces) (N := 6) hx hb hts i_Traces hown hK hP 0 rfl rfl 3 (by decide) (hts _ q63) (fun _ h9 => h9) rfl d_Traces_copyFrom_30 ?_
  refine lv_iconst (v := 0) hx hb d_Traces_copyFrom_33 (by decide) ?_
  refine lv_aload_n hx hb d_Traces_copyFrom_34 rfl (lv_at hl 0 rfl) ?_
  refine va_get (D := G.1) (ci := 2) (v := .int b1) (C := R_Traces) (T := F_Traces) (N := 6) hx hb hts i_Traces hown hK hP 0 rfl rfl 0 (by decide) (hts _ q52) (fun _ h9 => h9) rfl d_Traces_copyFrom_35 ?_
  refine va_copyi hx hb (hml.trans hl.1.symm) hown (hts _ q502) (hts _ q504) (hts _ q503) (hts _ q15) hK hP hD hS 1 1 0 0 rfl rfl rfl rfl rfl (zi_nn zc_0 (by decide)) (zi_nn zc_0 (by decide)) (zi_nn hb1 (by decide)) (zi_cp zc_0 hb1 (by decide) (by decide) (by decide)) (zi_cp zc_0 hb1 (by decide) (by decide) (by decide)) (fun _ _ => rfl) (Nat.le_of_ble_eq_true rfl) (Nat.le_of_ble_eq_true rfl) d_Traces_copyFrom_38 (fun H locs hP hD hS => ?_)
  obtain ⟨f_1, hf_1, hP, hD⟩ := z_newf 1 hP hD rfl (zR.cpy hb7 hb7)
  have hP : va_P G.1 classes [(b0, .inr (2, [.int b1, .int b2, .int b3, .ref b4, .ref b5, .ref b6])), (b4, .inl (G.2 0, 20, .inl f_1)), (b5, .inl (G.2 0, 240, .inl b8)), (b6, .inl (G.2 0, 240, .inl b9))] H := hP
  have hD := z_tie hP hD rfl
  refine lv_aload_n hx hb d_Traces_copyFrom_41 rfl (lv_at hl 1 rfl) ?_
  refine va_get (D := G.1) (ci := 2) (v := .ref b5) (C := R_Traces) (T := F_Traces) (N := 6) hx hb hts i_Traces hown hK hP 0 rfl rfl 4 (by decide) (hts _ q72) (fun _ h9 => h9) rfl d_Traces_copyFrom_42 ?_
  refine lv_iconst (v := 0) hx hb d_Traces_copyFrom_45 (by decide) ?_
  refine lv_aload_n hx hb d_Traces_copyFrom_46 rfl (lv_at hl 0 rfl) ?_
  refine va_get (D := G.1) (ci := 2) (v := .ref b5) (C := R_Traces) (T := F_Traces) (N := 6) hx hb hts i_Traces hown hK hP 0 rfl rfl 4 (by decide) (hts _ q72) (fun _ h9 => h9) rfl d_Traces_copyFrom_47 ?_
  refine lv_iconst (v := 0) hx hb d_Traces_copyFrom_50 (by decide) ?_
  refine lv_aload_n hx hb d_Traces_copyFrom_51 rfl (lv_at hl 0 rfl) ?_
  refine va_get (D := G.1) (ci := 2) (v := .int b1) (C := R_Traces) (T := F_Traces) (N := 6) hx hb hts i_Traces hown hK hP 0 rfl rfl 0 (by decide) (hts _ q52) (fun _ h9 => h9) rfl d_Traces_copyFrom_52 ?_
  refine lv_bipush (v := 12) hx hb d_Traces_copyFrom_55 (by decide) ?_
  refine lv_imul hx hb d_Traces_copyFrom_57 ?_
  refine lv_topi (fun v_2 ev_2 => ?_)
  obtain ⟨qv_2, hv_2⟩ := zI_mul (l := 0) (h := 240) hb1 zc_12 ev_2 (by decide)
  rw [li_12] at qv_2
  refine va_copyi hx hb (hml.trans hl.1.symm) hown (hts _ q502) (hts _ q504) (hts _ q503) (hts _ q15) hK hP hD hS 2 2 0 0 rfl rfl rfl rfl rfl (zi_nn zc_0 (by decide)) (zi_nn zc_0 (by decide)) (zi_nn hv_2 (by decide)) (zi_cp zc_0 hv_2 (by decide) (by decide) (by decide)) (zi_cp zc_0 hv_2 (by decide) (by decide) (by decide)) (fun _ _ => rfl) (Nat.le_of_ble_eq_true rfl) (Nat.le_of_ble_eq_true rfl) d_Traces_copyFrom_58 (fun H locs hP hD hS => ?_)
  obtain ⟨f_3, hf_3, hP, hD⟩ := z_newf 2 hP hD rfl (zR.cpy hb8 hb8)
  have hP : va_P G.1 classes [(b0, .inr (2, [.int b1, .int b2, .int b3, .ref b4, .ref b5, .ref b6])), (b4, .inl (G.2 0, 20, .inl f_1)), (b5, .inl (G.2 0, 240, .inl f_3)), (b6, .inl (G.2 0, 240, .inl b9))] H := hP
  have hD := z_tie hP hD rfl
  refine lv_aload_n hx hb d_Traces_copyFrom_61 rfl (lv_at hl 1 rfl) ?_
  refine va_get (D := G.1) (ci := 2) (v := .ref b6) (C := R_Traces) (T := F_Traces) (N := 6) hx hb hts i_Traces hown hK hP 0 rfl rfl 5 (by decide) (hts _ q73) (fun _ h9 => h9) rfl d_Traces_copyFrom_62 ?_
  refine lv_iconst (v := 0) hx hb d_Traces_copyFrom_65 (by decide) ?_
  refine lv_aload_n hx hb d_Traces_copyFrom_66 rfl (lv_at hl 0 rfl) ?_
  refine va_get (D := G.1) (ci := 2) (v := .ref b6) (C := R_Traces) (T := F_Traces) (N := 6) hx hb hts i_Traces hown hK hP 0 rfl rfl 5 (by decide) (hts _ q73) (fun _ h9 => h9) rfl d_Traces_copyFrom_67 ?_
  refine lv_iconst (v := 0) hx hb d_Traces_copyFrom_70 (by decide) ?_
  refine lv_aload_n hx hb d_Traces_copyFrom_71 rfl (lv_at hl 0 rfl) ?_
  refine va_get (D := G.1) (ci := 2) (v := .int b1) (C := R_Traces) (T := F_Traces) (N := 6) hx hb hts i_Traces hown hK hP 0 rfl rfl 0 (by decide) (hts _ q52) (fun _ h9 => h9) rfl d_Traces_copyFrom_72 ?_
  refine lv_bipush (v := 12) hx hb d_Traces_copyFrom_75 (by decide) ?_
  refine lv_imul hx hb d_Traces_copyFrom_77 ?_
  refine lv_topi (fun v_4 ev_4 => ?_)
  obtain rfl : v_2 = v_4 := ev_2.trans ev_4.symm
  refine va_copyi hx hb (hml.trans hl.1.symm) hown (hts _ q502) (hts _ q504) (hts _ q503) (hts _ q15) hK hP hD hS 3 3 0 0 rfl rfl rfl rfl rfl (zi_nn zc_0 (by decide)) (zi_nn zc_0 (by decide)) (zi_nn hv_2 (by decide)) (zi_cp zc_0 hv_2 (by decide) (by decide) (by decide)) (zi_cp zc_0 hv_2 (by decide) (by decide) (by decide)) (fun _ _ => rfl) (Nat.le_of_ble_eq_true rfl) (Nat.le_of_ble_eq_true rfl) d_Traces_copyFrom_78 (fun H locs hP hD hS => ?_)
  obtain ⟨f_5, hP, hD⟩ := z_newF 3 hP hD rfl
  have hP : va_P G.1 classes [(b0, .inr (2, [.int b1, .int b2, .int b3, .ref b4, .ref b5, .ref b6])), (b4, .inl (G.2 0, 20, .inl f_1)), (b5, .inl (G.2 0, 240, .inl f_3)), (b6, .inl (G.2 0, 240, .inl f_5))] H := hP
  have hD := z_tie hP hD rfl
  exact z_vret hx hb hr hlocks hP hD hS (Nat.le_of_ble_eq_true rfl) (Nat.le_of_ble_eq_true rfl) d_Traces_copyFrom_81 ⟨f_1, f_3, f_5, rfl, rfl, hf_1, hf_3⟩
theorem d_Sets_forget_0 : decode prog_8_method_2_code 0 = .ok (.aload_n 0, 1) := by decide +kernel
theorem d_Sets_forget_1 : decode prog_8_method_2_code 1 = .ok (.iconst 0, 1) := by decide +kernel
theorem d_Sets_forget_2 : decode prog_8_method_2_code 2 = .ok (.putfield 26, 3) := by decide +kernel
theorem d_Sets_forget_5 : decode prog_8_method_2_code 5 = .ok (.aload_n 0, 1) := by decide +kernel
theorem d_Sets_forget_6 : decode prog_8_method_2_code 6 = .ok (.getfield 22, 3) := by decide +kernel
theorem d_Sets_forget_9 : decode prog_8_method_2_code 9 = .ok (.iconst (-1), 1) := by decide +kernel
theorem d_Sets_forget_10 : decode prog_8_method_2_code 10 = .ok (.invokestatic 29, 3) := by decide +kernel
theorem d_Sets_forget_13 : decode prog_8_method_2_code 13 = .ok (.return_, 1) := by decide +kernel
abbrev m_s1_Sets_forget : Room := { frames := 1, cells := 0, slots := 0, locals := 23 }
set_option maxHeartbeats 4000000 in
set_option maxRecDepth 100000 in
theorem s1_Sets_forget (l : Launch) (G : zG) (b0 : Nat) (b1 : Int32) (b2 : Nat) (b3 : Nat) (b4 : Nat → Int32) (hb1 : zI b1 0 2) (hb4 : zR b4 (-1) 1) : zM l G y_Sets_forget prog_8_method_2_code 1 (Option.none : Option Jvm.ClassFile.FieldType) m_s1_Sets_forget [.ref b0] [(b0, .inr (6, [.int b1, .int 4, .int 2, .ref b2, .ref b3])), (b3, .inl (G.2 0, 4, .inl b4))] (fun v w => ∃ (e0 : Nat → Int32), v = none ∧ w = [(b0, .inr (6, [.int 0, .int 4, .int 2, .ref b2, .ref b3])), (b3, .inl (G.2 0, 4, .inl e0))] ∧ (zR e0 (-1) 1)) := by
  refine z_start (by decide +kernel) (Nat.le_of_ble_eq_true rfl) ?_
  intro p e s m below meth c A Z hr hnm hA hP hD hS ls hl
  have Z : zC p s m _ meth c prog_8_method_2_code 1 "TraceMachines$StateSets" G := Z
  obtain ⟨hx, hb, hml, hown, hts, hK, hN, hlocks⟩ := id Z
  have hl : lv_has ls 1 [(0, .ref b0)] := hl
  refine lv_aload_n hx hb d_Sets_forget_0 rfl (lv_at hl 0 rfl) ?_
  refine lv_iconst (v := 0) hx hb d_Sets_forget_1 (by decide) ?_
  refine va_put (D := G.1) (ci := 6) (v := .int 0) (ty := .int) (C := R_Sets) (T := F_Sets) (N := 5) hx hb hts i_Sets t_Sets t_Sets_ok n_Sets hown hK hP hD hS 0 rfl rfl 0 (by decide) (hts _ q239) (fun _ h9 => h9) rfl (by decide +kernel) rfl rfl (Nat.le_of_ble_eq_true rfl) d_Sets_forget_2 (fun H locs hP hD hS => ?_)
  have hP : va_P G.1 classes [(b0, .inr (6, [.int 0, .int 4, .int 2, .ref b2, .ref b3])), (b3, .inl (G.2 0, 4, .inl b4))] H := hP
  have hD := z_tie hP hD rfl
  refine lv_aload_n hx hb d_Sets_forget_5 rfl (lv_at hl 0 rfl) ?_
  refine va_get (D := G.1) (ci := 6) (v := .ref b3) (C := R_Sets) (T := F_Sets) (N := 5) hx hb hts i_Sets hown hK hP 0 rfl rfl 4 (by decide) (hts _ q245) (fun _ h9 => h9) rfl d_Sets_forget_6 ?_
  refine lv_iconst (v := (-1)) hx hb d_Sets_forget_9 (by decide) ?_
  refine z_callS (index := 29) (As := [.ref b3, .int (-1)]) (rest := []) (wr := [(b0, .inr (6, [.int 0, .int 4, .int 2, .ref b2, .ref b3]))]) Z (c_fill_I l G (b3) (4) (b4) ((-1)) (by decide)) hl.1 q829 q415 q13 q416 ⟨by decide, by decide, by show _ = some 2; decide +kernel⟩ ⟨Nat.le_of_ble_eq_true rfl, Nat.le_of_ble_eq_true rfl⟩ ⟨Nat.le_of_ble_eq_true rfl, Nat.le_of_ble_eq_true rfl⟩ rfl (Nat.le_of_ble_eq_true rfl) d_Sets_forget_10 hP hD hS hA [1] [0] rfl rfl rfl rfl (by decide) (fun v w1 H locs hw_1 hP hD hS => ?_)
  obtain ⟨rfl, rfl⟩ := hw_1
  have hP : va_P G.1 classes [(b0, .inr (6, [.int 0, .int 4, .int 2, .ref b2, .ref b3])), (b3, .inl (G.2 0, 4, .inl (fun _ => (-1))))] H := hP
  have hD := z_tie hP hD rfl
  refine W.widen (k := 0) (n := 0) (Nat.le_of_ble_eq_true rfl) (Nat.le_of_ble_eq_true rfl) ?_
  exact z_vret hx hb hr hlocks hP hD hS (Nat.le_of_ble_eq_true rfl) (Nat.le_of_ble_eq_true rfl) d_Sets_forget_13 ⟨(fun _ => (-1)), rfl, rfl, (zR_c (zI.wk (l' := (-1)) (h' := 1) zc_m1 (by decide)))⟩
theorem d_Sets_clear_0 : decode prog_8_method_3_code 0 = .ok (.aload_n 0, 1) := by decide +kernel
theorem d_Sets_clear_1 : decode prog_8_method_3_code 1 = .ok (.getfield 18, 3) := by decide +kernel
theorem d_Sets_clear_4 : decode prog_8_method_3_code 4 = .ok (.lconst 0, 1) := by decide +kernel
theorem d_Sets_clear_5 : decode prog_8_method_3_code 5 = .ok (.invokestatic 35, 3) := by decide +kernel
theorem d_Sets_clear_8 : decode prog_8_method_3_code 8 = .ok (.return_, 1) := by decide +kernel
abbrev m_s1_Sets_clear : Room := { frames := 1, cells := 0, slots := 0, locals := 24 }
set_option maxHeartbeats 4000000 in
set_option maxRecDepth 100000 in
theorem s1_Sets_clear (l : Launch) (G : zG) (b0 : Nat) (b1 : Int32) (b2 : Nat) (b3 : Nat) (b4 : Nat → Int64) (hb1 : zI b1 0 2) (hb4 : zqa qB b4) : zM l G y_Sets_clear prog_8_method_3_code 1 (Option.none : Option Jvm.ClassFile.FieldType) m_s1_Sets_clear [.ref b0] [(b0, .inr (6, [.int b1, .int 4, .int 2, .ref b2, .ref b3])), (b2, .inl (G.2 1, 8, .inr (.inl b4)))] (fun v w => ∃ (e0 : Nat → Int64), v = none ∧ w = [(b0, .inr (6, [.int b1, .int 4, .int 2, .ref b2, .ref b3])), (b2, .inl (G.2 1, 8, .inr (.inl e0)))] ∧ (zqa qB e0)) := by
  refine z_start (by decide +kernel) (Nat.le_of_ble_eq_true rfl) ?_
  intro p e s m below meth c A Z hr hnm hA hP hD hS ls hl
  have Z : zC p s m _ meth c prog_8_method_3_code 1 "TraceMachines$StateSets" G := Z
  obtain ⟨hx, hb, hml, hown, hts, hK, hN, hlocks⟩ := id Z
  have hl : lv_has ls 1 [(0, .ref b0)] := hl
  refine lv_aload_n hx hb d_Sets_clear_0 rfl (lv_at hl 0 rfl) ?_
  refine va_get (D := G.1) (ci := 6) (v := .ref b2) (C := R_Sets) (T := F_Sets) (N := 5) hx hb hts i_Sets hown hK hP 0 rfl rfl 3 (by decide) (hts _ q244) (fun _ h9 => h9) rfl d_Sets_clear_1 ?_
  refine lv_lconst (v := 0) hx hb d_Sets_clear_4 (by decide) ?_
  refine z_callS (index := 35) (As := [.ref b2, .long 0]) (rest := []) (wr := [(b0, .inr (6, [.int b1, .int 4, .int 2, .ref b2, .ref b3]))]) Z (c_fill_J l G (b2) (8) (b4) (0) (by decide)) hl.1 q708 q623 q13 q624 ⟨by decide, by decide, by show _ = some 2; decide +kernel⟩ ⟨Nat.le_of_ble_eq_true rfl, Nat.le_of_ble_eq_true rfl⟩ ⟨Nat.le_of_ble_eq_true rfl, Nat.le_of_ble_eq_true rfl⟩ rfl (Nat.le_of_ble_eq_true rfl) d_Sets_clear_5 hP hD hS hA [1] [0] rfl rfl rfl rfl (by decide) (fun v w1 H locs hw_1 hP hD hS => ?_)
  obtain ⟨rfl, rfl⟩ := hw_1
  have hP : va_P G.1 classes [(b0, .inr (6, [.int b1, .int 4, .int 2, .ref b2, .ref b3])), (b2, .inl (G.2 1, 8, .inr (.inl (fun _ => 0))))] H := hP
  have hD := z_tie hP hD rfl
  refine W.widen (k := 0) (n := 0) (Nat.le_of_ble_eq_true rfl) (Nat.le_of_ble_eq_true rfl) ?_
  exact z_vret hx hb hr hlocks hP hD hS (Nat.le_of_ble_eq_true rfl) (Nat.le_of_ble_eq_true rfl) d_Sets_clear_8 ⟨(fun _ => 0), rfl, rfl, zQB_c⟩
theorem d_Sets_size_0 : decode prog_8_method_6_code 0 = .ok (.iconst 0, 1) := by decide +kernel
theorem d_Sets_size_1 : decode prog_8_method_6_code 1 = .ok (.istore_n 2, 1) := by decide +kernel
theorem d_Sets_size_2 : decode prog_8_method_6_code 2 = .ok (.iconst 0, 1) := by decide +kernel
theorem d_Sets_size_3 : decode prog_8_method_6_code 3 = .ok (.istore_n 3, 1) := by decide +kernel
theorem d_Sets_size_4 : decode prog_8_method_6_code 4 = .ok (.iload_n 3, 1) := by decide +kernel
theorem d_Sets_size_5 : decode prog_8_method_6_code 5 = .ok (.aload_n 0, 1) := by decide +kernel
theorem d_Sets_size_6 : decode prog_8_method_6_code 6 = .ok (.getfield 15, 3) := by decide +kernel
theorem d_Sets_size_9 : decode prog_8_method_6_code 9 = .ok (.if_icmp .ge 28, 3) := by decide +kernel
theorem d_Sets_size_12 : decode prog_8_method_6_code 12 = .ok (.iload_n 2, 1) := by decide +kernel
theorem d_Sets_size_13 : decode prog_8_method_6_code 13 = .ok (.aload_n 0, 1) := by decide +kernel
theorem d_Sets_size_14 : decode prog_8_method_6_code 14 = .ok (.getfield 18, 3) := by decide +kernel
theorem d_Sets_size_17 : decode prog_8_method_6_code 17 = .ok (.iload_n 1, 1) := by decide +kernel
theorem d_Sets_size_18 : decode prog_8_method_6_code 18 = .ok (.aload_n 0, 1) := by decide +kernel
theorem d_Sets_size_19 : decode prog_8_method_6_code 19 = .ok (.getfield 15, 3) := by decide +kernel
theorem d_Sets_size_22 : decode prog_8_method_6_code 22 = .ok (.imul, 1) := by decide +kernel
theorem d_Sets_size_23 : decode prog_8_method_6_code 23 = .ok (.iload_n 3, 1) := by decide +kernel
theorem d_Sets_size_24 : decode prog_8_method_6_code 24 = .ok (.iadd, 1) := by decide +kernel
theorem d_Sets_size_25 : decode prog_8_method_6_code 25 = .ok (.laload, 1) := by decide +kernel
theorem d_Sets_size_26 : decode prog_8_method_6_code 26 = .ok (.invokestatic 38, 3) := by decide +kernel
theorem d_Sets_size_29 : decode prog_8_method_6_code 29 = .ok (.iadd, 1) := by decide +kernel
theorem d_Sets_size_30 : decode prog_8_method_6_code 30 = .ok (.istore_n 2, 1) := by decide +kernel
theorem d_Sets_size_31 : decode prog_8_method_6_code 31 = .ok (.iinc 3 1, 3) := by decide +kernel
theorem d_Sets_size_34 : decode prog_8_method_6_code 34 = .ok (.goto (-30), 3) := by decide +kernel
theorem d_Sets_size_37 : decode prog_8_method_6_code 37 = .ok (.iload_n 2, 1) := by decide +kernel
theorem d_Sets_size_38 : decode prog_8_method_6_code 38 = .ok (.ireturn, 1) := by decide +kernel
theorem d_Long_bitCount_0 : decode prog_18_method_50_code 0 = .ok (.lload_n 0, 1) := by decide +kernel
theorem d_Long_bitCount_1 : decode prog_18_method_50_code 1 = .ok (.lload_n 0, 1) := by decide +kernel
theorem d_Long_bitCount_2 : decode prog_18_method_50_code 2 = .ok (.iconst 1, 1) := by decide +kernel
theorem d_Long_bitCount_3 : decode prog_18_method_50_code 3 = .ok (.lushr, 1) := by decide +kernel
theorem d_Long_bitCount_4 : decode prog_18_method_50_code 4 = .ok (.ldc2_w 314, 3) := by decide +kernel
theorem d_Long_bitCount_7 : decode prog_18_method_50_code 7 = .ok (.land, 1) := by decide +kernel
theorem d_Long_bitCount_8 : decode prog_18_method_50_code 8 = .ok (.lsub, 1) := by decide +kernel
theorem d_Long_bitCount_9 : decode prog_18_method_50_code 9 = .ok (.lstore_n 0, 1) := by decide +kernel
theorem d_Long_bitCount_10 : decode prog_18_method_50_code 10 = .ok (.lload_n 0, 1) := by decide +kernel
theorem d_Long_bitCount_11 : decode prog_18_method_50_code 11 = .ok (.ldc2_w 316, 3) := by decide +kernel
theorem d_Long_bitCount_14 : decode prog_18_method_50_code 14 = .ok (.land, 1) := by decide +kernel
theorem d_Long_bitCount_15 : decode prog_18_method_50_code 15 = .ok (.lload_n 0, 1) := by decide +kernel
theorem d_Long_bitCount_16 : decode prog_18_method_50_code 16 = .ok (.iconst 2, 1) := by decide +kernel
theorem d_Long_bitCount_17 : decode prog_18_method_50_code 17 = .ok (.lushr, 1) := by decide +kernel
theorem d_Long_bitCount_18 : decode prog_18_method_50_code 18 = .ok (.ldc2_w 316, 3) := by decide +kernel
theorem d_Long_bitCount_21 : decode prog_18_method_50_code 21 = .ok (.land, 1) := by decide +kernel
theorem d_Long_bitCount_22 : decode prog_18_method_50_code 22 = .ok (.ladd, 1) := by decide +kernel
theorem d_Long_bitCount_23 : decode prog_18_method_50_code 23 = .ok (.lstore_n 0, 1) := by decide +kernel
theorem d_Long_bitCount_24 : decode prog_18_method_50_code 24 = .ok (.lload_n 0, 1) := by decide +kernel
theorem d_Long_bitCount_25 : decode prog_18_method_50_code 25 = .ok (.lload_n 0, 1) := by decide +kernel
theorem d_Long_bitCount_26 : decode prog_18_method_50_code 26 = .ok (.iconst 4, 1) := by decide +kernel
theorem d_Long_bitCount_27 : decode prog_18_method_50_code 27 = .ok (.lushr, 1) := by decide +kernel
theorem d_Long_bitCount_28 : decode prog_18_method_50_code 28 = .ok (.ladd, 1) := by decide +kernel
theorem d_Long_bitCount_29 : decode prog_18_method_50_code 29 = .ok (.ldc2_w 318, 3) := by decide +kernel
theorem d_Long_bitCount_32 : decode prog_18_method_50_code 32 = .ok (.land, 1) := by decide +kernel
theorem d_Long_bitCount_33 : decode prog_18_method_50_code 33 = .ok (.lstore_n 0, 1) := by decide +kernel
theorem d_Long_bitCount_34 : decode prog_18_method_50_code 34 = .ok (.lload_n 0, 1) := by decide +kernel
theorem d_Long_bitCount_35 : decode prog_18_method_50_code 35 = .ok (.lload_n 0, 1) := by decide +kernel
theorem d_Long_bitCount_36 : decode prog_18_method_50_code 36 = .ok (.bipush 8, 2) := by decide +kernel
theorem d_Long_bitCount_38 : decode prog_18_method_50_code 38 = .ok (.lushr, 1) := by decide +kernel
theorem d_Long_bitCount_39 : decode prog_18_method_50_code 39 = .ok (.ladd, 1) := by decide +kernel
theorem d_Long_bitCount_40 : decode prog_18_method_50_code 40 = .ok (.lstore_n 0, 1) := by decide +kernel
theorem d_Long_bitCount_41 : decode prog_18_method_50_code 41 = .ok (.lload_n 0, 1) := by decide +kernel
theorem d_Long_bitCount_42 : decode prog_18_method_50_code 42 = .ok (.lload_n 0, 1) := by decide +kernel
theorem d_Long_bitCount_43 : decode prog_18_method_50_code 43 = .ok (.bipush 16, 2) := by decide +kernel
theorem d_Long_bitCount_45 : decode prog_18_method_50_code 45 = .ok (.lushr, 1) := by decide +kernel
theorem d_Long_bitCount_46 : decode prog_18_method_50_code 46 = .ok (.ladd, 1) := by decide +kernel
theorem d_Long_bitCount_47 : decode prog_18_method_50_code 47 = .ok (.lstore_n 0, 1) := by decide +kernel
theorem d_Long_bitCount_48 : decode prog_18_method_50_code 48 = .ok (.lload_n 0, 1) := by decide +kernel
theorem d_Long_bitCount_49 : decode prog_18_method_50_code 49 = .ok (.lload_n 0, 1) := by decide +kernel
theorem d_Long_bitCount_50 : decode prog_18_method_50_code 50 = .ok (.bipush 32, 2) := by decide +kernel
theorem d_Long_bitCount_52 : decode prog_18_method_50_code 52 = .ok (.lushr, 1) := by decide +kernel
theorem d_Long_bitCount_53 : decode prog_18_method_50_code 53 = .ok (.ladd, 1) := by decide +kernel
theorem d_Long_bitCount_54 : decode prog_18_method_50_code 54 = .ok (.lstore_n 0, 1) := by decide +kernel
theorem d_Long_bitCount_55 : decode prog_18_method_50_code 55 = .ok (.lload_n 0, 1) := by decide +kernel
theorem d_Long_bitCount_56 : decode prog_18_method_50_code 56 = .ok (.l2i, 1) := by decide +kernel
theorem d_Long_bitCount_57 : decode prog_18_method_50_code 57 = .ok (.bipush 127, 2) := by decide +kernel
theorem d_Long_bitCount_59 : decode prog_18_method_50_code 59 = .ok (.iand, 1) := by decide +kernel
theorem d_Long_bitCount_60 : decode prog_18_method_50_code 60 = .ok (.ireturn, 1) := by decide +kernel
abbrev m_s2_Long_bitCount : Room := { frames := 0, cells := 0, slots := 0, locals := 0 }
set_option maxHeartbeats 4000000 in
set_option maxRecDepth 100000 in
theorem s2_Long_bitCount (l : Launch) (G : zG) (b0 : Int64)  : zM l G y_Long_bitCount prog_18_method_50_code 2 (Option.some Jvm.ClassFile.FieldType.int) m_s2_Long_bitCount [.long b0] [] (fun v w => ∃ (e0 : Int32), v = some (.int e0) ∧ w = [] ∧ (zI e0 0 127) ∧ (e0 = zpop b0)) := by
  refine z_start (by decide +kernel) (Nat.le_of_ble_eq_true rfl) ?_
  intro p e s m below meth c A Z hr hnm hA hP hD hS ls hl
  have Z : zC p s m _ meth c prog_18_method_50_code 2 "java/lang/Long" G := Z
  obtain ⟨hx, hb, hml, hown, hts, hK, hN, hlocks⟩ := id Z
  have hl : lv_has ls 2 [(0, .long b0)] := hl
  refine lv_lload_n hx hb d_Long_bitCount_0 rfl (lv_at hl 0 rfl) ?_
  refine lv_lload_n hx hb d_Long_bitCount_1 rfl (lv_at hl 0 rfl) ?_
  refine lv_iconst (v := 1) hx hb d_Long_bitCount_2 (by decide) ?_
  obtain ⟨v_1, ev_1⟩ : ∃ z : Int64, z = ((b0).toUInt64 >>> ((1 : Int32).toInt64.toUInt64 &&& Int64.toUInt64 63)).toInt64 := ⟨_, rfl⟩
  refine lv_lushr (v := v_1) hx hb d_Long_bitCount_3 ev_1.symm ?_
  refine lv_ldc2 hx hb hown (hts _ q729) d_Long_bitCount_4 ?_
  refine lv_land hx hb d_Long_bitCount_7 ?_
  refine lv_topl (fun v_2 ev_2 => ?_)
  refine lv_lsub hx hb d_Long_bitCount_8 ?_
  refine lv_topl (fun v_3 ev_3 => ?_)
  refine lv_lstore_n (lv' := [(0, .long v_3)]) hx hb d_Long_bitCount_9 rfl hl (by decide) rfl (fun ls hl => ?_)
  refine lv_lload_n hx hb d_Long_bitCount_10 rfl (lv_at hl 0 rfl) ?_
  refine lv_ldc2 hx hb hown (hts _ q730) d_Long_bitCount_11 ?_
  refine lv_land hx hb d_Long_bitCount_14 ?_
  refine lv_topl (fun v_4 ev_4 => ?_)
  refine lv_lload_n hx hb d_Long_bitCount_15 rfl (lv_at hl 0 rfl) ?_
  refine lv_iconst (v := 2) hx hb d_Long_bitCount_16 (by decide) ?_
  obtain ⟨v_5, ev_5⟩ : ∃ z : Int64, z = ((v_3).toUInt64 >>> ((2 : Int32).toInt64.toUInt64 &&& Int64.toUInt64 63)).toInt64 := ⟨_, rfl⟩
  refine lv_lushr (v := v_5) hx hb d_Long_bitCount_17 ev_5.symm ?_
  refine lv_ldc2 hx hb hown (hts _ q730) d_Long_bitCount_18 ?_
  refine lv_land hx hb d_Long_bitCount_21 ?_
  refine lv_topl (fun v_6 ev_6 => ?_)
  refine lv_ladd hx hb d_Long_bitCount_22 ?_
  refine lv_topl (fun v_7 ev_7 => ?_)
  refine lv_lstore_n (lv' := [(0, .long v_7)]) hx hb d_Long_bitCount_23 rfl hl (by decide) rfl (fun ls hl => ?_)
  refine lv_lload_n hx hb d_Long_bitCount_24 rfl (lv_at hl 0 rfl) ?_
  refine lv_lload_n hx hb d_Long_bitCount_25 rfl (lv_at hl 0 rfl) ?_
  refine lv_iconst (v := 4) hx hb d_Long_bitCount_26 (by decide) ?_
  obtain ⟨v_8, ev_8⟩ : ∃ z : Int64, z = ((v_7).toUInt64 >>> ((4 : Int32).toInt64.toUInt64 &&& Int64.toUInt64 63)).toInt64 := ⟨_, rfl⟩
  refine lv_lushr (v := v_8) hx hb d_Long_bitCount_27 ev_8.symm ?_
  refine lv_ladd hx hb d_Long_bitCount_28 ?_
  refine lv_topl (fun v_9 ev_9 => ?_)
  refine lv_ldc2 hx hb hown (hts _ q731) d_Long_bitCount_29 ?_
  refine lv_land hx hb d_Long_bitCount_32 ?_
  refine lv_topl (fun v_10 ev_10 => ?_)
  refine lv_lstore_n (lv' := [(0, .long v_10)]) hx hb d_Long_bitCount_33 rfl hl (by decide) rfl (fun ls hl => ?_)
  refine lv_lload_n hx hb d_Long_bitCount_34 rfl (lv_at hl 0 rfl) ?_
  refine lv_lload_n hx hb d_Long_bitCount_35 rfl (lv_at hl 0 rfl) ?_
  refine lv_bipush (v := 8) hx hb d_Long_bitCount_36 (by decide) ?_
  obtain ⟨v_11, ev_11⟩ : ∃ z : Int64, z = ((v_10).toUInt64 >>> ((8 : Int32).toInt64.toUInt64 &&& Int64.toUInt64 63)).toInt64 := ⟨_, rfl⟩
  refine lv_lushr (v := v_11) hx hb d_Long_bitCount_38 ev_11.symm ?_
  refine lv_ladd hx hb d_Long_bitCount_39 ?_
  refine lv_topl (fun v_12 ev_12 => ?_)
  refine lv_lstore_n (lv' := [(0, .long v_12)]) hx hb d_Long_bitCount_40 rfl hl (by decide) rfl (fun ls hl => ?_)
  refine lv_lload_n hx hb d_Long_bitCount_41 rfl (lv_at hl 0 rfl) ?_
  refine lv_lload_n hx hb d_Long_bitCount_42 rfl (lv_at hl 0 rfl) ?_
  refine lv_bipush (v := 16) hx hb d_Long_bitCount_43 (by decide) ?_
  obtain ⟨v_13, ev_13⟩ : ∃ z : Int64, z = ((v_12).toUInt64 >>> ((16 : Int32).toInt64.toUInt64 &&& Int64.toUInt64 63)).toInt64 := ⟨_, rfl⟩
  refine lv_lushr (v := v_13) hx hb d_Long_bitCount_45 ev_13.symm ?_
  refine lv_ladd hx hb d_Long_bitCount_46 ?_
  refine lv_topl (fun v_14 ev_14 => ?_)
  refine lv_lstore_n (lv' := [(0, .long v_14)]) hx hb d_Long_bitCount_47 rfl hl (by decide) rfl (fun ls hl => ?_)
  refine lv_lload_n hx hb d_Long_bitCount_48 rfl (lv_at hl 0 rfl) ?_
  refine lv_lload_n hx hb d_Long_bitCount_49 rfl (lv_at hl 0 rfl) ?_
  refine lv_bipush (v := 32) hx hb d_Long_bitCount_50 (by decide) ?_
  obtain ⟨v_15, ev_15⟩ : ∃ z : Int64, z = ((v_14).toUInt64 >>> ((32 : Int32).toInt64.toUInt64 &&& Int64.toUInt64 63)).toInt64 := ⟨_, rfl⟩
  refine lv_lushr (v := v_15) hx hb d_Long_bitCount_52 ev_15.symm ?_
  refine lv_ladd hx hb d_Long_bitCount_53 ?_
  refine lv_topl (fun v_16 ev_16 => ?_)
  refine lv_lstore_n (lv' := [(0, .long v_16)]) hx hb d_Long_bitCount_54 rfl hl (by decide) rfl (fun ls hl => ?_)
  refine lv_lload_n hx hb d_Long_bitCount_55 rfl (lv_at hl 0 rfl) ?_
  obtain ⟨v_17, ev_17⟩ : ∃ z : Int32, z = (v_16).toInt32 := ⟨_, rfl⟩
  refine lv_l2i (v := v_17) hx hb d_Long_bitCount_56 ev_17.symm ?_
  refine lv_bipush (v := 127) hx hb d_Long_bitCount_57 (by decide) ?_
  refine lv_iand hx hb d_Long_bitCount_59 ?_
  refine lv_topi (fun v_18 ev_18 => ?_)
  have hv_18 := zI_and (k := 7) (h := 127) (by decide +kernel) ev_18 (by decide)
  exact z_iret hx hb hr hlocks hP hD hS (Nat.le_of_ble_eq_true rfl) (Nat.le_of_ble_eq_true rfl) d_Long_bitCount_60 ⟨v_18, rfl, rfl, hv_18, (by subst_vars; rfl)⟩
abbrev m_s1_Sets_size : Room := { frames := 1, cells := 0, slots := 0, locals := 21 }
set_option maxHeartbeats 4000000 in
set_option maxRecDepth 100000 in
theorem s1_Sets_size (l : Launch) (G : zG) (b0 : Nat) (b1 : Int32) (b2 : Int32) (b3 : Nat) (b4 : Nat) (b5 : Nat → Int64) (hb1 : zI b1 0 0) (hb2 : zI b2 0 2) (hb5 : zqa qB b5) : zM l G y_Sets_size prog_8_method_6_code 4 (Option.some Jvm.ClassFile.FieldType.int) m_s1_Sets_size [.ref b0, .int b1] [(b0, .inr (6, [.int b2, .int 4, .int 2, .ref b3, .ref b4])), (b3, .inl (G.2 1, 8, .inr (.inl b5)))] (fun v w => ∃ (e0 : Int32), v = some (.int e0) ∧ w = [(b0, .inr (6, [.int b2, .int 4, .int 2, .ref b3, .ref b4])), (b3, .inl (G.2 1, 8, .inr (.inl b5)))]) := by
  refine z_start (by decide +kernel) (Nat.le_of_ble_eq_true rfl) ?_
  intro p e s m below meth c A Z hr hnm hA hP hD hS ls hl
  have Z : zC p s m _ meth c prog_8_method_6_code 4 "TraceMachines$StateSets" G := Z
  obtain ⟨hx, hb, hml, hown, hts, hK, hN, hlocks⟩ := id Z
  have hl : lv_has ls 4 [(0, .ref b0), (1, .int b1)] := hl
  refine lv_iconst (v := 0) hx hb d_Sets_size_0 (by decide) ?_
  refine lv_istore_n (lv' := [(2, .int 0), (0, .ref b0), (1, .int b1)]) hx hb d_Sets_size_1 rfl hl (by decide) rfl (fun ls hl => ?_)
  refine lv_iconst (v := 0) hx hb d_Sets_size_2 (by decide) ?_
  refine lv_istore_n (lv' := [(3, .int 0), (2, .int 0), (0, .ref b0), (1, .int b1)]) hx hb d_Sets_size_3 rfl hl (by decide) rfl (fun ls hl => ?_)
  suffices key : ∀ (k_16 : Nat) (y_17 : Int32) (y_18 : Int32) (H : Heap) (locs : List Loc) (ls : Array Slot), (zI y_17 0 4) → (4 : Int) - y_17.toInt < (k_16 : Int) → va_P G.1 classes [(b0, .inr (6, [.int b2, .int 4, .int 2, .ref b3, .ref b4])), (b3, .inl (G.2 1, 8, .inr (.inl b5)))] H → va_D A [(b0, .inr (6, [.int b2, .int 4, .int 2, .ref b3, .ref b4])), (b3, .inl (G.2 1, 8, .inr (.inl b5)))] → va_S A s.heap H locs → lv_has ls 4 [(3, .int y_17), (2, .int y_18), (0, .ref b0), (1, .int b1)] → W p l e m_s1_Sets_size s m ([.ref b0, .int b1] : List Value).toArray below meth c H locs 0 0 (MQ below (zQ G (fun v w => ∃ (e0 : Int32), v = some (.int e0) ∧ w = [(b0, .inr (6, [.int b2, .int 4, .int 2, .ref b3, .ref b4])), (b3, .inl (G.2 1, 8, .inr (.inl b5)))]) A) ([.ref b0, .int b1] : List Value).toArray s m_s1_Sets_size.cells m_s1_Sets_size.slots A) (F0 m 4 ls []) by
    exact key 5 (0) (0) _ _ _ (zI.wk (l' := 0) (h' := 4) zc_0 (by decide)) (zm_upi (zI.wk (l' := 0) (h' := 4) zc_0 (by decide)) (by decide)) hP hD hS (lv_sub hl [0, 1, 2, 3] rfl)
  intro k_16
  induction k_16 with
  | zero =>
    intro y_17 y_18 H locs ls hy_17 hmk_16 hP hD hS hl
    exact (zm_up0 hy_17 hmk_16).elim
  | succ k_16 ihk_16 =>
    intro y_17 y_18 H locs ls hy_17 hmk_16 hP hD hS hl
    refine lv_iload_n hx hb d_Sets_size_4 rfl (lv_at hl 0 rfl) ?_
    refine lv_aload_n hx hb d_Sets_size_5 rfl (lv_at hl 2 rfl) ?_
    refine va_get (D := G.1) (ci := 6) (v := .int 4) (C := R_Sets) (T := F_Sets) (N := 5) hx hb hts i_Sets hown hK hP 0 rfl rfl 1 (by decide) (hts _ q242) (fun _ h9 => h9) rfl d_Sets_size_6 ?_
    refine lv_icmp_ge (tgt := 37) hx hb d_Sets_size_9 (by decide) (fun hc_19 => ?_) (fun hc_19 => ?_)
    · have _nhc_19 := hc_19
      have ni_20 := (fa_le _ _).mp hc_19
      rw [li_4] at ni_20
      have hv_21 : zI y_17 4 4 := zI.le_r zc_4 hy_17 hc_19 (by decide)
      refine lv_iload_n hx hb d_Sets_size_37 rfl (lv_at hl 1 rfl) ?_
      exact z_iret hx hb hr hlocks hP hD hS (Nat.le_of_ble_eq_true rfl) (Nat.le_of_ble_eq_true rfl) d_Sets_size_38 ⟨y_18, rfl, rfl⟩
    · have _nhc_19 := hc_19
      have ni_22 := (fa_lt _ _).mp (zi_nle hc_19)
      rw [li_4] at ni_22
      have hv_23 : zI y_17 0 3 := zI.lt_l hy_17 zc_4 (zi_nle hc_19) (by decide)
      refine lv_iload_n hx hb d_Sets_size_12 rfl (lv_at hl 1 rfl) ?_
      refine lv_aload_n hx hb d_Sets_size_13 rfl (lv_at hl 2 rfl) ?_
      refine va_get (D := G.1) (ci := 6) (v := .ref b3) (C := R_Sets) (T := F_Sets) (N := 5) hx hb hts i_Sets hown hK hP 0 rfl rfl 3 (by decide) (hts _ q244) (fun _ h9 => h9) rfl d_Sets_size_14 ?_
      refine lv_iload_n hx hb d_Sets_size_17 rfl (lv_at hl 3 rfl) ?_
      refine lv_aload_n hx hb d_Sets_size_18 rfl (lv_at hl 2 rfl) ?_
      refine va_get (D := G.1) (ci := 6) (v := .int 4) (C := R_Sets) (T := F_Sets) (N := 5) hx hb hts i_Sets hown hK hP 0 rfl rfl 1 (by decide) (hts _ q242) (fun _ h9 => h9) rfl d_Sets_size_19 ?_
      refine lv_imul hx hb d_Sets_size_22 ?_
      refine lv_topi (fun v_24 ev_24 => ?_)
      obtain ⟨qv_24, hv_24⟩ := zI_mul (l := 0) (h := 0) hb1 zc_4 ev_24 (by decide)
      rw [li_4] at qv_24
      refine lv_iload_n hx hb d_Sets_size_23 rfl (lv_at hl 0 rfl) ?_
      refine lv_iadd hx hb d_Sets_size_24 ?_
      refine lv_topi (fun v_25 ev_25 => ?_)
      obtain ⟨qv_25, hv_25⟩ := zI_add (l := 0) (h := 3) hv_24 hv_23 ev_25 (by decide)
      refine va_lald hx hb hK hP 1 1 rfl rfl (zI.inn hv_25 (by decide)) d_Sets_size_25 ?_
      refine lv_topl (fun v_26 ev_26 => ?_)
      have bv_26 := zQB.ld hb5 hv_25 ev_26 (by decide)
      refine z_callS (index := 38) (As := [.long v_26]) (rest := [.int y_18]) (wr := [(b0, .inr (6, [.int b2, .int 4, .int 2, .ref b3, .ref b4])), (b3, .inl (G.2 1, 8, .inr (.inl b5)))]) Z (s2_Long_bitCount l G (v_26)) hl.1 q726 q727 q21 q728 ⟨by decide, by decide, by show _ = some 1; decide +kernel⟩ ⟨Nat.le_of_ble_eq_true rfl, Nat.le_of_ble_eq_true rfl⟩ ⟨Nat.le_of_ble_eq_true rfl, Nat.le_of_ble_eq_true rfl⟩ rfl (Nat.le_of_ble_eq_true rfl) d_Sets_size_26 hP hD hS hA [] [0, 1] rfl rfl rfl rfl (by decide) (fun v w1 H locs hw_27 hP hD hS => ?_)
      obtain ⟨x_28, rfl, rfl, hx_28, hfx_29⟩ := hw_27
      have hP : va_P G.1 classes [(b0, .inr (6, [.int b2, .int 4, .int 2, .ref b3, .ref b4])), (b3, .inl (G.2 1, 8, .inr (.inl b5)))] H := hP
      have hD := z_tie hP hD rfl
      refine W.widen (k := 0) (n := 0) (Nat.le_of_ble_eq_true rfl) (Nat.le_of_ble_eq_true rfl) ?_
      refine lv_iadd hx hb d_Sets_size_29 ?_
      refine lv_topi (fun v_30 ev_30 => ?_)
      refine lv_istore_n (lv' := [(2, .int v_30), (3, .int y_17), (0, .ref b0), (1, .int b1)]) hx hb d_Sets_size_30 rfl hl (by decide) rfl (fun ls hl => ?_)
      obtain ⟨v_31, ev_31⟩ : ∃ z : Int32, z = y_17 + 1 := ⟨_, rfl⟩
      obtain ⟨qv_31, hv_31⟩ := zI_add (l := 1) (h := 4) hv_23 zc_1 ev_31 (by decide)
      rw [li_1] at qv_31
      refine lv_iinc (v := v_31) (lv' := [(3, .int v_31), (2, .int v_30), (0, .ref b0), (1, .int b1)]) hx hb d_Sets_size_31 hl (k := 1) rfl (by rw [ev_31]; rfl) (by decide) rfl (fun ls hl => ?_)
      refine lv_goto (tgt := 4) hx hb d_Sets_size_34 (by decide) ?_
      exact ihk_16 (v_31) (v_30) _ _ _ (zI.wk (l' := 0) (h' := 4) hv_31 (by decide)) (zm_up qv_31 hmk_16 (by decide)) hP hD hS (lv_sub hl [0, 1, 2, 3] rfl)
theorem d_Sets_isEmpty_0 : decode prog_8_method_7_code 0 = .ok (.iconst 0, 1) := by decide +kernel
theorem d_Sets_isEmpty_1 : decode prog_8_method_7_code 1 = .ok (.istore_n 2, 1) := by decide +kernel
theorem d_Sets_isEmpty_2 : decode prog_8_method_7_code 2 = .ok (.iload_n 2, 1) := by decide +kernel
theorem d_Sets_isEmpty_3 : decode prog_8_method_7_code 3 = .ok (.aload_n 0, 1) := by decide +kernel
theorem d_Sets_isEmpty_4 : decode prog_8_method_7_code 4 = .ok (.getfield 15, 3) := by decide +kernel
theorem d_Sets_isEmpty_7 : decode prog_8_method_7_code 7 = .ok (.if_icmp .ge 29, 3) := by decide +kernel
theorem d_Sets_isEmpty_10 : decode prog_8_method_7_code 10 = .ok (.aload_n 0, 1) := by decide +kernel
theorem d_Sets_isEmpty_11 : decode prog_8_method_7_code 11 = .ok (.getfield 18, 3) := by decide +kernel
theorem d_Sets_isEmpty_14 : decode prog_8_method_7_code 14 = .ok (.iload_n 1, 1) := by decide +kernel
theorem d_Sets_isEmpty_15 : decode prog_8_method_7_code 15 = .ok (.aload_n 0, 1) := by decide +kernel
theorem d_Sets_isEmpty_16 : decode prog_8_method_7_code 16 = .ok (.getfield 15, 3) := by decide +kernel
theorem d_Sets_isEmpty_19 : decode prog_8_method_7_code 19 = .ok (.imul, 1) := by decide +kernel
theorem d_Sets_isEmpty_20 : decode prog_8_method_7_code 20 = .ok (.iload_n 2, 1) := by decide +kernel
theorem d_Sets_isEmpty_21 : decode prog_8_method_7_code 21 = .ok (.iadd, 1) := by decide +kernel
theorem d_Sets_isEmpty_22 : decode prog_8_method_7_code 22 = .ok (.laload, 1) := by decide +kernel
theorem d_Sets_isEmpty_23 : decode prog_8_method_7_code 23 = .ok (.lconst 0, 1) := by decide +kernel
theorem d_Sets_isEmpty_24 : decode prog_8_method_7_code 24 = .ok (.lcmp, 1) := by decide +kernel
theorem d_Sets_isEmpty_25 : decode prog_8_method_7_code 25 = .ok (.ifCond .eq 5, 3) := by decide +kernel
theorem d_Sets_isEmpty_28 : decode prog_8_method_7_code 28 = .ok (.iconst 0, 1) := by decide +kernel
theorem d_Sets_isEmpty_29 : decode prog_8_method_7_code 29 = .ok (.ireturn, 1) := by decide +kernel
theorem d_Sets_isEmpty_30 : decode prog_8_method_7_code 30 = .ok (.iinc 2 1, 3) := by decide +kernel
theorem d_Sets_isEmpty_33 : decode prog_8_method_7_code 33 = .ok (.goto (-31), 3) := by decide +kernel
theorem d_Sets_isEmpty_36 : decode prog_8_method_7_code 36 = .ok (.iconst 1, 1) := by decide +kernel
theorem d_Sets_isEmpty_37 : decode prog_8_method_7_code 37 = .ok (.ireturn, 1) := by decide +kernel
theorem ll_0 : (0 : Int64).toInt = 0 := by decide +kernel
theorem zcl_0 : zJ 0 0 0 := ⟨by decide +kernel, by decide +kernel⟩
abbrev m_s1_Sets_isEmpty : Room := { frames := 0, cells := 0, slots := 0, locals := 0 }
set_option maxHeartbeats 4000000 in
set_option maxRecDepth 100000 in
theorem s1_Sets_isEmpty (l : Launch) (G : zG) (b0 : Nat) (b1 : Int32) (b2 : Int32) (b3 : Nat) (b4 : Nat) (b5 : Nat → Int64) (hb1 : zI b1 0 1) (hb2 : zI b2 0 2) (hb5 : zqa qB b5) : zM l G y_Sets_isEmpty prog_8_method_7_code 3 (Option.some Jvm.ClassFile.FieldType.boolean) m_s1_Sets_isEmpty [.ref b0, .int b1] [(b0, .inr (6, [.int b2, .int 4, .int 2, .ref b3, .ref b4])), (b3, .inl (G.2 1, 8, .inr (.inl b5)))] (fun v w => ∃ (e0 : Int32), v = some (.int e0) ∧ w = [(b0, .inr (6, [.int b2, .int 4, .int 2, .ref b3, .ref b4])), (b3, .inl (G.2 1, 8, .inr (.inl b5)))] ∧ (zI e0 0 1)) := by
  refine z_start (by decide +kernel) (Nat.le_of_ble_eq_true rfl) ?_
  intro p e s m below meth c A Z hr hnm hA hP hD hS ls hl
  have Z : zC p s m _ meth c prog_8_method_7_code 3 "TraceMachines$StateSets" G := Z
  obtain ⟨hx, hb, hml, hown, hts, hK, hN, hlocks⟩ := id Z
  have hl : lv_has ls 3 [(0, .ref b0), (1, .int b1)] := hl
  refine lv_iconst (v := 0) hx hb d_Sets_isEmpty_0 (by decide) ?_
  refine lv_istore_n (lv' := [(2, .int 0), (0, .ref b0), (1, .int b1)]) hx hb d_Sets_isEmpty_1 rfl hl (by decide) rfl (fun ls hl => ?_)
  suffices key : ∀ (k_16 : Nat) (y_17 : Int32) (H : Heap) (locs : List Loc) (ls : Array Slot), (zI y_17 0 4) → (4 : Int) - y_17.toInt < (k_16 : Int) → va_P G.1 classes [(b0, .inr (6, [.int b2, .int 4, .int 2, .ref b3, .ref b4])), (b3, .inl (G.2 1, 8, .inr (.inl b5)))] H → va_D A [(b0, .inr (6, [.int b2, .int 4, .int 2, .ref b3, .ref b4])), (b3, .inl (G.2 1, 8, .inr (.inl b5)))] → va_S A s.heap H locs → lv_has ls 3 [(2, .int y_17), (0, .ref b0), (1, .int b1)] → W p l e m_s1_Sets_isEmpty s m ([.ref b0, .int b1] : List Value).toArray below meth c H locs 0 0 (MQ below (zQ G (fun v w => ∃ (e0 : Int32), v = some (.int e0) ∧ w = [(b0, .inr (6, [.int b2, .int 4, .int 2, .ref b3, .ref b4])), (b3, .inl (G.2 1, 8, .inr (.inl b5)))] ∧ (zI e0 0 1)) A) ([.ref b0, .int b1] : List Value).toArray s m_s1_Sets_isEmpty.cells m_s1_Sets_isEmpty.slots A) (F0 m 2 ls []) by
    exact key 5 (0) _ _ _ (zI.wk (l' := 0) (h' := 4) zc_0 (by decide)) (zm_upi (zI.wk (l' := 0) (h' := 4) zc_0 (by decide)) (by decide)) hP hD hS (lv_sub hl [0, 1, 2] rfl)
  intro k_16
  induction k_16 with
  | zero =>
    intro y_17 H locs ls hy_17 hmk_16 hP hD hS hl
    exact (zm_up0 hy_17 hmk_16).elim
  | succ k_16 ihk_16 =>
    intro y_17 H locs ls hy_17 hmk_16 hP hD hS hl
    refine lv_iload_n hx hb d_Sets_isEmpty_2 rfl (lv_at hl 0 rfl) ?_
    refine lv_aload_n hx hb d_Sets_isEmpty_3 rfl (lv_at hl 1 rfl) ?_
    refine va_get (D := G.1) (ci := 6) (v := .int 4) (C := R_Sets) (T := F_Sets) (N := 5) hx hb hts i_Sets hown hK hP 0 rfl rfl 1 (by decide) (hts _ q242) (fun _ h9 => h9) rfl d_Sets_isEmpty_4 ?_
    refine lv_icmp_ge (tgt := 36) hx hb d_Sets_isEmpty_7 (by decide) (fun hc_18 => ?_) (fun hc_18 => ?_)
    · have _nhc_18 := hc_18
      have ni_19 := (fa_le _ _).mp hc_18
      rw [li_4] at ni_19
      have hv_20 : zI y_17 4 4 := zI.le_r zc_4 hy_17 hc_18 (by decide)
      refine lv_iconst (v := 1) hx hb d_Sets_isEmpty_36 (by decide) ?_
      exact z_zret hx hb hr hlocks rfl hP hD hS (Nat.le_of_ble_eq_true rfl) (Nat.le_of_ble_eq_true rfl) d_Sets_isEmpty_37 ⟨1, rfl, rfl, (zI.wk (l' := 0) (h' := 1) zc_1 (by decide))⟩
    · have _nhc_18 := hc_18
      have ni_21 := (fa_lt _ _).mp (zi_nle hc_18)
      rw [li_4] at ni_21
      have hv_22 : zI y_17 0 3 := zI.lt_l hy_17 zc_4 (zi_nle hc_18) (by decide)
      refine lv_aload_n hx hb d_Sets_isEmpty_10 rfl (lv_at hl 1 rfl) ?_
      refine va_get (D := G.1) (ci := 6) (v := .ref b3) (C := R_Sets) (T := F_Sets) (N := 5) hx hb hts i_Sets hown hK hP 0 rfl rfl 3 (by decide) (hts _ q244) (fun _ h9 => h9) rfl d_Sets_isEmpty_11 ?_
      refine lv_iload_n hx hb d_Sets_isEmpty_14 rfl (lv_at hl 2 rfl) ?_
      refine lv_aload_n hx hb d_Sets_isEmpty_15 rfl (lv_at hl 1 rfl) ?_
      refine va_get (D := G.1) (ci := 6) (v := .int 4) (C := R_Sets) (T := F_Sets) (N := 5) hx hb hts i_Sets hown hK hP 0 rfl rfl 1 (by decide) (hts _ q242) (fun _ h9 => h9) rfl d_Sets_isEmpty_16 ?_
      refine lv_imul hx hb d_Sets_isEmpty_19 ?_
      refine lv_topi (fun v_23 ev_23 => ?_)
      obtain ⟨qv_23, hv_23⟩ := zI_mul (l := 0) (h := 4) hb1 zc_4 ev_23 (by decide)
      rw [li_4] at qv_23
      refine lv_iload_n hx hb d_Sets_isEmpty_20 rfl (lv_at hl 0 rfl) ?_
      refine lv_iadd hx hb d_Sets_isEmpty_21 ?_
      refine lv_topi (fun v_24 ev_24 => ?_)
      obtain ⟨qv_24, hv_24⟩ := zI_add (l := 0) (h := 7) hv_23 hv_22 ev_24 (by decide)
      refine va_lald hx hb hK hP 1 1 rfl rfl (zI.inn hv_24 (by decide)) d_Sets_isEmpty_22 ?_
      refine lv_topl (fun v_25 ev_25 => ?_)
      have bv_25 := zQB.ld hb5 hv_24 ev_25 (by decide)
      refine lv_lconst (v := 0) hx hb d_Sets_isEmpty_23 (by decide) ?_
      refine W.lcmp hx hb d_Sets_isEmpty_24 ?_
      refine lv_topi (fun v_26 ev_26 => ?_)
      refine lv_if_eq (tgt := 30) hx hb d_Sets_isEmpty_25 (by decide) (fun hc_27 => ?_) (fun hc_27 => ?_)
      · have ni_28 := hc_27
        rw [ev_26] at ni_28
        simp only [lg_cmp_lt, lg_cmp_le, lg_cmp_gt, lg_cmp_ge, lg_cmp_eq, fa_lt64, fa_le64, fa_eq64, Int32.toInt_toInt64, ll_0] at ni_28
        have hv_29 : zJ v_25 0 0 := by have _a := ni_28; have _b := (zJ_all v_25); have _c := zcl_0; simp only [Int32.toInt_toInt64] at *; exact ⟨by omega, by omega⟩
        obtain ⟨v_30, ev_30⟩ : ∃ z : Int32, z = y_17 + 1 := ⟨_, rfl⟩
        obtain ⟨qv_30, hv_30⟩ := zI_add (l := 1) (h := 4) hv_22 zc_1 ev_30 (by decide)
        rw [li_1] at qv_30
        refine lv_iinc (v := v_30) (lv' := [(2, .int v_30), (0, .ref b0), (1, .int b1)]) hx hb d_Sets_isEmpty_30 hl (k := 0) rfl (by rw [ev_30]; rfl) (by decide) rfl (fun ls hl => ?_)
        refine lv_goto (tgt := 2) hx hb d_Sets_isEmpty_33 (by decide) ?_
        exact ihk_16 (v_30) _ _ _ (zI.wk (l' := 0) (h' := 4) hv_30 (by decide)) (zm_up qv_30 hmk_16 (by decide)) hP hD hS (lv_sub hl [0, 1, 2] rfl)
      · have ni_31 := hc_27
        rw [ev_26] at ni_31
        simp only [lg_cmp_lt, lg_cmp_le, lg_cmp_gt, lg_cmp_ge, lg_cmp_eq, fa_lt64, fa_le64, fa_eq64, Int32.toInt_toInt64, ll_0] at ni_31
        refine lv_iconst (v := 0) hx hb d_Sets_isEmpty_28 (by decide) ?_
        exact z_zret hx hb hr hlocks rfl hP hD hS (Nat.le_of_ble_eq_true rfl) (Nat.le_of_ble_eq_true rfl) d_Sets_isEmpty_29 ⟨0, rfl, rfl, (zI.wk (l' := 0) (h' := 1) zc_0 (by decide))⟩
theorem d_Sets_moveRow_0 : decode prog_8_method_10_code 0 = .ok (.iconst 0, 1) := by decide +kernel
theorem d_Sets_moveRow_1 : decode prog_8_method_10_code 1 = .ok (.istore_n 3, 1) := by decide +kernel
theorem d_Sets_moveRow_2 : decode prog_8_method_10_code 2 = .ok (.iload_n 3, 1) := by decide +kernel
theorem d_Sets_moveRow_3 : decode prog_8_method_10_code 3 = .ok (.aload_n 0, 1) := by decide +kernel
theorem d_Sets_moveRow_4 : decode prog_8_method_10_code 4 = .ok (.getfield 15, 3) := by decide +kernel
theorem d_Sets_moveRow_7 : decode prog_8_method_10_code 7 = .ok (.if_icmp .ge 49, 3) := by decide +kernel
theorem d_Sets_moveRow_10 : decode prog_8_method_10_code 10 = .ok (.aload_n 0, 1) := by decide +kernel
theorem d_Sets_moveRow_11 : decode prog_8_method_10_code 11 = .ok (.getfield 18, 3) := by decide +kernel
theorem d_Sets_moveRow_14 : decode prog_8_method_10_code 14 = .ok (.iload_n 2, 1) := by decide +kernel
theorem d_Sets_moveRow_15 : decode prog_8_method_10_code 15 = .ok (.aload_n 0, 1) := by decide +kernel
theorem d_Sets_moveRow_16 : decode prog_8_method_10_code 16 = .ok (.getfield 15, 3) := by decide +kernel
theorem d_Sets_moveRow_19 : decode prog_8_method_10_code 19 = .ok (.imul, 1) := by decide +kernel
theorem d_Sets_moveRow_20 : decode prog_8_method_10_code 20 = .ok (.iload_n 3, 1) := by decide +kernel
theorem d_Sets_moveRow_21 : decode prog_8_method_10_code 21 = .ok (.iadd, 1) := by decide +kernel
theorem d_Sets_moveRow_22 : decode prog_8_method_10_code 22 = .ok (.aload_n 0, 1) := by decide +kernel
theorem d_Sets_moveRow_23 : decode prog_8_method_10_code 23 = .ok (.getfield 18, 3) := by decide +kernel
theorem d_Sets_moveRow_26 : decode prog_8_method_10_code 26 = .ok (.iload_n 1, 1) := by decide +kernel
theorem d_Sets_moveRow_27 : decode prog_8_method_10_code 27 = .ok (.aload_n 0, 1) := by decide +kernel
theorem d_Sets_moveRow_28 : decode prog_8_method_10_code 28 = .ok (.getfield 15, 3) := by decide +kernel
theorem d_Sets_moveRow_31 : decode prog_8_method_10_code 31 = .ok (.imul, 1) := by decide +kernel
theorem d_Sets_moveRow_32 : decode prog_8_method_10_code 32 = .ok (.iload_n 3, 1) := by decide +kernel
theorem d_Sets_moveRow_33 : decode prog_8_method_10_code 33 = .ok (.iadd, 1) := by decide +kernel
theorem d_Sets_moveRow_34 : decode prog_8_method_10_code 34 = .ok (.laload, 1) := by decide +kernel
theorem d_Sets_moveRow_35 : decode prog_8_method_10_code 35 = .ok (.lastore, 1) := by decide +kernel
theorem d_Sets_moveRow_36 : decode prog_8_method_10_code 36 = .ok (.aload_n 0, 1) := by decide +kernel
theorem d_Sets_moveRow_37 : decode prog_8_method_10_code 37 = .ok (.getfield 18, 3) := by decide +kernel
theorem d_Sets_moveRow_40 : decode prog_8_method_10_code 40 = .ok (.iload_n 1, 1) := by decide +kernel
theorem d_Sets_moveRow_41 : decode prog_8_method_10_code 41 = .ok (.aload_n 0, 1) := by decide +kernel
theorem d_Sets_moveRow_42 : decode prog_8_method_10_code 42 = .ok (.getfield 15, 3) := by decide +kernel
theorem d_Sets_moveRow_45 : decode prog_8_method_10_code 45 = .ok (.imul, 1) := by decide +kernel
theorem d_Sets_moveRow_46 : decode prog_8_method_10_code 46 = .ok (.iload_n 3, 1) := by decide +kernel
theorem d_Sets_moveRow_47 : decode prog_8_method_10_code 47 = .ok (.iadd, 1) := by decide +kernel
theorem d_Sets_moveRow_48 : decode prog_8_method_10_code 48 = .ok (.lconst 0, 1) := by decide +kernel
theorem d_Sets_moveRow_49 : decode prog_8_method_10_code 49 = .ok (.lastore, 1) := by decide +kernel
theorem d_Sets_moveRow_50 : decode prog_8_method_10_code 50 = .ok (.iinc 3 1, 3) := by decide +kernel
theorem d_Sets_moveRow_53 : decode prog_8_method_10_code 53 = .ok (.goto (-51), 3) := by decide +kernel
theorem d_Sets_moveRow_56 : decode prog_8_method_10_code 56 = .ok (.return_, 1) := by decide +kernel
abbrev m_s1_Sets_moveRow : Room := { frames := 0, cells := 0, slots := 0, locals := 0 }
set_option maxHeartbeats 4000000 in
set_option maxRecDepth 100000 in
theorem s1_Sets_moveRow (l : Launch) (G : zG) (b0 : Nat) (b1 : Int32) (b2 : Int32) (b3 : Int32) (b4 : Nat) (b5 : Nat) (b6 : Nat → Int64) (hb1 : zI b1 0 1) (hb2 : zI b2 0 1) (hb3 : zI b3 0 2) (hb6 : zqa qB b6) : zM l G y_Sets_moveRow prog_8_method_10_code 4 (Option.none : Option Jvm.ClassFile.FieldType) m_s1_Sets_moveRow [.ref b0, .int b1, .int b2] [(b0, .inr (6, [.int b3, .int 4, .int 2, .ref b4, .ref b5])), (b4, .inl (G.2 1, 8, .inr (.inl b6)))] (fun v w => ∃ (e0 : Nat → Int64), v = none ∧ w = [(b0, .inr (6, [.int b3, .int 4, .int 2, .ref b4, .ref b5])), (b4, .inl (G.2 1, 8, .inr (.inl e0)))] ∧ (zqa qB e0)) := by
  refine z_start (by decide +kernel) (Nat.le_of_ble_eq_true rfl) ?_
  intro p e s m below meth c A Z hr hnm hA hP hD hS ls hl
  have Z : zC p s m _ meth c prog_8_method_10_code 4 "TraceMachines$StateSets" G := Z
  obtain ⟨hx, hb, hml, hown, hts, hK, hN, hlocks⟩ := id Z
  have hl : lv_has ls 4 [(0, .ref b0), (1, .int b1), (2, .int b2)] := hl
  refine lv_iconst (v := 0) hx hb d_Sets_moveRow_0 (by decide) ?_
  refine lv_istore_n (lv' := [(3, .int 0), (0, .ref b0), (1, .int b1), (2, .int b2)]) hx hb d_Sets_moveRow_1 rfl hl (by decide) rfl (fun ls hl => ?_)
  suffices key : ∀ (k_18 : Nat) (y_19 : Int32) (y_20 : Nat → Int64) (H : Heap) (locs : List Loc) (ls : Array Slot), (zI y_19 0 4) → (zqa qB y_20) → (4 : Int) - y_19.toInt < (k_18 : Int) → va_P G.1 classes [(b0, .inr (6, [.int b3, .int 4, .int 2, .ref b4, .ref b5])), (b4, .inl (G.2 1, 8, .inr (.inl y_20)))] H → va_D A [(b0, .inr (6, [.int b3, .int 4, .int 2, .ref b4, .ref b5])), (b4, .inl (G.2 1, 8, .inr (.inl y_20)))] → va_S A s.heap H locs → lv_has ls 4 [(3, .int y_19), (0, .ref b0), (1, .int b1), (2, .int b2)] → W p l e m_s1_Sets_moveRow s m ([.ref b0, .int b1, .int b2] : List Value).toArray below meth c H locs 0 0 (MQ below (zQ G (fun v w => ∃ (e0 : Nat → Int64), v = none ∧ w = [(b0, .inr (6, [.int b3, .int 4, .int 2, .ref b4, .ref b5])), (b4, .inl (G.2 1, 8, .inr (.inl e0)))] ∧ (zqa qB e0)) A) ([.ref b0, .int b1, .int b2] : List Value).toArray s m_s1_Sets_moveRow.cells m_s1_Sets_moveRow.slots A) (F0 m 2 ls []) by
    exact key 5 (0) (b6) _ _ _ (zI.wk (l' := 0) (h' := 4) zc_0 (by decide)) hb6 (zm_upi (zI.wk (l' := 0) (h' := 4) zc_0 (by decide)) (by decide)) hP hD hS (lv_sub hl [0, 1, 2, 3] rfl)
  intro k_18
  induction k_18 with
  | zero =>
    intro y_19 y_20 H locs ls hy_19 hy_20 hmk_18 hP hD hS hl
    exact (zm_up0 hy_19 hmk_18).elim
  | succ k_18 ihk_18 =>
    intro y_19 y_20 H locs ls hy_19 hy_20 hmk_18 hP hD hS hl
    refine lv_iload_n hx hb d_Sets_moveRow_2 rfl (lv_at hl 0 rfl) ?_
    refine lv_aload_n hx hb d_Sets_moveRow_3 rfl (lv_at hl 1 rfl) ?_
    refine va_get (D := G.1) (ci := 6) (v := .int 4) (C := R_Sets) (T := F_Sets) (N := 5) hx hb hts i_Sets hown hK hP 0 rfl rfl 1 (by decide) (hts _ q242) (fun _ h9 => h9) rfl d_Sets_moveRow_4 ?_
    refine lv_icmp_ge (tgt := 56) hx hb d_Sets_moveRow_7 (by decide) (fun hc_21 => ?_) (fun hc_21 => ?_)
    · have _nhc_21 := hc_21
      have ni_22 := (fa_le _ _).mp hc_21
      rw [li_4] at ni_22
      have hv_23 : zI y_19 4 4 := zI.le_r zc_4 hy_19 hc_21 (by decide)
      exact z_vret hx hb hr hlocks hP hD hS (Nat.le_of_ble_eq_true rfl) (Nat.le_of_ble_eq_true rfl) d_Sets_moveRow_56 ⟨y_20, rfl, rfl, hy_20⟩
    · have _nhc_21 := hc_21
      have ni_24 := (fa_lt _ _).mp (zi_nle hc_21)
      rw [li_4] at ni_24
      have hv_25 : zI y_19 0 3 := zI.lt_l hy_19 zc_4 (zi_nle hc_21) (by decide)
      refine lv_aload_n hx hb d_Sets_moveRow_10 rfl (lv_at hl 1 rfl) ?_
      refine va_get (D := G.1) (ci := 6) (v := .ref b4) (C := R_Sets) (T := F_Sets) (N := 5) hx hb hts i_Sets hown hK hP 0 rfl rfl 3 (by decide) (hts _ q244) (fun _ h9 => h9) rfl d_Sets_moveRow_11 ?_
      refine lv_iload_n hx hb d_Sets_moveRow_14 rfl (lv_at hl 3 rfl) ?_
      refine lv_aload_n hx hb d_Sets_moveRow_15 rfl (lv_at hl 1 rfl) ?_
      refine va_get (D := G.1) (ci := 6) (v := .int 4) (C := R_Sets) (T := F_Sets) (N := 5) hx hb hts i_Sets hown hK hP 0 rfl rfl 1 (by decide) (hts _ q242) (fun _ h9 => h9) rfl d_Sets_moveRow_16 ?_
      refine lv_imul hx hb d_Sets_moveRow_19 ?_
      refine lv_topi (fun v_26 ev_26 => ?_)
      obtain ⟨qv_26, hv_26⟩ := zI_mul (l := 0) (h := 4) hb2 zc_4 ev_26 (by decide)
      rw [li_4] at qv_26
      refine lv_iload_n hx hb d_Sets_moveRow_20 rfl (lv_at hl 0 rfl) ?_
      refine lv_iadd hx hb d_Sets_moveRow_21 ?_
      refine lv_topi (fun v_27 ev_27 => ?_)
      obtain ⟨qv_27, hv_27⟩ := zI_add (l := 0) (h := 7) hv_26 hv_25 ev_27 (by decide)
      refine lv_aload_n hx hb d_Sets_moveRow_22 rfl (lv_at hl 1 rfl) ?_
      refine va_get (D := G.1) (ci := 6) (v := .ref b4) (C := R_Sets) (T := F_Sets) (N := 5) hx hb hts i_Sets hown hK hP 0 rfl rfl 3 (by decide) (hts _ q244) (fun _ h9 => h9) rfl d_Sets_moveRow_23 ?_
      refine lv_iload_n hx hb d_Sets_moveRow_26 rfl (lv_at hl 2 rfl) ?_
      refine lv_aload_n hx hb d_Sets_moveRow_27 rfl (lv_at hl 1 rfl) ?_
      refine va_get (D := G.1) (ci := 6) (v := .int 4) (C := R_Sets) (T := F_Sets) (N := 5) hx hb hts i_Sets hown hK hP 0 rfl rfl 1 (by decide) (hts _ q242) (fun _ h9 => h9) rfl d_Sets_moveRow_28 ?_
      refine lv_imul hx hb d_Sets_moveRow_31 ?_
      refine lv_topi (fun v_28 ev_28 => ?_)
      obtain ⟨qv_28, hv_28⟩ := zI_mul (l := 0) (h := 4) hb1 zc_4 ev_28 (by decide)
      rw [li_4] at qv_28
      refine lv_iload_n hx hb d_Sets_moveRow_32 rfl (lv_at hl 0 rfl) ?_
      refine lv_iadd hx hb d_Sets_moveRow_33 ?_
      refine lv_topi (fun v_29 ev_29 => ?_)
      obtain ⟨qv_29, hv_29⟩ := zI_add (l := 0) (h := 7) hv_28 hv_25 ev_29 (by decide)
      refine va_lald hx hb hK hP 1 1 rfl rfl (zI.inn hv_29 (by decide)) d_Sets_moveRow_34 ?_
      refine lv_topl (fun v_30 ev_30 => ?_)
      have bv_30 := zQB.ld hy_20 hv_29 ev_30 (by decide)
      refine va_last hx hb hK hP hD hS 1 1 rfl rfl (zI.inn hv_27 (by decide)) d_Sets_moveRow_35 (fun H locs hP hD hS => ?_)
      obtain ⟨f_31, hf_31, uf_31, hP, hD⟩ := z_newlb 1 hP hD rfl hy_20 (qB_v hv_27 (by decide) (fun h9 => bv_30 (by omega)))
      have hP : va_P G.1 classes [(b0, .inr (6, [.int b3, .int 4, .int 2, .ref b4, .ref b5])), (b4, .inl (G.2 1, 8, .inr (.inl f_31)))] H := hP
      have hD := z_tie hP hD rfl
      refine lv_aload_n hx hb d_Sets_moveRow_36 rfl (lv_at hl 1 rfl) ?_
      refine va_get (D := G.1) (ci := 6) (v := .ref b4) (C := R_Sets) (T := F_Sets) (N := 5) hx hb hts i_Sets hown hK hP 0 rfl rfl 3 (by decide) (hts _ q244) (fun _ h9 => h9) rfl d_Sets_moveRow_37 ?_
      refine lv_iload_n hx hb d_Sets_moveRow_40 rfl (lv_at hl 2 rfl) ?_
      refine lv_aload_n hx hb d_Sets_moveRow_41 rfl (lv_at hl 1 rfl) ?_
      refine va_get (D := G.1) (ci := 6) (v := .int 4) (C := R_Sets) (T := F_Sets) (N := 5) hx hb hts i_Sets hown hK hP 0 rfl rfl 1 (by decide) (hts _ q242) (fun _ h9 => h9) rfl d_Sets_moveRow_42 ?_
      refine lv_imul hx hb d_Sets_moveRow_45 ?_
      refine lv_topi (fun v_32 ev_32 => ?_)
      obtain rfl : v_28 = v_32 := ev_28.trans ev_32.symm
      refine lv_iload_n hx hb d_Sets_moveRow_46 rfl (lv_at hl 0 rfl) ?_
      refine lv_iadd hx hb d_Sets_moveRow_47 ?_
      refine lv_topi (fun v_33 ev_33 => ?_)
      obtain rfl : v_29 = v_33 := ev_29.trans ev_33.symm
      refine lv_lconst (v := 0) hx hb d_Sets_moveRow_48 (by decide) ?_
      refine va_last hx hb hK hP hD hS 1 1 rfl rfl (zI.inn hv_29 (by decide)) d_Sets_moveRow_49 (fun H locs hP hD hS => ?_)
      obtain ⟨f_34, hf_34, uf_34, hP, hD⟩ := z_newlb 1 hP hD rfl hf_31 (qB_v hv_29 (by decide) (fun _ => by decide +kernel))
      have hP : va_P G.1 classes [(b0, .inr (6, [.int b3, .int 4, .int 2, .ref b4, .ref b5])), (b4, .inl (G.2 1, 8, .inr (.inl f_34)))] H := hP
      have hD := z_tie hP hD rfl
      obtain ⟨v_35, ev_35⟩ : ∃ z : Int32, z = y_19 + 1 := ⟨_, rfl⟩
      obtain ⟨qv_35, hv_35⟩ := zI_add (l := 1) (h := 4) hv_25 zc_1 ev_35 (by decide)
      rw [li_1] at qv_35
      refine lv_iinc (v := v_35) (lv' := [(3, .int v_35), (0, .ref b0), (1, .int b1), (2, .int b2)]) hx hb d_Sets_moveRow_50 hl (k := 0) rfl (by rw [ev_35]; rfl) (by decide) rfl (fun ls hl => ?_)
      refine lv_goto (tgt := 2) hx hb d_Sets_moveRow_53 (by decide) ?_
      exact ihk_18 (v_35) (f_34) _ _ _ (zI.wk (l' := 0) (h' := 4) hv_35 (by decide)) hf_34 (zm_up qv_35 hmk_18 (by decide)) hP hD hS (lv_sub hl [0, 1, 2, 3] rfl)
