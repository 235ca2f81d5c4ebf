abbrev m_s2_Machine_from : Room := { frames := 0, cells := 0, slots := 0, locals := 0 }
set_option maxHeartbeats 4000000 in
set_option maxRecDepth 100000 in
theorem s2_Machine_from (l : Launch) (G : zG) (b0 : Nat) (b1 : Int32) (b2 : Int32) (b3 : Int32) (b4 : Nat) (b5 : Nat) (b6 : Nat) (b7 : Nat) (b8 : Nat) (b9 : Nat) (b10 : Int32) (b11 : Nat) (b12 : Nat) (b13 : Nat) (b14 : Nat) (b15 : Nat) (b16 : Nat) (b17 : Nat → Int32) (hb1 : zI b1 0 239) (hb2 : zI b2 0 1) (hb3 : zI b3 0 241) (hb10 : zI b10 0 240) (hb17 : zK b17) : zM l G y_Machine_from prog_4_method_2_code 2 (Option.some Jvm.ClassFile.FieldType.int) m_s2_Machine_from [.ref b0, .int b1] [(b0, .inr (5, [.int b2, .int b3, .ref b4, .ref b5, .ref b6, .ref b7, .ref b8, .ref b9, .int b10, .ref b11, .ref b12, .ref b13, .ref b14, .ref b15, .ref b16])), (b11, .inl (G.2 0, 240, .inl b17))] (fun v w => ∃ (e0 : Int32), v = some (.int e0) ∧ w = [(b0, .inr (5, [.int b2, .int b3, .ref b4, .ref b5, .ref b6, .ref b7, .ref b8, .ref b9, .int b10, .ref b11, .ref b12, .ref b13, .ref b14, .ref b15, .ref b16])), (b11, .inl (G.2 0, 240, .inl b17))] ∧ (zI e0 0 240) ∧ ((e0 : Int32).toInt = (b17 (b1 : Int32).toInt.toNat).toInt / 2560)) := by
  refine z_start (by decide +kernel) (Nat.le_of_ble_eq_true rfl) ?_
  intro p e s m below meth c A Z hr hnm hA hP hD hS ls hl
  have Z : zC p s m _ meth c prog_4_method_2_code 2 "TraceMachines$Machine" G := Z
  obtain ⟨hx, hb, hml, hown, hts, hK, hN, hlocks⟩ := id Z
  have hl : lv_has ls 2 [(0, .ref b0), (1, .int b1)] := hl
  refine lv_aload_n hx hb d_Machine_from_0 rfl (lv_at hl 0 rfl) ?_
  refine va_get (D := G.1) (ci := 5) (v := .ref b11) (C := R_Machine) (T := F_Machine) (N := 15) hx hb hts i_Machine hown hK hP 0 rfl rfl 9 (by decide) (hts _ q186) (fun _ h9 => h9) rfl d_Machine_from_1 ?_
  refine lv_iload_n hx hb d_Machine_from_4 rfl (lv_at hl 1 rfl) ?_
  refine va_iald hx hb hK hP 1 0 rfl rfl (zI.inn hb1 (by decide)) d_Machine_from_5 ?_
  refine lv_topi (fun v_1 ev_1 => ?_)
  obtain ⟨hv_1, kv_1⟩ := zK.ld hb17 ev_1
  refine lv_sipush (v := 2560) hx hb d_Machine_from_6 (by decide) ?_
  refine lv_idiv hx hb d_Machine_from_9 (by decide +kernel) ?_
  refine lv_topi (fun v_2 ev_2 => ?_)
  obtain ⟨qv_2, hv_2⟩ := zI_div (l := 0) (h := 240) (d := 2560) hv_1 rfl ev_2 (by decide)
  exact z_iret hx hb hr hlocks hP hD hS (Nat.le_of_ble_eq_true rfl) (Nat.le_of_ble_eq_true rfl) d_Machine_from_10 ⟨v_2, rfl, rfl, hv_2, (by have k9 := congrArg Int32.toInt ev_1; rw [z_plf hb1 (by decide)] at k9; rw [← k9]; omega)⟩
abbrev m_s2_Machine_letter : Room := { frames := 0, cells := 0, slots := 0, locals := 0 }
set_option maxHeartbeats 4000000 in
set_option maxRecDepth 100000 in
theorem s2_Machine_letter (l : Launch) (G : zG) (b0 : Nat) (b1 : Int32) (b2 : Int32) (b3 : Int32) (b4 : Nat) (b5 : Nat) (b6 : Nat) (b7 : Nat) (b8 : Nat) (b9 : Nat) (b10 : Int32) (b11 : Nat) (b12 : Nat) (b13 : Nat) (b14 : Nat) (b15 : Nat) (b16 : Nat) (b17 : Nat → Int32) (hb1 : zI b1 0 239) (hb2 : zI b2 0 1) (hb3 : zI b3 0 241) (hb10 : zI b10 0 240) (hb17 : zK b17) : zM l G y_Machine_letter prog_4_method_3_code 2 (Option.some Jvm.ClassFile.FieldType.int) m_s2_Machine_letter [.ref b0, .int b1] [(b0, .inr (5, [.int b2, .int b3, .ref b4, .ref b5, .ref b6, .ref b7, .ref b8, .ref b9, .int b10, .ref b11, .ref b12, .ref b13, .ref b14, .ref b15, .ref b16])), (b11, .inl (G.2 0, 240, .inl b17))] (fun v w => ∃ (e0 : Int32), v = some (.int e0) ∧ w = [(b0, .inr (5, [.int b2, .int b3, .ref b4, .ref b5, .ref b6, .ref b7, .ref b8, .ref b9, .int b10, .ref b11, .ref b12, .ref b13, .ref b14, .ref b15, .ref b16])), (b11, .inl (G.2 0, 240, .inl b17))] ∧ (zI e0 0 9) ∧ ((e0 : Int32).toInt = (b17 (b1 : Int32).toInt.toNat).toInt / 256 % 10)) := by
  refine z_start (by decide +kernel) (Nat.le_of_ble_eq_true rfl) ?_
  intro p e s m below meth c A Z hr hnm hA hP hD hS ls hl
  have Z : zC p s m _ meth c prog_4_method_3_code 2 "TraceMachines$Machine" G := Z
  obtain ⟨hx, hb, hml, hown, hts, hK, hN, hlocks⟩ := id Z
  have hl : lv_has ls 2 [(0, .ref b0), (1, .int b1)] := hl
  refine lv_aload_n hx hb d_Machine_letter_0 rfl (lv_at hl 0 rfl) ?_
  refine va_get (D := G.1) (ci := 5) (v := .ref b11) (C := R_Machine) (T := F_Machine) (N := 15) hx hb hts i_Machine hown hK hP 0 rfl rfl 9 (by decide) (hts _ q186) (fun _ h9 => h9) rfl d_Machine_letter_1 ?_
  refine lv_iload_n hx hb d_Machine_letter_4 rfl (lv_at hl 1 rfl) ?_
  refine va_iald hx hb hK hP 1 0 rfl rfl (zI.inn hb1 (by decide)) d_Machine_letter_5 ?_
  refine lv_topi (fun v_1 ev_1 => ?_)
  obtain ⟨hv_1, kv_1⟩ := zK.ld hb17 ev_1
  refine lv_sipush (v := 256) hx hb d_Machine_letter_6 (by decide) ?_
  refine lv_idiv hx hb d_Machine_letter_9 (by decide +kernel) ?_
  refine lv_topi (fun v_2 ev_2 => ?_)
  obtain ⟨qv_2, hv_2⟩ := zI_div (l := 0) (h := 2409) (d := 256) hv_1 rfl ev_2 (by decide)
  refine lv_bipush (v := 10) hx hb d_Machine_letter_10 (by decide) ?_
  refine lv_irem hx hb d_Machine_letter_12 (by decide +kernel) ?_
  refine lv_topi (fun v_3 ev_3 => ?_)
  obtain ⟨qv_3, hv_3⟩ := zI_rem (h := 9) (d := 10) hv_2 rfl ev_3 (by decide)
  exact z_iret hx hb hr hlocks hP hD hS (Nat.le_of_ble_eq_true rfl) (Nat.le_of_ble_eq_true rfl) d_Machine_letter_13 ⟨v_3, rfl, rfl, hv_3, (by have k9 := congrArg Int32.toInt ev_1; rw [z_plf hb1 (by decide)] at k9; rw [← k9]; omega)⟩
abbrev m_s2_Machine_to : Room := { frames := 0, cells := 0, slots := 0, locals := 0 }
set_option maxHeartbeats 4000000 in
set_option maxRecDepth 100000 in
theorem s2_Machine_to (l : Launch) (G : zG) (b0 : Nat) (b1 : Int32) (b2 : Int32) (b3 : Int32) (b4 : Nat) (b5 : Nat) (b6 : Nat) (b7 : Nat) (b8 : Nat) (b9 : Nat) (b10 : Int32) (b11 : Nat) (b12 : Nat) (b13 : Nat) (b14 : Nat) (b15 : Nat) (b16 : Nat) (b17 : Nat → Int32) (hb1 : zI b1 0 239) (hb2 : zI b2 0 1) (hb3 : zI b3 0 241) (hb10 : zI b10 0 240) (hb17 : zK b17) : zM l G y_Machine_to prog_4_method_4_code 2 (Option.some Jvm.ClassFile.FieldType.int) m_s2_Machine_to [.ref b0, .int b1] [(b0, .inr (5, [.int b2, .int b3, .ref b4, .ref b5, .ref b6, .ref b7, .ref b8, .ref b9, .int b10, .ref b11, .ref b12, .ref b13, .ref b14, .ref b15, .ref b16])), (b11, .inl (G.2 0, 240, .inl b17))] (fun v w => ∃ (e0 : Int32), v = some (.int e0) ∧ w = [(b0, .inr (5, [.int b2, .int b3, .ref b4, .ref b5, .ref b6, .ref b7, .ref b8, .ref b9, .int b10, .ref b11, .ref b12, .ref b13, .ref b14, .ref b15, .ref b16])), (b11, .inl (G.2 0, 240, .inl b17))] ∧ (zI e0 0 240) ∧ ((e0 : Int32).toInt = (b17 (b1 : Int32).toInt.toNat).toInt % 256)) := by
  refine z_start (by decide +kernel) (Nat.le_of_ble_eq_true rfl) ?_
  intro p e s m below meth c A Z hr hnm hA hP hD hS ls hl
  have Z : zC p s m _ meth c prog_4_method_4_code 2 "TraceMachines$Machine" G := Z
  obtain ⟨hx, hb, hml, hown, hts, hK, hN, hlocks⟩ := id Z
  have hl : lv_has ls 2 [(0, .ref b0), (1, .int b1)] := hl
  refine lv_aload_n hx hb d_Machine_to_0 rfl (lv_at hl 0 rfl) ?_
  refine va_get (D := G.1) (ci := 5) (v := .ref b11) (C := R_Machine) (T := F_Machine) (N := 15) hx hb hts i_Machine hown hK hP 0 rfl rfl 9 (by decide) (hts _ q186) (fun _ h9 => h9) rfl d_Machine_to_1 ?_
  refine lv_iload_n hx hb d_Machine_to_4 rfl (lv_at hl 1 rfl) ?_
  refine va_iald hx hb hK hP 1 0 rfl rfl (zI.inn hb1 (by decide)) d_Machine_to_5 ?_
  refine lv_topi (fun v_1 ev_1 => ?_)
  obtain ⟨hv_1, kv_1⟩ := zK.ld hb17 ev_1
  refine lv_sipush (v := 256) hx hb d_Machine_to_6 (by decide) ?_
  refine lv_irem hx hb d_Machine_to_9 (by decide +kernel) ?_
  refine lv_topi (fun v_2 ev_2 => ?_)
  obtain ⟨qv_2, hv_2⟩ := zI_rem (h := 255) (d := 256) hv_1 rfl ev_2 (by decide)
  have hv_3 : zI v_2 0 240 := ⟨by omega, by omega⟩
  exact z_iret hx hb hr hlocks hP hD hS (Nat.le_of_ble_eq_true rfl) (Nat.le_of_ble_eq_true rfl) d_Machine_to_10 ⟨v_2, rfl, rfl, hv_3, (by have k9 := congrArg Int32.toInt ev_1; rw [z_plf hb1 (by decide)] at k9; rw [← k9]; omega)⟩
abbrev m_s2_Machine_placeOf : Room := { frames := 0, cells := 0, slots := 0, locals := 0 }
set_option maxHeartbeats 4000000 in
set_option maxRecDepth 100000 in
theorem s2_Machine_placeOf (l : Launch) (G : zG) (b0 : Nat) (b1 : Int32) (b2 : Int32) (b3 : Int32) (b4 : Nat) (b5 : Nat) (b6 : Nat) (b7 : Nat) (b8 : Nat) (b9 : Nat) (b10 : Int32) (b11 : Nat) (b12 : Nat) (b13 : Nat) (b14 : Nat) (b15 : Nat) (b16 : Nat) (b17 : Nat → Int32) (hb2 : zI b2 0 1) (hb3 : zI b3 0 241) (hb10 : zI b10 0 240) (hb17 : zK b17) : zM l G y_Machine_placeOf prog_4_method_8_code 5 (Option.some Jvm.ClassFile.FieldType.int) m_s2_Machine_placeOf [.ref b0, .int b1] [(b0, .inr (5, [.int b2, .int b3, .ref b4, .ref b5, .ref b6, .ref b7, .ref b8, .ref b9, .int b10, .ref b11, .ref b12, .ref b13, .ref b14, .ref b15, .ref b16])), (b11, .inl (G.2 0, 240, .inl b17))] (fun v w => ∃ (e0 : Int32), v = some (.int e0) ∧ w = [(b0, .inr (5, [.int b2, .int b3, .ref b4, .ref b5, .ref b6, .ref b7, .ref b8, .ref b9, .int b10, .ref b11, .ref b12, .ref b13, .ref b14, .ref b15, .ref b16])), (b11, .inl (G.2 0, 240, .inl b17))] ∧ (zI e0 0 240) ∧ (e0.toInt ≤ b10.toInt) ∧ (e0.toInt < b10.toInt → b1.toInt ≤ (b17 e0.toInt.toNat).toInt) ∧ (e0.toInt = b10.toInt → b10.toInt = 0 ∨ (b17 (b10.toInt - 1).toNat).toInt < b1.toInt) ∧ ((e0 : Int32).toInt = 0 ∨ (b17 ((e0 : Int32).toInt - 1).toNat).toInt < (b1 : Int32).toInt)) := by
  refine z_start (by decide +kernel) (Nat.le_of_ble_eq_true rfl) ?_
  intro p e s m below meth c A Z hr hnm hA hP hD hS ls hl
  have Z : zC p s m _ meth c prog_4_method_8_code 5 "TraceMachines$Machine" G := Z
  obtain ⟨hx, hb, hml, hown, hts, hK, hN, hlocks⟩ := id Z
  have hl : lv_has ls 5 [(0, .ref b0), (1, .int b1)] := hl
  refine lv_iconst (v := 0) hx hb d_Machine_placeOf_0 (by decide) ?_
  refine lv_istore_n (lv' := [(2, .int 0), (0, .ref b0), (1, .int b1)]) hx hb d_Machine_placeOf_1 rfl hl (by decide) rfl (fun ls hl => ?_)
  refine lv_aload_n hx hb d_Machine_placeOf_2 rfl (lv_at hl 1 rfl) ?_
  refine va_get (D := G.1) (ci := 5) (v := .int b10) (C := R_Machine) (T := F_Machine) (N := 15) hx hb hts i_Machine hown hK hP 0 rfl rfl 8 (by decide) (hts _ q184) (fun _ h9 => h9) rfl d_Machine_placeOf_3 ?_
  refine lv_istore_n (lv' := [(3, .int b10), (2, .int 0), (0, .ref b0), (1, .int b1)]) hx hb d_Machine_placeOf_6 rfl hl (by decide) rfl (fun ls hl => ?_)
  suffices key : ∀ (k_17 : Nat) (y_18 : Int32) (y_19 : Int32) (H : Heap) (locs : List Loc) (ls : Array Slot), (zI y_18 0 240) → (zI y_19 0 240) → (y_19.toInt ≤ y_18.toInt) → (y_18.toInt ≤ b10.toInt) → ((y_18 : Int32).toInt < b10.toInt → b1.toInt ≤ (b17 (y_18 : Int32).toInt.toNat).toInt) → ((y_19 : Int32).toInt = 0 ∨ (b17 ((y_19 : Int32).toInt - 1).toNat).toInt < b1.toInt) → y_18.toInt - y_19.toInt < (k_17 : Int) → va_P G.1 classes [(b0, .inr (5, [.int b2, .int b3, .ref b4, .ref b5, .ref b6, .ref b7, .ref b8, .ref b9, .int b10, .ref b11, .ref b12, .ref b13, .ref b14, .ref b15, .ref b16])), (b11, .inl (G.2 0, 240, .inl b17))] H → va_D A [(b0, .inr (5, [.int b2, .int b3, .ref b4, .ref b5, .ref b6, .ref b7, .ref b8, .ref b9, .int b10, .ref b11, .ref b12, .ref b13, .ref b14, .ref b15, .ref b16])), (b11, .inl (G.2 0, 240, .inl b17))] → va_S A s.heap H locs → lv_has ls 5 [(3, .int y_18), (2, .int y_19), (0, .ref b0), (1, .int b1)] → W p l e m_s2_Machine_placeOf s m ([.ref b0, .int b1] : List Value).toArray below meth c H locs 0 0 (MQ below (zQ G (fun v w => ∃ (e0 : Int32), v = some (.int e0) ∧ w = [(b0, .inr (5, [.int b2, .int b3, .ref b4, .ref b5, .ref b6, .ref b7, .ref b8, .ref b9, .int b10, .ref b11, .ref b12, .ref b13, .ref b14, .ref b15, .ref b16])), (b11, .inl (G.2 0, 240, .inl b17))] ∧ (zI e0 0 240) ∧ (e0.toInt ≤ b10.toInt) ∧ (e0.toInt < b10.toInt → b1.toInt ≤ (b17 e0.toInt.toNat).toInt) ∧ (e0.toInt = b10.toInt → b10.toInt = 0 ∨ (b17 (b10.toInt - 1).toNat).toInt < b1.toInt) ∧ ((e0 : Int32).toInt = 0 ∨ (b17 ((e0 : Int32).toInt - 1).toNat).toInt < (b1 : Int32).toInt)) A) ([.ref b0, .int b1] : List Value).toArray s m_s2_Machine_placeOf.cells m_s2_Machine_placeOf.slots A) (F0 m 7 ls []) by
    exact key 242 (b10) (0) _ _ _ hb10 (zI.wk (l' := 0) (h' := 240) zc_0 (by decide)) (by have _l0 := li_0; omega) (by omega) (fun h9 => absurd h9 (Int.lt_irrefl _)) (Or.inl li_0) (by have _l := li_0; omega) hP hD hS (lv_sub hl [0, 1, 2, 3] rfl)
  intro k_17
  induction k_17 with
  | zero =>
    intro y_18 y_19 H locs ls hy_18 hy_19 hli_20 hli_21 hli_22 hli_23 hmk_17 hP hD hS hl
    exfalso; omega
  | succ k_17 ihk_17 =>
    intro y_18 y_19 H locs ls hy_18 hy_19 hli_20 hli_21 hli_22 hli_23 hmk_17 hP hD hS hl
    refine lv_iload_n hx hb d_Machine_placeOf_7 rfl (lv_at hl 1 rfl) ?_
    refine lv_iload_n hx hb d_Machine_placeOf_8 rfl (lv_at hl 0 rfl) ?_
    refine lv_icmp_ge (tgt := 44) hx hb d_Machine_placeOf_9 (by decide) (fun hc_24 => ?_) (fun hc_24 => ?_)
    · have _nhc_24 := hc_24
      have ni_25 := (fa_le _ _).mp hc_24
      refine lv_iload_n hx hb d_Machine_placeOf_44 rfl (lv_at hl 1 rfl) ?_
      exact z_iret hx hb hr hlocks hP hD hS (Nat.le_of_ble_eq_true rfl) (Nat.le_of_ble_eq_true rfl) d_Machine_placeOf_45 ⟨y_19, rfl, rfl, hy_19, (by omega), (fun h9 => by have h8 : y_19.toInt = y_18.toInt := (by omega); rw [h8]; exact hli_22 (by omega)), (fun h9 => by rcases hli_23 with h8 | h8; left; omega; right; rw [← h9]; exact h8), hli_23⟩
    · have _nhc_24 := hc_24
      have ni_26 := (fa_lt _ _).mp (zi_nle hc_24)
      have hv_27 : zI y_19 0 239 := zI.lt_l hy_19 hy_18 (zi_nle hc_24) (by decide)
      have hv_28 : zI y_18 1 240 := zI.lt_r hy_19 hy_18 (zi_nle hc_24) (by decide)
      refine lv_iload_n hx hb d_Machine_placeOf_12 rfl (lv_at hl 1 rfl) ?_
      refine lv_iload_n hx hb d_Machine_placeOf_13 rfl (lv_at hl 0 rfl) ?_
      refine lv_iadd hx hb d_Machine_placeOf_14 ?_
      refine lv_topi (fun v_29 ev_29 => ?_)
      obtain ⟨qv_29, hv_29⟩ := zI_add (l := 1) (h := 479) hv_27 hv_28 ev_29 (by decide)
      refine lv_iconst (v := 2) hx hb d_Machine_placeOf_15 (by decide) ?_
      refine lv_idiv hx hb d_Machine_placeOf_16 (by decide +kernel) ?_
      refine lv_topi (fun v_30 ev_30 => ?_)
      obtain ⟨qv_30, hv_30⟩ := zI_div (l := 0) (h := 239) (d := 2) hv_29 rfl ev_30 (by decide)
      refine lv_istore (lv' := [(4, .int v_30), (3, .int y_18), (2, .int y_19), (0, .ref b0), (1, .int b1)]) hx hb d_Machine_placeOf_17 hl (by decide) rfl (fun ls hl => ?_)
      refine lv_aload_n hx hb d_Machine_placeOf_19 rfl (lv_at hl 3 rfl) ?_
      refine va_get (D := G.1) (ci := 5) (v := .ref b11) (C := R_Machine) (T := F_Machine) (N := 15) hx hb hts i_Machine hown hK hP 0 rfl rfl 9 (by decide) (hts _ q186) (fun _ h9 => h9) rfl d_Machine_placeOf_20 ?_
      refine lv_iload hx hb d_Machine_placeOf_23 (lv_at hl 0 rfl) ?_
      refine va_iald hx hb hK hP 1 0 rfl rfl (zI.inn hv_30 (by decide)) d_Machine_placeOf_25 ?_
      refine lv_topi (fun v_31 ev_31 => ?_)
      obtain ⟨hv_31, kv_31⟩ := zK.ld hb17 ev_31
      refine lv_iload_n hx hb d_Machine_placeOf_26 rfl (lv_at hl 4 rfl) ?_
      refine lv_icmp_ge (tgt := 38) hx hb d_Machine_placeOf_27 (by decide) (fun hc_32 => ?_) (fun hc_32 => ?_)
      · have _nhc_32 := hc_32
        have ni_33 := (fa_le _ _).mp hc_32
        have hv_34 : zI b1 (-2147483648) 616944 := zI.le_l (zI_all b1) hv_31 hc_32 (by decide)
        refine lv_iload hx hb d_Machine_placeOf_38 (lv_at hl 0 rfl) ?_
        refine lv_istore_n (lv' := [(3, .int v_30), (4, .int v_30), (2, .int y_19), (0, .ref b0), (1, .int b1)]) hx hb d_Machine_placeOf_40 rfl hl (by decide) rfl (fun ls hl => ?_)
        refine lv_goto (tgt := 7) hx hb d_Machine_placeOf_41 (by decide) ?_
        exact ihk_17 (v_30) (y_19) _ _ _ (zI.wk (l' := 0) (h' := 240) hv_30 (by decide)) (zI.wk (l' := 0) (h' := 240) hv_27 (by decide)) (by omega) (by omega) (fun h9 => by rw [← z_plf hv_30 (by decide), ← ev_31]; omega) hli_23 (by omega) hP hD hS (lv_sub hl [0, 2, 3, 4] rfl)
      · have _nhc_32 := hc_32
        have ni_35 := (fa_lt _ _).mp (zi_nle hc_32)
        have hv_36 : zI b1 1 2147483647 := zI.lt_r hv_31 (zI_all b1) (zi_nle hc_32) (by decide)
        refine lv_iload hx hb d_Machine_placeOf_30 (lv_at hl 0 rfl) ?_
        refine lv_iconst (v := 1) hx hb d_Machine_placeOf_32 (by decide) ?_
        refine lv_iadd hx hb d_Machine_placeOf_33 ?_
        refine lv_topi (fun v_37 ev_37 => ?_)
        obtain ⟨qv_37, hv_37⟩ := zI_add (l := 1) (h := 240) hv_30 zc_1 ev_37 (by decide)
        rw [li_1] at qv_37
        refine lv_istore_n (lv' := [(2, .int v_37), (4, .int v_30), (3, .int y_18), (0, .ref b0), (1, .int b1)]) hx hb d_Machine_placeOf_34 rfl hl (by decide) rfl (fun ls hl => ?_)
        refine lv_goto (tgt := 41) hx hb d_Machine_placeOf_35 (by decide) ?_
        refine lv_goto (tgt := 7) hx hb d_Machine_placeOf_41 (by decide) ?_
        exact ihk_17 (y_18) (v_37) _ _ _ (zI.wk (l' := 0) (h' := 240) hv_28 (by decide)) (zI.wk (l' := 0) (h' := 240) hv_37 (by decide)) (by omega) (by omega) hli_22 (Or.inr (by have h9 : (v_37.toInt - 1).toNat = v_30.toNatClampNeg := (by rw [z_plf hv_30 (by decide)]; omega); rw [h9, ← ev_31]; omega)) (by omega) hP hD hS (lv_sub hl [2, 0, 3, 4] rfl)
abbrev m_s3_Machine_foldStates : Room := { frames := 2, cells := 0, slots := 0, locals := 49 }
set_option maxHeartbeats 4000000 in
set_option maxRecDepth 100000 in
theorem s3_Machine_foldStates (l : Launch) (G : zG) (b0 : Nat) (b1 : Nat) (b2 : Nat) (b3 : Int32) (b4 : Int32) (b5 : Nat) (b6 : Nat) (b7 : Nat) (b8 : Nat) (b9 : Nat) (b10 : Nat) (b11 : Int32) (b12 : Nat) (b13 : Nat) (b14 : Nat) (b15 : Nat) (b16 : Nat) (b17 : Nat) (b18 : Nat → Int32) (b19 : Nat → Int32) (b20 : Nat → Int32) (b21 : Nat → Int32) (b22 : Nat → Int32) (b23 : Nat → Int64) (b24 : Int32) (b25 : Int32) (b26 : Int32) (b27 : Nat) (b28 : Nat) (b29 : Nat) (b30 : Nat) (b31 : Nat) (b32 : Nat) (b33 : Nat) (b34 : Nat) (b35 : Nat → Int32) (b36 : Nat) (b37 : Nat) (b38 : Nat) (b39 : Nat → Int32) (b40 : Nat → Int32) (b41 : Nat → Int32) (hb3 : zI b3 0 1) (hb4 : zI b4 0 241) (hb11 : zI b11 0 240) (hb24 : zI b24 0 1) (hb26 : zI b26 0 241) (hb18 : zR b18 0 240) (hb19 : zR b19 0 240) (hb39 : zqa qC b39) (hb41 : zR b41 (-1) 240) : zM l G y_Machine_foldStates prog_4_method_6_code 6 (Option.none : Option Jvm.ClassFile.FieldType) m_s3_Machine_foldStates [.ref b0, .ref b1, .ref b2] [(b0, .inr (5, [.int b3, .int b4, .ref b5, .ref b6, .ref b7, .ref b8, .ref b9, .ref b10, .int b11, .ref b12, .ref b13, .ref b14, .ref b15, .ref b16, .ref b17])), (b5, .inl (G.2 0, 241, .inl b18)), (b6, .inl (G.2 0, 241, .inl b19)), (b7, .inl (G.2 0, 241, .inl b20)), (b8, .inl (G.2 0, 241, .inl b21)), (b9, .inl (G.2 0, 241, .inl b22)), (b10, .inl (G.2 1, 4, .inr (.inl b23))), (b1, .inr (3, [.int b24, .int b25, .int b26, .ref b27, .ref b28, .ref b29, .ref b30, .ref b31, .ref b32, .ref b33, .ref b34])), (b30, .inl (G.2 0, 241, .inl b35)), (b2, .inr (4, [.ref b36, .ref b37, .ref b38])), (b36, .inl (G.2 0, 241, .inl b39)), (b37, .inl (G.2 0, 4820, .inl b40)), (b38, .inl (G.2 0, 512, .inl b41))] (fun v w => ∃ (e0 : Int32), ∃ (e1 : Nat → Int32), ∃ (e2 : Nat → Int32), ∃ (e3 : Nat → Int32), ∃ (e4 : Nat → Int32), ∃ (e5 : Nat → Int32), ∃ (e6 : Nat → Int64), ∃ (e7 : Nat → Int32), v = none ∧ w = [(b0, .inr (5, [.int b3, .int e0, .ref b5, .ref b6, .ref b7, .ref b8, .ref b9, .ref b10, .int b11, .ref b12, .ref b13, .ref b14, .ref b15, .ref b16, .ref b17])), (b5, .inl (G.2 0, 241, .inl e1)), (b6, .inl (G.2 0, 241, .inl e2)), (b7, .inl (G.2 0, 241, .inl e3)), (b8, .inl (G.2 0, 241, .inl e4)), (b9, .inl (G.2 0, 241, .inl e5)), (b10, .inl (G.2 1, 4, .inr (.inl e6))), (b1, .inr (3, [.int b24, .int b25, .int b26, .ref b27, .ref b28, .ref b29, .ref b30, .ref b31, .ref b32, .ref b33, .ref b34])), (b30, .inl (G.2 0, 241, .inl b35)), (b2, .inr (4, [.ref b36, .ref b37, .ref b38])), (b36, .inl (G.2 0, 241, .inl b39)), (b37, .inl (G.2 0, 4820, .inl b40)), (b38, .inl (G.2 0, 512, .inl e7))] ∧ (zI e0 0 241) ∧ (zR e1 0 240) ∧ (zR e2 0 240) ∧ (zR e7 (-1) 240) ∧ (∀ (pt : Nat → Nat → Nat) (key : Nat → Nat → Int) (cc : Nat → Nat) (bu : Int) (TT : Nat), yFo pt key cc bu TT 0 (b26 : Int32).toInt.toNat 0 b40 b39 → (∀ j : Nat, j < 512 → (b41 j).toInt = -1) → (∀ q : Nat, q < (b26 : Int32).toInt.toNat → 0 ≤ (b35 q).toInt ∧ (b35 q).toInt ≤ 1000) → yFS (yAl pt key (yPf cc bu TT 0)) (yHF b40 b39) b35 b39 (b26 : Int32).toInt.toNat (e0 : Int32).toInt e1 e2 e7 e3 e4 e5)) := by
  refine z_start (by decide +kernel) (Nat.le_of_ble_eq_true rfl) ?_
  intro p e s m below meth c A Z hr hnm hA hP hD hS ls hl
  have Z : zC p s m _ meth c prog_4_method_6_code 6 "TraceMachines$Machine" G := Z
  obtain ⟨hx, hb, hml, hown, hts, hK, hN, hlocks⟩ := id Z
  have hl : lv_has ls 6 [(0, .ref b0), (1, .ref b1), (2, .ref b2)] := hl
  refine lv_aload_n hx hb d_Machine_foldStates_0 rfl (lv_at hl 0 rfl) ?_
  refine lv_iconst (v := 0) hx hb d_Machine_foldStates_1 (by decide) ?_
  refine va_put (D := G.1) (ci := 5) (v := .int 0) (ty := .int) (C := R_Machine) (T := F_Machine) (N := 15) hx hb hts i_Machine t_Machine t_Machine_ok n_Machine hown hK hP hD hS 0 rfl rfl 1 (by decide) (hts _ q168) (fun _ h9 => h9) rfl (by decide +kernel) rfl rfl (Nat.le_of_ble_eq_true rfl) d_Machine_foldStates_2 (fun H locs hP hD hS => ?_)
  have hP : va_P G.1 classes [(b0, .inr (5, [.int b3, .int 0, .ref b5, .ref b6, .ref b7, .ref b8, .ref b9, .ref b10, .int b11, .ref b12, .ref b13, .ref b14, .ref b15, .ref b16, .ref b17])), (b5, .inl (G.2 0, 241, .inl b18)), (b6, .inl (G.2 0, 241, .inl b19)), (b7, .inl (G.2 0, 241, .inl b20)), (b8, .inl (G.2 0, 241, .inl b21)), (b9, .inl (G.2 0, 241, .inl b22)), (b10, .inl (G.2 1, 4, .inr (.inl b23))), (b1, .inr (3, [.int b24, .int b25, .int b26, .ref b27, .ref b28, .ref b29, .ref b30, .ref b31, .ref b32, .ref b33, .ref b34])), (b30, .inl (G.2 0, 241, .inl b35)), (b2, .inr (4, [.ref b36, .ref b37, .ref b38])), (b36, .inl (G.2 0, 241, .inl b39)), (b37, .inl (G.2 0, 4820, .inl b40)), (b38, .inl (G.2 0, 512, .inl b41))] H := hP
  have hD := z_tie hP hD rfl
  refine lv_aload_n hx hb d_Machine_foldStates_5 rfl (lv_at hl 0 rfl) ?_
  refine va_get (D := G.1) (ci := 5) (v := .ref b10) (C := R_Machine) (T := F_Machine) (N := 15) hx hb hts i_Machine hown hK hP 0 rfl rfl 7 (by decide) (hts _ q181) (fun _ h9 => h9) rfl d_Machine_foldStates_6 ?_
  refine lv_lconst (v := 0) hx hb d_Machine_foldStates_9 (by decide) ?_
  refine z_callS (index := 79) (As := [.ref b10, .long 0]) (rest := []) (wr := [(b0, .inr (5, [.int b3, .int 0, .ref b5, .ref b6, .ref b7, .ref b8, .ref b9, .ref b10, .int b11, .ref b12, .ref b13, .ref b14, .ref b15, .ref b16, .ref b17])), (b5, .inl (G.2 0, 241, .inl b18)), (b6, .inl (G.2 0, 241, .inl b19)), (b7, .inl (G.2 0, 241, .inl b20)), (b8, .inl (G.2 0, 241, .inl b21)), (b9, .inl (G.2 0, 241, .inl b22)), (b1, .inr (3, [.int b24, .int b25, .int b26, .ref b27, .ref b28, .ref b29, .ref b30, .ref b31, .ref b32, .ref b33, .ref b34])), (b30, .inl (G.2 0, 241, .inl b35)), (b2, .inr (4, [.ref b36, .ref b37, .ref b38])), (b36, .inl (G.2 0, 241, .inl b39)), (b37, .inl (G.2 0, 4820, .inl b40)), (b38, .inl (G.2 0, 512, .inl b41))]) Z (c_fill_J l G (b10) (4) (b23) (0) (by decide)) hl.1 q622 q623 q13 q624 ⟨by decide, by decide, by show _ = some 2; decide +kernel⟩ ⟨Nat.le_of_ble_eq_true rfl, Nat.le_of_ble_eq_true rfl⟩ ⟨Nat.le_of_ble_eq_true rfl, Nat.le_of_ble_eq_true rfl⟩ rfl (Nat.le_of_ble_eq_true rfl) d_Machine_foldStates_10 hP hD hS hA [6] [0, 1, 2, 3, 4, 5, 7, 8, 9, 10, 11, 12] rfl rfl rfl rfl (by decide) (fun v w1 H locs hw_1 hP hD hS => ?_)
  obtain ⟨rfl, rfl⟩ := hw_1
  have hP : va_P G.1 classes [(b0, .inr (5, [.int b3, .int 0, .ref b5, .ref b6, .ref b7, .ref b8, .ref b9, .ref b10, .int b11, .ref b12, .ref b13, .ref b14, .ref b15, .ref b16, .ref b17])), (b5, .inl (G.2 0, 241, .inl b18)), (b6, .inl (G.2 0, 241, .inl b19)), (b7, .inl (G.2 0, 241, .inl b20)), (b8, .inl (G.2 0, 241, .inl b21)), (b9, .inl (G.2 0, 241, .inl b22)), (b1, .inr (3, [.int b24, .int b25, .int b26, .ref b27, .ref b28, .ref b29, .ref b30, .ref b31, .ref b32, .ref b33, .ref b34])), (b30, .inl (G.2 0, 241, .inl b35)), (b2, .inr (4, [.ref b36, .ref b37, .ref b38])), (b36, .inl (G.2 0, 241, .inl b39)), (b37, .inl (G.2 0, 4820, .inl b40)), (b38, .inl (G.2 0, 512, .inl b41)), (b10, .inl (G.2 1, 4, .inr (.inl (fun _ => 0))))] H := hP
  have hD := z_tie hP hD rfl
  refine W.widen (k := 0) (n := 0) (Nat.le_of_ble_eq_true rfl) (Nat.le_of_ble_eq_true rfl) ?_
  refine lv_iconst (v := 0) hx hb d_Machine_foldStates_13 (by decide) ?_
  refine lv_istore_n (lv' := [(3, .int 0), (0, .ref b0), (1, .ref b1), (2, .ref b2)]) hx hb d_Machine_foldStates_14 rfl hl (by decide) rfl (fun ls hl => ?_)
  suffices key : ∀ (k_77 : Nat) (y_78 : Int32) (y_79 : Int32) (y_80 : Nat → Int64) (y_81 : Nat → Int32) (y_82 : Nat → Int32) (y_83 : Nat → Int32) (y_84 : Nat → Int32) (y_85 : Nat → Int32) (y_86 : Nat → Int32) (H : Heap) (locs : List Loc) (ls : Array Slot), (zI y_78 0 241) → (zI y_79 0 241) → (zR y_81 (-1) 240) → (zR y_82 0 240) → (zR y_83 0 240) → ((y_79 : Int32).toInt ≤ (y_78 : Int32).toInt) → ((y_78 : Int32).toInt ≤ (b26 : Int32).toInt) → (∀ (pt : Nat → Nat → Nat) (key : Nat → Nat → Int) (cc : Nat → Nat) (bu : Int) (TT : Nat), yFo pt key cc bu TT 0 (b26 : Int32).toInt.toNat 0 b40 b39 → (∀ j : Nat, j < 512 → (b41 j).toInt = -1) → (∀ q : Nat, q < (b26 : Int32).toInt.toNat → 0 ≤ (b35 q).toInt ∧ (b35 q).toInt ≤ 1000) → yFS (yAl pt key (yPf cc bu TT 0)) (yHF b40 b39) b35 b39 (y_78 : Int32).toInt.toNat (y_79 : Int32).toInt y_82 y_83 y_81 y_84 y_85 y_86) → (241 : Int) - y_78.toInt < (k_77 : Int) → va_P G.1 classes [(b0, .inr (5, [.int b3, .int y_79, .ref b5, .ref b6, .ref b7, .ref b8, .ref b9, .ref b10, .int b11, .ref b12, .ref b13, .ref b14, .ref b15, .ref b16, .ref b17])), (b5, .inl (G.2 0, 241, .inl y_82)), (b6, .inl (G.2 0, 241, .inl y_83)), (b7, .inl (G.2 0, 241, .inl y_84)), (b8, .inl (G.2 0, 241, .inl y_85)), (b9, .inl (G.2 0, 241, .inl y_86)), (b1, .inr (3, [.int b24, .int b25, .int b26, .ref b27, .ref b28, .ref b29, .ref b30, .ref b31, .ref b32, .ref b33, .ref b34])), (b30, .inl (G.2 0, 241, .inl b35)), (b2, .inr (4, [.ref b36, .ref b37, .ref b38])), (b36, .inl (G.2 0, 241, .inl b39)), (b37, .inl (G.2 0, 4820, .inl b40)), (b38, .inl (G.2 0, 512, .inl y_81)), (b10, .inl (G.2 1, 4, .inr (.inl y_80)))] H → va_D A [(b0, .inr (5, [.int b3, .int y_79, .ref b5, .ref b6, .ref b7, .ref b8, .ref b9, .ref b10, .int b11, .ref b12, .ref b13, .ref b14, .ref b15, .ref b16, .ref b17])), (b5, .inl (G.2 0, 241, .inl y_82)), (b6, .inl (G.2 0, 241, .inl y_83)), (b7, .inl (G.2 0, 241, .inl y_84)), (b8, .inl (G.2 0, 241, .inl y_85)), (b9, .inl (G.2 0, 241, .inl y_86)), (b1, .inr (3, [.int b24, .int b25, .int b26, .ref b27, .ref b28, .ref b29, .ref b30, .ref b31, .ref b32, .ref b33, .ref b34])), (b30, .inl (G.2 0, 241, .inl b35)), (b2, .inr (4, [.ref b36, .ref b37, .ref b38])), (b36, .inl (G.2 0, 241, .inl b39)), (b37, .inl (G.2 0, 4820, .inl b40)), (b38, .inl (G.2 0, 512, .inl y_81)), (b10, .inl (G.2 1, 4, .inr (.inl y_80)))] → va_S A s.heap H locs → lv_has ls 6 [(3, .int y_78), (0, .ref b0), (1, .ref b1), (2, .ref b2)] → W p l e m_s3_Machine_foldStates s m ([.ref b0, .ref b1, .ref b2] : List Value).toArray below meth c H locs 0 0 (MQ below (zQ G (fun v w => ∃ (e0 : Int32), ∃ (e1 : Nat → Int32), ∃ (e2 : Nat → Int32), ∃ (e3 : Nat → Int32), ∃ (e4 : Nat → Int32), ∃ (e5 : Nat → Int32), ∃ (e6 : Nat → Int64), ∃ (e7 : Nat → Int32), v = none ∧ w = [(b0, .inr (5, [.int b3, .int e0, .ref b5, .ref b6, .ref b7, .ref b8, .ref b9, .ref b10, .int b11, .ref b12, .ref b13, .ref b14, .ref b15, .ref b16, .ref b17])), (b5, .inl (G.2 0, 241, .inl e1)), (b6, .inl (G.2 0, 241, .inl e2)), (b7, .inl (G.2 0, 241, .inl e3)), (b8, .inl (G.2 0, 241, .inl e4)), (b9, .inl (G.2 0, 241, .inl e5)), (b10, .inl (G.2 1, 4, .inr (.inl e6))), (b1, .inr (3, [.int b24, .int b25, .int b26, .ref b27, .ref b28, .ref b29, .ref b30, .ref b31, .ref b32, .ref b33, .ref b34])), (b30, .inl (G.2 0, 241, .inl b35)), (b2, .inr (4, [.ref b36, .ref b37, .ref b38])), (b36, .inl (G.2 0, 241, .inl b39)), (b37, .inl (G.2 0, 4820, .inl b40)), (b38, .inl (G.2 0, 512, .inl e7))] ∧ (zI e0 0 241) ∧ (zR e1 0 240) ∧ (zR e2 0 240) ∧ (zR e7 (-1) 240) ∧ (∀ (pt : Nat → Nat → Nat) (key : Nat → Nat → Int) (cc : Nat → Nat) (bu : Int) (TT : Nat), yFo pt key cc bu TT 0 (b26 : Int32).toInt.toNat 0 b40 b39 → (∀ j : Nat, j < 512 → (b41 j).toInt = -1) → (∀ q : Nat, q < (b26 : Int32).toInt.toNat → 0 ≤ (b35 q).toInt ∧ (b35 q).toInt ≤ 1000) → yFS (yAl pt key (yPf cc bu TT 0)) (yHF b40 b39) b35 b39 (b26 : Int32).toInt.toNat (e0 : Int32).toInt e1 e2 e7 e3 e4 e5)) A) ([.ref b0, .ref b1, .ref b2] : List Value).toArray s m_s3_Machine_foldStates.cells m_s3_Machine_foldStates.slots A) (F0 m 15 ls []) by
    exact key 242 (0) (0) ((fun _ => 0)) (b41) (b18) (b19) (b20) (b21) (b22) _ _ _ (zI.wk (l' := 0) (h' := 241) zc_0 (by decide)) (zI.wk (l' := 0) (h' := 241) zc_0 (by decide)) hb41 hb18 hb19 (by have _l0 := li_0; have _l1 := li_0; omega) (by have _l0 := li_0; omega) (fun pt key cc bu TT h1 h2 h3 => by rw [show (0 : Int32).toInt.toNat = 0 by rw [li_0]; rfl, li_0]; exact yFS_0 h2) (zm_upi (zI.wk (l' := 0) (h' := 241) zc_0 (by decide)) (by decide)) hP hD hS (lv_sub hl [0, 1, 2, 3] rfl)
  intro k_77
  induction k_77 with
  | zero =>
    intro y_78 y_79 y_80 y_81 y_82 y_83 y_84 y_85 y_86 H locs ls hy_78 hy_79 hy_81 hy_82 hy_83 hli_87 hli_88 hli_89 hmk_77 hP hD hS hl
    exact (zm_up0 hy_78 hmk_77).elim
  | succ k_77 ihk_77 =>
    intro y_78 y_79 y_80 y_81 y_82 y_83 y_84 y_85 y_86 H locs ls hy_78 hy_79 hy_81 hy_82 hy_83 hli_87 hli_88 hli_89 hmk_77 hP hD hS hl
    refine lv_iload_n hx hb d_Machine_foldStates_15 rfl (lv_at hl 0 rfl) ?_
    refine lv_aload_n hx hb d_Machine_foldStates_16 rfl (lv_at hl 2 rfl) ?_
    refine va_get (D := G.1) (ci := 3) (v := .int b26) (C := R_Tree) (T := F_Tree) (N := 11) hx hb hts i_Tree hown hK hP 6 rfl rfl 2 (by decide) (hts _ q101) (fun _ h9 => h9) rfl d_Machine_foldStates_17 ?_
    refine lv_icmp_ge (tgt := 180) hx hb d_Machine_foldStates_20 (by decide) (fun hc_90 => ?_) (fun hc_90 => ?_)
    · have _nhc_90 := hc_90
      have ni_91 := (fa_le _ _).mp hc_90
      exact z_vret hx hb hr hlocks (hP.sub [0, 1, 2, 3, 4, 5, 12, 6, 7, 8, 9, 10, 11] rfl) (hD.sub [0, 1, 2, 3, 4, 5, 12, 6, 7, 8, 9, 10, 11] (by decide) rfl) hS (Nat.le_of_ble_eq_true rfl) (Nat.le_of_ble_eq_true rfl) d_Machine_foldStates_180 ⟨y_79, y_82, y_83, y_84, y_85, y_86, y_80, y_81, rfl, rfl, hy_79, hy_82, hy_83, hy_81, (fun pt key cc bu TT h1 h2 h3 => by have j9 := hli_89 pt key cc bu TT h1 h2 h3; rw [show y_78.toInt.toNat = b26.toInt.toNat by omega] at j9; exact j9)⟩
    · have _nhc_90 := hc_90
      have ni_92 := (fa_lt _ _).mp (zi_nle hc_90)
      have hv_93 : zI y_78 0 240 := zI.lt_l hy_78 hb26 (zi_nle hc_90) (by decide)
      have hv_94 : zI b26 1 241 := zI.lt_r hy_78 hb26 (zi_nle hc_90) (by decide)
      refine lv_aload_n hx hb d_Machine_foldStates_23 rfl (lv_at hl 3 rfl) ?_
      refine lv_iload_n hx hb d_Machine_foldStates_24 rfl (lv_at hl 0 rfl) ?_
      refine z_callV (index := 89) (As := [.int y_78]) (rest := []) (wr := [(b0, .inr (5, [.int b3, .int y_79, .ref b5, .ref b6, .ref b7, .ref b8, .ref b9, .ref b10, .int b11, .ref b12, .ref b13, .ref b14, .ref b15, .ref b16, .ref b17])), (b5, .inl (G.2 0, 241, .inl y_82)), (b6, .inl (G.2 0, 241, .inl y_83)), (b7, .inl (G.2 0, 241, .inl y_84)), (b8, .inl (G.2 0, 241, .inl y_85)), (b9, .inl (G.2 0, 241, .inl y_86)), (b1, .inr (3, [.int b24, .int b25, .int b26, .ref b27, .ref b28, .ref b29, .ref b30, .ref b31, .ref b32, .ref b33, .ref b34])), (b30, .inl (G.2 0, 241, .inl b35)), (b10, .inl (G.2 1, 4, .inr (.inl y_80)))]) Z (s2_Follows_firstLike l G (b2) (y_78) (b36) (b37) (b38) (b39) (b40) (y_81) hv_93 hb39 hy_81) hl.1 q625 q626 q627 q5 q628 ⟨by decide, by decide, by show _ = some 1; decide +kernel⟩ ⟨Nat.le_of_ble_eq_true rfl, Nat.le_of_ble_eq_true rfl⟩ ⟨Nat.le_of_ble_eq_true rfl, Nat.le_of_ble_eq_true rfl⟩ rfl (Nat.le_of_ble_eq_true rfl) d_Machine_foldStates_25 hP hD hS hA 8 4 rfl rfl rfl [8, 9, 10, 11] [0, 1, 2, 3, 4, 5, 6, 7, 12] rfl rfl rfl rfl (by decide) (fun v w1 H locs hw_95 hP hD hS => ?_)
      obtain ⟨x_96, f_97, rfl, rfl, hx_96, hf_97, hfx_98⟩ := hw_95
      have hP : va_P G.1 classes [(b0, .inr (5, [.int b3, .int y_79, .ref b5, .ref b6, .ref b7, .ref b8, .ref b9, .ref b10, .int b11, .ref b12, .ref b13, .ref b14, .ref b15, .ref b16, .ref b17])), (b5, .inl (G.2 0, 241, .inl y_82)), (b6, .inl (G.2 0, 241, .inl y_83)), (b7, .inl (G.2 0, 241, .inl y_84)), (b8, .inl (G.2 0, 241, .inl y_85)), (b9, .inl (G.2 0, 241, .inl y_86)), (b1, .inr (3, [.int b24, .int b25, .int b26, .ref b27, .ref b28, .ref b29, .ref b30, .ref b31, .ref b32, .ref b33, .ref b34])), (b30, .inl (G.2 0, 241, .inl b35)), (b10, .inl (G.2 1, 4, .inr (.inl y_80))), (b2, .inr (4, [.ref b36, .ref b37, .ref b38])), (b36, .inl (G.2 0, 241, .inl b39)), (b37, .inl (G.2 0, 4820, .inl b40)), (b38, .inl (G.2 0, 512, .inl f_97))] H := hP
      have hD := z_tie hP hD rfl
      refine W.widen (k := 0) (n := 0) (Nat.le_of_ble_eq_true rfl) (Nat.le_of_ble_eq_true rfl) ?_
      refine lv_istore (lv' := [(4, .int x_96), (3, .int y_78), (0, .ref b0), (1, .ref b1), (2, .ref b2)]) hx hb d_Machine_foldStates_28 hl (by decide) rfl (fun ls hl => ?_)
      refine lv_iload hx hb d_Machine_foldStates_30 (lv_at hl 0 rfl) ?_
      refine lv_iload_n hx hb d_Machine_foldStates_32 rfl (lv_at hl 1 rfl) ?_
      refine lv_icmp_ne (tgt := 101) hx hb d_Machine_foldStates_33 (by decide) (fun hc_99 => ?_) (fun hc_99 => ?_)
      · have _nhc_99 := hc_99
        have ni_100 : ¬ (x_96 : Int32).toInt = (y_78 : Int32).toInt := fun z => hc_99 ((fa_eq _ _).mpr z)
        refine lv_aload_n hx hb d_Machine_foldStates_101 rfl (lv_at hl 2 rfl) ?_
        refine va_get (D := G.1) (ci := 5) (v := .ref b5) (C := R_Machine) (T := F_Machine) (N := 15) hx hb hts i_Machine hown hK hP 0 rfl rfl 2 (by decide) (hts _ q170) (fun _ h9 => h9) rfl d_Machine_foldStates_102 ?_
        refine lv_iload hx hb d_Machine_foldStates_105 (lv_at hl 0 rfl) ?_
        refine va_iald hx hb hK hP 1 0 rfl rfl (zI.inn hx_96 (by decide)) d_Machine_foldStates_107 ?_
        refine lv_topi (fun v_101 ev_101 => ?_)
        have hv_101 : zI v_101 0 240 := (hy_82 _).eq ev_101
        refine lv_istore (lv' := [(5, .int v_101), (4, .int x_96), (3, .int y_78), (0, .ref b0), (1, .ref b1), (2, .ref b2)]) hx hb d_Machine_foldStates_108 hl (by decide) rfl (fun ls hl => ?_)
        refine lv_aload_n hx hb d_Machine_foldStates_110 rfl (lv_at hl 3 rfl) ?_
        refine va_get (D := G.1) (ci := 5) (v := .ref b5) (C := R_Machine) (T := F_Machine) (N := 15) hx hb hts i_Machine hown hK hP 0 rfl rfl 2 (by decide) (hts _ q170) (fun _ h9 => h9) rfl d_Machine_foldStates_111 ?_
        refine lv_iload_n hx hb d_Machine_foldStates_114 rfl (lv_at hl 2 rfl) ?_
        refine lv_iload hx hb d_Machine_foldStates_115 (lv_at hl 0 rfl) ?_
        refine va_iast hx hb hK hP hD hS 1 0 rfl rfl (zI.inn hv_93 (by decide)) d_Machine_foldStates_117 (fun H locs hP hD hS => ?_)
        obtain ⟨f_102, hf_102, gf_102, uf_102, hP, hD⟩ := z_newfu 1 hP hD rfl hy_82 hv_101
        have hP : va_P G.1 classes [(b0, .inr (5, [.int b3, .int y_79, .ref b5, .ref b6, .ref b7, .ref b8, .ref b9, .ref b10, .int b11, .ref b12, .ref b13, .ref b14, .ref b15, .ref b16, .ref b17])), (b5, .inl (G.2 0, 241, .inl f_102)), (b6, .inl (G.2 0, 241, .inl y_83)), (b7, .inl (G.2 0, 241, .inl y_84)), (b8, .inl (G.2 0, 241, .inl y_85)), (b9, .inl (G.2 0, 241, .inl y_86)), (b1, .inr (3, [.int b24, .int b25, .int b26, .ref b27, .ref b28, .ref b29, .ref b30, .ref b31, .ref b32, .ref b33, .ref b34])), (b30, .inl (G.2 0, 241, .inl b35)), (b10, .inl (G.2 1, 4, .inr (.inl y_80))), (b2, .inr (4, [.ref b36, .ref b37, .ref b38])), (b36, .inl (G.2 0, 241, .inl b39)), (b37, .inl (G.2 0, 4820, .inl b40)), (b38, .inl (G.2 0, 512, .inl f_97))] H := hP
        have hD := z_tie hP hD rfl
        refine lv_aload_n hx hb d_Machine_foldStates_118 rfl (lv_at hl 3 rfl) ?_
        refine va_get (D := G.1) (ci := 5) (v := .ref b7) (C := R_Machine) (T := F_Machine) (N := 15) hx hb hts i_Machine hown hK hP 0 rfl rfl 4 (by decide) (hts _ q174) (fun _ h9 => h9) rfl d_Machine_foldStates_119 ?_
        refine lv_iload hx hb d_Machine_foldStates_122 (lv_at hl 0 rfl) ?_
        refine lv_dup2_11 hx hb d_Machine_foldStates_124 rfl rfl ?_
        refine va_iald hx hb hK hP 3 0 rfl rfl (zI.inn hv_101 (by decide)) d_Machine_foldStates_125 ?_
        refine lv_topi (fun v_103 ev_103 => ?_)
        refine lv_iconst (v := 1) hx hb d_Machine_foldStates_126 (by decide) ?_
        refine lv_iadd hx hb d_Machine_foldStates_127 ?_
        refine lv_topi (fun v_104 ev_104 => ?_)
        refine va_iast hx hb hK hP hD hS 3 0 rfl rfl (zI.inn hv_101 (by decide)) d_Machine_foldStates_128 (fun H locs hP hD hS => ?_)
        obtain ⟨f_105, gf_105, uf_105, hP, hD⟩ := z_newFu 3 hP hD rfl
        have hP : va_P G.1 classes [(b0, .inr (5, [.int b3, .int y_79, .ref b5, .ref b6, .ref b7, .ref b8, .ref b9, .ref b10, .int b11, .ref b12, .ref b13, .ref b14, .ref b15, .ref b16, .ref b17])), (b5, .inl (G.2 0, 241, .inl f_102)), (b6, .inl (G.2 0, 241, .inl y_83)), (b7, .inl (G.2 0, 241, .inl f_105)), (b8, .inl (G.2 0, 241, .inl y_85)), (b9, .inl (G.2 0, 241, .inl y_86)), (b1, .inr (3, [.int b24, .int b25, .int b26, .ref b27, .ref b28, .ref b29, .ref b30, .ref b31, .ref b32, .ref b33, .ref b34])), (b30, .inl (G.2 0, 241, .inl b35)), (b10, .inl (G.2 1, 4, .inr (.inl y_80))), (b2, .inr (4, [.ref b36, .ref b37, .ref b38])), (b36, .inl (G.2 0, 241, .inl b39)), (b37, .inl (G.2 0, 4820, .inl b40)), (b38, .inl (G.2 0, 512, .inl f_97))] H := hP
        have hD := z_tie hP hD rfl
        refine lv_aload_n hx hb d_Machine_foldStates_129 rfl (lv_at hl 3 rfl) ?_
        refine va_get (D := G.1) (ci := 5) (v := .ref b8) (C := R_Machine) (T := F_Machine) (N := 15) hx hb hts i_Machine hown hK hP 0 rfl rfl 5 (by decide) (hts _ q176) (fun _ h9 => h9) rfl d_Machine_foldStates_130 ?_
        refine lv_iload hx hb d_Machine_foldStates_133 (lv_at hl 0 rfl) ?_
        refine lv_dup2_11 hx hb d_Machine_foldStates_135 rfl rfl ?_
        refine va_iald hx hb hK hP 4 0 rfl rfl (zI.inn hv_101 (by decide)) d_Machine_foldStates_136 ?_
        refine lv_topi (fun v_106 ev_106 => ?_)
        refine lv_aload_n hx hb d_Machine_foldStates_137 rfl (lv_at hl 4 rfl) ?_
        refine va_get (D := G.1) (ci := 3) (v := .ref b30) (C := R_Tree) (T := F_Tree) (N := 11) hx hb hts i_Tree hown hK hP 6 rfl rfl 6 (by decide) (hts _ q110) (fun _ h9 => h9) rfl d_Machine_foldStates_138 ?_
        refine lv_iload_n hx hb d_Machine_foldStates_141 rfl (lv_at hl 2 rfl) ?_
        refine va_iald hx hb hK hP 7 0 rfl rfl (zI.inn hv_93 (by decide)) d_Machine_foldStates_142 ?_
        refine lv_topi (fun v_107 ev_107 => ?_)
        refine lv_iadd hx hb d_Machine_foldStates_143 ?_
        refine lv_topi (fun v_108 ev_108 => ?_)
        refine va_iast hx hb hK hP hD hS 4 0 rfl rfl (zI.inn hv_101 (by decide)) d_Machine_foldStates_144 (fun H locs hP hD hS => ?_)
        obtain ⟨f_109, gf_109, uf_109, hP, hD⟩ := z_newFu 4 hP hD rfl
        have hP : va_P G.1 classes [(b0, .inr (5, [.int b3, .int y_79, .ref b5, .ref b6, .ref b7, .ref b8, .ref b9, .ref b10, .int b11, .ref b12, .ref b13, .ref b14, .ref b15, .ref b16, .ref b17])), (b5, .inl (G.2 0, 241, .inl f_102)), (b6, .inl (G.2 0, 241, .inl y_83)), (b7, .inl (G.2 0, 241, .inl f_105)), (b8, .inl (G.2 0, 241, .inl f_109)), (b9, .inl (G.2 0, 241, .inl y_86)), (b1, .inr (3, [.int b24, .int b25, .int b26, .ref b27, .ref b28, .ref b29, .ref b30, .ref b31, .ref b32, .ref b33, .ref b34])), (b30, .inl (G.2 0, 241, .inl b35)), (b10, .inl (G.2 1, 4, .inr (.inl y_80))), (b2, .inr (4, [.ref b36, .ref b37, .ref b38])), (b36, .inl (G.2 0, 241, .inl b39)), (b37, .inl (G.2 0, 4820, .inl b40)), (b38, .inl (G.2 0, 512, .inl f_97))] H := hP
        have hD := z_tie hP hD rfl
        refine lv_aload_n hx hb d_Machine_foldStates_145 rfl (lv_at hl 4 rfl) ?_
        refine va_get (D := G.1) (ci := 3) (v := .ref b30) (C := R_Tree) (T := F_Tree) (N := 11) hx hb hts i_Tree hown hK hP 6 rfl rfl 6 (by decide) (hts _ q110) (fun _ h9 => h9) rfl d_Machine_foldStates_146 ?_
        refine lv_iload_n hx hb d_Machine_foldStates_149 rfl (lv_at hl 2 rfl) ?_
        refine va_iald hx hb hK hP 7 0 rfl rfl (zI.inn hv_93 (by decide)) d_Machine_foldStates_150 ?_
        refine lv_topi (fun v_110 ev_110 => ?_)
        obtain rfl : v_107 = v_110 := ev_107.trans ev_110.symm
        refine lv_if_le (tgt := 174) hx hb d_Machine_foldStates_151 (by decide) (fun hc_111 => ?_) (fun hc_111 => ?_)
        · have _nhc_111 := hc_111
          have ni_112 := (fa_le _ _).mp hc_111
          rw [li_0] at ni_112
          have hv_113 : zI v_107 (-2147483648) 0 := zI.le_l (zI_all v_107) zc_0 hc_111 (by decide)
          obtain ⟨v_114, ev_114⟩ : ∃ z : Int32, z = y_78 + 1 := ⟨_, rfl⟩
          obtain ⟨qv_114, hv_114⟩ := zI_add (l := 1) (h := 241) hv_93 zc_1 ev_114 (by decide)
          rw [li_1] at qv_114
          refine lv_iinc (v := v_114) (lv' := [(3, .int v_114), (5, .int v_101), (4, .int x_96), (0, .ref b0), (1, .ref b1), (2, .ref b2)]) hx hb d_Machine_foldStates_174 hl (k := 2) rfl (by rw [ev_114]; rfl) (by decide) rfl (fun ls hl => ?_)
          refine lv_goto (tgt := 15) hx hb d_Machine_foldStates_177 (by decide) ?_
          exact ihk_77 (v_114) (y_79) (y_80) (f_97) (f_102) (y_83) (f_105) (f_109) (y_86) _ _ _ (zI.wk (l' := 0) (h' := 241) hv_114 (by decide)) hy_79 hf_97 hf_102 hy_83 (by omega) (by omega) (fun pt key cc bu TT h1 h2 h3 => yFS_o2 h1 (hli_89 pt key cc bu TT h1 h2 h3) (show 0 ≤ y_79.toInt ∧ y_79.toInt ≤ 241 from ⟨by omega, by omega⟩) ⟨by omega, by omega⟩ (by omega) hy_82 hy_83 h3 hfx_98 (by omega) ev_101 uf_102 ev_103 ev_104 uf_105 ev_106 ev_107 ev_108 uf_109 (by omega)) (zm_up qv_114 hmk_77 (by decide)) (hP.sub [0, 1, 2, 3, 4, 5, 6, 7, 9, 10, 11, 12, 8] rfl) (hD.sub [0, 1, 2, 3, 4, 5, 6, 7, 9, 10, 11, 12, 8] (by decide) rfl) hS (lv_sub hl [0, 3, 4, 5] rfl)
        · have _nhc_111 := hc_111
          have ni_115 := (fa_lt _ _).mp (zi_nle hc_111)
          rw [li_0] at ni_115
          have hv_116 : zI v_107 1 2147483647 := zI.lt_r zc_0 (zI_all v_107) (zi_nle hc_111) (by decide)
          refine lv_aload_n hx hb d_Machine_foldStates_154 rfl (lv_at hl 3 rfl) ?_
          refine va_get (D := G.1) (ci := 5) (v := .ref b10) (C := R_Machine) (T := F_Machine) (N := 15) hx hb hts i_Machine hown hK hP 0 rfl rfl 7 (by decide) (hts _ q181) (fun _ h9 => h9) rfl d_Machine_foldStates_155 ?_
          refine lv_iload hx hb d_Machine_foldStates_158 (lv_at hl 0 rfl) ?_
          refine lv_bipush (v := 6) hx hb d_Machine_foldStates_160 (by decide) ?_
          refine lv_ishr hx hb d_Machine_foldStates_162 ?_
          refine lv_topi (fun v_117 ev_117 => ?_)
          obtain ⟨qv_117, hv_117⟩ := zI_shr (l := 0) (h := 3) (k := 6) hv_101 (by decide +kernel) ev_117 (by decide)
          refine lv_dup2_11 hx hb d_Machine_foldStates_163 rfl rfl ?_
          refine va_lald hx hb hK hP 8 1 rfl rfl (zI.inn hv_117 (by decide)) d_Machine_foldStates_164 ?_
          refine lv_topl (fun v_118 ev_118 => ?_)
          refine lv_lconst (v := 1) hx hb d_Machine_foldStates_165 (by decide) ?_
          refine lv_iload hx hb d_Machine_foldStates_166 (lv_at hl 0 rfl) ?_
          refine lv_bipush (v := 63) hx hb d_Machine_foldStates_168 (by decide) ?_
          refine lv_iand hx hb d_Machine_foldStates_170 ?_
          refine lv_topi (fun v_119 ev_119 => ?_)
          have hv_119 := zI_and (k := 6) (h := 63) (by decide +kernel) ev_119 (by decide)
          obtain ⟨v_120, ev_120⟩ : ∃ z : Int64, z = 1 <<< ((v_119 : Int32).toInt64 &&& 63) := ⟨_, rfl⟩
          refine lv_lshl (v := v_120) hx hb d_Machine_foldStates_171 ev_120.symm ?_
          refine lv_lor hx hb d_Machine_foldStates_172 ?_
          refine lv_topl (fun v_121 ev_121 => ?_)
          refine va_last hx hb hK hP hD hS 8 1 rfl rfl (zI.inn hv_117 (by decide)) d_Machine_foldStates_173 (fun H locs hP hD hS => ?_)
          obtain ⟨f_122, hP, hD⟩ := z_newL 8 hP hD rfl
          have hP : va_P G.1 classes [(b0, .inr (5, [.int b3, .int y_79, .ref b5, .ref b6, .ref b7, .ref b8, .ref b9, .ref b10, .int b11, .ref b12, .ref b13, .ref b14, .ref b15, .ref b16, .ref b17])), (b5, .inl (G.2 0, 241, .inl f_102)), (b6, .inl (G.2 0, 241, .inl y_83)), (b7, .inl (G.2 0, 241, .inl f_105)), (b8, .inl (G.2 0, 241, .inl f_109)), (b9, .inl (G.2 0, 241, .inl y_86)), (b1, .inr (3, [.int b24, .int b25, .int b26, .ref b27, .ref b28, .ref b29, .ref b30, .ref b31, .ref b32, .ref b33, .ref b34])), (b30, .inl (G.2 0, 241, .inl b35)), (b10, .inl (G.2 1, 4, .inr (.inl f_122))), (b2, .inr (4, [.ref b36, .ref b37, .ref b38])), (b36, .inl (G.2 0, 241, .inl b39)), (b37, .inl (G.2 0, 4820, .inl b40)), (b38, .inl (G.2 0, 512, .inl f_97))] H := hP
          have hD := z_tie hP hD rfl
          obtain ⟨v_123, ev_123⟩ : ∃ z : Int32, z = y_78 + 1 := ⟨_, rfl⟩
          obtain ⟨qv_123, hv_123⟩ := zI_add (l := 1) (h := 241) hv_93 zc_1 ev_123 (by decide)
          rw [li_1] at qv_123
          refine lv_iinc (v := v_123) (lv' := [(3, .int v_123), (5, .int v_101), (4, .int x_96), (0, .ref b0), (1, .ref b1), (2, .ref b2)]) hx hb d_Machine_foldStates_174 hl (k := 2) rfl (by rw [ev_123]; rfl) (by decide) rfl (fun ls hl => ?_)
          refine lv_goto (tgt := 15) hx hb d_Machine_foldStates_177 (by decide) ?_
          exact ihk_77 (v_123) (y_79) (f_122) (f_97) (f_102) (y_83) (f_105) (f_109) (y_86) _ _ _ (zI.wk (l' := 0) (h' := 241) hv_123 (by decide)) hy_79 hf_97 hf_102 hy_83 (by omega) (by omega) (fun pt key cc bu TT h1 h2 h3 => yFS_o2 h1 (hli_89 pt key cc bu TT h1 h2 h3) (show 0 ≤ y_79.toInt ∧ y_79.toInt ≤ 241 from ⟨by omega, by omega⟩) ⟨by omega, by omega⟩ (by omega) hy_82 hy_83 h3 hfx_98 (by omega) ev_101 uf_102 ev_103 ev_104 uf_105 ev_106 ev_107 ev_108 uf_109 (by omega)) (zm_up qv_123 hmk_77 (by decide)) (hP.sub [0, 1, 2, 3, 4, 5, 6, 7, 9, 10, 11, 12, 8] rfl) (hD.sub [0, 1, 2, 3, 4, 5, 6, 7, 9, 10, 11, 12, 8] (by decide) rfl) hS (lv_sub hl [0, 3, 4, 5] rfl)
      · have _nhc_99 := hc_99
        have ni_124 := (fa_eq _ _).mp hc_99
        refine lv_aload_n hx hb d_Machine_foldStates_36 rfl (lv_at hl 2 rfl) ?_
        refine va_get (D := G.1) (ci := 5) (v := .ref b5) (C := R_Machine) (T := F_Machine) (N := 15) hx hb hts i_Machine hown hK hP 0 rfl rfl 2 (by decide) (hts _ q170) (fun _ h9 => h9) rfl d_Machine_foldStates_37 ?_
        refine lv_iload_n hx hb d_Machine_foldStates_40 rfl (lv_at hl 1 rfl) ?_
        refine lv_aload_n hx hb d_Machine_foldStates_41 rfl (lv_at hl 2 rfl) ?_
        refine va_get (D := G.1) (ci := 5) (v := .int y_79) (C := R_Machine) (T := F_Machine) (N := 15) hx hb hts i_Machine hown hK hP 0 rfl rfl 1 (by decide) (hts _ q168) (fun _ h9 => h9) rfl d_Machine_foldStates_42 ?_
        have hv_125 : zI y_79 0 240 := ⟨by omega, by omega⟩
        refine va_iast hx hb hK hP hD hS 1 0 rfl rfl (zI.inn hv_93 (by decide)) d_Machine_foldStates_45 (fun H locs hP hD hS => ?_)
        obtain ⟨f_126, hf_126, gf_126, uf_126, hP, hD⟩ := z_newfu 1 hP hD rfl hy_82 hv_125
        have hP : va_P G.1 classes [(b0, .inr (5, [.int b3, .int y_79, .ref b5, .ref b6, .ref b7, .ref b8, .ref b9, .ref b10, .int b11, .ref b12, .ref b13, .ref b14, .ref b15, .ref b16, .ref b17])), (b5, .inl (G.2 0, 241, .inl f_126)), (b6, .inl (G.2 0, 241, .inl y_83)), (b7, .inl (G.2 0, 241, .inl y_84)), (b8, .inl (G.2 0, 241, .inl y_85)), (b9, .inl (G.2 0, 241, .inl y_86)), (b1, .inr (3, [.int b24, .int b25, .int b26, .ref b27, .ref b28, .ref b29, .ref b30, .ref b31, .ref b32, .ref b33, .ref b34])), (b30, .inl (G.2 0, 241, .inl b35)), (b10, .inl (G.2 1, 4, .inr (.inl y_80))), (b2, .inr (4, [.ref b36, .ref b37, .ref b38])), (b36, .inl (G.2 0, 241, .inl b39)), (b37, .inl (G.2 0, 4820, .inl b40)), (b38, .inl (G.2 0, 512, .inl f_97))] H := hP
        have hD := z_tie hP hD rfl
        refine lv_aload_n hx hb d_Machine_foldStates_46 rfl (lv_at hl 2 rfl) ?_
        refine va_get (D := G.1) (ci := 5) (v := .ref b6) (C := R_Machine) (T := F_Machine) (N := 15) hx hb hts i_Machine hown hK hP 0 rfl rfl 3 (by decide) (hts _ q172) (fun _ h9 => h9) rfl d_Machine_foldStates_47 ?_
        refine lv_aload_n hx hb d_Machine_foldStates_50 rfl (lv_at hl 2 rfl) ?_
        refine va_get (D := G.1) (ci := 5) (v := .int y_79) (C := R_Machine) (T := F_Machine) (N := 15) hx hb hts i_Machine hown hK hP 0 rfl rfl 1 (by decide) (hts _ q168) (fun _ h9 => h9) rfl d_Machine_foldStates_51 ?_
        refine lv_iload_n hx hb d_Machine_foldStates_54 rfl (lv_at hl 1 rfl) ?_
        refine va_iast hx hb hK hP hD hS 2 0 rfl rfl (zI.inn hv_125 (by decide)) d_Machine_foldStates_55 (fun H locs hP hD hS => ?_)
        obtain ⟨f_127, hf_127, gf_127, uf_127, hP, hD⟩ := z_newfu 2 hP hD rfl hy_83 hv_93
        have hP : va_P G.1 classes [(b0, .inr (5, [.int b3, .int y_79, .ref b5, .ref b6, .ref b7, .ref b8, .ref b9, .ref b10, .int b11, .ref b12, .ref b13, .ref b14, .ref b15, .ref b16, .ref b17])), (b5, .inl (G.2 0, 241, .inl f_126)), (b6, .inl (G.2 0, 241, .inl f_127)), (b7, .inl (G.2 0, 241, .inl y_84)), (b8, .inl (G.2 0, 241, .inl y_85)), (b9, .inl (G.2 0, 241, .inl y_86)), (b1, .inr (3, [.int b24, .int b25, .int b26, .ref b27, .ref b28, .ref b29, .ref b30, .ref b31, .ref b32, .ref b33, .ref b34])), (b30, .inl (G.2 0, 241, .inl b35)), (b10, .inl (G.2 1, 4, .inr (.inl y_80))), (b2, .inr (4, [.ref b36, .ref b37, .ref b38])), (b36, .inl (G.2 0, 241, .inl b39)), (b37, .inl (G.2 0, 4820, .inl b40)), (b38, .inl (G.2 0, 512, .inl f_97))] H := hP
        have hD := z_tie hP hD rfl
        refine lv_aload_n hx hb d_Machine_foldStates_56 rfl (lv_at hl 2 rfl) ?_
        refine va_get (D := G.1) (ci := 5) (v := .ref b7) (C := R_Machine) (T := F_Machine) (N := 15) hx hb hts i_Machine hown hK hP 0 rfl rfl 4 (by decide) (hts _ q174) (fun _ h9 => h9) rfl d_Machine_foldStates_57 ?_
        refine lv_aload_n hx hb d_Machine_foldStates_60 rfl (lv_at hl 2 rfl) ?_
        refine va_get (D := G.1) (ci := 5) (v := .int y_79) (C := R_Machine) (T := F_Machine) (N := 15) hx hb hts i_Machine hown hK hP 0 rfl rfl 1 (by decide) (hts _ q168) (fun _ h9 => h9) rfl d_Machine_foldStates_61 ?_
        refine lv_iconst (v := 0) hx hb d_Machine_foldStates_64 (by decide) ?_
        refine va_iast hx hb hK hP hD hS 3 0 rfl rfl (zI.inn hv_125 (by decide)) d_Machine_foldStates_65 (fun H locs hP hD hS => ?_)
        obtain ⟨f_128, gf_128, uf_128, hP, hD⟩ := z_newFu 3 hP hD rfl
        have hP : va_P G.1 classes [(b0, .inr (5, [.int b3, .int y_79, .ref b5, .ref b6, .ref b7, .ref b8, .ref b9, .ref b10, .int b11, .ref b12, .ref b13, .ref b14, .ref b15, .ref b16, .ref b17])), (b5, .inl (G.2 0, 241, .inl f_126)), (b6, .inl (G.2 0, 241, .inl f_127)), (b7, .inl (G.2 0, 241, .inl f_128)), (b8, .inl (G.2 0, 241, .inl y_85)), (b9, .inl (G.2 0, 241, .inl y_86)), (b1, .inr (3, [.int b24, .int b25, .int b26, .ref b27, .ref b28, .ref b29, .ref b30, .ref b31, .ref b32, .ref b33, .ref b34])), (b30, .inl (G.2 0, 241, .inl b35)), (b10, .inl (G.2 1, 4, .inr (.inl y_80))), (b2, .inr (4, [.ref b36, .ref b37, .ref b38])), (b36, .inl (G.2 0, 241, .inl b39)), (b37, .inl (G.2 0, 4820, .inl b40)), (b38, .inl (G.2 0, 512, .inl f_97))] H := hP
        have hD := z_tie hP hD rfl
        refine lv_aload_n hx hb d_Machine_foldStates_66 rfl (lv_at hl 2 rfl) ?_
        refine va_get (D := G.1) (ci := 5) (v := .ref b8) (C := R_Machine) (T := F_Machine) (N := 15) hx hb hts i_Machine hown hK hP 0 rfl rfl 5 (by decide) (hts _ q176) (fun _ h9 => h9) rfl d_Machine_foldStates_67 ?_
        refine lv_aload_n hx hb d_Machine_foldStates_70 rfl (lv_at hl 2 rfl) ?_
        refine va_get (D := G.1) (ci := 5) (v := .int y_79) (C := R_Machine) (T := F_Machine) (N := 15) hx hb hts i_Machine hown hK hP 0 rfl rfl 1 (by decide) (hts _ q168) (fun _ h9 => h9) rfl d_Machine_foldStates_71 ?_
        refine lv_iconst (v := 0) hx hb d_Machine_foldStates_74 (by decide) ?_
        refine va_iast hx hb hK hP hD hS 4 0 rfl rfl (zI.inn hv_125 (by decide)) d_Machine_foldStates_75 (fun H locs hP hD hS => ?_)
        obtain ⟨f_129, gf_129, uf_129, hP, hD⟩ := z_newFu 4 hP hD rfl
        have hP : va_P G.1 classes [(b0, .inr (5, [.int b3, .int y_79, .ref b5, .ref b6, .ref b7, .ref b8, .ref b9, .ref b10, .int b11, .ref b12, .ref b13, .ref b14, .ref b15, .ref b16, .ref b17])), (b5, .inl (G.2 0, 241, .inl f_126)), (b6, .inl (G.2 0, 241, .inl f_127)), (b7, .inl (G.2 0, 241, .inl f_128)), (b8, .inl (G.2 0, 241, .inl f_129)), (b9, .inl (G.2 0, 241, .inl y_86)), (b1, .inr (3, [.int b24, .int b25, .int b26, .ref b27, .ref b28, .ref b29, .ref b30, .ref b31, .ref b32, .ref b33, .ref b34])), (b30, .inl (G.2 0, 241, .inl b35)), (b10, .inl (G.2 1, 4, .inr (.inl y_80))), (b2, .inr (4, [.ref b36, .ref b37, .ref b38])), (b36, .inl (G.2 0, 241, .inl b39)), (b37, .inl (G.2 0, 4820, .inl b40)), (b38, .inl (G.2 0, 512, .inl f_97))] H := hP
        have hD := z_tie hP hD rfl
        refine lv_aload_n hx hb d_Machine_foldStates_76 rfl (lv_at hl 2 rfl) ?_
        refine va_get (D := G.1) (ci := 5) (v := .ref b9) (C := R_Machine) (T := F_Machine) (N := 15) hx hb hts i_Machine hown hK hP 0 rfl rfl 6 (by decide) (hts _ q179) (fun _ h9 => h9) rfl d_Machine_foldStates_77 ?_
        refine lv_aload_n hx hb d_Machine_foldStates_80 rfl (lv_at hl 2 rfl) ?_
        refine va_get (D := G.1) (ci := 5) (v := .int y_79) (C := R_Machine) (T := F_Machine) (N := 15) hx hb hts i_Machine hown hK hP 0 rfl rfl 1 (by decide) (hts _ q168) (fun _ h9 => h9) rfl d_Machine_foldStates_81 ?_
        refine lv_aload_n hx hb d_Machine_foldStates_84 rfl (lv_at hl 4 rfl) ?_
        refine va_get (D := G.1) (ci := 4) (v := .ref b36) (C := R_Follows) (T := F_Follows) (N := 3) hx hb hts i_Follows hown hK hP 9 rfl rfl 0 (by decide) (hts _ q147) (fun _ h9 => h9) rfl d_Machine_foldStates_85 ?_
        refine lv_iload_n hx hb d_Machine_foldStates_88 rfl (lv_at hl 1 rfl) ?_
        refine va_iald hx hb hK hP 10 0 rfl rfl (zI.inn hv_93 (by decide)) d_Machine_foldStates_89 ?_
        refine lv_topi (fun v_130 ev_130 => ?_)
        obtain ⟨hv_130, kv_130⟩ := zQC.ld hb39 hv_93 ev_130 (by decide)
        refine va_iast hx hb hK hP hD hS 5 0 rfl rfl (zI.inn hv_125 (by decide)) d_Machine_foldStates_90 (fun H locs hP hD hS => ?_)
        obtain ⟨f_131, gf_131, uf_131, hP, hD⟩ := z_newFu 5 hP hD rfl
        have hP : va_P G.1 classes [(b0, .inr (5, [.int b3, .int y_79, .ref b5, .ref b6, .ref b7, .ref b8, .ref b9, .ref b10, .int b11, .ref b12, .ref b13, .ref b14, .ref b15, .ref b16, .ref b17])), (b5, .inl (G.2 0, 241, .inl f_126)), (b6, .inl (G.2 0, 241, .inl f_127)), (b7, .inl (G.2 0, 241, .inl f_128)), (b8, .inl (G.2 0, 241, .inl f_129)), (b9, .inl (G.2 0, 241, .inl f_131)), (b1, .inr (3, [.int b24, .int b25, .int b26, .ref b27, .ref b28, .ref b29, .ref b30, .ref b31, .ref b32, .ref b33, .ref b34])), (b30, .inl (G.2 0, 241, .inl b35)), (b10, .inl (G.2 1, 4, .inr (.inl y_80))), (b2, .inr (4, [.ref b36, .ref b37, .ref b38])), (b36, .inl (G.2 0, 241, .inl b39)), (b37, .inl (G.2 0, 4820, .inl b40)), (b38, .inl (G.2 0, 512, .inl f_97))] H := hP
        have hD := z_tie hP hD rfl
        refine lv_aload_n hx hb d_Machine_foldStates_91 rfl (lv_at hl 2 rfl) ?_
        refine lv_dup hx hb d_Machine_foldStates_92 rfl ?_
        refine va_get (D := G.1) (ci := 5) (v := .int y_79) (C := R_Machine) (T := F_Machine) (N := 15) hx hb hts i_Machine hown hK hP 0 rfl rfl 1 (by decide) (hts _ q168) (fun _ h9 => h9) rfl d_Machine_foldStates_93 ?_
        refine lv_iconst (v := 1) hx hb d_Machine_foldStates_96 (by decide) ?_
        refine lv_iadd hx hb d_Machine_foldStates_97 ?_
        refine lv_topi (fun v_132 ev_132 => ?_)
        obtain ⟨qv_132, hv_132⟩ := zI_add (l := 1) (h := 241) hv_125 zc_1 ev_132 (by decide)
        rw [li_1] at qv_132
        refine va_put (D := G.1) (ci := 5) (v := .int v_132) (ty := .int) (C := R_Machine) (T := F_Machine) (N := 15) hx hb hts i_Machine t_Machine t_Machine_ok n_Machine hown hK hP hD hS 0 rfl rfl 1 (by decide) (hts _ q168) (fun _ h9 => h9) rfl (by decide +kernel) rfl rfl (Nat.le_of_ble_eq_true rfl) d_Machine_foldStates_98 (fun H locs hP hD hS => ?_)
        have hP : va_P G.1 classes [(b0, .inr (5, [.int b3, .int v_132, .ref b5, .ref b6, .ref b7, .ref b8, .ref b9, .ref b10, .int b11, .ref b12, .ref b13, .ref b14, .ref b15, .ref b16, .ref b17])), (b5, .inl (G.2 0, 241, .inl f_126)), (b6, .inl (G.2 0, 241, .inl f_127)), (b7, .inl (G.2 0, 241, .inl f_128)), (b8, .inl (G.2 0, 241, .inl f_129)), (b9, .inl (G.2 0, 241, .inl f_131)), (b1, .inr (3, [.int b24, .int b25, .int b26, .ref b27, .ref b28, .ref b29, .ref b30, .ref b31, .ref b32, .ref b33, .ref b34])), (b30, .inl (G.2 0, 241, .inl b35)), (b10, .inl (G.2 1, 4, .inr (.inl y_80))), (b2, .inr (4, [.ref b36, .ref b37, .ref b38])), (b36, .inl (G.2 0, 241, .inl b39)), (b37, .inl (G.2 0, 4820, .inl b40)), (b38, .inl (G.2 0, 512, .inl f_97))] H := hP
        have hD := z_tie hP hD rfl
        refine lv_aload_n hx hb d_Machine_foldStates_101 rfl (lv_at hl 2 rfl) ?_
        refine va_get (D := G.1) (ci := 5) (v := .ref b5) (C := R_Machine) (T := F_Machine) (N := 15) hx hb hts i_Machine hown hK hP 0 rfl rfl 2 (by decide) (hts _ q170) (fun _ h9 => h9) rfl d_Machine_foldStates_102 ?_
        refine lv_iload hx hb d_Machine_foldStates_105 (lv_at hl 0 rfl) ?_
        refine va_iald hx hb hK hP 1 0 rfl rfl (zI.inn hx_96 (by decide)) d_Machine_foldStates_107 ?_
        refine lv_topi (fun v_133 ev_133 => ?_)
        have hv_133 : zI v_133 0 240 := (hf_126 _).eq ev_133
        refine lv_istore (lv' := [(5, .int v_133), (4, .int x_96), (3, .int y_78), (0, .ref b0), (1, .ref b1), (2, .ref b2)]) hx hb d_Machine_foldStates_108 hl (by decide) rfl (fun ls hl => ?_)
        refine lv_aload_n hx hb d_Machine_foldStates_110 rfl (lv_at hl 3 rfl) ?_
        refine va_get (D := G.1) (ci := 5) (v := .ref b5) (C := R_Machine) (T := F_Machine) (N := 15) hx hb hts i_Machine hown hK hP 0 rfl rfl 2 (by decide) (hts _ q170) (fun _ h9 => h9) rfl d_Machine_foldStates_111 ?_
        refine lv_iload_n hx hb d_Machine_foldStates_114 rfl (lv_at hl 2 rfl) ?_
        refine lv_iload hx hb d_Machine_foldStates_115 (lv_at hl 0 rfl) ?_
        refine va_iast hx hb hK hP hD hS 1 0 rfl rfl (zI.inn hv_93 (by decide)) d_Machine_foldStates_117 (fun H locs hP hD hS => ?_)
        obtain ⟨f_134, hf_134, gf_134, uf_134, hP, hD⟩ := z_newfu 1 hP hD rfl hf_126 hv_133
        have hP : va_P G.1 classes [(b0, .inr (5, [.int b3, .int v_132, .ref b5, .ref b6, .ref b7, .ref b8, .ref b9, .ref b10, .int b11, .ref b12, .ref b13, .ref b14, .ref b15, .ref b16, .ref b17])), (b5, .inl (G.2 0, 241, .inl f_134)), (b6, .inl (G.2 0, 241, .inl f_127)), (b7, .inl (G.2 0, 241, .inl f_128)), (b8, .inl (G.2 0, 241, .inl f_129)), (b9, .inl (G.2 0, 241, .inl f_131)), (b1, .inr (3, [.int b24, .int b25, .int b26, .ref b27, .ref b28, .ref b29, .ref b30, .ref b31, .ref b32, .ref b33, .ref b34])), (b30, .inl (G.2 0, 241, .inl b35)), (b10, .inl (G.2 1, 4, .inr (.inl y_80))), (b2, .inr (4, [.ref b36, .ref b37, .ref b38])), (b36, .inl (G.2 0, 241, .inl b39)), (b37, .inl (G.2 0, 4820, .inl b40)), (b38, .inl (G.2 0, 512, .inl f_97))] H := hP
        have hD := z_tie hP hD rfl
        refine lv_aload_n hx hb d_Machine_foldStates_118 rfl (lv_at hl 3 rfl) ?_
        refine va_get (D := G.1) (ci := 5) (v := .ref b7) (C := R_Machine) (T := F_Machine) (N := 15) hx hb hts i_Machine hown hK hP 0 rfl rfl 4 (by decide) (hts _ q174) (fun _ h9 => h9) rfl d_Machine_foldStates_119 ?_
        refine lv_iload hx hb d_Machine_foldStates_122 (lv_at hl 0 rfl) ?_
        refine lv_dup2_11 hx hb d_Machine_foldStates_124 rfl rfl ?_
        refine va_iald hx hb hK hP 3 0 rfl rfl (zI.inn hv_133 (by decide)) d_Machine_foldStates_125 ?_
        refine lv_topi (fun v_135 ev_135 => ?_)
        refine lv_iconst (v := 1) hx hb d_Machine_foldStates_126 (by decide) ?_
        refine lv_iadd hx hb d_Machine_foldStates_127 ?_
        refine lv_topi (fun v_136 ev_136 => ?_)
        refine va_iast hx hb hK hP hD hS 3 0 rfl rfl (zI.inn hv_133 (by decide)) d_Machine_foldStates_128 (fun H locs hP hD hS => ?_)
        obtain ⟨f_137, gf_137, uf_137, hP, hD⟩ := z_newFu 3 hP hD rfl
        have hP : va_P G.1 classes [(b0, .inr (5, [.int b3, .int v_132, .ref b5, .ref b6, .ref b7, .ref b8, .ref b9, .ref b10, .int b11, .ref b12, .ref b13, .ref b14, .ref b15, .ref b16, .ref b17])), (b5, .inl (G.2 0, 241, .inl f_134)), (b6, .inl (G.2 0, 241, .inl f_127)), (b7, .inl (G.2 0, 241, .inl f_137)), (b8, .inl (G.2 0, 241, .inl f_129)), (b9, .inl (G.2 0, 241, .inl f_131)), (b1, .inr (3, [.int b24, .int b25, .int b26, .ref b27, .ref b28, .ref b29, .ref b30, .ref b31, .ref b32, .ref b33, .ref b34])), (b30, .inl (G.2 0, 241, .inl b35)), (b10, .inl (G.2 1, 4, .inr (.inl y_80))), (b2, .inr (4, [.ref b36, .ref b37, .ref b38])), (b36, .inl (G.2 0, 241, .inl b39)), (b37, .inl (G.2 0, 4820, .inl b40)), (b38, .inl (G.2 0, 512, .inl f_97))] H := hP
        have hD := z_tie hP hD rfl
        refine lv_aload_n hx hb d_Machine_foldStates_129 rfl (lv_at hl 3 rfl) ?_
        refine va_get (D := G.1) (ci := 5) (v := .ref b8) (C := R_Machine) (T := F_Machine) (N := 15) hx hb hts i_Machine hown hK hP 0 rfl rfl 5 (by decide) (hts _ q176) (fun _ h9 => h9) rfl d_Machine_foldStates_130 ?_
        refine lv_iload hx hb d_Machine_foldStates_133 (lv_at hl 0 rfl) ?_
        refine lv_dup2_11 hx hb d_Machine_foldStates_135 rfl rfl ?_
        refine va_iald hx hb hK hP 4 0 rfl rfl (zI.inn hv_133 (by decide)) d_Machine_foldStates_136 ?_
        refine lv_topi (fun v_138 ev_138 => ?_)
        refine lv_aload_n hx hb d_Machine_foldStates_137 rfl (lv_at hl 4 rfl) ?_
        refine va_get (D := G.1) (ci := 3) (v := .ref b30) (C := R_Tree) (T := F_Tree) (N := 11) hx hb hts i_Tree hown hK hP 6 rfl rfl 6 (by decide) (hts _ q110) (fun _ h9 => h9) rfl d_Machine_foldStates_138 ?_
        refine lv_iload_n hx hb d_Machine_foldStates_141 rfl (lv_at hl 2 rfl) ?_
        refine va_iald hx hb hK hP 7 0 rfl rfl (zI.inn hv_93 (by decide)) d_Machine_foldStates_142 ?_
        refine lv_topi (fun v_139 ev_139 => ?_)
        refine lv_iadd hx hb d_Machine_foldStates_143 ?_
        refine lv_topi (fun v_140 ev_140 => ?_)
        refine va_iast hx hb hK hP hD hS 4 0 rfl rfl (zI.inn hv_133 (by decide)) d_Machine_foldStates_144 (fun H locs hP hD hS => ?_)
        obtain ⟨f_141, gf_141, uf_141, hP, hD⟩ := z_newFu 4 hP hD rfl
        have hP : va_P G.1 classes [(b0, .inr (5, [.int b3, .int v_132, .ref b5, .ref b6, .ref b7, .ref b8, .ref b9, .ref b10, .int b11, .ref b12, .ref b13, .ref b14, .ref b15, .ref b16, .ref b17])), (b5, .inl (G.2 0, 241, .inl f_134)), (b6, .inl (G.2 0, 241, .inl f_127)), (b7, .inl (G.2 0, 241, .inl f_137)), (b8, .inl (G.2 0, 241, .inl f_141)), (b9, .inl (G.2 0, 241, .inl f_131)), (b1, .inr (3, [.int b24, .int b25, .int b26, .ref b27, .ref b28, .ref b29, .ref b30, .ref b31, .ref b32, .ref b33, .ref b34])), (b30, .inl (G.2 0, 241, .inl b35)), (b10, .inl (G.2 1, 4, .inr (.inl y_80))), (b2, .inr (4, [.ref b36, .ref b37, .ref b38])), (b36, .inl (G.2 0, 241, .inl b39)), (b37, .inl (G.2 0, 4820, .inl b40)), (b38, .inl (G.2 0, 512, .inl f_97))] H := hP
        have hD := z_tie hP hD rfl
        refine lv_aload_n hx hb d_Machine_foldStates_145 rfl (lv_at hl 4 rfl) ?_
        refine va_get (D := G.1) (ci := 3) (v := .ref b30) (C := R_Tree) (T := F_Tree) (N := 11) hx hb hts i_Tree hown hK hP 6 rfl rfl 6 (by decide) (hts _ q110) (fun _ h9 => h9) rfl d_Machine_foldStates_146 ?_
        refine lv_iload_n hx hb d_Machine_foldStates_149 rfl (lv_at hl 2 rfl) ?_
        refine va_iald hx hb hK hP 7 0 rfl rfl (zI.inn hv_93 (by decide)) d_Machine_foldStates_150 ?_
        refine lv_topi (fun v_142 ev_142 => ?_)
        obtain rfl : v_139 = v_142 := ev_139.trans ev_142.symm
        refine lv_if_le (tgt := 174) hx hb d_Machine_foldStates_151 (by decide) (fun hc_143 => ?_) (fun hc_143 => ?_)
        · have _nhc_143 := hc_143
          have ni_144 := (fa_le _ _).mp hc_143
          rw [li_0] at ni_144
          have hv_145 : zI v_139 (-2147483648) 0 := zI.le_l (zI_all v_139) zc_0 hc_143 (by decide)
          obtain ⟨v_146, ev_146⟩ : ∃ z : Int32, z = y_78 + 1 := ⟨_, rfl⟩
          obtain ⟨qv_146, hv_146⟩ := zI_add (l := 1) (h := 241) hv_93 zc_1 ev_146 (by decide)
          rw [li_1] at qv_146
          refine lv_iinc (v := v_146) (lv' := [(3, .int v_146), (5, .int v_133), (4, .int x_96), (0, .ref b0), (1, .ref b1), (2, .ref b2)]) hx hb d_Machine_foldStates_174 hl (k := 2) rfl (by rw [ev_146]; rfl) (by decide) rfl (fun ls hl => ?_)
          refine lv_goto (tgt := 15) hx hb d_Machine_foldStates_177 (by decide) ?_
          exact ihk_77 (v_146) (v_132) (y_80) (f_97) (f_134) (f_127) (f_137) (f_141) (f_131) _ _ _ (zI.wk (l' := 0) (h' := 241) hv_146 (by decide)) (zI.wk (l' := 0) (h' := 241) hv_132 (by decide)) hf_97 hf_134 hf_127 (by omega) (by omega) (fun pt key cc bu TT h1 h2 h3 => yFS_n2 h1 (hli_89 pt key cc bu TT h1 h2 h3) (show 0 ≤ y_79.toInt ∧ y_79.toInt ≤ 240 from ⟨by omega, by omega⟩) ⟨by omega, by omega⟩ (by omega) hy_82 hy_83 h3 hfx_98 (by omega) uf_126 uf_127 uf_128 uf_129 ev_130 uf_131 (by omega) ev_133 uf_134 ev_135 ev_136 uf_137 ev_138 ev_139 ev_140 uf_141 (by omega)) (zm_up qv_146 hmk_77 (by decide)) (hP.sub [0, 1, 2, 3, 4, 5, 6, 7, 9, 10, 11, 12, 8] rfl) (hD.sub [0, 1, 2, 3, 4, 5, 6, 7, 9, 10, 11, 12, 8] (by decide) rfl) hS (lv_sub hl [0, 3, 4, 5] rfl)
        · have _nhc_143 := hc_143
          have ni_147 := (fa_lt _ _).mp (zi_nle hc_143)
          rw [li_0] at ni_147
          have hv_148 : zI v_139 1 2147483647 := zI.lt_r zc_0 (zI_all v_139) (zi_nle hc_143) (by decide)
          refine lv_aload_n hx hb d_Machine_foldStates_154 rfl (lv_at hl 3 rfl) ?_
          refine va_get (D := G.1) (ci := 5) (v := .ref b10) (C := R_Machine) (T := F_Machine) (N := 15) hx hb hts i_Machine hown hK hP 0 rfl rfl 7 (by decide) (hts _ q181) (fun _ h9 => h9) rfl d_Machine_foldStates_155 ?_
          refine lv_iload hx hb d_Machine_foldStates_158 (lv_at hl 0 rfl) ?_
          refine lv_bipush (v := 6) hx hb d_Machine_foldStates_160 (by decide) ?_
          refine lv_ishr hx hb d_Machine_foldStates_162 ?_
          refine lv_topi (fun v_149 ev_149 => ?_)
          obtain ⟨qv_149, hv_149⟩ := zI_shr (l := 0) (h := 3) (k := 6) hv_133 (by decide +kernel) ev_149 (by decide)
          refine lv_dup2_11 hx hb d_Machine_foldStates_163 rfl rfl ?_
          refine va_lald hx hb hK hP 8 1 rfl rfl (zI.inn hv_149 (by decide)) d_Machine_foldStates_164 ?_
          refine lv_topl (fun v_150 ev_150 => ?_)
          refine lv_lconst (v := 1) hx hb d_Machine_foldStates_165 (by decide) ?_
          refine lv_iload hx hb d_Machine_foldStates_166 (lv_at hl 0 rfl) ?_
          refine lv_bipush (v := 63) hx hb d_Machine_foldStates_168 (by decide) ?_
          refine lv_iand hx hb d_Machine_foldStates_170 ?_
          refine lv_topi (fun v_151 ev_151 => ?_)
          have hv_151 := zI_and (k := 6) (h := 63) (by decide +kernel) ev_151 (by decide)
          obtain ⟨v_152, ev_152⟩ : ∃ z : Int64, z = 1 <<< ((v_151 : Int32).toInt64 &&& 63) := ⟨_, rfl⟩
          refine lv_lshl (v := v_152) hx hb d_Machine_foldStates_171 ev_152.symm ?_
          refine lv_lor hx hb d_Machine_foldStates_172 ?_
          refine lv_topl (fun v_153 ev_153 => ?_)
          refine va_last hx hb hK hP hD hS 8 1 rfl rfl (zI.inn hv_149 (by decide)) d_Machine_foldStates_173 (fun H locs hP hD hS => ?_)
          obtain ⟨f_154, hP, hD⟩ := z_newL 8 hP hD rfl
          have hP : va_P G.1 classes [(b0, .inr (5, [.int b3, .int v_132, .ref b5, .ref b6, .ref b7, .ref b8, .ref b9, .ref b10, .int b11, .ref b12, .ref b13, .ref b14, .ref b15, .ref b16, .ref b17])), (b5, .inl (G.2 0, 241, .inl f_134)), (b6, .inl (G.2 0, 241, .inl f_127)), (b7, .inl (G.2 0, 241, .inl f_137)), (b8, .inl (G.2 0, 241, .inl f_141)), (b9, .inl (G.2 0, 241, .inl f_131)), (b1, .inr (3, [.int b24, .int b25, .int b26, .ref b27, .ref b28, .ref b29, .ref b30, .ref b31, .ref b32, .ref b33, .ref b34])), (b30, .inl (G.2 0, 241, .inl b35)), (b10, .inl (G.2 1, 4, .inr (.inl f_154))), (b2, .inr (4, [.ref b36, .ref b37, .ref b38])), (b36, .inl (G.2 0, 241, .inl b39)), (b37, .inl (G.2 0, 4820, .inl b40)), (b38, .inl (G.2 0, 512, .inl f_97))] H := hP
          have hD := z_tie hP hD rfl
          obtain ⟨v_155, ev_155⟩ : ∃ z : Int32, z = y_78 + 1 := ⟨_, rfl⟩
          obtain ⟨qv_155, hv_155⟩ := zI_add (l := 1) (h := 241) hv_93 zc_1 ev_155 (by decide)
          rw [li_1] at qv_155
          refine lv_iinc (v := v_155) (lv' := [(3, .int v_155), (5, .int v_133), (4, .int x_96), (0, .ref b0), (1, .ref b1), (2, .ref b2)]) hx hb d_Machine_foldStates_174 hl (k := 2) rfl (by rw [ev_155]; rfl) (by decide) rfl (fun ls hl => ?_)
          refine lv_goto (tgt := 15) hx hb d_Machine_foldStates_177 (by decide) ?_
          exact ihk_77 (v_155) (v_132) (f_154) (f_97) (f_134) (f_127) (f_137) (f_141) (f_131) _ _ _ (zI.wk (l' := 0) (h' := 241) hv_155 (by decide)) (zI.wk (l' := 0) (h' := 241) hv_132 (by decide)) hf_97 hf_134 hf_127 (by omega) (by omega) (fun pt key cc bu TT h1 h2 h3 => yFS_n2 h1 (hli_89 pt key cc bu TT h1 h2 h3) (show 0 ≤ y_79.toInt ∧ y_79.toInt ≤ 240 from ⟨by omega, by omega⟩) ⟨by omega, by omega⟩ (by omega) hy_82 hy_83 h3 hfx_98 (by omega) uf_126 uf_127 uf_128 uf_129 ev_130 uf_131 (by omega) ev_133 uf_134 ev_135 ev_136 uf_137 ev_138 ev_139 ev_140 uf_141 (by omega)) (zm_up qv_155 hmk_77 (by decide)) (hP.sub [0, 1, 2, 3, 4, 5, 6, 7, 9, 10, 11, 12, 8] rfl) (hD.sub [0, 1, 2, 3, 4, 5, 6, 7, 9, 10, 11, 12, 8] (by decide) rfl) hS (lv_sub hl [0, 3, 4, 5] rfl)
abbrev m_s3_Machine_gatherKeys : Room := { frames := 1, cells := 0, slots := 0, locals := 24 }
set_option maxHeartbeats 4000000 in
set_option maxRecDepth 100000 in
theorem s3_Machine_gatherKeys (l : Launch) (G : zG) (b0 : Nat) (b1 : Nat) (b2 : Int32) (b3 : Int32) (b4 : Nat) (b5 : Nat) (b6 : Nat) (b7 : Nat) (b8 : Nat) (b9 : Nat) (b10 : Int32) (b11 : Nat) (b12 : Nat) (b13 : Nat) (b14 : Nat) (b15 : Nat) (b16 : Nat) (b17 : Nat → Int32) (b18 : Nat → Int32) (b19 : Nat → Int32) (b20 : Nat → Int32) (b21 : Nat → Int32) (b22 : Int32) (b23 : Int32) (b24 : Int32) (b25 : Nat) (b26 : Nat) (b27 : Nat) (b28 : Nat) (b29 : Nat) (b30 : Nat) (b31 : Nat) (b32 : Nat) (b33 : Nat → Int32) (b34 : Nat → Int32) (hb2 : zI b2 0 1) (hb3 : zI b3 0 241) (hb10 : zI b10 0 240) (hb22 : zI b22 0 1) (hb24 : zI b24 0 241) (hb17 : zR b17 0 240) (hb18 : zK b18) (hb33 : zR1 b33 0 240) (hb34 : zR1 b34 0 9) : zM l G y_Machine_gatherKeys prog_4_method_9_code 5 (Option.none : Option Jvm.ClassFile.FieldType) m_s3_Machine_gatherKeys [.ref b0, .ref b1] [(b0, .inr (5, [.int b2, .int b3, .ref b4, .ref b5, .ref b6, .ref b7, .ref b8, .ref b9, .int b10, .ref b11, .ref b12, .ref b13, .ref b14, .ref b15, .ref b16])), (b4, .inl (G.2 0, 241, .inl b17)), (b11, .inl (G.2 0, 240, .inl b18)), (b12, .inl (G.2 0, 240, .inl b19)), (b13, .inl (G.2 0, 240, .inl b20)), (b14, .inl (G.2 0, 240, .inl b21)), (b1, .inr (3, [.int b22, .int b23, .int b24, .ref b25, .ref b26, .ref b27, .ref b28, .ref b29, .ref b30, .ref b31, .ref b32])), (b25, .inl (G.2 0, 241, .inl b33)), (b26, .inl (G.2 0, 241, .inl b34))] (fun v w => ∃ (e0 : Int32), ∃ (e1 : Nat → Int32), ∃ (e2 : Nat → Int32), ∃ (e3 : Nat → Int32), ∃ (e4 : Nat → Int32), v = none ∧ w = [(b0, .inr (5, [.int b2, .int b3, .ref b4, .ref b5, .ref b6, .ref b7, .ref b8, .ref b9, .int e0, .ref b11, .ref b12, .ref b13, .ref b14, .ref b15, .ref b16])), (b4, .inl (G.2 0, 241, .inl b17)), (b11, .inl (G.2 0, 240, .inl e1)), (b12, .inl (G.2 0, 240, .inl e2)), (b13, .inl (G.2 0, 240, .inl e3)), (b14, .inl (G.2 0, 240, .inl e4)), (b1, .inr (3, [.int b22, .int b23, .int b24, .ref b25, .ref b26, .ref b27, .ref b28, .ref b29, .ref b30, .ref b31, .ref b32])), (b25, .inl (G.2 0, 241, .inl b33)), (b26, .inl (G.2 0, 241, .inl b34))] ∧ (zI e0 0 240) ∧ (zK e1) ∧ (zkJ b17 b33 b34 e1 (b24.toInt).toNat (e0 : Int32).toInt.toNat) ∧ (ySl (fun e9 => (e1 e9).toInt) (e0 : Int32).toInt.toNat (yKs b17 b33 b34 (b24 : Int32).toInt.toNat) ∧ yE0 e2 e3 e4 (e0 : Int32).toInt.toNat)) := by
  refine z_start (by decide +kernel) (Nat.le_of_ble_eq_true rfl) ?_
  intro p e s m below meth c A Z hr hnm hA hP hD hS ls hl
  have Z : zC p s m _ meth c prog_4_method_9_code 5 "TraceMachines$Machine" G := Z
  obtain ⟨hx, hb, hml, hown, hts, hK, hN, hlocks⟩ := id Z
  have hl : lv_has ls 5 [(0, .ref b0), (1, .ref b1)] := hl
  refine lv_aload_n hx hb d_Machine_gatherKeys_0 rfl (lv_at hl 0 rfl) ?_
  refine lv_iconst (v := 0) hx hb d_Machine_gatherKeys_1 (by decide) ?_
  refine va_put (D := G.1) (ci := 5) (v := .int 0) (ty := .int) (C := R_Machine) (T := F_Machine) (N := 15) hx hb hts i_Machine t_Machine t_Machine_ok n_Machine hown hK hP hD hS 0 rfl rfl 8 (by decide) (hts _ q184) (fun _ h9 => h9) rfl (by decide +kernel) rfl rfl (Nat.le_of_ble_eq_true rfl) d_Machine_gatherKeys_2 (fun H locs hP hD hS => ?_)
  have hP : va_P G.1 classes [(b0, .inr (5, [.int b2, .int b3, .ref b4, .ref b5, .ref b6, .ref b7, .ref b8, .ref b9, .int 0, .ref b11, .ref b12, .ref b13, .ref b14, .ref b15, .ref b16])), (b4, .inl (G.2 0, 241, .inl b17)), (b11, .inl (G.2 0, 240, .inl b18)), (b12, .inl (G.2 0, 240, .inl b19)), (b13, .inl (G.2 0, 240, .inl b20)), (b14, .inl (G.2 0, 240, .inl b21)), (b1, .inr (3, [.int b22, .int b23, .int b24, .ref b25, .ref b26, .ref b27, .ref b28, .ref b29, .ref b30, .ref b31, .ref b32])), (b25, .inl (G.2 0, 241, .inl b33)), (b26, .inl (G.2 0, 241, .inl b34))] H := hP
  have hD := z_tie hP hD rfl
  refine lv_iconst (v := 1) hx hb d_Machine_gatherKeys_5 (by decide) ?_
  refine lv_istore_n (lv' := [(2, .int 1), (0, .ref b0), (1, .ref b1)]) hx hb d_Machine_gatherKeys_6 rfl hl (by decide) rfl (fun ls hl => ?_)
  suffices key : ∀ (k_53 : Nat) (y_54 : Int32) (y_55 : Int32) (y_56 : Nat → Int32) (y_57 : Nat → Int32) (y_58 : Nat → Int32) (y_59 : Nat → Int32) (H : Heap) (locs : List Loc) (ls : Array Slot), (zI y_54 1 241) → (zI y_55 0 240) → (zK y_56) → ((y_55 : Int32).toInt ≤ (y_54 : Int32).toInt - 1) → (zkI y_56 (y_55 : Int32).toInt.toNat) → (zkJ b17 b33 b34 y_56 ((y_54 : Int32).toInt).toNat (y_55 : Int32).toInt.toNat) → ((y_54 : Int32).toInt ≤ (b24 : Int32).toInt ∨ (y_54 : Int32).toInt = 1) → (ySl (fun e9 => (y_56 e9).toInt) (y_55 : Int32).toInt.toNat (yKs b17 b33 b34 (y_54 : Int32).toInt.toNat) ∧ yE0 y_57 y_58 y_59 (y_55 : Int32).toInt.toNat) → (241 : Int) - y_54.toInt < (k_53 : Int) → va_P G.1 classes [(b0, .inr (5, [.int b2, .int b3, .ref b4, .ref b5, .ref b6, .ref b7, .ref b8, .ref b9, .int y_55, .ref b11, .ref b12, .ref b13, .ref b14, .ref b15, .ref b16])), (b4, .inl (G.2 0, 241, .inl b17)), (b11, .inl (G.2 0, 240, .inl y_56)), (b12, .inl (G.2 0, 240, .inl y_57)), (b13, .inl (G.2 0, 240, .inl y_58)), (b14, .inl (G.2 0, 240, .inl y_59)), (b1, .inr (3, [.int b22, .int b23, .int b24, .ref b25, .ref b26, .ref b27, .ref b28, .ref b29, .ref b30, .ref b31, .ref b32])), (b25, .inl (G.2 0, 241, .inl b33)), (b26, .inl (G.2 0, 241, .inl b34))] H → va_D A [(b0, .inr (5, [.int b2, .int b3, .ref b4, .ref b5, .ref b6, .ref b7, .ref b8, .ref b9, .int y_55, .ref b11, .ref b12, .ref b13, .ref b14, .ref b15, .ref b16])), (b4, .inl (G.2 0, 241, .inl b17)), (b11, .inl (G.2 0, 240, .inl y_56)), (b12, .inl (G.2 0, 240, .inl y_57)), (b13, .inl (G.2 0, 240, .inl y_58)), (b14, .inl (G.2 0, 240, .inl y_59)), (b1, .inr (3, [.int b22, .int b23, .int b24, .ref b25, .ref b26, .ref b27, .ref b28, .ref b29, .ref b30, .ref b31, .ref b32])), (b25, .inl (G.2 0, 241, .inl b33)), (b26, .inl (G.2 0, 241, .inl b34))] → va_S A s.heap H locs → lv_has ls 5 [(2, .int y_54), (0, .ref b0), (1, .ref b1)] → W p l e m_s3_Machine_gatherKeys s m ([.ref b0, .ref b1] : List Value).toArray below meth c H locs 0 0 (MQ below (zQ G (fun v w => ∃ (e0 : Int32), ∃ (e1 : Nat → Int32), ∃ (e2 : Nat → Int32), ∃ (e3 : Nat → Int32), ∃ (e4 : Nat → Int32), v = none ∧ w = [(b0, .inr (5, [.int b2, .int b3, .ref b4, .ref b5, .ref b6, .ref b7, .ref b8, .ref b9, .int e0, .ref b11, .ref b12, .ref b13, .ref b14, .ref b15, .ref b16])), (b4, .inl (G.2 0, 241, .inl b17)), (b11, .inl (G.2 0, 240, .inl e1)), (b12, .inl (G.2 0, 240, .inl e2)), (b13, .inl (G.2 0, 240, .inl e3)), (b14, .inl (G.2 0, 240, .inl e4)), (b1, .inr (3, [.int b22, .int b23, .int b24, .ref b25, .ref b26, .ref b27, .ref b28, .ref b29, .ref b30, .ref b31, .ref b32])), (b25, .inl (G.2 0, 241, .inl b33)), (b26, .inl (G.2 0, 241, .inl b34))] ∧ (zI e0 0 240) ∧ (zK e1) ∧ (zkJ b17 b33 b34 e1 (b24.toInt).toNat (e0 : Int32).toInt.toNat) ∧ (ySl (fun e9 => (e1 e9).toInt) (e0 : Int32).toInt.toNat (yKs b17 b33 b34 (b24 : Int32).toInt.toNat) ∧ yE0 e2 e3 e4 (e0 : Int32).toInt.toNat)) A) ([.ref b0, .ref b1] : List Value).toArray s m_s3_Machine_gatherKeys.cells m_s3_Machine_gatherKeys.slots A) (F0 m 7 ls []) by
    exact key 241 (1) (0) (b18) (b19) (b20) (b21) _ _ _ (zI.wk (l' := 1) (h' := 241) zc_1 (by decide)) (zI.wk (l' := 0) (h' := 240) zc_0 (by decide)) hb18 (by have _l0 := li_0; have _l1 := li_1; omega) (by have _l0 := li_0; intro j h9; omega) (by have _l0 := li_0; have _l1 := li_1; exact ⟨fun q h1 h2 => by omega, fun h1 => by omega⟩) (by have _l0 := li_1; have _l2 := li_1; omega) (by rw [show (0 : Int32).toInt.toNat = 0 by rw [li_0]; rfl, show (1 : Int32).toInt.toNat = 1 by rw [li_1]; rfl]; exact ⟨ySl_0 (fun z ⟨q, h8, h9, _⟩ => by omega), fun e he => by omega⟩) (zm_upi (zI.wk (l' := 1) (h' := 241) zc_1 (by decide)) (by decide)) hP hD hS (lv_sub hl [0, 1, 2] rfl)
  intro k_53
  induction k_53 with
  | zero =>
    intro y_54 y_55 y_56 y_57 y_58 y_59 H locs ls hy_54 hy_55 hy_56 hli_60 hli_61 hli_62 hli_63 hli_64 hmk_53 hP hD hS hl
    exact (zm_up0 hy_54 hmk_53).elim
  | succ k_53 ihk_53 =>
    intro y_54 y_55 y_56 y_57 y_58 y_59 H locs ls hy_54 hy_55 hy_56 hli_60 hli_61 hli_62 hli_63 hli_64 hmk_53 hP hD hS hl
    refine lv_iload_n hx hb d_Machine_gatherKeys_7 rfl (lv_at hl 0 rfl) ?_
    refine lv_aload_n hx hb d_Machine_gatherKeys_8 rfl (lv_at hl 2 rfl) ?_
    refine va_get (D := G.1) (ci := 3) (v := .int b24) (C := R_Tree) (T := F_Tree) (N := 11) hx hb hts i_Tree hown hK hP 6 rfl rfl 2 (by decide) (hts _ q101) (fun _ h9 => h9) rfl d_Machine_gatherKeys_9 ?_
    refine lv_icmp_ge (tgt := 128) hx hb d_Machine_gatherKeys_12 (by decide) (fun hc_65 => ?_) (fun hc_65 => ?_)
    · have _nhc_65 := hc_65
      have ni_66 := (fa_le _ _).mp hc_65
      exact z_vret hx hb hr hlocks hP hD hS (Nat.le_of_ble_eq_true rfl) (Nat.le_of_ble_eq_true rfl) d_Machine_gatherKeys_128 ⟨y_55, y_56, y_57, y_58, y_59, rfl, rfl, hy_55, hy_56, (by obtain ⟨h8, h9⟩ := hli_62; exact ⟨fun q h1 h2 => h8 q h1 (by omega), fun h1 => h9 (by omega)⟩), (by have j9 := hli_64; exact ⟨ySl_cg j9.1 (fun _ _ => rfl) (fun z => ⟨fun ⟨q, h7, h8, h9⟩ => ⟨q, h7, by omega, h9⟩, fun ⟨q, h7, h8, h9⟩ => ⟨q, h7, by omega, h9⟩⟩), j9.2⟩)⟩
    · have _nhc_65 := hc_65
      have ni_67 := (fa_lt _ _).mp (zi_nle hc_65)
      have hv_68 : zI y_54 1 240 := zI.lt_l hy_54 hb24 (zi_nle hc_65) (by decide)
      have hv_69 : zI b24 2 241 := zI.lt_r hy_54 hb24 (zi_nle hc_65) (by decide)
      refine lv_aload_n hx hb d_Machine_gatherKeys_15 rfl (lv_at hl 1 rfl) ?_
      refine lv_aload_n hx hb d_Machine_gatherKeys_16 rfl (lv_at hl 2 rfl) ?_
      refine lv_iload_n hx hb d_Machine_gatherKeys_17 rfl (lv_at hl 0 rfl) ?_
      refine z_callV (index := 106) (As := [.ref b1, .int y_54]) (rest := []) (wr := [(b11, .inl (G.2 0, 240, .inl y_56)), (b12, .inl (G.2 0, 240, .inl y_57)), (b13, .inl (G.2 0, 240, .inl y_58)), (b14, .inl (G.2 0, 240, .inl y_59))]) Z (s1_Machine_keyOf l G (b0) (b1) (y_54) (b2) (b3) (b4) (b5) (b6) (b7) (b8) (b9) (y_55) (b11) (b12) (b13) (b14) (b15) (b16) (b17) (b22) (b23) (b24) (b25) (b26) (b27) (b28) (b29) (b30) (b31) (b32) (b33) (b34) hv_68 hb2 hb3 hy_55 hb22 (zI.wk (l' := 0) (h' := 241) hv_69 (by decide)) hb17 hb33 hb34) hl.1 q641 q643 qs11 q6 q644 ⟨by decide, by decide, by show _ = some 2; decide +kernel⟩ ⟨Nat.le_of_ble_eq_true rfl, Nat.le_of_ble_eq_true rfl⟩ ⟨Nat.le_of_ble_eq_true rfl, Nat.le_of_ble_eq_true rfl⟩ rfl (Nat.le_of_ble_eq_true rfl) d_Machine_gatherKeys_18 hP hD hS hA 0 5 rfl rfl rfl [0, 1, 6, 7, 8] [2, 3, 4, 5] rfl rfl rfl rfl (by decide) (fun v w1 H locs hw_70 hP hD hS => ?_)
      obtain ⟨x_71, rfl, rfl, hx_71, hfx_72, hfx_73⟩ := hw_70
      have hP : va_P G.1 classes [(b11, .inl (G.2 0, 240, .inl y_56)), (b12, .inl (G.2 0, 240, .inl y_57)), (b13, .inl (G.2 0, 240, .inl y_58)), (b14, .inl (G.2 0, 240, .inl y_59)), (b0, .inr (5, [.int b2, .int b3, .ref b4, .ref b5, .ref b6, .ref b7, .ref b8, .ref b9, .int y_55, .ref b11, .ref b12, .ref b13, .ref b14, .ref b15, .ref b16])), (b4, .inl (G.2 0, 241, .inl b17)), (b1, .inr (3, [.int b22, .int b23, .int b24, .ref b25, .ref b26, .ref b27, .ref b28, .ref b29, .ref b30, .ref b31, .ref b32])), (b25, .inl (G.2 0, 241, .inl b33)), (b26, .inl (G.2 0, 241, .inl b34))] H := hP
      have hD := z_tie hP hD rfl
      refine W.widen (k := 0) (n := 0) (Nat.le_of_ble_eq_true rfl) (Nat.le_of_ble_eq_true rfl) ?_
      refine lv_istore_n (lv' := [(3, .int x_71), (2, .int y_54), (0, .ref b0), (1, .ref b1)]) hx hb d_Machine_gatherKeys_21 rfl hl (by decide) rfl (fun ls hl => ?_)
      refine lv_aload_n hx hb d_Machine_gatherKeys_22 rfl (lv_at hl 2 rfl) ?_
      refine lv_iload_n hx hb d_Machine_gatherKeys_23 rfl (lv_at hl 0 rfl) ?_
      refine z_callV (index := 110) (As := [.int x_71]) (rest := []) (wr := [(b12, .inl (G.2 0, 240, .inl y_57)), (b13, .inl (G.2 0, 240, .inl y_58)), (b14, .inl (G.2 0, 240, .inl y_59)), (b4, .inl (G.2 0, 241, .inl b17)), (b1, .inr (3, [.int b22, .int b23, .int b24, .ref b25, .ref b26, .ref b27, .ref b28, .ref b29, .ref b30, .ref b31, .ref b32])), (b25, .inl (G.2 0, 241, .inl b33)), (b26, .inl (G.2 0, 241, .inl b34))]) Z (s2_Machine_placeOf l G (b0) (x_71) (b2) (b3) (b4) (b5) (b6) (b7) (b8) (b9) (y_55) (b11) (b12) (b13) (b14) (b15) (b16) (y_56) hb2 hb3 hy_55 hy_56) hl.1 q645 q647 qs12 q6 q648 ⟨by decide, by decide, by show _ = some 1; decide +kernel⟩ ⟨Nat.le_of_ble_eq_true rfl, Nat.le_of_ble_eq_true rfl⟩ ⟨Nat.le_of_ble_eq_true rfl, Nat.le_of_ble_eq_true rfl⟩ rfl (Nat.le_of_ble_eq_true rfl) d_Machine_gatherKeys_24 hP hD hS hA 4 5 rfl rfl rfl [4, 0] [1, 2, 3, 5, 6, 7, 8] rfl rfl rfl rfl (by decide) (fun v w1 H locs hw_74 hP hD hS => ?_)
      obtain ⟨x_75, rfl, rfl, hx_75, hfx_76, hfx_77, hfx_78, hfx_79⟩ := hw_74
      have hP : va_P G.1 classes [(b12, .inl (G.2 0, 240, .inl y_57)), (b13, .inl (G.2 0, 240, .inl y_58)), (b14, .inl (G.2 0, 240, .inl y_59)), (b4, .inl (G.2 0, 241, .inl b17)), (b1, .inr (3, [.int b22, .int b23, .int b24, .ref b25, .ref b26, .ref b27, .ref b28, .ref b29, .ref b30, .ref b31, .ref b32])), (b25, .inl (G.2 0, 241, .inl b33)), (b26, .inl (G.2 0, 241, .inl b34)), (b0, .inr (5, [.int b2, .int b3, .ref b4, .ref b5, .ref b6, .ref b7, .ref b8, .ref b9, .int y_55, .ref b11, .ref b12, .ref b13, .ref b14, .ref b15, .ref b16])), (b11, .inl (G.2 0, 240, .inl y_56))] H := hP
      have hD := z_tie hP hD rfl
      refine W.widen (k := 0) (n := 0) (Nat.le_of_ble_eq_true rfl) (Nat.le_of_ble_eq_true rfl) ?_
      refine lv_istore (lv' := [(4, .int x_75), (3, .int x_71), (2, .int y_54), (0, .ref b0), (1, .ref b1)]) hx hb d_Machine_gatherKeys_27 hl (by decide) rfl (fun ls hl => ?_)
      have hv_80 : zI y_55 0 239 := ⟨by omega, by omega⟩
      refine lv_iload hx hb d_Machine_gatherKeys_29 (lv_at hl 0 rfl) ?_
      refine lv_aload_n hx hb d_Machine_gatherKeys_31 rfl (lv_at hl 3 rfl) ?_
      refine va_get (D := G.1) (ci := 5) (v := .int y_55) (C := R_Machine) (T := F_Machine) (N := 15) hx hb hts i_Machine hown hK hP 7 rfl rfl 8 (by decide) (hts _ q184) (fun _ h9 => h9) rfl d_Machine_gatherKeys_32 ?_
      refine lv_icmp_eq (tgt := 49) hx hb d_Machine_gatherKeys_35 (by decide) (fun hc_81 => ?_) (fun hc_81 => ?_)
      · have _nhc_81 := hc_81
        have ni_82 := (fa_eq _ _).mp hc_81
        have hv_83 : zI x_75 0 239 := zI.eq_l hx_75 hv_80 hc_81
        refine lv_aload_n hx hb d_Machine_gatherKeys_49 rfl (lv_at hl 3 rfl) ?_
        refine va_get (D := G.1) (ci := 5) (v := .ref b11) (C := R_Machine) (T := F_Machine) (N := 15) hx hb hts i_Machine hown hK hP 7 rfl rfl 9 (by decide) (hts _ q186) (fun _ h9 => h9) rfl d_Machine_gatherKeys_50 ?_
        refine lv_iload hx hb d_Machine_gatherKeys_53 (lv_at hl 0 rfl) ?_
        refine lv_aload_n hx hb d_Machine_gatherKeys_55 rfl (lv_at hl 3 rfl) ?_
        refine va_get (D := G.1) (ci := 5) (v := .ref b11) (C := R_Machine) (T := F_Machine) (N := 15) hx hb hts i_Machine hown hK hP 7 rfl rfl 9 (by decide) (hts _ q186) (fun _ h9 => h9) rfl d_Machine_gatherKeys_56 ?_
        refine lv_iload hx hb d_Machine_gatherKeys_59 (lv_at hl 0 rfl) ?_
        refine lv_iconst (v := 1) hx hb d_Machine_gatherKeys_61 (by decide) ?_
        refine lv_iadd hx hb d_Machine_gatherKeys_62 ?_
        refine lv_topi (fun v_84 ev_84 => ?_)
        obtain ⟨qv_84, hv_84⟩ := zI_add (l := 1) (h := 240) hv_83 zc_1 ev_84 (by decide)
        rw [li_1] at qv_84
        refine lv_aload_n hx hb d_Machine_gatherKeys_63 rfl (lv_at hl 3 rfl) ?_
        refine va_get (D := G.1) (ci := 5) (v := .int y_55) (C := R_Machine) (T := F_Machine) (N := 15) hx hb hts i_Machine hown hK hP 7 rfl rfl 8 (by decide) (hts _ q184) (fun _ h9 => h9) rfl d_Machine_gatherKeys_64 ?_
        refine lv_iload hx hb d_Machine_gatherKeys_67 (lv_at hl 0 rfl) ?_
        refine lv_isub hx hb d_Machine_gatherKeys_69 ?_
        refine lv_topi (fun v_85 ev_85 => ?_)
        obtain ⟨qv_85, hv_85⟩ := zI_sub (l := -239) (h := 239) hv_80 hv_83 ev_85 (by decide)
        have hv_86 : zI v_85 0 239 := ⟨by omega, by omega⟩
        refine va_copyi hx hb (hml.trans hl.1.symm) hown (hts _ q649) (hts _ q504) (hts _ q503) (hts _ q15) hK hP hD hS 8 8 0 0 rfl rfl rfl rfl rfl (zi_nn hv_83 (by decide)) (zi_nn hv_84 (by decide)) (zi_nn hv_86 (by decide)) (zi_cpo hv_83 hv_86 (by decide) (by decide) (by have _u := hv_83; have _w := hv_86; omega)) (zi_cpo hv_84 hv_86 (by decide) (by decide) (by have _u := hv_84; have _w := hv_86; omega)) (fun _ _ => rfl) (Nat.le_of_ble_eq_true rfl) (Nat.le_of_ble_eq_true rfl) d_Machine_gatherKeys_70 (fun H locs hP hD hS => ?_)
        obtain ⟨f_87, hf_87, uf_87, hP, hD⟩ := z_newfK 8 hP hD rfl (zK.cpy hy_56 hy_56)
        have hP : va_P G.1 classes [(b12, .inl (G.2 0, 240, .inl y_57)), (b13, .inl (G.2 0, 240, .inl y_58)), (b14, .inl (G.2 0, 240, .inl y_59)), (b4, .inl (G.2 0, 241, .inl b17)), (b1, .inr (3, [.int b22, .int b23, .int b24, .ref b25, .ref b26, .ref b27, .ref b28, .ref b29, .ref b30, .ref b31, .ref b32])), (b25, .inl (G.2 0, 241, .inl b33)), (b26, .inl (G.2 0, 241, .inl b34)), (b0, .inr (5, [.int b2, .int b3, .ref b4, .ref b5, .ref b6, .ref b7, .ref b8, .ref b9, .int y_55, .ref b11, .ref b12, .ref b13, .ref b14, .ref b15, .ref b16])), (b11, .inl (G.2 0, 240, .inl f_87))] H := hP
        have hD := z_tie hP hD rfl
        refine lv_aload_n hx hb d_Machine_gatherKeys_73 rfl (lv_at hl 3 rfl) ?_
        refine va_get (D := G.1) (ci := 5) (v := .ref b11) (C := R_Machine) (T := F_Machine) (N := 15) hx hb hts i_Machine hown hK hP 7 rfl rfl 9 (by decide) (hts _ q186) (fun _ h9 => h9) rfl d_Machine_gatherKeys_74 ?_
        refine lv_iload hx hb d_Machine_gatherKeys_77 (lv_at hl 0 rfl) ?_
        refine lv_iload_n hx hb d_Machine_gatherKeys_79 rfl (lv_at hl 1 rfl) ?_
        refine va_iast hx hb hK hP hD hS 8 0 rfl rfl (zI.inn hv_83 (by decide)) d_Machine_gatherKeys_80 (fun H locs hP hD hS => ?_)
        obtain ⟨f_88, hf_88, gf_88, uf_88, hP, hD⟩ := z_newfk 8 hP hD rfl hf_87 hx_71 (by omega)
        have hP : va_P G.1 classes [(b12, .inl (G.2 0, 240, .inl y_57)), (b13, .inl (G.2 0, 240, .inl y_58)), (b14, .inl (G.2 0, 240, .inl y_59)), (b4, .inl (G.2 0, 241, .inl b17)), (b1, .inr (3, [.int b22, .int b23, .int b24, .ref b25, .ref b26, .ref b27, .ref b28, .ref b29, .ref b30, .ref b31, .ref b32])), (b25, .inl (G.2 0, 241, .inl b33)), (b26, .inl (G.2 0, 241, .inl b34)), (b0, .inr (5, [.int b2, .int b3, .ref b4, .ref b5, .ref b6, .ref b7, .ref b8, .ref b9, .int y_55, .ref b11, .ref b12, .ref b13, .ref b14, .ref b15, .ref b16])), (b11, .inl (G.2 0, 240, .inl f_88))] H := hP
        have hD := z_tie hP hD rfl
        refine lv_aload_n hx hb d_Machine_gatherKeys_81 rfl (lv_at hl 3 rfl) ?_
        refine va_get (D := G.1) (ci := 5) (v := .ref b12) (C := R_Machine) (T := F_Machine) (N := 15) hx hb hts i_Machine hown hK hP 7 rfl rfl 10 (by decide) (hts _ q187) (fun _ h9 => h9) rfl d_Machine_gatherKeys_82 ?_
        refine lv_aload_n hx hb d_Machine_gatherKeys_85 rfl (lv_at hl 3 rfl) ?_
        refine va_get (D := G.1) (ci := 5) (v := .int y_55) (C := R_Machine) (T := F_Machine) (N := 15) hx hb hts i_Machine hown hK hP 7 rfl rfl 8 (by decide) (hts _ q184) (fun _ h9 => h9) rfl d_Machine_gatherKeys_86 ?_
        refine lv_iconst (v := 0) hx hb d_Machine_gatherKeys_89 (by decide) ?_
        refine va_iast hx hb hK hP hD hS 0 0 rfl rfl (zI.inn hv_80 (by decide)) d_Machine_gatherKeys_90 (fun H locs hP hD hS => ?_)
        obtain ⟨f_89, gf_89, uf_89, hP, hD⟩ := z_newFu 0 hP hD rfl
        have hP : va_P G.1 classes [(b12, .inl (G.2 0, 240, .inl f_89)), (b13, .inl (G.2 0, 240, .inl y_58)), (b14, .inl (G.2 0, 240, .inl y_59)), (b4, .inl (G.2 0, 241, .inl b17)), (b1, .inr (3, [.int b22, .int b23, .int b24, .ref b25, .ref b26, .ref b27, .ref b28, .ref b29, .ref b30, .ref b31, .ref b32])), (b25, .inl (G.2 0, 241, .inl b33)), (b26, .inl (G.2 0, 241, .inl b34)), (b0, .inr (5, [.int b2, .int b3, .ref b4, .ref b5, .ref b6, .ref b7, .ref b8, .ref b9, .int y_55, .ref b11, .ref b12, .ref b13, .ref b14, .ref b15, .ref b16])), (b11, .inl (G.2 0, 240, .inl f_88))] H := hP
        have hD := z_tie hP hD rfl
        refine lv_aload_n hx hb d_Machine_gatherKeys_91 rfl (lv_at hl 3 rfl) ?_
        refine va_get (D := G.1) (ci := 5) (v := .ref b13) (C := R_Machine) (T := F_Machine) (N := 15) hx hb hts i_Machine hown hK hP 7 rfl rfl 11 (by decide) (hts _ q191) (fun _ h9 => h9) rfl d_Machine_gatherKeys_92 ?_
        refine lv_aload_n hx hb d_Machine_gatherKeys_95 rfl (lv_at hl 3 rfl) ?_
        refine va_get (D := G.1) (ci := 5) (v := .int y_55) (C := R_Machine) (T := F_Machine) (N := 15) hx hb hts i_Machine hown hK hP 7 rfl rfl 8 (by decide) (hts _ q184) (fun _ h9 => h9) rfl d_Machine_gatherKeys_96 ?_
        refine lv_bipush (v := 99) hx hb d_Machine_gatherKeys_99 (by decide) ?_
        refine va_iast hx hb hK hP hD hS 1 0 rfl rfl (zI.inn hv_80 (by decide)) d_Machine_gatherKeys_101 (fun H locs hP hD hS => ?_)
        obtain ⟨f_90, gf_90, uf_90, hP, hD⟩ := z_newFu 1 hP hD rfl
        have hP : va_P G.1 classes [(b12, .inl (G.2 0, 240, .inl f_89)), (b13, .inl (G.2 0, 240, .inl f_90)), (b14, .inl (G.2 0, 240, .inl y_59)), (b4, .inl (G.2 0, 241, .inl b17)), (b1, .inr (3, [.int b22, .int b23, .int b24, .ref b25, .ref b26, .ref b27, .ref b28, .ref b29, .ref b30, .ref b31, .ref b32])), (b25, .inl (G.2 0, 241, .inl b33)), (b26, .inl (G.2 0, 241, .inl b34)), (b0, .inr (5, [.int b2, .int b3, .ref b4, .ref b5, .ref b6, .ref b7, .ref b8, .ref b9, .int y_55, .ref b11, .ref b12, .ref b13, .ref b14, .ref b15, .ref b16])), (b11, .inl (G.2 0, 240, .inl f_88))] H := hP
        have hD := z_tie hP hD rfl
        refine lv_aload_n hx hb d_Machine_gatherKeys_102 rfl (lv_at hl 3 rfl) ?_
        refine va_get (D := G.1) (ci := 5) (v := .ref b14) (C := R_Machine) (T := F_Machine) (N := 15) hx hb hts i_Machine hown hK hP 7 rfl rfl 12 (by decide) (hts _ q193) (fun _ h9 => h9) rfl d_Machine_gatherKeys_103 ?_
        refine lv_aload_n hx hb d_Machine_gatherKeys_106 rfl (lv_at hl 3 rfl) ?_
        refine va_get (D := G.1) (ci := 5) (v := .int y_55) (C := R_Machine) (T := F_Machine) (N := 15) hx hb hts i_Machine hown hK hP 7 rfl rfl 8 (by decide) (hts _ q184) (fun _ h9 => h9) rfl d_Machine_gatherKeys_107 ?_
        refine lv_iconst (v := 0) hx hb d_Machine_gatherKeys_110 (by decide) ?_
        refine va_iast hx hb hK hP hD hS 2 0 rfl rfl (zI.inn hv_80 (by decide)) d_Machine_gatherKeys_111 (fun H locs hP hD hS => ?_)
        obtain ⟨f_91, gf_91, uf_91, hP, hD⟩ := z_newFu 2 hP hD rfl
        have hP : va_P G.1 classes [(b12, .inl (G.2 0, 240, .inl f_89)), (b13, .inl (G.2 0, 240, .inl f_90)), (b14, .inl (G.2 0, 240, .inl f_91)), (b4, .inl (G.2 0, 241, .inl b17)), (b1, .inr (3, [.int b22, .int b23, .int b24, .ref b25, .ref b26, .ref b27, .ref b28, .ref b29, .ref b30, .ref b31, .ref b32])), (b25, .inl (G.2 0, 241, .inl b33)), (b26, .inl (G.2 0, 241, .inl b34)), (b0, .inr (5, [.int b2, .int b3, .ref b4, .ref b5, .ref b6, .ref b7, .ref b8, .ref b9, .int y_55, .ref b11, .ref b12, .ref b13, .ref b14, .ref b15, .ref b16])), (b11, .inl (G.2 0, 240, .inl f_88))] H := hP
        have hD := z_tie hP hD rfl
        refine lv_aload_n hx hb d_Machine_gatherKeys_112 rfl (lv_at hl 3 rfl) ?_
        refine lv_dup hx hb d_Machine_gatherKeys_113 rfl ?_
        refine va_get (D := G.1) (ci := 5) (v := .int y_55) (C := R_Machine) (T := F_Machine) (N := 15) hx hb hts i_Machine hown hK hP 7 rfl rfl 8 (by decide) (hts _ q184) (fun _ h9 => h9) rfl d_Machine_gatherKeys_114 ?_
        refine lv_iconst (v := 1) hx hb d_Machine_gatherKeys_117 (by decide) ?_
        refine lv_iadd hx hb d_Machine_gatherKeys_118 ?_
        refine lv_topi (fun v_92 ev_92 => ?_)
        obtain ⟨qv_92, hv_92⟩ := zI_add (l := 1) (h := 240) hv_80 zc_1 ev_92 (by decide)
        rw [li_1] at qv_92
        refine va_put (D := G.1) (ci := 5) (v := .int v_92) (ty := .int) (C := R_Machine) (T := F_Machine) (N := 15) hx hb hts i_Machine t_Machine t_Machine_ok n_Machine hown hK hP hD hS 7 rfl rfl 8 (by decide) (hts _ q184) (fun _ h9 => h9) rfl (by decide +kernel) rfl rfl (Nat.le_of_ble_eq_true rfl) d_Machine_gatherKeys_119 (fun H locs hP hD hS => ?_)
        have hP : va_P G.1 classes [(b12, .inl (G.2 0, 240, .inl f_89)), (b13, .inl (G.2 0, 240, .inl f_90)), (b14, .inl (G.2 0, 240, .inl f_91)), (b4, .inl (G.2 0, 241, .inl b17)), (b1, .inr (3, [.int b22, .int b23, .int b24, .ref b25, .ref b26, .ref b27, .ref b28, .ref b29, .ref b30, .ref b31, .ref b32])), (b25, .inl (G.2 0, 241, .inl b33)), (b26, .inl (G.2 0, 241, .inl b34)), (b0, .inr (5, [.int b2, .int b3, .ref b4, .ref b5, .ref b6, .ref b7, .ref b8, .ref b9, .int v_92, .ref b11, .ref b12, .ref b13, .ref b14, .ref b15, .ref b16])), (b11, .inl (G.2 0, 240, .inl f_88))] H := hP
        have hD := z_tie hP hD rfl
        obtain ⟨v_93, ev_93⟩ : ∃ z : Int32, z = y_54 + 1 := ⟨_, rfl⟩
        obtain ⟨qv_93, hv_93⟩ := zI_add (l := 2) (h := 241) hv_68 zc_1 ev_93 (by decide)
        rw [li_1] at qv_93
        refine lv_iinc (v := v_93) (lv' := [(2, .int v_93), (4, .int x_75), (3, .int x_71), (0, .ref b0), (1, .ref b1)]) hx hb d_Machine_gatherKeys_122 hl (k := 2) rfl (by rw [ev_93]; rfl) (by decide) rfl (fun ls hl => ?_)
        refine lv_goto (tgt := 7) hx hb d_Machine_gatherKeys_125 (by decide) ?_
        exact ihk_53 (v_93) (v_92) (f_88) (f_89) (f_90) (f_91) _ _ _ (zI.wk (l' := 1) (h' := 241) hv_93 (by decide)) (zI.wk (l' := 0) (h' := 240) hv_92 (by decide)) hf_88 (by omega) (by have h7 : v_92.toInt.toNat = y_55.toInt.toNat + 1 := (by omega); rw [h7]; exact (zk_ins (e := y_55.toInt.toNat) (h := (uf_88.trans (by rw [uf_87]))) (h1 := (by have _l := li_1; have p9 := z_pl hv_83 (by decide); have p8 := z_pl hv_84 (by decide); omega)) (h2 := (by have p9 := z_pl hv_83 (by decide); have p8 := z_pl hv_86 (by decide); omega)) hli_61 (fun h9 => by rw [z_plf hv_83 (by decide)] at h9 ⊢; exact hfx_77 (by omega)) (fun h9 => by rw [z_plf hv_83 (by decide)] at h9; rcases hfx_78 (by omega) with h8 | h8; left; omega; right; have h7 : (y_55.toInt - 1).toNat = y_55.toInt.toNat - 1 := (by omega); rw [← h7]; exact h8)).1) (by obtain ⟨_, h8, h9⟩ := zk_ins (e := y_55.toInt.toNat) (h := (uf_88.trans (by rw [uf_87]))) (h1 := (by have _l := li_1; have p9 := z_pl hv_83 (by decide); have p8 := z_pl hv_84 (by decide); omega)) (h2 := (by have p9 := z_pl hv_83 (by decide); have p8 := z_pl hv_86 (by decide); omega)) hli_61 (fun h9 => by rw [z_plf hv_83 (by decide)] at h9 ⊢; exact hfx_77 (by omega)) (fun h9 => by rw [z_plf hv_83 (by decide)] at h9; rcases hfx_78 (by omega) with h8 | h8; left; omega; right; have h7 : (y_55.toInt - 1).toNat = y_55.toInt.toNat - 1 := (by omega); rw [← h7]; exact h8); have h7 : v_92.toInt.toNat - 1 = y_55.toInt.toNat := (by omega); refine ⟨fun q h1 h2 => ?_, fun _ => by omega⟩; rw [h7]; by_cases h3 : q < y_54.toInt.toNat; have h4 := hli_62.1 q h1 h3; have h5 := hli_62.2 (by omega); have h6 := h8 (by omega); omega; have h5 : q = y_54.toInt.toNat := (by omega); rw [h5, ← hfx_72]; exact h9) (by omega) (by rw [show v_93.toInt.toNat = y_54.toInt.toNat + 1 by omega]; have l9 := li_1; rw [show v_92.toInt.toNat = y_55.toInt.toNat + 1 by omega]; exact ⟨yKs_n (a := x_75.toInt.toNat) hli_64.1 (by omega) hfx_72 (by omega) (fun h9 => hfx_77 (by omega)) (by rcases hfx_79 with h9 | h9; exact Or.inl (by omega); exact Or.inr (by rw [show x_75.toInt.toNat - 1 = (x_75.toInt - 1).toNat by omega]; exact h9)) (Or.inl (by omega)) uf_87 uf_88 (by have p9 := z_pl hv_83 (by decide); omega) (by have p9 := z_pl hv_83 (by decide); omega) (by have _l := li_1; have p9 := z_pl hv_84 (by decide); omega) (by have p9 := z_pl hv_86 (by decide); omega), yE0_n hli_64.2 uf_89 uf_90 uf_91 (by have p9 := z_pl hv_80 (by decide); omega) (by have p9 := z_pl hv_80 (by decide); omega) (by have p9 := z_pl hv_80 (by decide); omega)⟩) (zm_up qv_93 hmk_53 (by decide)) (hP.sub [7, 3, 8, 0, 1, 2, 4, 5, 6] rfl) (hD.sub [7, 3, 8, 0, 1, 2, 4, 5, 6] (by decide) rfl) hS (lv_sub hl [0, 3, 4] rfl)
      · have _nhc_81 := hc_81
        have ni_94 : ¬ (x_75 : Int32).toInt = (y_55 : Int32).toInt := fun z => hc_81 ((fa_eq _ _).mpr z)
        refine lv_aload_n hx hb d_Machine_gatherKeys_38 rfl (lv_at hl 3 rfl) ?_
        refine va_get (D := G.1) (ci := 5) (v := .ref b11) (C := R_Machine) (T := F_Machine) (N := 15) hx hb hts i_Machine hown hK hP 7 rfl rfl 9 (by decide) (hts _ q186) (fun _ h9 => h9) rfl d_Machine_gatherKeys_39 ?_
        refine lv_iload hx hb d_Machine_gatherKeys_42 (lv_at hl 0 rfl) ?_
        have hv_95 : zI x_75 0 239 := ⟨by omega, by omega⟩
        refine va_iald hx hb hK hP 8 0 rfl rfl (zI.inn hv_95 (by decide)) d_Machine_gatherKeys_44 ?_
        refine lv_topi (fun v_96 ev_96 => ?_)
        obtain ⟨hv_96, kv_96⟩ := zK.ld hy_56 ev_96
        refine lv_iload_n hx hb d_Machine_gatherKeys_45 rfl (lv_at hl 1 rfl) ?_
        refine lv_icmp_eq (tgt := 122) hx hb d_Machine_gatherKeys_46 (by decide) (fun hc_97 => ?_) (fun hc_97 => ?_)
        · have _nhc_97 := hc_97
          have ni_98 := (fa_eq _ _).mp hc_97
          obtain ⟨v_99, ev_99⟩ : ∃ z : Int32, z = y_54 + 1 := ⟨_, rfl⟩
          obtain ⟨qv_99, hv_99⟩ := zI_add (l := 2) (h := 241) hv_68 zc_1 ev_99 (by decide)
          rw [li_1] at qv_99
          refine lv_iinc (v := v_99) (lv' := [(2, .int v_99), (4, .int x_75), (3, .int x_71), (0, .ref b0), (1, .ref b1)]) hx hb d_Machine_gatherKeys_122 hl (k := 2) rfl (by rw [ev_99]; rfl) (by decide) rfl (fun ls hl => ?_)
          refine lv_goto (tgt := 7) hx hb d_Machine_gatherKeys_125 (by decide) ?_
          exact ihk_53 (v_99) (y_55) (y_56) (y_57) (y_58) (y_59) _ _ _ (zI.wk (l' := 1) (h' := 241) hv_99 (by decide)) (zI.wk (l' := 0) (h' := 240) hv_80 (by decide)) hy_56 (by omega) hli_61 (by refine ⟨fun q h1 h2 => ?_, fun _ => by omega⟩; by_cases h3 : q < y_54.toInt.toNat; exact hli_62.1 q h1 h3; have h5 : q = y_54.toInt.toNat := (by omega); rw [h5, ← hfx_72]; have h6 := hli_61 x_75.toNatClampNeg (by rw [z_plf hv_95 (by decide)]; omega); rw [← ev_96] at h6; omega) (by omega) (by rw [show v_99.toInt.toNat = y_54.toInt.toNat + 1 by omega]; exact ⟨yKs_o hli_64.1 ⟨x_75.toInt.toNat, by omega, by have e9 := congrArg Int32.toInt ev_96; rw [z_plf hv_95 (by decide)] at e9; have k9 := hfx_72; omega⟩, hli_64.2⟩) (zm_up qv_99 hmk_53 (by decide)) (hP.sub [7, 3, 8, 0, 1, 2, 4, 5, 6] rfl) (hD.sub [7, 3, 8, 0, 1, 2, 4, 5, 6] (by decide) rfl) hS (lv_sub hl [0, 3, 4] rfl)
        · have _nhc_97 := hc_97
          have ni_100 : ¬ (v_96 : Int32).toInt = (x_71 : Int32).toInt := fun z => hc_97 ((fa_eq _ _).mpr z)
          refine lv_aload_n hx hb d_Machine_gatherKeys_49 rfl (lv_at hl 3 rfl) ?_
          refine va_get (D := G.1) (ci := 5) (v := .ref b11) (C := R_Machine) (T := F_Machine) (N := 15) hx hb hts i_Machine hown hK hP 7 rfl rfl 9 (by decide) (hts _ q186) (fun _ h9 => h9) rfl d_Machine_gatherKeys_50 ?_
          refine lv_iload hx hb d_Machine_gatherKeys_53 (lv_at hl 0 rfl) ?_
          refine lv_aload_n hx hb d_Machine_gatherKeys_55 rfl (lv_at hl 3 rfl) ?_
          refine va_get (D := G.1) (ci := 5) (v := .ref b11) (C := R_Machine) (T := F_Machine) (N := 15) hx hb hts i_Machine hown hK hP 7 rfl rfl 9 (by decide) (hts _ q186) (fun _ h9 => h9) rfl d_Machine_gatherKeys_56 ?_
          refine lv_iload hx hb d_Machine_gatherKeys_59 (lv_at hl 0 rfl) ?_
          refine lv_iconst (v := 1) hx hb d_Machine_gatherKeys_61 (by decide) ?_
          refine lv_iadd hx hb d_Machine_gatherKeys_62 ?_
          refine lv_topi (fun v_101 ev_101 => ?_)
          obtain ⟨qv_101, hv_101⟩ := zI_add (l := 1) (h := 240) hv_95 zc_1 ev_101 (by decide)
          rw [li_1] at qv_101
          refine lv_aload_n hx hb d_Machine_gatherKeys_63 rfl (lv_at hl 3 rfl) ?_
          refine va_get (D := G.1) (ci := 5) (v := .int y_55) (C := R_Machine) (T := F_Machine) (N := 15) hx hb hts i_Machine hown hK hP 7 rfl rfl 8 (by decide) (hts _ q184) (fun _ h9 => h9) rfl d_Machine_gatherKeys_64 ?_
          refine lv_iload hx hb d_Machine_gatherKeys_67 (lv_at hl 0 rfl) ?_
          refine lv_isub hx hb d_Machine_gatherKeys_69 ?_
          refine lv_topi (fun v_102 ev_102 => ?_)
          obtain ⟨qv_102, hv_102⟩ := zI_sub (l := -239) (h := 239) hv_80 hv_95 ev_102 (by decide)
          have hv_103 : zI v_102 0 239 := ⟨by omega, by omega⟩
          refine va_copyi hx hb (hml.trans hl.1.symm) hown (hts _ q649) (hts _ q504) (hts _ q503) (hts _ q15) hK hP hD hS 8 8 0 0 rfl rfl rfl rfl rfl (zi_nn hv_95 (by decide)) (zi_nn hv_101 (by decide)) (zi_nn hv_103 (by decide)) (zi_cpo hv_95 hv_103 (by decide) (by decide) (by have _u := hv_95; have _w := hv_103; omega)) (zi_cpo hv_101 hv_103 (by decide) (by decide) (by have _u := hv_101; have _w := hv_103; omega)) (fun _ _ => rfl) (Nat.le_of_ble_eq_true rfl) (Nat.le_of_ble_eq_true rfl) d_Machine_gatherKeys_70 (fun H locs hP hD hS => ?_)
          obtain ⟨f_104, hf_104, uf_104, hP, hD⟩ := z_newfK 8 hP hD rfl (zK.cpy hy_56 hy_56)
          have hP : va_P G.1 classes [(b12, .inl (G.2 0, 240, .inl y_57)), (b13, .inl (G.2 0, 240, .inl y_58)), (b14, .inl (G.2 0, 240, .inl y_59)), (b4, .inl (G.2 0, 241, .inl b17)), (b1, .inr (3, [.int b22, .int b23, .int b24, .ref b25, .ref b26, .ref b27, .ref b28, .ref b29, .ref b30, .ref b31, .ref b32])), (b25, .inl (G.2 0, 241, .inl b33)), (b26, .inl (G.2 0, 241, .inl b34)), (b0, .inr (5, [.int b2, .int b3, .ref b4, .ref b5, .ref b6, .ref b7, .ref b8, .ref b9, .int y_55, .ref b11, .ref b12, .ref b13, .ref b14, .ref b15, .ref b16])), (b11, .inl (G.2 0, 240, .inl f_104))] H := hP
          have hD := z_tie hP hD rfl
          refine lv_aload_n hx hb d_Machine_gatherKeys_73 rfl (lv_at hl 3 rfl) ?_
          refine va_get (D := G.1) (ci := 5) (v := .ref b11) (C := R_Machine) (T := F_Machine) (N := 15) hx hb hts i_Machine hown hK hP 7 rfl rfl 9 (by decide) (hts _ q186) (fun _ h9 => h9) rfl d_Machine_gatherKeys_74 ?_
          refine lv_iload hx hb d_Machine_gatherKeys_77 (lv_at hl 0 rfl) ?_
          refine lv_iload_n hx hb d_Machine_gatherKeys_79 rfl (lv_at hl 1 rfl) ?_
          refine va_iast hx hb hK hP hD hS 8 0 rfl rfl (zI.inn hv_95 (by decide)) d_Machine_gatherKeys_80 (fun H locs hP hD hS => ?_)
          obtain ⟨f_105, hf_105, gf_105, uf_105, hP, hD⟩ := z_newfk 8 hP hD rfl hf_104 hx_71 (by omega)
          have hP : va_P G.1 classes [(b12, .inl (G.2 0, 240, .inl y_57)), (b13, .inl (G.2 0, 240, .inl y_58)), (b14, .inl (G.2 0, 240, .inl y_59)), (b4, .inl (G.2 0, 241, .inl b17)), (b1, .inr (3, [.int b22, .int b23, .int b24, .ref b25, .ref b26, .ref b27, .ref b28, .ref b29, .ref b30, .ref b31, .ref b32])), (b25, .inl (G.2 0, 241, .inl b33)), (b26, .inl (G.2 0, 241, .inl b34)), (b0, .inr (5, [.int b2, .int b3, .ref b4, .ref b5, .ref b6, .ref b7, .ref b8, .ref b9, .int y_55, .ref b11, .ref b12, .ref b13, .ref b14, .ref b15, .ref b16])), (b11, .inl (G.2 0, 240, .inl f_105))] H := hP
          have hD := z_tie hP hD rfl
          refine lv_aload_n hx hb d_Machine_gatherKeys_81 rfl (lv_at hl 3 rfl) ?_
          refine va_get (D := G.1) (ci := 5) (v := .ref b12) (C := R_Machine) (T := F_Machine) (N := 15) hx hb hts i_Machine hown hK hP 7 rfl rfl 10 (by decide) (hts _ q187) (fun _ h9 => h9) rfl d_Machine_gatherKeys_82 ?_
          refine lv_aload_n hx hb d_Machine_gatherKeys_85 rfl (lv_at hl 3 rfl) ?_
          refine va_get (D := G.1) (ci := 5) (v := .int y_55) (C := R_Machine) (T := F_Machine) (N := 15) hx hb hts i_Machine hown hK hP 7 rfl rfl 8 (by decide) (hts _ q184) (fun _ h9 => h9) rfl d_Machine_gatherKeys_86 ?_
          refine lv_iconst (v := 0) hx hb d_Machine_gatherKeys_89 (by decide) ?_
          refine va_iast hx hb hK hP hD hS 0 0 rfl rfl (zI.inn hv_80 (by decide)) d_Machine_gatherKeys_90 (fun H locs hP hD hS => ?_)
          obtain ⟨f_106, gf_106, uf_106, hP, hD⟩ := z_newFu 0 hP hD rfl
          have hP : va_P G.1 classes [(b12, .inl (G.2 0, 240, .inl f_106)), (b13, .inl (G.2 0, 240, .inl y_58)), (b14, .inl (G.2 0, 240, .inl y_59)), (b4, .inl (G.2 0, 241, .inl b17)), (b1, .inr (3, [.int b22, .int b23, .int b24, .ref b25, .ref b26, .ref b27, .ref b28, .ref b29, .ref b30, .ref b31, .ref b32])), (b25, .inl (G.2 0, 241, .inl b33)), (b26, .inl (G.2 0, 241, .inl b34)), (b0, .inr (5, [.int b2, .int b3, .ref b4, .ref b5, .ref b6, .ref b7, .ref b8, .ref b9, .int y_55, .ref b11, .ref b12, .ref b13, .ref b14, .ref b15, .ref b16])), (b11, .inl (G.2 0, 240, .inl f_105))] H := hP
          have hD := z_tie hP hD rfl
          refine lv_aload_n hx hb d_Machine_gatherKeys_91 rfl (lv_at hl 3 rfl) ?_
          refine va_get (D := G.1) (ci := 5) (v := .ref b13) (C := R_Machine) (T := F_Machine) (N := 15) hx hb hts i_Machine hown hK hP 7 rfl rfl 11 (by decide) (hts _ q191) (fun _ h9 => h9) rfl d_Machine_gatherKeys_92 ?_
          refine lv_aload_n hx hb d_Machine_gatherKeys_95 rfl (lv_at hl 3 rfl) ?_
          refine va_get (D := G.1) (ci := 5) (v := .int y_55) (C := R_Machine) (T := F_Machine) (N := 15) hx hb hts i_Machine hown hK hP 7 rfl rfl 8 (by decide) (hts _ q184) (fun _ h9 => h9) rfl d_Machine_gatherKeys_96 ?_
          refine lv_bipush (v := 99) hx hb d_Machine_gatherKeys_99 (by decide) ?_
          refine va_iast hx hb hK hP hD hS 1 0 rfl rfl (zI.inn hv_80 (by decide)) d_Machine_gatherKeys_101 (fun H locs hP hD hS => ?_)
          obtain ⟨f_107, gf_107, uf_107, hP, hD⟩ := z_newFu 1 hP hD rfl
          have hP : va_P G.1 classes [(b12, .inl (G.2 0, 240, .inl f_106)), (b13, .inl (G.2 0, 240, .inl f_107)), (b14, .inl (G.2 0, 240, .inl y_59)), (b4, .inl (G.2 0, 241, .inl b17)), (b1, .inr (3, [.int b22, .int b23, .int b24, .ref b25, .ref b26, .ref b27, .ref b28, .ref b29, .ref b30, .ref b31, .ref b32])), (b25, .inl (G.2 0, 241, .inl b33)), (b26, .inl (G.2 0, 241, .inl b34)), (b0, .inr (5, [.int b2, .int b3, .ref b4, .ref b5, .ref b6, .ref b7, .ref b8, .ref b9, .int y_55, .ref b11, .ref b12, .ref b13, .ref b14, .ref b15, .ref b16])), (b11, .inl (G.2 0, 240, .inl f_105))] H := hP
          have hD := z_tie hP hD rfl
          refine lv_aload_n hx hb d_Machine_gatherKeys_102 rfl (lv_at hl 3 rfl) ?_
          refine va_get (D := G.1) (ci := 5) (v := .ref b14) (C := R_Machine) (T := F_Machine) (N := 15) hx hb hts i_Machine hown hK hP 7 rfl rfl 12 (by decide) (hts _ q193) (fun _ h9 => h9) rfl d_Machine_gatherKeys_103 ?_
          refine lv_aload_n hx hb d_Machine_gatherKeys_106 rfl (lv_at hl 3 rfl) ?_
          refine va_get (D := G.1) (ci := 5) (v := .int y_55) (C := R_Machine) (T := F_Machine) (N := 15) hx hb hts i_Machine hown hK hP 7 rfl rfl 8 (by decide) (hts _ q184) (fun _ h9 => h9) rfl d_Machine_gatherKeys_107 ?_
          refine lv_iconst (v := 0) hx hb d_Machine_gatherKeys_110 (by decide) ?_
          refine va_iast hx hb hK hP hD hS 2 0 rfl rfl (zI.inn hv_80 (by decide)) d_Machine_gatherKeys_111 (fun H locs hP hD hS => ?_)
          obtain ⟨f_108, gf_108, uf_108, hP, hD⟩ := z_newFu 2 hP hD rfl
          have hP : va_P G.1 classes [(b12, .inl (G.2 0, 240, .inl f_106)), (b13, .inl (G.2 0, 240, .inl f_107)), (b14, .inl (G.2 0, 240, .inl f_108)), (b4, .inl (G.2 0, 241, .inl b17)), (b1, .inr (3, [.int b22, .int b23, .int b24, .ref b25, .ref b26, .ref b27, .ref b28, .ref b29, .ref b30, .ref b31, .ref b32])), (b25, .inl (G.2 0, 241, .inl b33)), (b26, .inl (G.2 0, 241, .inl b34)), (b0, .inr (5, [.int b2, .int b3, .ref b4, .ref b5, .ref b6, .ref b7, .ref b8, .ref b9, .int y_55, .ref b11, .ref b12, .ref b13, .ref b14, .ref b15, .ref b16])), (b11, .inl (G.2 0, 240, .inl f_105))] H := hP
          have hD := z_tie hP hD rfl
          refine lv_aload_n hx hb d_Machine_gatherKeys_112 rfl (lv_at hl 3 rfl) ?_
          refine lv_dup hx hb d_Machine_gatherKeys_113 rfl ?_
          refine va_get (D := G.1) (ci := 5) (v := .int y_55) (C := R_Machine) (T := F_Machine) (N := 15) hx hb hts i_Machine hown hK hP 7 rfl rfl 8 (by decide) (hts _ q184) (fun _ h9 => h9) rfl d_Machine_gatherKeys_114 ?_
          refine lv_iconst (v := 1) hx hb d_Machine_gatherKeys_117 (by decide) ?_
          refine lv_iadd hx hb d_Machine_gatherKeys_118 ?_
          refine lv_topi (fun v_109 ev_109 => ?_)
          obtain ⟨qv_109, hv_109⟩ := zI_add (l := 1) (h := 240) hv_80 zc_1 ev_109 (by decide)
          rw [li_1] at qv_109
          refine va_put (D := G.1) (ci := 5) (v := .int v_109) (ty := .int) (C := R_Machine) (T := F_Machine) (N := 15) hx hb hts i_Machine t_Machine t_Machine_ok n_Machine hown hK hP hD hS 7 rfl rfl 8 (by decide) (hts _ q184) (fun _ h9 => h9) rfl (by decide +kernel) rfl rfl (Nat.le_of_ble_eq_true rfl) d_Machine_gatherKeys_119 (fun H locs hP hD hS => ?_)
          have hP : va_P G.1 classes [(b12, .inl (G.2 0, 240, .inl f_106)), (b13, .inl (G.2 0, 240, .inl f_107)), (b14, .inl (G.2 0, 240, .inl f_108)), (b4, .inl (G.2 0, 241, .inl b17)), (b1, .inr (3, [.int b22, .int b23, .int b24, .ref b25, .ref b26, .ref b27, .ref b28, .ref b29, .ref b30, .ref b31, .ref b32])), (b25, .inl (G.2 0, 241, .inl b33)), (b26, .inl (G.2 0, 241, .inl b34)), (b0, .inr (5, [.int b2, .int b3, .ref b4, .ref b5, .ref b6, .ref b7, .ref b8, .ref b9, .int v_109, .ref b11, .ref b12, .ref b13, .ref b14, .ref b15, .ref b16])), (b11, .inl (G.2 0, 240, .inl f_105))] H := hP
          have hD := z_tie hP hD rfl
          obtain ⟨v_110, ev_110⟩ : ∃ z : Int32, z = y_54 + 1 := ⟨_, rfl⟩
          obtain ⟨qv_110, hv_110⟩ := zI_add (l := 2) (h := 241) hv_68 zc_1 ev_110 (by decide)
          rw [li_1] at qv_110
          refine lv_iinc (v := v_110) (lv' := [(2, .int v_110), (4, .int x_75), (3, .int x_71), (0, .ref b0), (1, .ref b1)]) hx hb d_Machine_gatherKeys_122 hl (k := 2) rfl (by rw [ev_110]; rfl) (by decide) rfl (fun ls hl => ?_)
          refine lv_goto (tgt := 7) hx hb d_Machine_gatherKeys_125 (by decide) ?_
          exact ihk_53 (v_110) (v_109) (f_105) (f_106) (f_107) (f_108) _ _ _ (zI.wk (l' := 1) (h' := 241) hv_110 (by decide)) (zI.wk (l' := 0) (h' := 240) hv_109 (by decide)) hf_105 (by omega) (by have h7 : v_109.toInt.toNat = y_55.toInt.toNat + 1 := (by omega); rw [h7]; exact (zk_ins (e := y_55.toInt.toNat) (h := (uf_105.trans (by rw [uf_104]))) (h1 := (by have _l := li_1; have p9 := z_pl hv_95 (by decide); have p8 := z_pl hv_101 (by decide); omega)) (h2 := (by have p9 := z_pl hv_95 (by decide); have p8 := z_pl hv_103 (by decide); omega)) hli_61 (fun h9 => by rw [z_plf hv_95 (by decide)] at h9 ⊢; exact hfx_77 (by omega)) (fun h9 => by rw [z_plf hv_95 (by decide)] at h9; rcases hfx_78 (by omega) with h8 | h8; left; omega; right; have h7 : (y_55.toInt - 1).toNat = y_55.toInt.toNat - 1 := (by omega); rw [← h7]; exact h8)).1) (by obtain ⟨_, h8, h9⟩ := zk_ins (e := y_55.toInt.toNat) (h := (uf_105.trans (by rw [uf_104]))) (h1 := (by have _l := li_1; have p9 := z_pl hv_95 (by decide); have p8 := z_pl hv_101 (by decide); omega)) (h2 := (by have p9 := z_pl hv_95 (by decide); have p8 := z_pl hv_103 (by decide); omega)) hli_61 (fun h9 => by rw [z_plf hv_95 (by decide)] at h9 ⊢; exact hfx_77 (by omega)) (fun h9 => by rw [z_plf hv_95 (by decide)] at h9; rcases hfx_78 (by omega) with h8 | h8; left; omega; right; have h7 : (y_55.toInt - 1).toNat = y_55.toInt.toNat - 1 := (by omega); rw [← h7]; exact h8); have h7 : v_109.toInt.toNat - 1 = y_55.toInt.toNat := (by omega); refine ⟨fun q h1 h2 => ?_, fun _ => by omega⟩; rw [h7]; by_cases h3 : q < y_54.toInt.toNat; have h4 := hli_62.1 q h1 h3; have h5 := hli_62.2 (by omega); have h6 := h8 (by omega); omega; have h5 : q = y_54.toInt.toNat := (by omega); rw [h5, ← hfx_72]; exact h9) (by omega) (by rw [show v_110.toInt.toNat = y_54.toInt.toNat + 1 by omega]; have l9 := li_1; rw [show v_109.toInt.toNat = y_55.toInt.toNat + 1 by omega]; exact ⟨yKs_n (a := x_75.toInt.toNat) hli_64.1 (by omega) hfx_72 (by omega) (fun h9 => hfx_77 (by omega)) (by rcases hfx_79 with h9 | h9; exact Or.inl (by omega); exact Or.inr (by rw [show x_75.toInt.toNat - 1 = (x_75.toInt - 1).toNat by omega]; exact h9)) (Or.inr (fun h9 => by have e9 := congrArg Int32.toInt ev_96; rw [z_plf hv_95 (by decide)] at e9; omega)) uf_104 uf_105 (by have p9 := z_pl hv_95 (by decide); omega) (by have p9 := z_pl hv_95 (by decide); omega) (by have _l := li_1; have p9 := z_pl hv_101 (by decide); omega) (by have p9 := z_pl hv_103 (by decide); omega), yE0_n hli_64.2 uf_106 uf_107 uf_108 (by have p9 := z_pl hv_80 (by decide); omega) (by have p9 := z_pl hv_80 (by decide); omega) (by have p9 := z_pl hv_80 (by decide); omega)⟩) (zm_up qv_110 hmk_53 (by decide)) (hP.sub [7, 3, 8, 0, 1, 2, 4, 5, 6] rfl) (hD.sub [7, 3, 8, 0, 1, 2, 4, 5, 6] (by decide) rfl) hS (lv_sub hl [0, 3, 4] rfl)
abbrev m_s3_Machine_gatherRanges : Room := { frames := 1, cells := 0, slots := 0, locals := 24 }
set_option maxHeartbeats 4000000 in
set_option maxRecDepth 100000 in
theorem s3_Machine_gatherRanges (l : Launch) (G : zG) (b0 : Nat) (b1 : Nat) (b2 : Int32) (b3 : Int32) (b4 : Nat) (b5 : Nat) (b6 : Nat) (b7 : Nat) (b8 : Nat) (b9 : Nat) (b10 : Int32) (b11 : Nat) (b12 : Nat) (b13 : Nat) (b14 : Nat) (b15 : Nat) (b16 : Nat) (b17 : Nat → Int32) (b18 : Nat → Int32) (b19 : Nat → Int32) (b20 : Nat → Int32) (b21 : Nat → Int32) (b22 : Nat → Int32) (b23 : Int32) (b24 : Int32) (b25 : Int32) (b26 : Nat) (b27 : Nat) (b28 : Nat) (b29 : Nat) (b30 : Nat) (b31 : Nat) (b32 : Nat) (b33 : Nat) (b34 : Nat → Int32) (b35 : Nat → Int32) (b36 : Nat → Int32) (b37 : Nat → Int32) (b38 : Nat → Int32) (hb2 : zI b2 0 1) (hb3 : zI b3 0 241) (hb10 : zI b10 0 240) (hb23 : zI b23 0 1) (hb25 : zI b25 0 241) (hb17 : zR b17 0 240) (hb18 : zK b18) (hb22 : zR b22 0 239) (hb34 : zR1 b34 0 240) (hb35 : zR1 b35 0 9) (hkj : zkJ b17 b34 b35 b18 (b25.toInt).toNat (b10 : Int32).toInt.toNat) : zM l G y_Machine_gatherRanges prog_4_method_10_code 4 (Option.none : Option Jvm.ClassFile.FieldType) m_s3_Machine_gatherRanges [.ref b0, .ref b1] [(b0, .inr (5, [.int b2, .int b3, .ref b4, .ref b5, .ref b6, .ref b7, .ref b8, .ref b9, .int b10, .ref b11, .ref b12, .ref b13, .ref b14, .ref b15, .ref b16])), (b4, .inl (G.2 0, 241, .inl b17)), (b11, .inl (G.2 0, 240, .inl b18)), (b12, .inl (G.2 0, 240, .inl b19)), (b13, .inl (G.2 0, 240, .inl b20)), (b14, .inl (G.2 0, 240, .inl b21)), (b16, .inl (G.2 0, 241, .inl b22)), (b1, .inr (3, [.int b23, .int b24, .int b25, .ref b26, .ref b27, .ref b28, .ref b29, .ref b30, .ref b31, .ref b32, .ref b33])), (b26, .inl (G.2 0, 241, .inl b34)), (b27, .inl (G.2 0, 241, .inl b35)), (b28, .inl (G.2 0, 241, .inl b36)), (b30, .inl (G.2 0, 241, .inl b37)), (b31, .inl (G.2 0, 241, .inl b38))] (fun v w => ∃ (e0 : Nat → Int32), ∃ (e1 : Nat → Int32), ∃ (e2 : Nat → Int32), ∃ (e3 : Nat → Int32), v = none ∧ w = [(b0, .inr (5, [.int b2, .int b3, .ref b4, .ref b5, .ref b6, .ref b7, .ref b8, .ref b9, .int b10, .ref b11, .ref b12, .ref b13, .ref b14, .ref b15, .ref b16])), (b4, .inl (G.2 0, 241, .inl b17)), (b11, .inl (G.2 0, 240, .inl b18)), (b12, .inl (G.2 0, 240, .inl e0)), (b13, .inl (G.2 0, 240, .inl e1)), (b14, .inl (G.2 0, 240, .inl e2)), (b16, .inl (G.2 0, 241, .inl e3)), (b1, .inr (3, [.int b23, .int b24, .int b25, .ref b26, .ref b27, .ref b28, .ref b29, .ref b30, .ref b31, .ref b32, .ref b33])), (b26, .inl (G.2 0, 241, .inl b34)), (b27, .inl (G.2 0, 241, .inl b35)), (b28, .inl (G.2 0, 241, .inl b36)), (b30, .inl (G.2 0, 241, .inl b37)), (b31, .inl (G.2 0, 241, .inl b38))] ∧ (zR e3 0 239) ∧ (ySl (fun e9 => (b18 e9).toInt) (b10 : Int32).toInt.toNat (yKs b17 b34 b35 (b25 : Int32).toInt.toNat) → yE0 b19 b20 b21 (b10 : Int32).toInt.toNat → (∀ q : Nat, 1 ≤ q → q < (b25 : Int32).toInt.toNat → 0 ≤ (b36 q).toInt ∧ (b36 q).toInt ≤ 1000) → yER b17 b34 b35 b36 b37 b38 b18 e0 e1 e2 e3 (b25 : Int32).toInt.toNat (b10 : Int32).toInt.toNat)) := by
  refine z_start (by decide +kernel) (Nat.le_of_ble_eq_true rfl) ?_
  intro p e s m below meth c A Z hr hnm hA hP hD hS ls hl
  have Z : zC p s m _ meth c prog_4_method_10_code 4 "TraceMachines$Machine" G := Z
  obtain ⟨hx, hb, hml, hown, hts, hK, hN, hlocks⟩ := id Z
  have hl : lv_has ls 4 [(0, .ref b0), (1, .ref b1)] := hl
  refine lv_iconst (v := 1) hx hb d_Machine_gatherRanges_0 (by decide) ?_
  refine lv_istore_n (lv' := [(2, .int 1), (0, .ref b0), (1, .ref b1)]) hx hb d_Machine_gatherRanges_1 rfl hl (by decide) rfl (fun ls hl => ?_)
  suffices key : ∀ (k_36 : Nat) (y_37 : Int32) (y_38 : Nat → Int32) (y_39 : Nat → Int32) (y_40 : Nat → Int32) (y_41 : Nat → Int32) (H : Heap) (locs : List Loc) (ls : Array Slot), (zI y_37 1 241) → (zR y_41 0 239) → ((y_37 : Int32).toInt ≤ (b25 : Int32).toInt ∨ (y_37 : Int32).toInt = 1) → (ySl (fun e9 => (b18 e9).toInt) (b10 : Int32).toInt.toNat (yKs b17 b34 b35 (b25 : Int32).toInt.toNat) → yE0 b19 b20 b21 (b10 : Int32).toInt.toNat → (∀ q : Nat, 1 ≤ q → q < (b25 : Int32).toInt.toNat → 0 ≤ (b36 q).toInt ∧ (b36 q).toInt ≤ 1000) → yER b17 b34 b35 b36 b37 b38 b18 y_38 y_39 y_40 y_41 (y_37 : Int32).toInt.toNat (b10 : Int32).toInt.toNat) → (241 : Int) - y_37.toInt < (k_36 : Int) → va_P G.1 classes [(b0, .inr (5, [.int b2, .int b3, .ref b4, .ref b5, .ref b6, .ref b7, .ref b8, .ref b9, .int b10, .ref b11, .ref b12, .ref b13, .ref b14, .ref b15, .ref b16])), (b4, .inl (G.2 0, 241, .inl b17)), (b11, .inl (G.2 0, 240, .inl b18)), (b12, .inl (G.2 0, 240, .inl y_38)), (b13, .inl (G.2 0, 240, .inl y_39)), (b14, .inl (G.2 0, 240, .inl y_40)), (b16, .inl (G.2 0, 241, .inl y_41)), (b1, .inr (3, [.int b23, .int b24, .int b25, .ref b26, .ref b27, .ref b28, .ref b29, .ref b30, .ref b31, .ref b32, .ref b33])), (b26, .inl (G.2 0, 241, .inl b34)), (b27, .inl (G.2 0, 241, .inl b35)), (b28, .inl (G.2 0, 241, .inl b36)), (b30, .inl (G.2 0, 241, .inl b37)), (b31, .inl (G.2 0, 241, .inl b38))] H → va_D A [(b0, .inr (5, [.int b2, .int b3, .ref b4, .ref b5, .ref b6, .ref b7, .ref b8, .ref b9, .int b10, .ref b11, .ref b12, .ref b13, .ref b14, .ref b15, .ref b16])), (b4, .inl (G.2 0, 241, .inl b17)), (b11, .inl (G.2 0, 240, .inl b18)), (b12, .inl (G.2 0, 240, .inl y_38)), (b13, .inl (G.2 0, 240, .inl y_39)), (b14, .inl (G.2 0, 240, .inl y_40)), (b16, .inl (G.2 0, 241, .inl y_41)), (b1, .inr (3, [.int b23, .int b24, .int b25, .ref b26, .ref b27, .ref b28, .ref b29, .ref b30, .ref b31, .ref b32, .ref b33])), (b26, .inl (G.2 0, 241, .inl b34)), (b27, .inl (G.2 0, 241, .inl b35)), (b28, .inl (G.2 0, 241, .inl b36)), (b30, .inl (G.2 0, 241, .inl b37)), (b31, .inl (G.2 0, 241, .inl b38))] → va_S A s.heap H locs → lv_has ls 4 [(2, .int y_37), (0, .ref b0), (1, .ref b1)] → W p l e m_s3_Machine_gatherRanges s m ([.ref b0, .ref b1] : List Value).toArray below meth c H locs 0 0 (MQ below (zQ G (fun v w => ∃ (e0 : Nat → Int32), ∃ (e1 : Nat → Int32), ∃ (e2 : Nat → Int32), ∃ (e3 : Nat → Int32), v = none ∧ w = [(b0, .inr (5, [.int b2, .int b3, .ref b4, .ref b5, .ref b6, .ref b7, .ref b8, .ref b9, .int b10, .ref b11, .ref b12, .ref b13, .ref b14, .ref b15, .ref b16])), (b4, .inl (G.2 0, 241, .inl b17)), (b11, .inl (G.2 0, 240, .inl b18)), (b12, .inl (G.2 0, 240, .inl e0)), (b13, .inl (G.2 0, 240, .inl e1)), (b14, .inl (G.2 0, 240, .inl e2)), (b16, .inl (G.2 0, 241, .inl e3)), (b1, .inr (3, [.int b23, .int b24, .int b25, .ref b26, .ref b27, .ref b28, .ref b29, .ref b30, .ref b31, .ref b32, .ref b33])), (b26, .inl (G.2 0, 241, .inl b34)), (b27, .inl (G.2 0, 241, .inl b35)), (b28, .inl (G.2 0, 241, .inl b36)), (b30, .inl (G.2 0, 241, .inl b37)), (b31, .inl (G.2 0, 241, .inl b38))] ∧ (zR e3 0 239) ∧ (ySl (fun e9 => (b18 e9).toInt) (b10 : Int32).toInt.toNat (yKs b17 b34 b35 (b25 : Int32).toInt.toNat) → yE0 b19 b20 b21 (b10 : Int32).toInt.toNat → (∀ q : Nat, 1 ≤ q → q < (b25 : Int32).toInt.toNat → 0 ≤ (b36 q).toInt ∧ (b36 q).toInt ≤ 1000) → yER b17 b34 b35 b36 b37 b38 b18 e0 e1 e2 e3 (b25 : Int32).toInt.toNat (b10 : Int32).toInt.toNat)) A) ([.ref b0, .ref b1] : List Value).toArray s m_s3_Machine_gatherRanges.cells m_s3_Machine_gatherRanges.slots A) (F0 m 2 ls []) by
    exact key 241 (1) (b19) (b20) (b21) (b22) _ _ _ (zI.wk (l' := 1) (h' := 241) zc_1 (by decide)) hb22 (by have _l0 := li_1; have _l2 := li_1; omega) (fun h1 h2 h3 => by rw [show (1 : Int32).toInt.toNat = 1 by rw [li_1]; rfl]; exact yER_0 h2) (zm_upi (zI.wk (l' := 1) (h' := 241) zc_1 (by decide)) (by decide)) hP hD hS (lv_sub hl [0, 1, 2] rfl)
  intro k_36
  induction k_36 with
  | zero =>
    intro y_37 y_38 y_39 y_40 y_41 H locs ls hy_37 hy_41 hli_42 hli_43 hmk_36 hP hD hS hl
    exact (zm_up0 hy_37 hmk_36).elim
  | succ k_36 ihk_36 =>
    intro y_37 y_38 y_39 y_40 y_41 H locs ls hy_37 hy_41 hli_42 hli_43 hmk_36 hP hD hS hl
    refine lv_iload_n hx hb d_Machine_gatherRanges_2 rfl (lv_at hl 0 rfl) ?_
    refine lv_aload_n hx hb d_Machine_gatherRanges_3 rfl (lv_at hl 2 rfl) ?_
    refine va_get (D := G.1) (ci := 3) (v := .int b25) (C := R_Tree) (T := F_Tree) (N := 11) hx hb hts i_Tree hown hK hP 7 rfl rfl 2 (by decide) (hts _ q101) (fun _ h9 => h9) rfl d_Machine_gatherRanges_4 ?_
    refine lv_icmp_ge (tgt := 91) hx hb d_Machine_gatherRanges_7 (by decide) (fun hc_44 => ?_) (fun hc_44 => ?_)
    · have _nhc_44 := hc_44
      have ni_45 := (fa_le _ _).mp hc_44
      exact z_vret hx hb hr hlocks hP hD hS (Nat.le_of_ble_eq_true rfl) (Nat.le_of_ble_eq_true rfl) d_Machine_gatherRanges_91 ⟨y_38, y_39, y_40, y_41, rfl, rfl, hy_41, (fun h1 h2 h3 => yER_N (hli_43 h1 h2 h3) (by omega))⟩
    · have _nhc_44 := hc_44
      have ni_46 := (fa_lt _ _).mp (zi_nle hc_44)
      have hv_47 : zI y_37 1 240 := zI.lt_l hy_37 hb25 (zi_nle hc_44) (by decide)
      have hv_48 : zI b25 2 241 := zI.lt_r hy_37 hb25 (zi_nle hc_44) (by decide)
      refine lv_aload_n hx hb d_Machine_gatherRanges_10 rfl (lv_at hl 1 rfl) ?_
      refine lv_aload_n hx hb d_Machine_gatherRanges_11 rfl (lv_at hl 1 rfl) ?_
      refine lv_aload_n hx hb d_Machine_gatherRanges_12 rfl (lv_at hl 2 rfl) ?_
      refine lv_iload_n hx hb d_Machine_gatherRanges_13 rfl (lv_at hl 0 rfl) ?_
      refine z_callV (index := 106) (As := [.ref b1, .int y_37]) (rest := [.ref b0]) (wr := [(b11, .inl (G.2 0, 240, .inl b18)), (b12, .inl (G.2 0, 240, .inl y_38)), (b13, .inl (G.2 0, 240, .inl y_39)), (b14, .inl (G.2 0, 240, .inl y_40)), (b16, .inl (G.2 0, 241, .inl y_41)), (b28, .inl (G.2 0, 241, .inl b36)), (b30, .inl (G.2 0, 241, .inl b37)), (b31, .inl (G.2 0, 241, .inl b38))]) Z (s1_Machine_keyOf l G (b0) (b1) (y_37) (b2) (b3) (b4) (b5) (b6) (b7) (b8) (b9) (b10) (b11) (b12) (b13) (b14) (b15) (b16) (b17) (b23) (b24) (b25) (b26) (b27) (b28) (b29) (b30) (b31) (b32) (b33) (b34) (b35) hv_47 hb2 hb3 hb10 hb23 (zI.wk (l' := 0) (h' := 241) hv_48 (by decide)) hb17 hb34 hb35) hl.1 q641 q643 qs11 q6 q644 ⟨by decide, by decide, by show _ = some 2; decide +kernel⟩ ⟨Nat.le_of_ble_eq_true rfl, Nat.le_of_ble_eq_true rfl⟩ ⟨Nat.le_of_ble_eq_true rfl, Nat.le_of_ble_eq_true rfl⟩ rfl (Nat.le_of_ble_eq_true rfl) d_Machine_gatherRanges_14 hP hD hS hA 0 5 rfl rfl rfl [0, 1, 7, 8, 9] [2, 3, 4, 5, 6, 10, 11, 12] rfl rfl rfl rfl (by decide) (fun v w1 H locs hw_49 hP hD hS => ?_)
      obtain ⟨x_50, rfl, rfl, hx_50, hfx_51, hfx_52⟩ := hw_49
      have hP : va_P G.1 classes [(b11, .inl (G.2 0, 240, .inl b18)), (b12, .inl (G.2 0, 240, .inl y_38)), (b13, .inl (G.2 0, 240, .inl y_39)), (b14, .inl (G.2 0, 240, .inl y_40)), (b16, .inl (G.2 0, 241, .inl y_41)), (b28, .inl (G.2 0, 241, .inl b36)), (b30, .inl (G.2 0, 241, .inl b37)), (b31, .inl (G.2 0, 241, .inl b38)), (b0, .inr (5, [.int b2, .int b3, .ref b4, .ref b5, .ref b6, .ref b7, .ref b8, .ref b9, .int b10, .ref b11, .ref b12, .ref b13, .ref b14, .ref b15, .ref b16])), (b4, .inl (G.2 0, 241, .inl b17)), (b1, .inr (3, [.int b23, .int b24, .int b25, .ref b26, .ref b27, .ref b28, .ref b29, .ref b30, .ref b31, .ref b32, .ref b33])), (b26, .inl (G.2 0, 241, .inl b34)), (b27, .inl (G.2 0, 241, .inl b35))] H := hP
      have hD := z_tie hP hD rfl
      refine W.widen (k := 0) (n := 0) (Nat.le_of_ble_eq_true rfl) (Nat.le_of_ble_eq_true rfl) ?_
      refine z_callV (index := 110) (As := [.int x_50]) (rest := []) (wr := [(b12, .inl (G.2 0, 240, .inl y_38)), (b13, .inl (G.2 0, 240, .inl y_39)), (b14, .inl (G.2 0, 240, .inl y_40)), (b16, .inl (G.2 0, 241, .inl y_41)), (b28, .inl (G.2 0, 241, .inl b36)), (b30, .inl (G.2 0, 241, .inl b37)), (b31, .inl (G.2 0, 241, .inl b38)), (b4, .inl (G.2 0, 241, .inl b17)), (b1, .inr (3, [.int b23, .int b24, .int b25, .ref b26, .ref b27, .ref b28, .ref b29, .ref b30, .ref b31, .ref b32, .ref b33])), (b26, .inl (G.2 0, 241, .inl b34)), (b27, .inl (G.2 0, 241, .inl b35))]) Z (s2_Machine_placeOf l G (b0) (x_50) (b2) (b3) (b4) (b5) (b6) (b7) (b8) (b9) (b10) (b11) (b12) (b13) (b14) (b15) (b16) (b18) hb2 hb3 hb10 hb18) hl.1 q645 q647 qs12 q6 q648 ⟨by decide, by decide, by show _ = some 1; decide +kernel⟩ ⟨Nat.le_of_ble_eq_true rfl, Nat.le_of_ble_eq_true rfl⟩ ⟨Nat.le_of_ble_eq_true rfl, Nat.le_of_ble_eq_true rfl⟩ rfl (Nat.le_of_ble_eq_true rfl) d_Machine_gatherRanges_17 hP hD hS hA 8 5 rfl rfl rfl [8, 0] [1, 2, 3, 4, 5, 6, 7, 9, 10, 11, 12] rfl rfl rfl rfl (by decide) (fun v w1 H locs hw_53 hP hD hS => ?_)
      obtain ⟨x_54, rfl, rfl, hx_54, hfx_55, hfx_56, hfx_57, hfx_58⟩ := hw_53
      have hP : va_P G.1 classes [(b12, .inl (G.2 0, 240, .inl y_38)), (b13, .inl (G.2 0, 240, .inl y_39)), (b14, .inl (G.2 0, 240, .inl y_40)), (b16, .inl (G.2 0, 241, .inl y_41)), (b28, .inl (G.2 0, 241, .inl b36)), (b30, .inl (G.2 0, 241, .inl b37)), (b31, .inl (G.2 0, 241, .inl b38)), (b4, .inl (G.2 0, 241, .inl b17)), (b1, .inr (3, [.int b23, .int b24, .int b25, .ref b26, .ref b27, .ref b28, .ref b29, .ref b30, .ref b31, .ref b32, .ref b33])), (b26, .inl (G.2 0, 241, .inl b34)), (b27, .inl (G.2 0, 241, .inl b35)), (b0, .inr (5, [.int b2, .int b3, .ref b4, .ref b5, .ref b6, .ref b7, .ref b8, .ref b9, .int b10, .ref b11, .ref b12, .ref b13, .ref b14, .ref b15, .ref b16])), (b11, .inl (G.2 0, 240, .inl b18))] H := hP
      have hD := z_tie hP hD rfl
      refine W.widen (k := 0) (n := 0) (Nat.le_of_ble_eq_true rfl) (Nat.le_of_ble_eq_true rfl) ?_
      have _wx_54 : x_54.toInt < b10.toInt := by rcases Decidable.em (x_54.toInt < b10.toInt) with h9 | h9; exact h9; exfalso; have h8 := hkj.2 (by omega); rcases hfx_57 (by omega) with h7 | h7; omega; have h6 := hkj.1 y_37.toInt.toNat (by omega) (by omega); rw [← hfx_51] at h6; have h5 : (b10.toInt - 1).toNat = b10.toInt.toNat - 1 := (by omega); rw [h5] at h7; omega
      have hv_59 : zI x_54 0 239 := ⟨by omega, by omega⟩
      refine lv_istore_n (lv' := [(3, .int x_54), (2, .int y_37), (0, .ref b0), (1, .ref b1)]) hx hb d_Machine_gatherRanges_20 rfl hl (by decide) rfl (fun ls hl => ?_)
      refine lv_aload_n hx hb d_Machine_gatherRanges_21 rfl (lv_at hl 2 rfl) ?_
      refine va_get (D := G.1) (ci := 5) (v := .ref b16) (C := R_Machine) (T := F_Machine) (N := 15) hx hb hts i_Machine hown hK hP 11 rfl rfl 14 (by decide) (hts _ q198) (fun _ h9 => h9) rfl d_Machine_gatherRanges_22 ?_
      refine lv_iload_n hx hb d_Machine_gatherRanges_25 rfl (lv_at hl 1 rfl) ?_
      refine lv_iload_n hx hb d_Machine_gatherRanges_26 rfl (lv_at hl 0 rfl) ?_
      refine va_iast hx hb hK hP hD hS 3 0 rfl rfl (zI.inn hv_47 (by decide)) d_Machine_gatherRanges_27 (fun H locs hP hD hS => ?_)
      obtain ⟨f_60, hf_60, gf_60, uf_60, hP, hD⟩ := z_newfu 3 hP hD rfl hy_41 hv_59
      have hP : va_P G.1 classes [(b12, .inl (G.2 0, 240, .inl y_38)), (b13, .inl (G.2 0, 240, .inl y_39)), (b14, .inl (G.2 0, 240, .inl y_40)), (b16, .inl (G.2 0, 241, .inl f_60)), (b28, .inl (G.2 0, 241, .inl b36)), (b30, .inl (G.2 0, 241, .inl b37)), (b31, .inl (G.2 0, 241, .inl b38)), (b4, .inl (G.2 0, 241, .inl b17)), (b1, .inr (3, [.int b23, .int b24, .int b25, .ref b26, .ref b27, .ref b28, .ref b29, .ref b30, .ref b31, .ref b32, .ref b33])), (b26, .inl (G.2 0, 241, .inl b34)), (b27, .inl (G.2 0, 241, .inl b35)), (b0, .inr (5, [.int b2, .int b3, .ref b4, .ref b5, .ref b6, .ref b7, .ref b8, .ref b9, .int b10, .ref b11, .ref b12, .ref b13, .ref b14, .ref b15, .ref b16])), (b11, .inl (G.2 0, 240, .inl b18))] H := hP
      have hD := z_tie hP hD rfl
      refine lv_aload_n hx hb d_Machine_gatherRanges_28 rfl (lv_at hl 2 rfl) ?_
      refine va_get (D := G.1) (ci := 5) (v := .ref b12) (C := R_Machine) (T := F_Machine) (N := 15) hx hb hts i_Machine hown hK hP 11 rfl rfl 10 (by decide) (hts _ q187) (fun _ h9 => h9) rfl d_Machine_gatherRanges_29 ?_
      refine lv_iload_n hx hb d_Machine_gatherRanges_32 rfl (lv_at hl 0 rfl) ?_
      refine lv_dup2_11 hx hb d_Machine_gatherRanges_33 rfl rfl ?_
      refine va_iald hx hb hK hP 0 0 rfl rfl (zI.inn hv_59 (by decide)) d_Machine_gatherRanges_34 ?_
      refine lv_topi (fun v_61 ev_61 => ?_)
      refine lv_aload_n hx hb d_Machine_gatherRanges_35 rfl (lv_at hl 3 rfl) ?_
      refine va_get (D := G.1) (ci := 3) (v := .ref b28) (C := R_Tree) (T := F_Tree) (N := 11) hx hb hts i_Tree hown hK hP 8 rfl rfl 5 (by decide) (hts _ q108) (fun _ h9 => h9) rfl d_Machine_gatherRanges_36 ?_
      refine lv_iload_n hx hb d_Machine_gatherRanges_39 rfl (lv_at hl 1 rfl) ?_
      refine va_iald hx hb hK hP 4 0 rfl rfl (zI.inn hv_47 (by decide)) d_Machine_gatherRanges_40 ?_
      refine lv_topi (fun v_62 ev_62 => ?_)
      refine lv_iadd hx hb d_Machine_gatherRanges_41 ?_
      refine lv_topi (fun v_63 ev_63 => ?_)
      refine va_iast hx hb hK hP hD hS 0 0 rfl rfl (zI.inn hv_59 (by decide)) d_Machine_gatherRanges_42 (fun H locs hP hD hS => ?_)
      obtain ⟨f_64, gf_64, uf_64, hP, hD⟩ := z_newFu 0 hP hD rfl
      have hP : va_P G.1 classes [(b12, .inl (G.2 0, 240, .inl f_64)), (b13, .inl (G.2 0, 240, .inl y_39)), (b14, .inl (G.2 0, 240, .inl y_40)), (b16, .inl (G.2 0, 241, .inl f_60)), (b28, .inl (G.2 0, 241, .inl b36)), (b30, .inl (G.2 0, 241, .inl b37)), (b31, .inl (G.2 0, 241, .inl b38)), (b4, .inl (G.2 0, 241, .inl b17)), (b1, .inr (3, [.int b23, .int b24, .int b25, .ref b26, .ref b27, .ref b28, .ref b29, .ref b30, .ref b31, .ref b32, .ref b33])), (b26, .inl (G.2 0, 241, .inl b34)), (b27, .inl (G.2 0, 241, .inl b35)), (b0, .inr (5, [.int b2, .int b3, .ref b4, .ref b5, .ref b6, .ref b7, .ref b8, .ref b9, .int b10, .ref b11, .ref b12, .ref b13, .ref b14, .ref b15, .ref b16])), (b11, .inl (G.2 0, 240, .inl b18))] H := hP
      have hD := z_tie hP hD rfl
      refine lv_aload_n hx hb d_Machine_gatherRanges_43 rfl (lv_at hl 2 rfl) ?_
      refine va_get (D := G.1) (ci := 5) (v := .ref b13) (C := R_Machine) (T := F_Machine) (N := 15) hx hb hts i_Machine hown hK hP 11 rfl rfl 11 (by decide) (hts _ q191) (fun _ h9 => h9) rfl d_Machine_gatherRanges_44 ?_
      refine lv_iload_n hx hb d_Machine_gatherRanges_47 rfl (lv_at hl 0 rfl) ?_
      refine lv_aload_n hx hb d_Machine_gatherRanges_48 rfl (lv_at hl 2 rfl) ?_
      refine va_get (D := G.1) (ci := 5) (v := .ref b13) (C := R_Machine) (T := F_Machine) (N := 15) hx hb hts i_Machine hown hK hP 11 rfl rfl 11 (by decide) (hts _ q191) (fun _ h9 => h9) rfl d_Machine_gatherRanges_49 ?_
      refine lv_iload_n hx hb d_Machine_gatherRanges_52 rfl (lv_at hl 0 rfl) ?_
      refine va_iald hx hb hK hP 1 0 rfl rfl (zI.inn hv_59 (by decide)) d_Machine_gatherRanges_53 ?_
      refine lv_topi (fun v_65 ev_65 => ?_)
      refine lv_aload_n hx hb d_Machine_gatherRanges_54 rfl (lv_at hl 3 rfl) ?_
      refine va_get (D := G.1) (ci := 3) (v := .ref b30) (C := R_Tree) (T := F_Tree) (N := 11) hx hb hts i_Tree hown hK hP 8 rfl rfl 7 (by decide) (hts _ q112) (fun _ h9 => h9) rfl d_Machine_gatherRanges_55 ?_
      refine lv_iload_n hx hb d_Machine_gatherRanges_58 rfl (lv_at hl 1 rfl) ?_
      refine va_iald hx hb hK hP 5 0 rfl rfl (zI.inn hv_47 (by decide)) d_Machine_gatherRanges_59 ?_
      refine lv_topi (fun v_66 ev_66 => ?_)
      refine va_mmin hx hb (hml.trans hl.1.symm) hown (hts _ q654) (hts _ q592) (hts _ q20) (hts _ q593) (Nat.le_of_ble_eq_true rfl) (Nat.le_of_ble_eq_true rfl) (Nat.le_of_ble_eq_true rfl) (Nat.le_of_ble_eq_true rfl) d_Machine_gatherRanges_60 ?_
      refine lv_topi (fun v_67 ev_67 => ?_)
      have hv_67 := zI_min (l := (-2147483648)) (h := 2147483647) (zI_all v_65) (zI_all v_66) ev_67 (by decide)
      refine va_iast hx hb hK hP hD hS 1 0 rfl rfl (zI.inn hv_59 (by decide)) d_Machine_gatherRanges_63 (fun H locs hP hD hS => ?_)
      obtain ⟨f_68, gf_68, uf_68, hP, hD⟩ := z_newFu 1 hP hD rfl
      have hP : va_P G.1 classes [(b12, .inl (G.2 0, 240, .inl f_64)), (b13, .inl (G.2 0, 240, .inl f_68)), (b14, .inl (G.2 0, 240, .inl y_40)), (b16, .inl (G.2 0, 241, .inl f_60)), (b28, .inl (G.2 0, 241, .inl b36)), (b30, .inl (G.2 0, 241, .inl b37)), (b31, .inl (G.2 0, 241, .inl b38)), (b4, .inl (G.2 0, 241, .inl b17)), (b1, .inr (3, [.int b23, .int b24, .int b25, .ref b26, .ref b27, .ref b28, .ref b29, .ref b30, .ref b31, .ref b32, .ref b33])), (b26, .inl (G.2 0, 241, .inl b34)), (b27, .inl (G.2 0, 241, .inl b35)), (b0, .inr (5, [.int b2, .int b3, .ref b4, .ref b5, .ref b6, .ref b7, .ref b8, .ref b9, .int b10, .ref b11, .ref b12, .ref b13, .ref b14, .ref b15, .ref b16])), (b11, .inl (G.2 0, 240, .inl b18))] H := hP
      have hD := z_tie hP hD rfl
      refine lv_aload_n hx hb d_Machine_gatherRanges_64 rfl (lv_at hl 2 rfl) ?_
      refine va_get (D := G.1) (ci := 5) (v := .ref b14) (C := R_Machine) (T := F_Machine) (N := 15) hx hb hts i_Machine hown hK hP 11 rfl rfl 12 (by decide) (hts _ q193) (fun _ h9 => h9) rfl d_Machine_gatherRanges_65 ?_
      refine lv_iload_n hx hb d_Machine_gatherRanges_68 rfl (lv_at hl 0 rfl) ?_
      refine lv_aload_n hx hb d_Machine_gatherRanges_69 rfl (lv_at hl 2 rfl) ?_
      refine va_get (D := G.1) (ci := 5) (v := .ref b14) (C := R_Machine) (T := F_Machine) (N := 15) hx hb hts i_Machine hown hK hP 11 rfl rfl 12 (by decide) (hts _ q193) (fun _ h9 => h9) rfl d_Machine_gatherRanges_70 ?_
      refine lv_iload_n hx hb d_Machine_gatherRanges_73 rfl (lv_at hl 0 rfl) ?_
      refine va_iald hx hb hK hP 2 0 rfl rfl (zI.inn hv_59 (by decide)) d_Machine_gatherRanges_74 ?_
      refine lv_topi (fun v_69 ev_69 => ?_)
      refine lv_aload_n hx hb d_Machine_gatherRanges_75 rfl (lv_at hl 3 rfl) ?_
      refine va_get (D := G.1) (ci := 3) (v := .ref b31) (C := R_Tree) (T := F_Tree) (N := 11) hx hb hts i_Tree hown hK hP 8 rfl rfl 8 (by decide) (hts _ q114) (fun _ h9 => h9) rfl d_Machine_gatherRanges_76 ?_
      refine lv_iload_n hx hb d_Machine_gatherRanges_79 rfl (lv_at hl 1 rfl) ?_
      refine va_iald hx hb hK hP 6 0 rfl rfl (zI.inn hv_47 (by decide)) d_Machine_gatherRanges_80 ?_
      refine lv_topi (fun v_70 ev_70 => ?_)
      refine va_mmax hx hb (hml.trans hl.1.symm) hown (hts _ q655) (hts _ q595) (hts _ q20) (hts _ q596) (Nat.le_of_ble_eq_true rfl) (Nat.le_of_ble_eq_true rfl) (Nat.le_of_ble_eq_true rfl) (Nat.le_of_ble_eq_true rfl) d_Machine_gatherRanges_81 ?_
      refine lv_topi (fun v_71 ev_71 => ?_)
      have hv_71 := zI_max (l := (-2147483648)) (h := 2147483647) (zI_all v_69) (zI_all v_70) ev_71 (by decide)
      refine va_iast hx hb hK hP hD hS 2 0 rfl rfl (zI.inn hv_59 (by decide)) d_Machine_gatherRanges_84 (fun H locs hP hD hS => ?_)
      obtain ⟨f_72, gf_72, uf_72, hP, hD⟩ := z_newFu 2 hP hD rfl
      have hP : va_P G.1 classes [(b12, .inl (G.2 0, 240, .inl f_64)), (b13, .inl (G.2 0, 240, .inl f_68)), (b14, .inl (G.2 0, 240, .inl f_72)), (b16, .inl (G.2 0, 241, .inl f_60)), (b28, .inl (G.2 0, 241, .inl b36)), (b30, .inl (G.2 0, 241, .inl b37)), (b31, .inl (G.2 0, 241, .inl b38)), (b4, .inl (G.2 0, 241, .inl b17)), (b1, .inr (3, [.int b23, .int b24, .int b25, .ref b26, .ref b27, .ref b28, .ref b29, .ref b30, .ref b31, .ref b32, .ref b33])), (b26, .inl (G.2 0, 241, .inl b34)), (b27, .inl (G.2 0, 241, .inl b35)), (b0, .inr (5, [.int b2, .int b3, .ref b4, .ref b5, .ref b6, .ref b7, .ref b8, .ref b9, .int b10, .ref b11, .ref b12, .ref b13, .ref b14, .ref b15, .ref b16])), (b11, .inl (G.2 0, 240, .inl b18))] H := hP
      have hD := z_tie hP hD rfl
      obtain ⟨v_73, ev_73⟩ : ∃ z : Int32, z = y_37 + 1 := ⟨_, rfl⟩
      obtain ⟨qv_73, hv_73⟩ := zI_add (l := 2) (h := 241) hv_47 zc_1 ev_73 (by decide)
      rw [li_1] at qv_73
      refine lv_iinc (v := v_73) (lv' := [(2, .int v_73), (3, .int x_54), (0, .ref b0), (1, .ref b1)]) hx hb d_Machine_gatherRanges_85 hl (k := 1) rfl (by rw [ev_73]; rfl) (by decide) rfl (fun ls hl => ?_)
      refine lv_goto (tgt := 2) hx hb d_Machine_gatherRanges_88 (by decide) ?_
      exact ihk_36 (v_73) (f_64) (f_68) (f_72) (f_60) _ _ _ (zI.wk (l' := 1) (h' := 241) hv_73 (by decide)) hf_60 (by omega) (fun h1 h2 h3 => by rw [show v_73.toInt.toNat = y_37.toInt.toNat + 1 by omega]; exact yER_s (at_ := x_54) (l := y_37) (hli_43 h1 h2 h3) h1 ⟨_, by omega, by omega, rfl⟩ ⟨by omega, by omega⟩ (by omega) hfx_51 ⟨by omega, by omega⟩ (fun h9 => hfx_56 (by omega)) hfx_58 (fun q h8 h9 => h3 q h8 (by omega)) uf_60 ev_61 ev_62 ev_63 uf_64 ev_65 ev_66 ev_67 uf_68 ev_69 ev_70 ev_71 uf_72) (zm_up qv_73 hmk_36 (by decide)) (hP.sub [11, 7, 12, 0, 1, 2, 3, 8, 9, 10, 4, 5, 6] rfl) (hD.sub [11, 7, 12, 0, 1, 2, 3, 8, 9, 10, 4, 5, 6] (by decide) rfl) hS (lv_sub hl [0, 2, 3] rfl)
abbrev m_s3_Machine_gatherFirsts : Room := { frames := 1, cells := 0, slots := 0, locals := 21 }
set_option maxHeartbeats 4000000 in
set_option maxRecDepth 100000 in
theorem s3_Machine_gatherFirsts (l : Launch) (G : zG) (b0 : Nat) (b1 : Int32) (b2 : Int32) (b3 : Nat) (b4 : Nat) (b5 : Nat) (b6 : Nat) (b7 : Nat) (b8 : Nat) (b9 : Int32) (b10 : Nat) (b11 : Nat) (b12 : Nat) (b13 : Nat) (b14 : Nat) (b15 : Nat) (b16 : Nat → Int32) (b17 : Nat → Int32) (hb1 : zI b1 0 1) (hb2 : zI b2 0 241) (hb9 : zI b9 0 240) (hb16 : zK b16) (hb17 : zR b17 0 240) : zM l G y_Machine_gatherFirsts prog_4_method_11_code 3 (Option.none : Option Jvm.ClassFile.FieldType) m_s3_Machine_gatherFirsts [.ref b0] [(b0, .inr (5, [.int b1, .int b2, .ref b3, .ref b4, .ref b5, .ref b6, .ref b7, .ref b8, .int b9, .ref b10, .ref b11, .ref b12, .ref b13, .ref b14, .ref b15])), (b10, .inl (G.2 0, 240, .inl b16)), (b14, .inl (G.2 0, 242, .inl b17))] (fun v w => ∃ (e0 : Nat → Int32), v = none ∧ w = [(b0, .inr (5, [.int b1, .int b2, .ref b3, .ref b4, .ref b5, .ref b6, .ref b7, .ref b8, .int b9, .ref b10, .ref b11, .ref b12, .ref b13, .ref b14, .ref b15])), (b10, .inl (G.2 0, 240, .inl b16)), (b14, .inl (G.2 0, 242, .inl e0))] ∧ (zR e0 0 240) ∧ ((∀ i9 j9 : Nat, i9 < j9 → j9 < (b9 : Int32).toInt.toNat → (b16 i9).toInt ≤ (b16 j9).toInt) → (∀ e9 : Nat, e9 < (b9 : Int32).toInt.toNat → 0 ≤ (b16 e9).toInt ∧ (b16 e9).toInt / 2560 < (b2 : Int32).toInt) → ∀ s9 : Nat, s9 ≤ (b2 : Int32).toInt.toNat → yFE (fun e9 => (b16 e9).toInt / 2560) (b9 : Int32).toInt.toNat s9 (e0 s9).toInt)) := by
  refine z_start (by decide +kernel) (Nat.le_of_ble_eq_true rfl) ?_
  intro p e s m below meth c A Z hr hnm hA hP hD hS ls hl
  have Z : zC p s m _ meth c prog_4_method_11_code 3 "TraceMachines$Machine" G := Z
  obtain ⟨hx, hb, hml, hown, hts, hK, hN, hlocks⟩ := id Z
  have hl : lv_has ls 3 [(0, .ref b0)] := hl
  refine lv_iconst (v := 0) hx hb d_Machine_gatherFirsts_0 (by decide) ?_
  refine lv_istore_n (lv' := [(1, .int 0), (0, .ref b0)]) hx hb d_Machine_gatherFirsts_1 rfl hl (by decide) rfl (fun ls hl => ?_)
  refine lv_iconst (v := 0) hx hb d_Machine_gatherFirsts_2 (by decide) ?_
  refine lv_istore_n (lv' := [(2, .int 0), (1, .int 0), (0, .ref b0)]) hx hb d_Machine_gatherFirsts_3 rfl hl (by decide) rfl (fun ls hl => ?_)
  suffices key : ∀ (k_41 : Nat) (y_42 : Int32) (y_43 : Int32) (y_44 : Nat → Int32) (H : Heap) (locs : List Loc) (ls : Array Slot), (zI y_42 0 241) → (zI y_43 0 240) → (zR y_44 0 240) → ((∀ i9 j9 : Nat, i9 < j9 → j9 < (b9 : Int32).toInt.toNat → (b16 i9).toInt ≤ (b16 j9).toInt) → (∀ e9 : Nat, e9 < (b9 : Int32).toInt.toNat → 0 ≤ (b16 e9).toInt ∧ (b16 e9).toInt / 2560 < (b2 : Int32).toInt) → (∀ s9 : Nat, s9 < (y_42 : Int32).toInt.toNat → yFE (fun e9 => (b16 e9).toInt / 2560) (b9 : Int32).toInt.toNat s9 (y_44 s9).toInt) ∧ yFE (fun e9 => (b16 e9).toInt / 2560) (b9 : Int32).toInt.toNat (y_42 : Int32).toInt.toNat (y_43 : Int32).toInt) → ((y_42 : Int32).toInt ≤ (b2 : Int32).toInt) → (241 : Int) - y_42.toInt < (k_41 : Int) → va_P G.1 classes [(b0, .inr (5, [.int b1, .int b2, .ref b3, .ref b4, .ref b5, .ref b6, .ref b7, .ref b8, .int b9, .ref b10, .ref b11, .ref b12, .ref b13, .ref b14, .ref b15])), (b10, .inl (G.2 0, 240, .inl b16)), (b14, .inl (G.2 0, 242, .inl y_44))] H → va_D A [(b0, .inr (5, [.int b1, .int b2, .ref b3, .ref b4, .ref b5, .ref b6, .ref b7, .ref b8, .int b9, .ref b10, .ref b11, .ref b12, .ref b13, .ref b14, .ref b15])), (b10, .inl (G.2 0, 240, .inl b16)), (b14, .inl (G.2 0, 242, .inl y_44))] → va_S A s.heap H locs → lv_has ls 3 [(2, .int y_42), (1, .int y_43), (0, .ref b0)] → W p l e m_s3_Machine_gatherFirsts s m ([.ref b0] : List Value).toArray below meth c H locs 0 0 (MQ below (zQ G (fun v w => ∃ (e0 : Nat → Int32), v = none ∧ w = [(b0, .inr (5, [.int b1, .int b2, .ref b3, .ref b4, .ref b5, .ref b6, .ref b7, .ref b8, .int b9, .ref b10, .ref b11, .ref b12, .ref b13, .ref b14, .ref b15])), (b10, .inl (G.2 0, 240, .inl b16)), (b14, .inl (G.2 0, 242, .inl e0))] ∧ (zR e0 0 240) ∧ ((∀ i9 j9 : Nat, i9 < j9 → j9 < (b9 : Int32).toInt.toNat → (b16 i9).toInt ≤ (b16 j9).toInt) → (∀ e9 : Nat, e9 < (b9 : Int32).toInt.toNat → 0 ≤ (b16 e9).toInt ∧ (b16 e9).toInt / 2560 < (b2 : Int32).toInt) → ∀ s9 : Nat, s9 ≤ (b2 : Int32).toInt.toNat → yFE (fun e9 => (b16 e9).toInt / 2560) (b9 : Int32).toInt.toNat s9 (e0 s9).toInt)) A) ([.ref b0] : List Value).toArray s m_s3_Machine_gatherFirsts.cells m_s3_Machine_gatherFirsts.slots A) (F0 m 4 ls []) by
    exact key 242 (0) (0) (b17) _ _ _ (zI.wk (l' := 0) (h' := 241) zc_0 (by decide)) (zI.wk (l' := 0) (h' := 240) zc_0 (by decide)) hb17 (fun h1 h2 => by rw [show (0 : Int32).toInt.toNat = 0 by rw [li_0]; rfl, li_0]; exact ⟨fun s9 h9 => by omega, yFE_0 (fun e he => Int.ediv_nonneg (h2 e he).1 (by decide))⟩) (by have _l0 := li_0; omega) (zm_upi (zI.wk (l' := 0) (h' := 241) zc_0 (by decide)) (by decide)) hP hD hS (lv_sub hl [0, 1, 2] rfl)
  intro k_41
  induction k_41 with
  | zero =>
    intro y_42 y_43 y_44 H locs ls hy_42 hy_43 hy_44 hli_45 hli_46 hmk_41 hP hD hS hl
    exact (zm_up0 hy_42 hmk_41).elim
  | succ k_41 ihk_41 =>
    intro y_42 y_43 y_44 H locs ls hy_42 hy_43 hy_44 hli_45 hli_46 hmk_41 hP hD hS hl
    refine lv_iload_n hx hb d_Machine_gatherFirsts_4 rfl (lv_at hl 0 rfl) ?_
    refine lv_aload_n hx hb d_Machine_gatherFirsts_5 rfl (lv_at hl 2 rfl) ?_
    refine va_get (D := G.1) (ci := 5) (v := .int b2) (C := R_Machine) (T := F_Machine) (N := 15) hx hb hts i_Machine hown hK hP 0 rfl rfl 1 (by decide) (hts _ q168) (fun _ h9 => h9) rfl d_Machine_gatherFirsts_6 ?_
    refine lv_icmp_ge (tgt := 48) hx hb d_Machine_gatherFirsts_9 (by decide) (fun hc_47 => ?_) (fun hc_47 => ?_)
    · have _nhc_47 := hc_47
      have ni_48 := (fa_le _ _).mp hc_47
      refine lv_aload_n hx hb d_Machine_gatherFirsts_48 rfl (lv_at hl 2 rfl) ?_
      refine va_get (D := G.1) (ci := 5) (v := .ref b14) (C := R_Machine) (T := F_Machine) (N := 15) hx hb hts i_Machine hown hK hP 0 rfl rfl 13 (by decide) (hts _ q195) (fun _ h9 => h9) rfl d_Machine_gatherFirsts_49 ?_
      refine lv_aload_n hx hb d_Machine_gatherFirsts_52 rfl (lv_at hl 2 rfl) ?_
      refine va_get (D := G.1) (ci := 5) (v := .int b2) (C := R_Machine) (T := F_Machine) (N := 15) hx hb hts i_Machine hown hK hP 0 rfl rfl 1 (by decide) (hts _ q168) (fun _ h9 => h9) rfl d_Machine_gatherFirsts_53 ?_
      refine lv_aload_n hx hb d_Machine_gatherFirsts_56 rfl (lv_at hl 2 rfl) ?_
      refine va_get (D := G.1) (ci := 5) (v := .int b9) (C := R_Machine) (T := F_Machine) (N := 15) hx hb hts i_Machine hown hK hP 0 rfl rfl 8 (by decide) (hts _ q184) (fun _ h9 => h9) rfl d_Machine_gatherFirsts_57 ?_
      refine va_iast hx hb hK hP hD hS 2 0 rfl rfl (zI.inn hb2 (by decide)) d_Machine_gatherFirsts_60 (fun H locs hP hD hS => ?_)
      obtain ⟨f_49, hf_49, gf_49, uf_49, hP, hD⟩ := z_newfu 2 hP hD rfl hy_44 hb9
      have hP : va_P G.1 classes [(b0, .inr (5, [.int b1, .int b2, .ref b3, .ref b4, .ref b5, .ref b6, .ref b7, .ref b8, .int b9, .ref b10, .ref b11, .ref b12, .ref b13, .ref b14, .ref b15])), (b10, .inl (G.2 0, 240, .inl b16)), (b14, .inl (G.2 0, 242, .inl f_49))] H := hP
      have hD := z_tie hP hD rfl
      exact z_vret hx hb hr hlocks hP hD hS (Nat.le_of_ble_eq_true rfl) (Nat.le_of_ble_eq_true rfl) d_Machine_gatherFirsts_61 ⟨f_49, rfl, rfl, hf_49, (fun h1 h2 => by obtain ⟨j1, j2⟩ := hli_45 h1 h2; have p9 := z_pl hb2 (by decide); intro s9 h9; rw [uf_49, z_at]; by_cases c9 : s9 = b2.toNatClampNeg; (rw [if_pos c9]; exact ⟨by omega, by omega, fun e he => ⟨fun _ => by omega, fun _ => by have k9 := (h2 e he).2; show (b16 e).toInt / 2560 < _; omega⟩⟩); (rw [if_neg c9]; exact j1 s9 (by omega)))⟩
    · have _nhc_47 := hc_47
      have ni_50 := (fa_lt _ _).mp (zi_nle hc_47)
      have hv_51 : zI y_42 0 240 := zI.lt_l hy_42 hb2 (zi_nle hc_47) (by decide)
      have hv_52 : zI b2 1 241 := zI.lt_r hy_42 hb2 (zi_nle hc_47) (by decide)
      refine lv_aload_n hx hb d_Machine_gatherFirsts_12 rfl (lv_at hl 2 rfl) ?_
      refine va_get (D := G.1) (ci := 5) (v := .ref b14) (C := R_Machine) (T := F_Machine) (N := 15) hx hb hts i_Machine hown hK hP 0 rfl rfl 13 (by decide) (hts _ q195) (fun _ h9 => h9) rfl d_Machine_gatherFirsts_13 ?_
      refine lv_iload_n hx hb d_Machine_gatherFirsts_16 rfl (lv_at hl 0 rfl) ?_
      refine lv_iload_n hx hb d_Machine_gatherFirsts_17 rfl (lv_at hl 1 rfl) ?_
      refine va_iast hx hb hK hP hD hS 2 0 rfl rfl (zI.inn hv_51 (by decide)) d_Machine_gatherFirsts_18 (fun H locs hP hD hS => ?_)
      obtain ⟨f_53, hf_53, gf_53, uf_53, hP, hD⟩ := z_newfu 2 hP hD rfl hy_44 hy_43
      have hP : va_P G.1 classes [(b0, .inr (5, [.int b1, .int b2, .ref b3, .ref b4, .ref b5, .ref b6, .ref b7, .ref b8, .int b9, .ref b10, .ref b11, .ref b12, .ref b13, .ref b14, .ref b15])), (b10, .inl (G.2 0, 240, .inl b16)), (b14, .inl (G.2 0, 242, .inl f_53))] H := hP
      have hD := z_tie hP hD rfl
      suffices key : ∀ (k_69 : Nat) (y_70 : Int32) (H : Heap) (locs : List Loc) (ls : Array Slot), (zI y_70 0 240) → ((∀ i9 j9 : Nat, i9 < j9 → j9 < (b9 : Int32).toInt.toNat → (b16 i9).toInt ≤ (b16 j9).toInt) → (∀ e9 : Nat, e9 < (b9 : Int32).toInt.toNat → 0 ≤ (b16 e9).toInt ∧ (b16 e9).toInt / 2560 < (b2 : Int32).toInt) → (∀ s9 : Nat, s9 < (y_42 : Int32).toInt.toNat + 1 → yFE (fun e9 => (b16 e9).toInt / 2560) (b9 : Int32).toInt.toNat s9 (f_53 s9).toInt) ∧ (0 ≤ (y_70 : Int32).toInt ∧ (y_70 : Int32).toInt ≤ (b9 : Int32).toInt) ∧ (∀ e9 : Nat, (e9 : Int) < (y_70 : Int32).toInt → (fun e9 => (b16 e9).toInt / 2560) e9 ≤ (y_42 : Int32).toInt) ∧ ∀ e9 : Nat, (y_70 : Int32).toInt ≤ (e9 : Int) → e9 < (b9 : Int32).toInt.toNat → (y_42 : Int32).toInt ≤ (fun e9 => (b16 e9).toInt / 2560) e9) → (240 : Int) - y_70.toInt < (k_69 : Int) → va_P G.1 classes [(b0, .inr (5, [.int b1, .int b2, .ref b3, .ref b4, .ref b5, .ref b6, .ref b7, .ref b8, .int b9, .ref b10, .ref b11, .ref b12, .ref b13, .ref b14, .ref b15])), (b10, .inl (G.2 0, 240, .inl b16)), (b14, .inl (G.2 0, 242, .inl f_53))] H → va_D A [(b0, .inr (5, [.int b1, .int b2, .ref b3, .ref b4, .ref b5, .ref b6, .ref b7, .ref b8, .int b9, .ref b10, .ref b11, .ref b12, .ref b13, .ref b14, .ref b15])), (b10, .inl (G.2 0, 240, .inl b16)), (b14, .inl (G.2 0, 242, .inl f_53))] → va_S A s.heap H locs → lv_has ls 3 [(2, .int y_42), (1, .int y_70), (0, .ref b0)] → W p l e m_s3_Machine_gatherFirsts s m ([.ref b0] : List Value).toArray below meth c H locs 0 0 (MQ below (zQ G (fun v w => ∃ (e0 : Nat → Int32), v = none ∧ w = [(b0, .inr (5, [.int b1, .int b2, .ref b3, .ref b4, .ref b5, .ref b6, .ref b7, .ref b8, .int b9, .ref b10, .ref b11, .ref b12, .ref b13, .ref b14, .ref b15])), (b10, .inl (G.2 0, 240, .inl b16)), (b14, .inl (G.2 0, 242, .inl e0))] ∧ (zR e0 0 240) ∧ ((∀ i9 j9 : Nat, i9 < j9 → j9 < (b9 : Int32).toInt.toNat → (b16 i9).toInt ≤ (b16 j9).toInt) → (∀ e9 : Nat, e9 < (b9 : Int32).toInt.toNat → 0 ≤ (b16 e9).toInt ∧ (b16 e9).toInt / 2560 < (b2 : Int32).toInt) → ∀ s9 : Nat, s9 ≤ (b2 : Int32).toInt.toNat → yFE (fun e9 => (b16 e9).toInt / 2560) (b9 : Int32).toInt.toNat s9 (e0 s9).toInt)) A) ([.ref b0] : List Value).toArray s m_s3_Machine_gatherFirsts.cells m_s3_Machine_gatherFirsts.slots A) (F0 m 19 ls []) by
        exact key 241 (y_43) _ _ _ hy_43 (fun h1 h2 => by obtain ⟨j1, j2⟩ := hli_45 h1 h2; have p9 := z_pl hv_51 (by decide); have k0 := j2.2.1; refine ⟨fun s9 h9 => ?_, ⟨j2.1, by omega⟩, fun e he => ?_, fun e he h8 => ?_⟩; (rw [uf_53, z_at]; by_cases c9 : s9 = y_42.toNatClampNeg; (rw [if_pos c9, show s9 = y_42.toInt.toNat by omega]; exact j2); (rw [if_neg c9]; exact j1 s9 (by omega))); (have k9 : (b16 e).toInt / 2560 < ((y_42.toInt.toNat : Nat) : Int) := (j2.2.2 e (by omega)).mpr he; show (b16 e).toInt / 2560 ≤ _; omega); (have k9 : (b16 e).toInt / 2560 < ((y_42.toInt.toNat : Nat) : Int) ↔ (e : Int) < y_43.toInt := j2.2.2 e h8; show _ ≤ (b16 e).toInt / 2560; omega)) (zm_upi hy_43 (by decide)) hP hD hS (lv_sub hl [0, 1, 2] rfl)
      intro k_69
      induction k_69 with
      | zero =>
        intro y_70 H locs ls hy_70 hli_71 hmk_69 hP hD hS hl
        exact (zm_up0 hy_70 hmk_69).elim
      | succ k_69 ihk_69 =>
        intro y_70 H locs ls hy_70 hli_71 hmk_69 hP hD hS hl
        refine lv_iload_n hx hb d_Machine_gatherFirsts_19 rfl (lv_at hl 1 rfl) ?_
        refine lv_aload_n hx hb d_Machine_gatherFirsts_20 rfl (lv_at hl 2 rfl) ?_
        refine va_get (D := G.1) (ci := 5) (v := .int b9) (C := R_Machine) (T := F_Machine) (N := 15) hx hb hts i_Machine hown hK hP 0 rfl rfl 8 (by decide) (hts _ q184) (fun _ h9 => h9) rfl d_Machine_gatherFirsts_21 ?_
        refine lv_icmp_ge (tgt := 42) hx hb d_Machine_gatherFirsts_24 (by decide) (fun hc_72 => ?_) (fun hc_72 => ?_)
        · have _nhc_72 := hc_72
          have ni_73 := (fa_le _ _).mp hc_72
          obtain ⟨v_74, ev_74⟩ : ∃ z : Int32, z = y_42 + 1 := ⟨_, rfl⟩
          obtain ⟨qv_74, hv_74⟩ := zI_add (l := 1) (h := 241) hv_51 zc_1 ev_74 (by decide)
          rw [li_1] at qv_74
          refine lv_iinc (v := v_74) (lv' := [(2, .int v_74), (1, .int y_70), (0, .ref b0)]) hx hb d_Machine_gatherFirsts_42 hl (k := 0) rfl (by rw [ev_74]; rfl) (by decide) rfl (fun ls hl => ?_)
          refine lv_goto (tgt := 4) hx hb d_Machine_gatherFirsts_45 (by decide) ?_
          exact ihk_41 (v_74) (y_70) (f_53) _ _ _ (zI.wk (l' := 0) (h' := 241) hv_74 (by decide)) hy_70 hf_53 (fun h1 h2 => by obtain ⟨j1, j2, j3, j4⟩ := hli_71 h1 h2; rw [show v_74.toInt.toNat = y_42.toInt.toNat + 1 by omega]; exact ⟨j1, yFE_s (fun e he => by have k7 : (b16 e).toInt / 2560 ≤ y_42.toInt := j3 e he; show (b16 e).toInt / 2560 ≤ _; omega) ⟨by omega, by omega⟩ (fun i j hij hj => by have k9 := h1 i j hij hj; have k8 : (b16 i).toInt / 2560 ≤ (b16 j).toInt / 2560 := (by omega); exact k8) (Or.inl (by omega)) (fun e he h8 => by have k7 : y_42.toInt ≤ (b16 e).toInt / 2560 := j4 e he h8; show _ ≤ (b16 e).toInt / 2560; omega)⟩) (by omega) (zm_up qv_74 hmk_41 (by decide)) hP hD hS (lv_sub hl [0, 1, 2] rfl)
        · have _nhc_72 := hc_72
          have ni_75 := (fa_lt _ _).mp (zi_nle hc_72)
          have hv_76 : zI y_70 0 239 := zI.lt_l hy_70 hb9 (zi_nle hc_72) (by decide)
          have hv_77 : zI b9 1 240 := zI.lt_r hy_70 hb9 (zi_nle hc_72) (by decide)
          refine lv_aload_n hx hb d_Machine_gatherFirsts_27 rfl (lv_at hl 2 rfl) ?_
          refine lv_iload_n hx hb d_Machine_gatherFirsts_28 rfl (lv_at hl 1 rfl) ?_
          refine z_callV (index := 133) (As := [.int y_70]) (rest := []) (wr := [(b14, .inl (G.2 0, 242, .inl f_53))]) Z (s2_Machine_from l G (b0) (y_70) (b1) (b2) (b3) (b4) (b5) (b6) (b7) (b8) (b9) (b10) (b11) (b12) (b13) (b14) (b15) (b16) hv_76 hb1 (zI.wk (l' := 0) (h' := 241) hv_52 (by decide)) (zI.wk (l' := 0) (h' := 240) hv_77 (by decide)) hb16) hl.1 q660 q661 q662 q6 q663 ⟨by decide, by decide, by show _ = some 1; decide +kernel⟩ ⟨Nat.le_of_ble_eq_true rfl, Nat.le_of_ble_eq_true rfl⟩ ⟨Nat.le_of_ble_eq_true rfl, Nat.le_of_ble_eq_true rfl⟩ rfl (Nat.le_of_ble_eq_true rfl) d_Machine_gatherFirsts_29 hP hD hS hA 0 5 rfl rfl rfl [0, 1] [2] rfl rfl rfl rfl (by decide) (fun v w1 H locs hw_78 hP hD hS => ?_)
          obtain ⟨x_79, rfl, rfl, hx_79, hfx_80⟩ := hw_78
          have hP : va_P G.1 classes [(b14, .inl (G.2 0, 242, .inl f_53)), (b0, .inr (5, [.int b1, .int b2, .ref b3, .ref b4, .ref b5, .ref b6, .ref b7, .ref b8, .int b9, .ref b10, .ref b11, .ref b12, .ref b13, .ref b14, .ref b15])), (b10, .inl (G.2 0, 240, .inl b16))] H := hP
          have hD := z_tie hP hD rfl
          refine W.widen (k := 0) (n := 0) (Nat.le_of_ble_eq_true rfl) (Nat.le_of_ble_eq_true rfl) ?_
          refine lv_iload_n hx hb d_Machine_gatherFirsts_32 rfl (lv_at hl 0 rfl) ?_
          refine lv_icmp_ne (tgt := 42) hx hb d_Machine_gatherFirsts_33 (by decide) (fun hc_81 => ?_) (fun hc_81 => ?_)
          · have _nhc_81 := hc_81
            have ni_82 : ¬ (x_79 : Int32).toInt = (y_42 : Int32).toInt := fun z => hc_81 ((fa_eq _ _).mpr z)
            obtain ⟨v_83, ev_83⟩ : ∃ z : Int32, z = y_42 + 1 := ⟨_, rfl⟩
            obtain ⟨qv_83, hv_83⟩ := zI_add (l := 1) (h := 241) hv_51 zc_1 ev_83 (by decide)
            rw [li_1] at qv_83
            refine lv_iinc (v := v_83) (lv' := [(2, .int v_83), (1, .int y_70), (0, .ref b0)]) hx hb d_Machine_gatherFirsts_42 hl (k := 0) rfl (by rw [ev_83]; rfl) (by decide) rfl (fun ls hl => ?_)
            refine lv_goto (tgt := 4) hx hb d_Machine_gatherFirsts_45 (by decide) ?_
            exact ihk_41 (v_83) (y_70) (f_53) _ _ _ (zI.wk (l' := 0) (h' := 241) hv_83 (by decide)) (zI.wk (l' := 0) (h' := 240) hv_76 (by decide)) hf_53 (fun h1 h2 => by obtain ⟨j1, j2, j3, j4⟩ := hli_71 h1 h2; rw [show v_83.toInt.toNat = y_42.toInt.toNat + 1 by omega]; exact ⟨j1, yFE_s (fun e he => by have k7 : (b16 e).toInt / 2560 ≤ y_42.toInt := j3 e he; show (b16 e).toInt / 2560 ≤ _; omega) ⟨by omega, by omega⟩ (fun i j hij hj => by have k9 := h1 i j hij hj; have k8 : (b16 i).toInt / 2560 ≤ (b16 j).toInt / 2560 := (by omega); exact k8) (Or.inr ⟨by omega, fun q9 => by have k9 := hfx_80; have q8 : (b16 y_70.toInt.toNat).toInt / 2560 = ((y_42.toInt.toNat : Nat) : Int) := q9; omega⟩) (fun e he h8 => by have k7 : y_42.toInt ≤ (b16 e).toInt / 2560 := j4 e he h8; show _ ≤ (b16 e).toInt / 2560; omega)⟩) (by omega) (zm_up qv_83 hmk_41 (by decide)) (hP.sub [1, 2, 0] rfl) (hD.sub [1, 2, 0] (by decide) rfl) hS (lv_sub hl [0, 1, 2] rfl)
          · have _nhc_81 := hc_81
            have ni_84 := (fa_eq _ _).mp hc_81
            obtain ⟨v_85, ev_85⟩ : ∃ z : Int32, z = y_70 + 1 := ⟨_, rfl⟩
            obtain ⟨qv_85, hv_85⟩ := zI_add (l := 1) (h := 240) hv_76 zc_1 ev_85 (by decide)
            rw [li_1] at qv_85
            refine lv_iinc (v := v_85) (lv' := [(1, .int v_85), (2, .int y_42), (0, .ref b0)]) hx hb d_Machine_gatherFirsts_36 hl (k := 1) rfl (by rw [ev_85]; rfl) (by decide) rfl (fun ls hl => ?_)
            refine lv_goto (tgt := 19) hx hb d_Machine_gatherFirsts_39 (by decide) ?_
            exact ihk_69 (v_85) _ _ _ (zI.wk (l' := 0) (h' := 240) hv_85 (by decide)) (fun h1 h2 => by obtain ⟨j1, j2, j3, j4⟩ := hli_71 h1 h2; have k9 := hfx_80; refine ⟨j1, ⟨by omega, by omega⟩, fun e he => ?_, fun e he h8 => j4 e (by omega) h8⟩; by_cases c9 : (e : Int) < y_70.toInt; exact j3 e c9; (rw [show e = y_70.toInt.toNat by omega]; show (b16 y_70.toInt.toNat).toInt / 2560 ≤ _; omega)) (zm_up qv_85 hmk_69 (by decide)) (hP.sub [1, 2, 0] rfl) (hD.sub [1, 2, 0] (by decide) rfl) hS (lv_sub hl [1, 0, 2] rfl)
