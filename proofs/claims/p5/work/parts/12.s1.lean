theorem d_Traces_has_0 : decode prog_10_method_3_code 0 = .ok (.iload_n 1, 1) := by decide +kernel
theorem d_Traces_has_1 : decode prog_10_method_3_code 1 = .ok (.ifCond .lt 15, 3) := by decide +kernel
theorem d_Traces_has_4 : decode prog_10_method_3_code 4 = .ok (.iload_n 1, 1) := by decide +kernel
theorem d_Traces_has_5 : decode prog_10_method_3_code 5 = .ok (.aload_n 0, 1) := by decide +kernel
theorem d_Traces_has_6 : decode prog_10_method_3_code 6 = .ok (.getfield 25, 3) := by decide +kernel
theorem d_Traces_has_9 : decode prog_10_method_3_code 9 = .ok (.if_icmp .ge 7, 3) := by decide +kernel
theorem d_Traces_has_12 : decode prog_10_method_3_code 12 = .ok (.iconst 1, 1) := by decide +kernel
theorem d_Traces_has_13 : decode prog_10_method_3_code 13 = .ok (.goto 4, 3) := by decide +kernel
theorem d_Traces_has_16 : decode prog_10_method_3_code 16 = .ok (.iconst 0, 1) := by decide +kernel
theorem d_Traces_has_17 : decode prog_10_method_3_code 17 = .ok (.ireturn, 1) := by decide +kernel
theorem li_0 : (0 : Int32).toInt = 0 := by decide +kernel
theorem zc_0 : zI 0 0 0 := ⟨by decide +kernel, by decide +kernel⟩
abbrev m_s1_Traces_has : Room := { frames := 0, cells := 0, slots := 0, locals := 0 }
set_option maxHeartbeats 4000000 in
set_option maxRecDepth 100000 in
theorem s1_Traces_has (l : Launch) (G : zG) (b0 : Nat) (b1 : Int32) (b2 : Int32) (b3 : Int32) (b4 : Int32) (b5 : Nat) (b6 : Nat) (b7 : Nat) (hb2 : zI b2 0 20) (hb3 : zI b3 0 3) (hb4 : zI b4 0 20) : zM l G y_Traces_has prog_10_method_3_code 2 (Option.some Jvm.ClassFile.FieldType.boolean) m_s1_Traces_has [.ref b0, .int b1] [(b0, .inr (2, [.int b2, .int b3, .int b4, .ref b5, .ref b6, .ref b7]))] (fun v w => (v = some (.int 0) ∧ w = [(b0, .inr (2, [.int b2, .int b3, .int b4, .ref b5, .ref b6, .ref b7]))] ∧ b1.toInt < 0) ∨ (v = some (.int 0) ∧ w = [(b0, .inr (2, [.int b2, .int b3, .int b4, .ref b5, .ref b6, .ref b7]))] ∧ 0 ≤ b1.toInt ∧ b2.toInt ≤ b1.toInt) ∨ (v = some (.int 1) ∧ w = [(b0, .inr (2, [.int b2, .int b3, .int b4, .ref b5, .ref b6, .ref b7]))] ∧ 0 ≤ b1.toInt ∧ b1.toInt < b2.toInt)) := by
  refine z_start (by decide +kernel) (Nat.le_of_ble_eq_true rfl) ?_
  intro p e s m below meth c A Z hr hnm hA hP hD hS ls hl
  have Z : zC p s m _ meth c prog_10_method_3_code 2 "TraceMachines$Traces" G := Z
  obtain ⟨hx, hb, hml, hown, hts, hK, hN, hlocks⟩ := id Z
  have hl : lv_has ls 2 [(0, .ref b0), (1, .int b1)] := hl
  refine lv_iload_n hx hb d_Traces_has_0 rfl (lv_at hl 1 rfl) ?_
  refine lv_if_lt (tgt := 16) hx hb d_Traces_has_1 (by decide) (fun hc_1 => ?_) (fun hc_1 => ?_)
  · have _nhc_1 := hc_1
    have ni_2 := (fa_lt _ _).mp hc_1
    rw [li_0] at ni_2
    have hv_3 : zI b1 (-2147483648) (-1) := zI.lt_l (zI_all b1) zc_0 hc_1 (by decide)
    refine lv_iconst (v := 0) hx hb d_Traces_has_16 (by decide) ?_
    exact z_zret hx hb hr hlocks rfl hP hD hS (Nat.le_of_ble_eq_true rfl) (Nat.le_of_ble_eq_true rfl) d_Traces_has_17 (Or.inl ⟨rfl, rfl, by omega⟩)
  · have _nhc_1 := hc_1
    have ni_4 := (fa_le _ _).mp (zi_nlt hc_1)
    rw [li_0] at ni_4
    have hv_5 : zI b1 0 2147483647 := zI.le_r zc_0 (zI_all b1) (zi_nlt hc_1) (by decide)
    refine lv_iload_n hx hb d_Traces_has_4 rfl (lv_at hl 1 rfl) ?_
    refine lv_aload_n hx hb d_Traces_has_5 rfl (lv_at hl 0 rfl) ?_
    refine va_get (D := G.1) (ci := 2) (v := .int b2) (C := R_Traces) (T := F_Traces) (N := 6) hx hb hts i_Traces hown hK hP 0 rfl rfl 0 (by decide) (hts _ q52) (fun _ h9 => h9) rfl d_Traces_has_6 ?_
    refine lv_icmp_ge (tgt := 16) hx hb d_Traces_has_9 (by decide) (fun hc_6 => ?_) (fun hc_6 => ?_)
    · have _nhc_6 := hc_6
      have ni_7 := (fa_le _ _).mp hc_6
      refine lv_iconst (v := 0) hx hb d_Traces_has_16 (by decide) ?_
      exact z_zret hx hb hr hlocks rfl hP hD hS (Nat.le_of_ble_eq_true rfl) (Nat.le_of_ble_eq_true rfl) d_Traces_has_17 (Or.inr (Or.inl ⟨rfl, rfl, by omega, by omega⟩))
    · have _nhc_6 := hc_6
      have ni_8 := (fa_lt _ _).mp (zi_nle hc_6)
      have hv_9 : zI b1 0 19 := zI.lt_l hv_5 hb2 (zi_nle hc_6) (by decide)
      have hv_10 : zI b2 1 20 := zI.lt_r hv_5 hb2 (zi_nle hc_6) (by decide)
      refine lv_iconst (v := 1) hx hb d_Traces_has_12 (by decide) ?_
      refine lv_goto (tgt := 17) hx hb d_Traces_has_13 (by decide) ?_
      exact z_zret hx hb hr hlocks rfl hP hD hS (Nat.le_of_ble_eq_true rfl) (Nat.le_of_ble_eq_true rfl) d_Traces_has_17 (Or.inr (Or.inr (⟨rfl, rfl, by omega, by omega⟩)))
theorem d_Traces_letterAt_0 : decode prog_10_method_4_code 0 = .ok (.aload_n 0, 1) := by decide +kernel
theorem d_Traces_letterAt_1 : decode prog_10_method_4_code 1 = .ok (.getfield 19, 3) := by decide +kernel
theorem d_Traces_letterAt_4 : decode prog_10_method_4_code 4 = .ok (.iload_n 1, 1) := by decide +kernel
theorem d_Traces_letterAt_5 : decode prog_10_method_4_code 5 = .ok (.bipush 12, 2) := by decide +kernel
theorem d_Traces_letterAt_7 : decode prog_10_method_4_code 7 = .ok (.imul, 1) := by decide +kernel
theorem d_Traces_letterAt_8 : decode prog_10_method_4_code 8 = .ok (.iload_n 2, 1) := by decide +kernel
theorem d_Traces_letterAt_9 : decode prog_10_method_4_code 9 = .ok (.iadd, 1) := by decide +kernel
theorem d_Traces_letterAt_10 : decode prog_10_method_4_code 10 = .ok (.iaload, 1) := by decide +kernel
theorem d_Traces_letterAt_11 : decode prog_10_method_4_code 11 = .ok (.ireturn, 1) := by decide +kernel
theorem zc_12 : zI 12 12 12 := ⟨by decide +kernel, by decide +kernel⟩
theorem li_12 : (12 : Int32).toInt = 12 := by decide +kernel
abbrev m_s1_Traces_letterAt : Room := { frames := 0, cells := 0, slots := 0, locals := 0 }
set_option maxHeartbeats 4000000 in
set_option maxRecDepth 100000 in
theorem s1_Traces_letterAt (l : Launch) (G : zG) (b0 : Nat) (b1 : Int32) (b2 : Int32) (b3 : Int32) (b4 : Int32) (b5 : Int32) (b6 : Nat) (b7 : Nat) (b8 : Nat) (b9 : Nat → Int32) (hb1 : zI b1 0 19) (hb2 : zI b2 0 11) (hb3 : zI b3 0 20) (hb4 : zI b4 0 3) (hb5 : zI b5 0 20) (hb9 : zR b9 0 9) : zM l G y_Traces_letterAt prog_10_method_4_code 3 (Option.some Jvm.ClassFile.FieldType.int) m_s1_Traces_letterAt [.ref b0, .int b1, .int b2] [(b0, .inr (2, [.int b3, .int b4, .int b5, .ref b6, .ref b7, .ref b8])), (b7, .inl (G.2 0, 240, .inl b9))] (fun v w => ∃ (e0 : Int32), v = some (.int e0) ∧ w = [(b0, .inr (2, [.int b3, .int b4, .int b5, .ref b6, .ref b7, .ref b8])), (b7, .inl (G.2 0, 240, .inl b9))] ∧ (zI e0 0 9)) := by
  refine z_start (by decide +kernel) (Nat.le_of_ble_eq_true rfl) ?_
  intro p e s m below meth c A Z hr hnm hA hP hD hS ls hl
  have Z : zC p s m _ meth c prog_10_method_4_code 3 "TraceMachines$Traces" G := Z
  obtain ⟨hx, hb, hml, hown, hts, hK, hN, hlocks⟩ := id Z
  have hl : lv_has ls 3 [(0, .ref b0), (1, .int b1), (2, .int b2)] := hl
  refine lv_aload_n hx hb d_Traces_letterAt_0 rfl (lv_at hl 0 rfl) ?_
  refine va_get (D := G.1) (ci := 2) (v := .ref b7) (C := R_Traces) (T := F_Traces) (N := 6) hx hb hts i_Traces hown hK hP 0 rfl rfl 4 (by decide) (hts _ q72) (fun _ h9 => h9) rfl d_Traces_letterAt_1 ?_
  refine lv_iload_n hx hb d_Traces_letterAt_4 rfl (lv_at hl 1 rfl) ?_
  refine lv_bipush (v := 12) hx hb d_Traces_letterAt_5 (by decide) ?_
  refine lv_imul hx hb d_Traces_letterAt_7 ?_
  refine lv_topi (fun v_1 ev_1 => ?_)
  obtain ⟨qv_1, hv_1⟩ := zI_mul (l := 0) (h := 228) hb1 zc_12 ev_1 (by decide)
  rw [li_12] at qv_1
  refine lv_iload_n hx hb d_Traces_letterAt_8 rfl (lv_at hl 2 rfl) ?_
  refine lv_iadd hx hb d_Traces_letterAt_9 ?_
  refine lv_topi (fun v_2 ev_2 => ?_)
  obtain ⟨qv_2, hv_2⟩ := zI_add (l := 0) (h := 239) hv_1 hb2 ev_2 (by decide)
  refine va_iald hx hb hK hP 1 0 rfl rfl (zI.inn hv_2 (by decide)) d_Traces_letterAt_10 ?_
  refine lv_topi (fun v_3 ev_3 => ?_)
  have hv_3 : zI v_3 0 9 := (hb9 _).eq ev_3
  exact z_iret hx hb hr hlocks hP hD hS (Nat.le_of_ble_eq_true rfl) (Nat.le_of_ble_eq_true rfl) d_Traces_letterAt_11 ⟨v_3, rfl, rfl, hv_3⟩
theorem d_Traces_valueAt_0 : decode prog_10_method_5_code 0 = .ok (.aload_n 0, 1) := by decide +kernel
theorem d_Traces_valueAt_1 : decode prog_10_method_5_code 1 = .ok (.getfield 22, 3) := by decide +kernel
theorem d_Traces_valueAt_4 : decode prog_10_method_5_code 4 = .ok (.iload_n 1, 1) := by decide +kernel
theorem d_Traces_valueAt_5 : decode prog_10_method_5_code 5 = .ok (.bipush 12, 2) := by decide +kernel
theorem d_Traces_valueAt_7 : decode prog_10_method_5_code 7 = .ok (.imul, 1) := by decide +kernel
theorem d_Traces_valueAt_8 : decode prog_10_method_5_code 8 = .ok (.iload_n 2, 1) := by decide +kernel
theorem d_Traces_valueAt_9 : decode prog_10_method_5_code 9 = .ok (.iadd, 1) := by decide +kernel
theorem d_Traces_valueAt_10 : decode prog_10_method_5_code 10 = .ok (.iaload, 1) := by decide +kernel
theorem d_Traces_valueAt_11 : decode prog_10_method_5_code 11 = .ok (.ireturn, 1) := by decide +kernel
abbrev m_s1_Traces_valueAt : Room := { frames := 0, cells := 0, slots := 0, locals := 0 }
set_option maxHeartbeats 4000000 in
set_option maxRecDepth 100000 in
theorem s1_Traces_valueAt (l : Launch) (G : zG) (b0 : Nat) (b1 : Int32) (b2 : Int32) (b3 : Int32) (b4 : Int32) (b5 : Int32) (b6 : Nat) (b7 : Nat) (b8 : Nat) (b9 : Nat → Int32) (hb1 : zI b1 0 19) (hb2 : zI b2 0 11) (hb3 : zI b3 0 20) (hb4 : zI b4 0 3) (hb5 : zI b5 0 20) : zM l G y_Traces_valueAt prog_10_method_5_code 3 (Option.some Jvm.ClassFile.FieldType.int) m_s1_Traces_valueAt [.ref b0, .int b1, .int b2] [(b0, .inr (2, [.int b3, .int b4, .int b5, .ref b6, .ref b7, .ref b8])), (b8, .inl (G.2 0, 240, .inl b9))] (fun v w => ∃ (e0 : Int32), v = some (.int e0) ∧ w = [(b0, .inr (2, [.int b3, .int b4, .int b5, .ref b6, .ref b7, .ref b8])), (b8, .inl (G.2 0, 240, .inl b9))]) := by
  refine z_start (by decide +kernel) (Nat.le_of_ble_eq_true rfl) ?_
  intro p e s m below meth c A Z hr hnm hA hP hD hS ls hl
  have Z : zC p s m _ meth c prog_10_method_5_code 3 "TraceMachines$Traces" G := Z
  obtain ⟨hx, hb, hml, hown, hts, hK, hN, hlocks⟩ := id Z
  have hl : lv_has ls 3 [(0, .ref b0), (1, .int b1), (2, .int b2)] := hl
  refine lv_aload_n hx hb d_Traces_valueAt_0 rfl (lv_at hl 0 rfl) ?_
  refine va_get (D := G.1) (ci := 2) (v := .ref b8) (C := R_Traces) (T := F_Traces) (N := 6) hx hb hts i_Traces hown hK hP 0 rfl rfl 5 (by decide) (hts _ q73) (fun _ h9 => h9) rfl d_Traces_valueAt_1 ?_
  refine lv_iload_n hx hb d_Traces_valueAt_4 rfl (lv_at hl 1 rfl) ?_
  refine lv_bipush (v := 12) hx hb d_Traces_valueAt_5 (by decide) ?_
  refine lv_imul hx hb d_Traces_valueAt_7 ?_
  refine lv_topi (fun v_1 ev_1 => ?_)
  obtain ⟨qv_1, hv_1⟩ := zI_mul (l := 0) (h := 228) hb1 zc_12 ev_1 (by decide)
  rw [li_12] at qv_1
  refine lv_iload_n hx hb d_Traces_valueAt_8 rfl (lv_at hl 2 rfl) ?_
  refine lv_iadd hx hb d_Traces_valueAt_9 ?_
  refine lv_topi (fun v_2 ev_2 => ?_)
  obtain ⟨qv_2, hv_2⟩ := zI_add (l := 0) (h := 239) hv_1 hb2 ev_2 (by decide)
  refine va_iald hx hb hK hP 1 0 rfl rfl (zI.inn hv_2 (by decide)) d_Traces_valueAt_10 ?_
  refine lv_topi (fun v_3 ev_3 => ?_)
  exact z_iret hx hb hr hlocks hP hD hS (Nat.le_of_ble_eq_true rfl) (Nat.le_of_ble_eq_true rfl) d_Traces_valueAt_11 ⟨v_3, rfl, rfl⟩
theorem d_Traces_allCalls_0 : decode prog_10_method_6_code 0 = .ok (.iconst 0, 1) := by decide +kernel
theorem d_Traces_allCalls_1 : decode prog_10_method_6_code 1 = .ok (.istore_n 1, 1) := by decide +kernel
theorem d_Traces_allCalls_2 : decode prog_10_method_6_code 2 = .ok (.iconst 0, 1) := by decide +kernel
theorem d_Traces_allCalls_3 : decode prog_10_method_6_code 3 = .ok (.istore_n 2, 1) := by decide +kernel
theorem d_Traces_allCalls_4 : decode prog_10_method_6_code 4 = .ok (.iload_n 2, 1) := by decide +kernel
theorem d_Traces_allCalls_5 : decode prog_10_method_6_code 5 = .ok (.aload_n 0, 1) := by decide +kernel
theorem d_Traces_allCalls_6 : decode prog_10_method_6_code 6 = .ok (.getfield 25, 3) := by decide +kernel
theorem d_Traces_allCalls_9 : decode prog_10_method_6_code 9 = .ok (.if_icmp .ge 18, 3) := by decide +kernel
theorem d_Traces_allCalls_12 : decode prog_10_method_6_code 12 = .ok (.iload_n 1, 1) := by decide +kernel
theorem d_Traces_allCalls_13 : decode prog_10_method_6_code 13 = .ok (.aload_n 0, 1) := by decide +kernel
theorem d_Traces_allCalls_14 : decode prog_10_method_6_code 14 = .ok (.getfield 15, 3) := by decide +kernel
theorem d_Traces_allCalls_17 : decode prog_10_method_6_code 17 = .ok (.iload_n 2, 1) := by decide +kernel
theorem d_Traces_allCalls_18 : decode prog_10_method_6_code 18 = .ok (.iaload, 1) := by decide +kernel
theorem d_Traces_allCalls_19 : decode prog_10_method_6_code 19 = .ok (.iadd, 1) := by decide +kernel
theorem d_Traces_allCalls_20 : decode prog_10_method_6_code 20 = .ok (.istore_n 1, 1) := by decide +kernel
theorem d_Traces_allCalls_21 : decode prog_10_method_6_code 21 = .ok (.iinc 2 1, 3) := by decide +kernel
theorem d_Traces_allCalls_24 : decode prog_10_method_6_code 24 = .ok (.goto (-20), 3) := by decide +kernel
theorem d_Traces_allCalls_27 : decode prog_10_method_6_code 27 = .ok (.iload_n 1, 1) := by decide +kernel
theorem d_Traces_allCalls_28 : decode prog_10_method_6_code 28 = .ok (.ireturn, 1) := by decide +kernel
theorem zc_1 : zI 1 1 1 := ⟨by decide +kernel, by decide +kernel⟩
theorem li_1 : (1 : Int32).toInt = 1 := by decide +kernel
abbrev m_s1_Traces_allCalls : Room := { frames := 0, cells := 0, slots := 0, locals := 0 }
set_option maxHeartbeats 4000000 in
set_option maxRecDepth 100000 in
theorem s1_Traces_allCalls (l : Launch) (G : zG) (b0 : Nat) (b1 : Int32) (b2 : Int32) (b3 : Int32) (b4 : Nat) (b5 : Nat) (b6 : Nat) (b7 : Nat → Int32) (hb1 : zI b1 0 20) (hb2 : zI b2 0 3) (hb3 : zI b3 0 20) (hb7 : zR b7 0 12) : zM l G y_Traces_allCalls prog_10_method_6_code 3 (Option.some Jvm.ClassFile.FieldType.int) m_s1_Traces_allCalls [.ref b0] [(b0, .inr (2, [.int b1, .int b2, .int b3, .ref b4, .ref b5, .ref b6])), (b4, .inl (G.2 0, 20, .inl b7))] (fun v w => ∃ (e0 : Int32), v = some (.int e0) ∧ w = [(b0, .inr (2, [.int b1, .int b2, .int b3, .ref b4, .ref b5, .ref b6])), (b4, .inl (G.2 0, 20, .inl b7))]) := by
  refine z_start (by decide +kernel) (Nat.le_of_ble_eq_true rfl) ?_
  intro p e s m below meth c A Z hr hnm hA hP hD hS ls hl
  have Z : zC p s m _ meth c prog_10_method_6_code 3 "TraceMachines$Traces" G := Z
  obtain ⟨hx, hb, hml, hown, hts, hK, hN, hlocks⟩ := id Z
  have hl : lv_has ls 3 [(0, .ref b0)] := hl
  refine lv_iconst (v := 0) hx hb d_Traces_allCalls_0 (by decide) ?_
  refine lv_istore_n (lv' := [(1, .int 0), (0, .ref b0)]) hx hb d_Traces_allCalls_1 rfl hl (by decide) rfl (fun ls hl => ?_)
  refine lv_iconst (v := 0) hx hb d_Traces_allCalls_2 (by decide) ?_
  refine lv_istore_n (lv' := [(2, .int 0), (1, .int 0), (0, .ref b0)]) hx hb d_Traces_allCalls_3 rfl hl (by decide) rfl (fun ls hl => ?_)
  suffices key : ∀ (k_11 : Nat) (y_12 : Int32) (y_13 : Int32) (H : Heap) (locs : List Loc) (ls : Array Slot), (zI y_12 0 20) → (20 : Int) - y_12.toInt < (k_11 : Int) → va_P G.1 classes [(b0, .inr (2, [.int b1, .int b2, .int b3, .ref b4, .ref b5, .ref b6])), (b4, .inl (G.2 0, 20, .inl b7))] H → va_D A [(b0, .inr (2, [.int b1, .int b2, .int b3, .ref b4, .ref b5, .ref b6])), (b4, .inl (G.2 0, 20, .inl b7))] → va_S A s.heap H locs → lv_has ls 3 [(2, .int y_12), (1, .int y_13), (0, .ref b0)] → W p l e m_s1_Traces_allCalls s m ([.ref b0] : List Value).toArray below meth c H locs 0 0 (MQ below (zQ G (fun v w => ∃ (e0 : Int32), v = some (.int e0) ∧ w = [(b0, .inr (2, [.int b1, .int b2, .int b3, .ref b4, .ref b5, .ref b6])), (b4, .inl (G.2 0, 20, .inl b7))]) A) ([.ref b0] : List Value).toArray s m_s1_Traces_allCalls.cells m_s1_Traces_allCalls.slots A) (F0 m 4 ls []) by
    exact key 21 (0) (0) _ _ _ (zI.wk (l' := 0) (h' := 20) zc_0 (by decide)) (zm_upi (zI.wk (l' := 0) (h' := 20) zc_0 (by decide)) (by decide)) hP hD hS (lv_sub hl [0, 1, 2] rfl)
  intro k_11
  induction k_11 with
  | zero =>
    intro y_12 y_13 H locs ls hy_12 hmk_11 hP hD hS hl
    exact (zm_up0 hy_12 hmk_11).elim
  | succ k_11 ihk_11 =>
    intro y_12 y_13 H locs ls hy_12 hmk_11 hP hD hS hl
    refine lv_iload_n hx hb d_Traces_allCalls_4 rfl (lv_at hl 0 rfl) ?_
    refine lv_aload_n hx hb d_Traces_allCalls_5 rfl (lv_at hl 2 rfl) ?_
    refine va_get (D := G.1) (ci := 2) (v := .int b1) (C := R_Traces) (T := F_Traces) (N := 6) hx hb hts i_Traces hown hK hP 0 rfl rfl 0 (by decide) (hts _ q52) (fun _ h9 => h9) rfl d_Traces_allCalls_6 ?_
    refine lv_icmp_ge (tgt := 27) hx hb d_Traces_allCalls_9 (by decide) (fun hc_14 => ?_) (fun hc_14 => ?_)
    · have _nhc_14 := hc_14
      have ni_15 := (fa_le _ _).mp hc_14
      refine lv_iload_n hx hb d_Traces_allCalls_27 rfl (lv_at hl 1 rfl) ?_
      exact z_iret hx hb hr hlocks hP hD hS (Nat.le_of_ble_eq_true rfl) (Nat.le_of_ble_eq_true rfl) d_Traces_allCalls_28 ⟨y_13, rfl, rfl⟩
    · have _nhc_14 := hc_14
      have ni_16 := (fa_lt _ _).mp (zi_nle hc_14)
      have hv_17 : zI y_12 0 19 := zI.lt_l hy_12 hb1 (zi_nle hc_14) (by decide)
      have hv_18 : zI b1 1 20 := zI.lt_r hy_12 hb1 (zi_nle hc_14) (by decide)
      refine lv_iload_n hx hb d_Traces_allCalls_12 rfl (lv_at hl 1 rfl) ?_
      refine lv_aload_n hx hb d_Traces_allCalls_13 rfl (lv_at hl 2 rfl) ?_
      refine va_get (D := G.1) (ci := 2) (v := .ref b4) (C := R_Traces) (T := F_Traces) (N := 6) hx hb hts i_Traces hown hK hP 0 rfl rfl 3 (by decide) (hts _ q63) (fun _ h9 => h9) rfl d_Traces_allCalls_14 ?_
      refine lv_iload_n hx hb d_Traces_allCalls_17 rfl (lv_at hl 0 rfl) ?_
      refine va_iald hx hb hK hP 1 0 rfl rfl (zI.inn hv_17 (by decide)) d_Traces_allCalls_18 ?_
      refine lv_topi (fun v_19 ev_19 => ?_)
      have hv_19 : zI v_19 0 12 := (hb7 _).eq ev_19
      refine lv_iadd hx hb d_Traces_allCalls_19 ?_
      refine lv_topi (fun v_20 ev_20 => ?_)
      refine lv_istore_n (lv' := [(1, .int v_20), (2, .int y_12), (0, .ref b0)]) hx hb d_Traces_allCalls_20 rfl hl (by decide) rfl (fun ls hl => ?_)
      obtain ⟨v_21, ev_21⟩ : ∃ z : Int32, z = y_12 + 1 := ⟨_, rfl⟩
      obtain ⟨qv_21, hv_21⟩ := zI_add (l := 1) (h := 20) hv_17 zc_1 ev_21 (by decide)
      rw [li_1] at qv_21
      refine lv_iinc (v := v_21) (lv' := [(2, .int v_21), (1, .int v_20), (0, .ref b0)]) hx hb d_Traces_allCalls_21 hl (k := 1) rfl (by rw [ev_21]; rfl) (by decide) rfl (fun ls hl => ?_)
      refine lv_goto (tgt := 4) hx hb d_Traces_allCalls_24 (by decide) ?_
      exact ihk_11 (v_21) (v_20) _ _ _ (zI.wk (l' := 0) (h' := 20) hv_21 (by decide)) (zm_up qv_21 hmk_11 (by decide)) hP hD hS (lv_sub hl [0, 1, 2] rfl)
theorem d_Traces_open_0 : decode prog_10_method_7_code 0 = .ok (.aload_n 0, 1) := by decide +kernel
theorem d_Traces_open_1 : decode prog_10_method_7_code 1 = .ok (.getfield 25, 3) := by decide +kernel
theorem d_Traces_open_4 : decode prog_10_method_7_code 4 = .ok (.bipush 20, 2) := by decide +kernel
theorem d_Traces_open_6 : decode prog_10_method_7_code 6 = .ok (.if_icmp .ne 5, 3) := by decide +kernel
theorem d_Traces_open_9 : decode prog_10_method_7_code 9 = .ok (.iconst 0, 1) := by decide +kernel
theorem d_Traces_open_10 : decode prog_10_method_7_code 10 = .ok (.ireturn, 1) := by decide +kernel
theorem d_Traces_open_11 : decode prog_10_method_7_code 11 = .ok (.aload_n 0, 1) := by decide +kernel
theorem d_Traces_open_12 : decode prog_10_method_7_code 12 = .ok (.getfield 15, 3) := by decide +kernel
theorem d_Traces_open_15 : decode prog_10_method_7_code 15 = .ok (.aload_n 0, 1) := by decide +kernel
theorem d_Traces_open_16 : decode prog_10_method_7_code 16 = .ok (.getfield 25, 3) := by decide +kernel
theorem d_Traces_open_19 : decode prog_10_method_7_code 19 = .ok (.iconst 0, 1) := by decide +kernel
theorem d_Traces_open_20 : decode prog_10_method_7_code 20 = .ok (.iastore, 1) := by decide +kernel
theorem d_Traces_open_21 : decode prog_10_method_7_code 21 = .ok (.aload_n 0, 1) := by decide +kernel
theorem d_Traces_open_22 : decode prog_10_method_7_code 22 = .ok (.dup, 1) := by decide +kernel
theorem d_Traces_open_23 : decode prog_10_method_7_code 23 = .ok (.getfield 25, 3) := by decide +kernel
theorem d_Traces_open_26 : decode prog_10_method_7_code 26 = .ok (.iconst 1, 1) := by decide +kernel
theorem d_Traces_open_27 : decode prog_10_method_7_code 27 = .ok (.iadd, 1) := by decide +kernel
theorem d_Traces_open_28 : decode prog_10_method_7_code 28 = .ok (.putfield 25, 3) := by decide +kernel
theorem d_Traces_open_31 : decode prog_10_method_7_code 31 = .ok (.iconst 1, 1) := by decide +kernel
theorem d_Traces_open_32 : decode prog_10_method_7_code 32 = .ok (.ireturn, 1) := by decide +kernel
theorem zc_20 : zI 20 20 20 := ⟨by decide +kernel, by decide +kernel⟩
theorem li_20 : (20 : Int32).toInt = 20 := by decide +kernel
abbrev m_s1_Traces_open : Room := { frames := 0, cells := 0, slots := 0, locals := 0 }
set_option maxHeartbeats 4000000 in
set_option maxRecDepth 100000 in
theorem s1_Traces_open (l : Launch) (G : zG) (b0 : Nat) (b1 : Int32) (b2 : Int32) (b3 : Int32) (b4 : Nat) (b5 : Nat) (b6 : Nat) (b7 : Nat → Int32) (hb1 : zI b1 0 20) (hb2 : zI b2 0 3) (hb3 : zI b3 0 20) (hb7 : zR b7 0 12) : zM l G y_Traces_open prog_10_method_7_code 1 (Option.some Jvm.ClassFile.FieldType.boolean) m_s1_Traces_open [.ref b0] [(b0, .inr (2, [.int b1, .int b2, .int b3, .ref b4, .ref b5, .ref b6])), (b4, .inl (G.2 0, 20, .inl b7))] (fun v w => ∃ (e0 : Int32), ∃ (e1 : Int32), ∃ (e2 : Nat → Int32), v = some (.int e0) ∧ w = [(b0, .inr (2, [.int e1, .int b2, .int b3, .ref b4, .ref b5, .ref b6])), (b4, .inl (G.2 0, 20, .inl e2))] ∧ (zI e0 0 1) ∧ (zI e1 0 20) ∧ (zR e2 0 12)) := by
  refine z_start (by decide +kernel) (Nat.le_of_ble_eq_true rfl) ?_
  intro p e s m below meth c A Z hr hnm hA hP hD hS ls hl
  have Z : zC p s m _ meth c prog_10_method_7_code 1 "TraceMachines$Traces" G := Z
  obtain ⟨hx, hb, hml, hown, hts, hK, hN, hlocks⟩ := id Z
  have hl : lv_has ls 1 [(0, .ref b0)] := hl
  refine lv_aload_n hx hb d_Traces_open_0 rfl (lv_at hl 0 rfl) ?_
  refine va_get (D := G.1) (ci := 2) (v := .int b1) (C := R_Traces) (T := F_Traces) (N := 6) hx hb hts i_Traces hown hK hP 0 rfl rfl 0 (by decide) (hts _ q52) (fun _ h9 => h9) rfl d_Traces_open_1 ?_
  refine lv_bipush (v := 20) hx hb d_Traces_open_4 (by decide) ?_
  refine lv_icmp_ne (tgt := 11) hx hb d_Traces_open_6 (by decide) (fun hc_1 => ?_) (fun hc_1 => ?_)
  · have _nhc_1 := hc_1
    have ni_2 : ¬ (b1 : Int32).toInt = (20 : Int32).toInt := fun z => hc_1 ((fa_eq _ _).mpr z)
    simp only [li_20] at ni_2
    have hv_3 : zI b1 0 19 := zI.ne_hi hb1 zc_20 hc_1 (by decide)
    refine lv_aload_n hx hb d_Traces_open_11 rfl (lv_at hl 0 rfl) ?_
    refine va_get (D := G.1) (ci := 2) (v := .ref b4) (C := R_Traces) (T := F_Traces) (N := 6) hx hb hts i_Traces hown hK hP 0 rfl rfl 3 (by decide) (hts _ q63) (fun _ h9 => h9) rfl d_Traces_open_12 ?_
    refine lv_aload_n hx hb d_Traces_open_15 rfl (lv_at hl 0 rfl) ?_
    refine va_get (D := G.1) (ci := 2) (v := .int b1) (C := R_Traces) (T := F_Traces) (N := 6) hx hb hts i_Traces hown hK hP 0 rfl rfl 0 (by decide) (hts _ q52) (fun _ h9 => h9) rfl d_Traces_open_16 ?_
    refine lv_iconst (v := 0) hx hb d_Traces_open_19 (by decide) ?_
    refine va_iast hx hb hK hP hD hS 1 0 rfl rfl (zI.inn hv_3 (by decide)) d_Traces_open_20 (fun H locs hP hD hS => ?_)
    obtain ⟨f_4, hf_4, gf_4, uf_4, hP, hD⟩ := z_newfu 1 hP hD rfl hb7 (zI.wk (l' := 0) (h' := 12) zc_0 (by decide))
    have hP : va_P G.1 classes [(b0, .inr (2, [.int b1, .int b2, .int b3, .ref b4, .ref b5, .ref b6])), (b4, .inl (G.2 0, 20, .inl f_4))] H := hP
    have hD := z_tie hP hD rfl
    refine lv_aload_n hx hb d_Traces_open_21 rfl (lv_at hl 0 rfl) ?_
    refine lv_dup hx hb d_Traces_open_22 rfl ?_
    refine va_get (D := G.1) (ci := 2) (v := .int b1) (C := R_Traces) (T := F_Traces) (N := 6) hx hb hts i_Traces hown hK hP 0 rfl rfl 0 (by decide) (hts _ q52) (fun _ h9 => h9) rfl d_Traces_open_23 ?_
    refine lv_iconst (v := 1) hx hb d_Traces_open_26 (by decide) ?_
    refine lv_iadd hx hb d_Traces_open_27 ?_
    refine lv_topi (fun v_5 ev_5 => ?_)
    obtain ⟨qv_5, hv_5⟩ := zI_add (l := 1) (h := 20) hv_3 zc_1 ev_5 (by decide)
    rw [li_1] at qv_5
    refine va_put (D := G.1) (ci := 2) (v := .int v_5) (ty := .int) (C := R_Traces) (T := F_Traces) (N := 6) hx hb hts i_Traces t_Traces t_Traces_ok n_Traces hown hK hP hD hS 0 rfl rfl 0 (by decide) (hts _ q52) (fun _ h9 => h9) rfl (by decide +kernel) rfl rfl (Nat.le_of_ble_eq_true rfl) d_Traces_open_28 (fun H locs hP hD hS => ?_)
    have hP : va_P G.1 classes [(b0, .inr (2, [.int v_5, .int b2, .int b3, .ref b4, .ref b5, .ref b6])), (b4, .inl (G.2 0, 20, .inl f_4))] H := hP
    have hD := z_tie hP hD rfl
    refine lv_iconst (v := 1) hx hb d_Traces_open_31 (by decide) ?_
    exact z_zret hx hb hr hlocks rfl hP hD hS (Nat.le_of_ble_eq_true rfl) (Nat.le_of_ble_eq_true rfl) d_Traces_open_32 ⟨1, v_5, f_4, rfl, rfl, (zI.wk (l' := 0) (h' := 1) zc_1 (by decide)), (zI.wk (l' := 0) (h' := 20) hv_5 (by decide)), hf_4⟩
  · have _nhc_1 := hc_1
    have ni_6 := (fa_eq _ _).mp hc_1
    rw [li_20] at ni_6
    have hv_7 : zI b1 20 20 := zI.eq_l hb1 zc_20 hc_1
    refine lv_iconst (v := 0) hx hb d_Traces_open_9 (by decide) ?_
    exact z_zret hx hb hr hlocks rfl hP hD hS (Nat.le_of_ble_eq_true rfl) (Nat.le_of_ble_eq_true rfl) d_Traces_open_10 ⟨0, b1, b7, rfl, rfl, (zI.wk (l' := 0) (h' := 1) zc_0 (by decide)), (zI.wk (l' := 0) (h' := 20) hv_7 (by decide)), hb7⟩
theorem d_Traces_add_0 : decode prog_10_method_8_code 0 = .ok (.aload_n 0, 1) := by decide +kernel
theorem d_Traces_add_1 : decode prog_10_method_8_code 1 = .ok (.getfield 25, 3) := by decide +kernel
theorem d_Traces_add_4 : decode prog_10_method_8_code 4 = .ok (.iconst 1, 1) := by decide +kernel
theorem d_Traces_add_5 : decode prog_10_method_8_code 5 = .ok (.isub, 1) := by decide +kernel
theorem d_Traces_add_6 : decode prog_10_method_8_code 6 = .ok (.istore_n 2, 1) := by decide +kernel
theorem d_Traces_add_7 : decode prog_10_method_8_code 7 = .ok (.iload_n 2, 1) := by decide +kernel
theorem d_Traces_add_8 : decode prog_10_method_8_code 8 = .ok (.ifCond .lt 14, 3) := by decide +kernel
theorem d_Traces_add_11 : decode prog_10_method_8_code 11 = .ok (.aload_n 0, 1) := by decide +kernel
theorem d_Traces_add_12 : decode prog_10_method_8_code 12 = .ok (.getfield 15, 3) := by decide +kernel
theorem d_Traces_add_15 : decode prog_10_method_8_code 15 = .ok (.iload_n 2, 1) := by decide +kernel
theorem d_Traces_add_16 : decode prog_10_method_8_code 16 = .ok (.iaload, 1) := by decide +kernel
theorem d_Traces_add_17 : decode prog_10_method_8_code 17 = .ok (.bipush 12, 2) := by decide +kernel
theorem d_Traces_add_19 : decode prog_10_method_8_code 19 = .ok (.if_icmp .ne 5, 3) := by decide +kernel
theorem d_Traces_add_22 : decode prog_10_method_8_code 22 = .ok (.iconst 0, 1) := by decide +kernel
theorem d_Traces_add_23 : decode prog_10_method_8_code 23 = .ok (.ireturn, 1) := by decide +kernel
theorem d_Traces_add_24 : decode prog_10_method_8_code 24 = .ok (.iload_n 2, 1) := by decide +kernel
theorem d_Traces_add_25 : decode prog_10_method_8_code 25 = .ok (.bipush 12, 2) := by decide +kernel
theorem d_Traces_add_27 : decode prog_10_method_8_code 27 = .ok (.imul, 1) := by decide +kernel
theorem d_Traces_add_28 : decode prog_10_method_8_code 28 = .ok (.aload_n 0, 1) := by decide +kernel
theorem d_Traces_add_29 : decode prog_10_method_8_code 29 = .ok (.getfield 15, 3) := by decide +kernel
theorem d_Traces_add_32 : decode prog_10_method_8_code 32 = .ok (.iload_n 2, 1) := by decide +kernel
theorem d_Traces_add_33 : decode prog_10_method_8_code 33 = .ok (.iaload, 1) := by decide +kernel
theorem d_Traces_add_34 : decode prog_10_method_8_code 34 = .ok (.iadd, 1) := by decide +kernel
theorem d_Traces_add_35 : decode prog_10_method_8_code 35 = .ok (.istore_n 3, 1) := by decide +kernel
theorem d_Traces_add_36 : decode prog_10_method_8_code 36 = .ok (.aload_n 0, 1) := by decide +kernel
theorem d_Traces_add_37 : decode prog_10_method_8_code 37 = .ok (.getfield 19, 3) := by decide +kernel
theorem d_Traces_add_40 : decode prog_10_method_8_code 40 = .ok (.iload_n 3, 1) := by decide +kernel
theorem d_Traces_add_41 : decode prog_10_method_8_code 41 = .ok (.iload_n 1, 1) := by decide +kernel
theorem d_Traces_add_42 : decode prog_10_method_8_code 42 = .ok (.iastore, 1) := by decide +kernel
theorem d_Traces_add_43 : decode prog_10_method_8_code 43 = .ok (.aload_n 0, 1) := by decide +kernel
theorem d_Traces_add_44 : decode prog_10_method_8_code 44 = .ok (.getfield 22, 3) := by decide +kernel
theorem d_Traces_add_47 : decode prog_10_method_8_code 47 = .ok (.iload_n 3, 1) := by decide +kernel
theorem d_Traces_add_48 : decode prog_10_method_8_code 48 = .ok (.iconst 0, 1) := by decide +kernel
theorem d_Traces_add_49 : decode prog_10_method_8_code 49 = .ok (.iastore, 1) := by decide +kernel
theorem d_Traces_add_50 : decode prog_10_method_8_code 50 = .ok (.aload_n 0, 1) := by decide +kernel
theorem d_Traces_add_51 : decode prog_10_method_8_code 51 = .ok (.getfield 15, 3) := by decide +kernel
theorem d_Traces_add_54 : decode prog_10_method_8_code 54 = .ok (.iload_n 2, 1) := by decide +kernel
theorem d_Traces_add_55 : decode prog_10_method_8_code 55 = .ok (.dup2, 1) := by decide +kernel
theorem d_Traces_add_56 : decode prog_10_method_8_code 56 = .ok (.iaload, 1) := by decide +kernel
theorem d_Traces_add_57 : decode prog_10_method_8_code 57 = .ok (.iconst 1, 1) := by decide +kernel
theorem d_Traces_add_58 : decode prog_10_method_8_code 58 = .ok (.iadd, 1) := by decide +kernel
theorem d_Traces_add_59 : decode prog_10_method_8_code 59 = .ok (.iastore, 1) := by decide +kernel
theorem d_Traces_add_60 : decode prog_10_method_8_code 60 = .ok (.iconst 1, 1) := by decide +kernel
theorem d_Traces_add_61 : decode prog_10_method_8_code 61 = .ok (.ireturn, 1) := by decide +kernel
abbrev m_s1_Traces_add : Room := { frames := 0, cells := 0, slots := 0, locals := 0 }
set_option maxHeartbeats 4000000 in
set_option maxRecDepth 100000 in
theorem s1_Traces_add (l : Launch) (G : zG) (b0 : Nat) (b1 : Int32) (b2 : Int32) (b3 : Int32) (b4 : Int32) (b5 : Nat) (b6 : Nat) (b7 : Nat) (b8 : Nat → Int32) (b9 : Nat → Int32) (b10 : Nat → Int32) (hb1 : zI b1 0 9) (hb2 : zI b2 0 20) (hb3 : zI b3 0 3) (hb4 : zI b4 0 20) (hb8 : zR b8 0 12) (hb9 : zR b9 0 9) : zM l G y_Traces_add prog_10_method_8_code 4 (Option.some Jvm.ClassFile.FieldType.boolean) m_s1_Traces_add [.ref b0, .int b1] [(b0, .inr (2, [.int b2, .int b3, .int b4, .ref b5, .ref b6, .ref b7])), (b5, .inl (G.2 0, 20, .inl b8)), (b6, .inl (G.2 0, 240, .inl b9)), (b7, .inl (G.2 0, 240, .inl b10))] (fun v w => ∃ (e0 : Int32), ∃ (e1 : Nat → Int32), ∃ (e2 : Nat → Int32), ∃ (e3 : Nat → Int32), v = some (.int e0) ∧ w = [(b0, .inr (2, [.int b2, .int b3, .int b4, .ref b5, .ref b6, .ref b7])), (b5, .inl (G.2 0, 20, .inl e1)), (b6, .inl (G.2 0, 240, .inl e2)), (b7, .inl (G.2 0, 240, .inl e3))] ∧ (zI e0 0 1) ∧ (zR e1 0 12) ∧ (zR e2 0 9)) := by
  refine z_start (by decide +kernel) (Nat.le_of_ble_eq_true rfl) ?_
  intro p e s m below meth c A Z hr hnm hA hP hD hS ls hl
  have Z : zC p s m _ meth c prog_10_method_8_code 4 "TraceMachines$Traces" G := Z
  obtain ⟨hx, hb, hml, hown, hts, hK, hN, hlocks⟩ := id Z
  have hl : lv_has ls 4 [(0, .ref b0), (1, .int b1)] := hl
  refine lv_aload_n hx hb d_Traces_add_0 rfl (lv_at hl 0 rfl) ?_
  refine va_get (D := G.1) (ci := 2) (v := .int b2) (C := R_Traces) (T := F_Traces) (N := 6) hx hb hts i_Traces hown hK hP 0 rfl rfl 0 (by decide) (hts _ q52) (fun _ h9 => h9) rfl d_Traces_add_1 ?_
  refine lv_iconst (v := 1) hx hb d_Traces_add_4 (by decide) ?_
  refine lv_isub hx hb d_Traces_add_5 ?_
  refine lv_topi (fun v_1 ev_1 => ?_)
  obtain ⟨qv_1, hv_1⟩ := zI_sub (l := -1) (h := 19) hb2 zc_1 ev_1 (by decide)
  rw [li_1] at qv_1
  refine lv_istore_n (lv' := [(2, .int v_1), (0, .ref b0), (1, .int b1)]) hx hb d_Traces_add_6 rfl hl (by decide) rfl (fun ls hl => ?_)
  refine lv_iload_n hx hb d_Traces_add_7 rfl (lv_at hl 0 rfl) ?_
  refine lv_if_lt (tgt := 22) hx hb d_Traces_add_8 (by decide) (fun hc_2 => ?_) (fun hc_2 => ?_)
  · have _nhc_2 := hc_2
    have ni_3 := (fa_lt _ _).mp hc_2
    rw [li_0] at ni_3
    have hv_4 : zI v_1 (-1) (-1) := zI.lt_l hv_1 zc_0 hc_2 (by decide)
    refine lv_iconst (v := 0) hx hb d_Traces_add_22 (by decide) ?_
    exact z_zret hx hb hr hlocks rfl hP hD hS (Nat.le_of_ble_eq_true rfl) (Nat.le_of_ble_eq_true rfl) d_Traces_add_23 ⟨0, b8, b9, b10, rfl, rfl, (zI.wk (l' := 0) (h' := 1) zc_0 (by decide)), hb8, hb9⟩
  · have _nhc_2 := hc_2
    have ni_5 := (fa_le _ _).mp (zi_nlt hc_2)
    rw [li_0] at ni_5
    have hv_6 : zI v_1 0 19 := zI.le_r zc_0 hv_1 (zi_nlt hc_2) (by decide)
    refine lv_aload_n hx hb d_Traces_add_11 rfl (lv_at hl 1 rfl) ?_
    refine va_get (D := G.1) (ci := 2) (v := .ref b5) (C := R_Traces) (T := F_Traces) (N := 6) hx hb hts i_Traces hown hK hP 0 rfl rfl 3 (by decide) (hts _ q63) (fun _ h9 => h9) rfl d_Traces_add_12 ?_
    refine lv_iload_n hx hb d_Traces_add_15 rfl (lv_at hl 0 rfl) ?_
    refine va_iald hx hb hK hP 1 0 rfl rfl (zI.inn hv_6 (by decide)) d_Traces_add_16 ?_
    refine lv_topi (fun v_7 ev_7 => ?_)
    have hv_7 : zI v_7 0 12 := (hb8 _).eq ev_7
    refine lv_bipush (v := 12) hx hb d_Traces_add_17 (by decide) ?_
    refine lv_icmp_ne (tgt := 24) hx hb d_Traces_add_19 (by decide) (fun hc_8 => ?_) (fun hc_8 => ?_)
    · have _nhc_8 := hc_8
      have ni_9 : ¬ (v_7 : Int32).toInt = (12 : Int32).toInt := fun z => hc_8 ((fa_eq _ _).mpr z)
      simp only [li_12] at ni_9
      have hv_10 : zI v_7 0 11 := zI.ne_hi hv_7 zc_12 hc_8 (by decide)
      refine lv_iload_n hx hb d_Traces_add_24 rfl (lv_at hl 0 rfl) ?_
      refine lv_bipush (v := 12) hx hb d_Traces_add_25 (by decide) ?_
      refine lv_imul hx hb d_Traces_add_27 ?_
      refine lv_topi (fun v_11 ev_11 => ?_)
      obtain ⟨qv_11, hv_11⟩ := zI_mul (l := 0) (h := 228) hv_6 zc_12 ev_11 (by decide)
      rw [li_12] at qv_11
      refine lv_aload_n hx hb d_Traces_add_28 rfl (lv_at hl 1 rfl) ?_
      refine va_get (D := G.1) (ci := 2) (v := .ref b5) (C := R_Traces) (T := F_Traces) (N := 6) hx hb hts i_Traces hown hK hP 0 rfl rfl 3 (by decide) (hts _ q63) (fun _ h9 => h9) rfl d_Traces_add_29 ?_
      refine lv_iload_n hx hb d_Traces_add_32 rfl (lv_at hl 0 rfl) ?_
      refine va_iald hx hb hK hP 1 0 rfl rfl (zI.inn hv_6 (by decide)) d_Traces_add_33 ?_
      refine lv_topi (fun v_12 ev_12 => ?_)
      obtain rfl : v_7 = v_12 := ev_7.trans ev_12.symm
      refine lv_iadd hx hb d_Traces_add_34 ?_
      refine lv_topi (fun v_13 ev_13 => ?_)
      obtain ⟨qv_13, hv_13⟩ := zI_add (l := 0) (h := 239) hv_11 hv_10 ev_13 (by decide)
      refine lv_istore_n (lv' := [(3, .int v_13), (2, .int v_1), (0, .ref b0), (1, .int b1)]) hx hb d_Traces_add_35 rfl hl (by decide) rfl (fun ls hl => ?_)
      refine lv_aload_n hx hb d_Traces_add_36 rfl (lv_at hl 2 rfl) ?_
      refine va_get (D := G.1) (ci := 2) (v := .ref b6) (C := R_Traces) (T := F_Traces) (N := 6) hx hb hts i_Traces hown hK hP 0 rfl rfl 4 (by decide) (hts _ q72) (fun _ h9 => h9) rfl d_Traces_add_37 ?_
      refine lv_iload_n hx hb d_Traces_add_40 rfl (lv_at hl 0 rfl) ?_
      refine lv_iload_n hx hb d_Traces_add_41 rfl (lv_at hl 3 rfl) ?_
      refine va_iast hx hb hK hP hD hS 2 0 rfl rfl (zI.inn hv_13 (by decide)) d_Traces_add_42 (fun H locs hP hD hS => ?_)
      obtain ⟨f_14, hf_14, gf_14, uf_14, hP, hD⟩ := z_newfu 2 hP hD rfl hb9 hb1
      have hP : va_P G.1 classes [(b0, .inr (2, [.int b2, .int b3, .int b4, .ref b5, .ref b6, .ref b7])), (b5, .inl (G.2 0, 20, .inl b8)), (b6, .inl (G.2 0, 240, .inl f_14)), (b7, .inl (G.2 0, 240, .inl b10))] H := hP
      have hD := z_tie hP hD rfl
      refine lv_aload_n hx hb d_Traces_add_43 rfl (lv_at hl 2 rfl) ?_
      refine va_get (D := G.1) (ci := 2) (v := .ref b7) (C := R_Traces) (T := F_Traces) (N := 6) hx hb hts i_Traces hown hK hP 0 rfl rfl 5 (by decide) (hts _ q73) (fun _ h9 => h9) rfl d_Traces_add_44 ?_
      refine lv_iload_n hx hb d_Traces_add_47 rfl (lv_at hl 0 rfl) ?_
      refine lv_iconst (v := 0) hx hb d_Traces_add_48 (by decide) ?_
      refine va_iast hx hb hK hP hD hS 3 0 rfl rfl (zI.inn hv_13 (by decide)) d_Traces_add_49 (fun H locs hP hD hS => ?_)
      obtain ⟨f_15, gf_15, uf_15, hP, hD⟩ := z_newFu 3 hP hD rfl
      have hP : va_P G.1 classes [(b0, .inr (2, [.int b2, .int b3, .int b4, .ref b5, .ref b6, .ref b7])), (b5, .inl (G.2 0, 20, .inl b8)), (b6, .inl (G.2 0, 240, .inl f_14)), (b7, .inl (G.2 0, 240, .inl f_15))] H := hP
      have hD := z_tie hP hD rfl
      refine lv_aload_n hx hb d_Traces_add_50 rfl (lv_at hl 2 rfl) ?_
      refine va_get (D := G.1) (ci := 2) (v := .ref b5) (C := R_Traces) (T := F_Traces) (N := 6) hx hb hts i_Traces hown hK hP 0 rfl rfl 3 (by decide) (hts _ q63) (fun _ h9 => h9) rfl d_Traces_add_51 ?_
      refine lv_iload_n hx hb d_Traces_add_54 rfl (lv_at hl 1 rfl) ?_
      refine lv_dup2_11 hx hb d_Traces_add_55 rfl rfl ?_
      refine va_iald hx hb hK hP 1 0 rfl rfl (zI.inn hv_6 (by decide)) d_Traces_add_56 ?_
      refine lv_topi (fun v_16 ev_16 => ?_)
      obtain rfl : v_7 = v_16 := ev_7.trans ev_16.symm
      refine lv_iconst (v := 1) hx hb d_Traces_add_57 (by decide) ?_
      refine lv_iadd hx hb d_Traces_add_58 ?_
      refine lv_topi (fun v_17 ev_17 => ?_)
      obtain ⟨qv_17, hv_17⟩ := zI_add (l := 1) (h := 12) hv_10 zc_1 ev_17 (by decide)
      rw [li_1] at qv_17
      refine va_iast hx hb hK hP hD hS 1 0 rfl rfl (zI.inn hv_6 (by decide)) d_Traces_add_59 (fun H locs hP hD hS => ?_)
      obtain ⟨f_18, hf_18, gf_18, uf_18, hP, hD⟩ := z_newfu 1 hP hD rfl hb8 (zI.wk (l' := 0) (h' := 12) hv_17 (by decide))
      have hP : va_P G.1 classes [(b0, .inr (2, [.int b2, .int b3, .int b4, .ref b5, .ref b6, .ref b7])), (b5, .inl (G.2 0, 20, .inl f_18)), (b6, .inl (G.2 0, 240, .inl f_14)), (b7, .inl (G.2 0, 240, .inl f_15))] H := hP
      have hD := z_tie hP hD rfl
      refine lv_iconst (v := 1) hx hb d_Traces_add_60 (by decide) ?_
      exact z_zret hx hb hr hlocks rfl hP hD hS (Nat.le_of_ble_eq_true rfl) (Nat.le_of_ble_eq_true rfl) d_Traces_add_61 ⟨1, f_18, f_14, f_15, rfl, rfl, (zI.wk (l' := 0) (h' := 1) zc_1 (by decide)), hf_18, hf_14⟩
    · have _nhc_8 := hc_8
      have ni_19 := (fa_eq _ _).mp hc_8
      rw [li_12] at ni_19
      have hv_20 : zI v_7 12 12 := zI.eq_l hv_7 zc_12 hc_8
      refine lv_iconst (v := 0) hx hb d_Traces_add_22 (by decide) ?_
      exact z_zret hx hb hr hlocks rfl hP hD hS (Nat.le_of_ble_eq_true rfl) (Nat.le_of_ble_eq_true rfl) d_Traces_add_23 ⟨0, b8, b9, b10, rfl, rfl, (zI.wk (l' := 0) (h' := 1) zc_0 (by decide)), hb8, hb9⟩
theorem d_Traces_addDigit_0 : decode prog_10_method_9_code 0 = .ok (.aload_n 0, 1) := by decide +kernel
theorem d_Traces_addDigit_1 : decode prog_10_method_9_code 1 = .ok (.getfield 25, 3) := by decide +kernel
theorem d_Traces_addDigit_4 : decode prog_10_method_9_code 4 = .ok (.iconst 1, 1) := by decide +kernel
theorem d_Traces_addDigit_5 : decode prog_10_method_9_code 5 = .ok (.isub, 1) := by decide +kernel
theorem d_Traces_addDigit_6 : decode prog_10_method_9_code 6 = .ok (.istore_n 2, 1) := by decide +kernel
theorem d_Traces_addDigit_7 : decode prog_10_method_9_code 7 = .ok (.iload_n 2, 1) := by decide +kernel
theorem d_Traces_addDigit_8 : decode prog_10_method_9_code 8 = .ok (.ifCond .lt 43, 3) := by decide +kernel
theorem d_Traces_addDigit_11 : decode prog_10_method_9_code 11 = .ok (.aload_n 0, 1) := by decide +kernel
theorem d_Traces_addDigit_12 : decode prog_10_method_9_code 12 = .ok (.getfield 15, 3) := by decide +kernel
theorem d_Traces_addDigit_15 : decode prog_10_method_9_code 15 = .ok (.iload_n 2, 1) := by decide +kernel
theorem d_Traces_addDigit_16 : decode prog_10_method_9_code 16 = .ok (.iaload, 1) := by decide +kernel
theorem d_Traces_addDigit_17 : decode prog_10_method_9_code 17 = .ok (.ifCond .le 34, 3) := by decide +kernel
theorem d_Traces_addDigit_20 : decode prog_10_method_9_code 20 = .ok (.iload_n 2, 1) := by decide +kernel
theorem d_Traces_addDigit_21 : decode prog_10_method_9_code 21 = .ok (.bipush 12, 2) := by decide +kernel
theorem d_Traces_addDigit_23 : decode prog_10_method_9_code 23 = .ok (.imul, 1) := by decide +kernel
theorem d_Traces_addDigit_24 : decode prog_10_method_9_code 24 = .ok (.aload_n 0, 1) := by decide +kernel
theorem d_Traces_addDigit_25 : decode prog_10_method_9_code 25 = .ok (.getfield 15, 3) := by decide +kernel
theorem d_Traces_addDigit_28 : decode prog_10_method_9_code 28 = .ok (.iload_n 2, 1) := by decide +kernel
theorem d_Traces_addDigit_29 : decode prog_10_method_9_code 29 = .ok (.iaload, 1) := by decide +kernel
theorem d_Traces_addDigit_30 : decode prog_10_method_9_code 30 = .ok (.iadd, 1) := by decide +kernel
theorem d_Traces_addDigit_31 : decode prog_10_method_9_code 31 = .ok (.iconst 1, 1) := by decide +kernel
theorem d_Traces_addDigit_32 : decode prog_10_method_9_code 32 = .ok (.isub, 1) := by decide +kernel
theorem d_Traces_addDigit_33 : decode prog_10_method_9_code 33 = .ok (.istore_n 3, 1) := by decide +kernel
theorem d_Traces_addDigit_34 : decode prog_10_method_9_code 34 = .ok (.aload_n 0, 1) := by decide +kernel
theorem d_Traces_addDigit_35 : decode prog_10_method_9_code 35 = .ok (.getfield 22, 3) := by decide +kernel
theorem d_Traces_addDigit_38 : decode prog_10_method_9_code 38 = .ok (.iload_n 3, 1) := by decide +kernel
theorem d_Traces_addDigit_39 : decode prog_10_method_9_code 39 = .ok (.bipush 10, 2) := by decide +kernel
theorem d_Traces_addDigit_41 : decode prog_10_method_9_code 41 = .ok (.aload_n 0, 1) := by decide +kernel
theorem d_Traces_addDigit_42 : decode prog_10_method_9_code 42 = .ok (.getfield 22, 3) := by decide +kernel
theorem d_Traces_addDigit_45 : decode prog_10_method_9_code 45 = .ok (.iload_n 3, 1) := by decide +kernel
theorem d_Traces_addDigit_46 : decode prog_10_method_9_code 46 = .ok (.iaload, 1) := by decide +kernel
theorem d_Traces_addDigit_47 : decode prog_10_method_9_code 47 = .ok (.imul, 1) := by decide +kernel
theorem d_Traces_addDigit_48 : decode prog_10_method_9_code 48 = .ok (.iload_n 1, 1) := by decide +kernel
theorem d_Traces_addDigit_49 : decode prog_10_method_9_code 49 = .ok (.iadd, 1) := by decide +kernel
theorem d_Traces_addDigit_50 : decode prog_10_method_9_code 50 = .ok (.iastore, 1) := by decide +kernel
theorem d_Traces_addDigit_51 : decode prog_10_method_9_code 51 = .ok (.return_, 1) := by decide +kernel
abbrev m_s1_Traces_addDigit : Room := { frames := 0, cells := 0, slots := 0, locals := 0 }
set_option maxHeartbeats 4000000 in
set_option maxRecDepth 100000 in
theorem s1_Traces_addDigit (l : Launch) (G : zG) (b0 : Nat) (b1 : Int32) (b2 : Int32) (b3 : Int32) (b4 : Int32) (b5 : Nat) (b6 : Nat) (b7 : Nat) (b8 : Nat → Int32) (b9 : Nat → Int32) (hb1 : zI b1 0 9) (hb2 : zI b2 0 20) (hb3 : zI b3 0 3) (hb4 : zI b4 0 20) (hb8 : zR b8 0 12) : zM l G y_Traces_addDigit prog_10_method_9_code 4 (Option.none : Option Jvm.ClassFile.FieldType) m_s1_Traces_addDigit [.ref b0, .int b1] [(b0, .inr (2, [.int b2, .int b3, .int b4, .ref b5, .ref b6, .ref b7])), (b5, .inl (G.2 0, 20, .inl b8)), (b7, .inl (G.2 0, 240, .inl b9))] (fun v w => ∃ (e0 : Nat → Int32), v = none ∧ w = [(b0, .inr (2, [.int b2, .int b3, .int b4, .ref b5, .ref b6, .ref b7])), (b5, .inl (G.2 0, 20, .inl b8)), (b7, .inl (G.2 0, 240, .inl e0))]) := by
  refine z_start (by decide +kernel) (Nat.le_of_ble_eq_true rfl) ?_
  intro p e s m below meth c A Z hr hnm hA hP hD hS ls hl
  have Z : zC p s m _ meth c prog_10_method_9_code 4 "TraceMachines$Traces" G := Z
  obtain ⟨hx, hb, hml, hown, hts, hK, hN, hlocks⟩ := id Z
  have hl : lv_has ls 4 [(0, .ref b0), (1, .int b1)] := hl
  refine lv_aload_n hx hb d_Traces_addDigit_0 rfl (lv_at hl 0 rfl) ?_
  refine va_get (D := G.1) (ci := 2) (v := .int b2) (C := R_Traces) (T := F_Traces) (N := 6) hx hb hts i_Traces hown hK hP 0 rfl rfl 0 (by decide) (hts _ q52) (fun _ h9 => h9) rfl d_Traces_addDigit_1 ?_
  refine lv_iconst (v := 1) hx hb d_Traces_addDigit_4 (by decide) ?_
  refine lv_isub hx hb d_Traces_addDigit_5 ?_
  refine lv_topi (fun v_1 ev_1 => ?_)
  obtain ⟨qv_1, hv_1⟩ := zI_sub (l := -1) (h := 19) hb2 zc_1 ev_1 (by decide)
  rw [li_1] at qv_1
  refine lv_istore_n (lv' := [(2, .int v_1), (0, .ref b0), (1, .int b1)]) hx hb d_Traces_addDigit_6 rfl hl (by decide) rfl (fun ls hl => ?_)
  refine lv_iload_n hx hb d_Traces_addDigit_7 rfl (lv_at hl 0 rfl) ?_
  refine lv_if_lt (tgt := 51) hx hb d_Traces_addDigit_8 (by decide) (fun hc_2 => ?_) (fun hc_2 => ?_)
  · have _nhc_2 := hc_2
    have ni_3 := (fa_lt _ _).mp hc_2
    rw [li_0] at ni_3
    have hv_4 : zI v_1 (-1) (-1) := zI.lt_l hv_1 zc_0 hc_2 (by decide)
    exact z_vret hx hb hr hlocks hP hD hS (Nat.le_of_ble_eq_true rfl) (Nat.le_of_ble_eq_true rfl) d_Traces_addDigit_51 ⟨b9, rfl, rfl⟩
  · have _nhc_2 := hc_2
    have ni_5 := (fa_le _ _).mp (zi_nlt hc_2)
    rw [li_0] at ni_5
    have hv_6 : zI v_1 0 19 := zI.le_r zc_0 hv_1 (zi_nlt hc_2) (by decide)
    refine lv_aload_n hx hb d_Traces_addDigit_11 rfl (lv_at hl 1 rfl) ?_
    refine va_get (D := G.1) (ci := 2) (v := .ref b5) (C := R_Traces) (T := F_Traces) (N := 6) hx hb hts i_Traces hown hK hP 0 rfl rfl 3 (by decide) (hts _ q63) (fun _ h9 => h9) rfl d_Traces_addDigit_12 ?_
    refine lv_iload_n hx hb d_Traces_addDigit_15 rfl (lv_at hl 0 rfl) ?_
    refine va_iald hx hb hK hP 1 0 rfl rfl (zI.inn hv_6 (by decide)) d_Traces_addDigit_16 ?_
    refine lv_topi (fun v_7 ev_7 => ?_)
    have hv_7 : zI v_7 0 12 := (hb8 _).eq ev_7
    refine lv_if_le (tgt := 51) hx hb d_Traces_addDigit_17 (by decide) (fun hc_8 => ?_) (fun hc_8 => ?_)
    · have _nhc_8 := hc_8
      have ni_9 := (fa_le _ _).mp hc_8
      rw [li_0] at ni_9
      have hv_10 : zI v_7 0 0 := zI.le_l hv_7 zc_0 hc_8 (by decide)
      exact z_vret hx hb hr hlocks hP hD hS (Nat.le_of_ble_eq_true rfl) (Nat.le_of_ble_eq_true rfl) d_Traces_addDigit_51 ⟨b9, rfl, rfl⟩
    · have _nhc_8 := hc_8
      have ni_11 := (fa_lt _ _).mp (zi_nle hc_8)
      rw [li_0] at ni_11
      have hv_12 : zI v_7 1 12 := zI.lt_r zc_0 hv_7 (zi_nle hc_8) (by decide)
      refine lv_iload_n hx hb d_Traces_addDigit_20 rfl (lv_at hl 0 rfl) ?_
      refine lv_bipush (v := 12) hx hb d_Traces_addDigit_21 (by decide) ?_
      refine lv_imul hx hb d_Traces_addDigit_23 ?_
      refine lv_topi (fun v_13 ev_13 => ?_)
      obtain ⟨qv_13, hv_13⟩ := zI_mul (l := 0) (h := 228) hv_6 zc_12 ev_13 (by decide)
      rw [li_12] at qv_13
      refine lv_aload_n hx hb d_Traces_addDigit_24 rfl (lv_at hl 1 rfl) ?_
      refine va_get (D := G.1) (ci := 2) (v := .ref b5) (C := R_Traces) (T := F_Traces) (N := 6) hx hb hts i_Traces hown hK hP 0 rfl rfl 3 (by decide) (hts _ q63) (fun _ h9 => h9) rfl d_Traces_addDigit_25 ?_
      refine lv_iload_n hx hb d_Traces_addDigit_28 rfl (lv_at hl 0 rfl) ?_
      refine va_iald hx hb hK hP 1 0 rfl rfl (zI.inn hv_6 (by decide)) d_Traces_addDigit_29 ?_
      refine lv_topi (fun v_14 ev_14 => ?_)
      obtain rfl : v_7 = v_14 := ev_7.trans ev_14.symm
      refine lv_iadd hx hb d_Traces_addDigit_30 ?_
      refine lv_topi (fun v_15 ev_15 => ?_)
      obtain ⟨qv_15, hv_15⟩ := zI_add (l := 1) (h := 240) hv_13 hv_12 ev_15 (by decide)
      refine lv_iconst (v := 1) hx hb d_Traces_addDigit_31 (by decide) ?_
      refine lv_isub hx hb d_Traces_addDigit_32 ?_
      refine lv_topi (fun v_16 ev_16 => ?_)
      obtain ⟨qv_16, hv_16⟩ := zI_sub (l := 0) (h := 239) hv_15 zc_1 ev_16 (by decide)
      rw [li_1] at qv_16
      refine lv_istore_n (lv' := [(3, .int v_16), (2, .int v_1), (0, .ref b0), (1, .int b1)]) hx hb d_Traces_addDigit_33 rfl hl (by decide) rfl (fun ls hl => ?_)
      refine lv_aload_n hx hb d_Traces_addDigit_34 rfl (lv_at hl 2 rfl) ?_
      refine va_get (D := G.1) (ci := 2) (v := .ref b7) (C := R_Traces) (T := F_Traces) (N := 6) hx hb hts i_Traces hown hK hP 0 rfl rfl 5 (by decide) (hts _ q73) (fun _ h9 => h9) rfl d_Traces_addDigit_35 ?_
      refine lv_iload_n hx hb d_Traces_addDigit_38 rfl (lv_at hl 0 rfl) ?_
      refine lv_bipush (v := 10) hx hb d_Traces_addDigit_39 (by decide) ?_
      refine lv_aload_n hx hb d_Traces_addDigit_41 rfl (lv_at hl 2 rfl) ?_
      refine va_get (D := G.1) (ci := 2) (v := .ref b7) (C := R_Traces) (T := F_Traces) (N := 6) hx hb hts i_Traces hown hK hP 0 rfl rfl 5 (by decide) (hts _ q73) (fun _ h9 => h9) rfl d_Traces_addDigit_42 ?_
      refine lv_iload_n hx hb d_Traces_addDigit_45 rfl (lv_at hl 0 rfl) ?_
      refine va_iald hx hb hK hP 2 0 rfl rfl (zI.inn hv_16 (by decide)) d_Traces_addDigit_46 ?_
      refine lv_topi (fun v_17 ev_17 => ?_)
      refine lv_imul hx hb d_Traces_addDigit_47 ?_
      refine lv_topi (fun v_18 ev_18 => ?_)
      refine lv_iload_n hx hb d_Traces_addDigit_48 rfl (lv_at hl 3 rfl) ?_
      refine lv_iadd hx hb d_Traces_addDigit_49 ?_
      refine lv_topi (fun v_19 ev_19 => ?_)
      refine va_iast hx hb hK hP hD hS 2 0 rfl rfl (zI.inn hv_16 (by decide)) d_Traces_addDigit_50 (fun H locs hP hD hS => ?_)
      obtain ⟨f_20, gf_20, uf_20, hP, hD⟩ := z_newFu 2 hP hD rfl
      have hP : va_P G.1 classes [(b0, .inr (2, [.int b2, .int b3, .int b4, .ref b5, .ref b6, .ref b7])), (b5, .inl (G.2 0, 20, .inl b8)), (b7, .inl (G.2 0, 240, .inl f_20))] H := hP
      have hD := z_tie hP hD rfl
      exact z_vret hx hb hr hlocks hP hD hS (Nat.le_of_ble_eq_true rfl) (Nat.le_of_ble_eq_true rfl) d_Traces_addDigit_51 ⟨f_20, rfl, rfl⟩
theorem d_Traces_remove_0 : decode prog_10_method_10_code 0 = .ok (.aload_n 0, 1) := by decide +kernel
theorem d_Traces_remove_1 : decode prog_10_method_10_code 1 = .ok (.getfield 25, 3) := by decide +kernel
theorem d_Traces_remove_4 : decode prog_10_method_10_code 4 = .ok (.iload_n 1, 1) := by decide +kernel
theorem d_Traces_remove_5 : decode prog_10_method_10_code 5 = .ok (.isub, 1) := by decide +kernel
theorem d_Traces_remove_6 : decode prog_10_method_10_code 6 = .ok (.iconst 1, 1) := by decide +kernel
theorem d_Traces_remove_7 : decode prog_10_method_10_code 7 = .ok (.isub, 1) := by decide +kernel
theorem d_Traces_remove_8 : decode prog_10_method_10_code 8 = .ok (.istore_n 2, 1) := by decide +kernel
theorem d_Traces_remove_9 : decode prog_10_method_10_code 9 = .ok (.iload_n 1, 1) := by decide +kernel
theorem d_Traces_remove_10 : decode prog_10_method_10_code 10 = .ok (.bipush 12, 2) := by decide +kernel
theorem d_Traces_remove_12 : decode prog_10_method_10_code 12 = .ok (.imul, 1) := by decide +kernel
theorem d_Traces_remove_13 : decode prog_10_method_10_code 13 = .ok (.istore_n 3, 1) := by decide +kernel
theorem d_Traces_remove_14 : decode prog_10_method_10_code 14 = .ok (.aload_n 0, 1) := by decide +kernel
theorem d_Traces_remove_15 : decode prog_10_method_10_code 15 = .ok (.getfield 15, 3) := by decide +kernel
theorem d_Traces_remove_18 : decode prog_10_method_10_code 18 = .ok (.iload_n 1, 1) := by decide +kernel
theorem d_Traces_remove_19 : decode prog_10_method_10_code 19 = .ok (.iconst 1, 1) := by decide +kernel
theorem d_Traces_remove_20 : decode prog_10_method_10_code 20 = .ok (.iadd, 1) := by decide +kernel
theorem d_Traces_remove_21 : decode prog_10_method_10_code 21 = .ok (.aload_n 0, 1) := by decide +kernel
theorem d_Traces_remove_22 : decode prog_10_method_10_code 22 = .ok (.getfield 15, 3) := by decide +kernel
theorem d_Traces_remove_25 : decode prog_10_method_10_code 25 = .ok (.iload_n 1, 1) := by decide +kernel
theorem d_Traces_remove_26 : decode prog_10_method_10_code 26 = .ok (.iload_n 2, 1) := by decide +kernel
theorem d_Traces_remove_27 : decode prog_10_method_10_code 27 = .ok (.invokestatic 31, 3) := by decide +kernel
theorem d_Traces_remove_30 : decode prog_10_method_10_code 30 = .ok (.aload_n 0, 1) := by decide +kernel
theorem d_Traces_remove_31 : decode prog_10_method_10_code 31 = .ok (.getfield 19, 3) := by decide +kernel
theorem d_Traces_remove_34 : decode prog_10_method_10_code 34 = .ok (.iload_n 3, 1) := by decide +kernel
theorem d_Traces_remove_35 : decode prog_10_method_10_code 35 = .ok (.bipush 12, 2) := by decide +kernel
theorem d_Traces_remove_37 : decode prog_10_method_10_code 37 = .ok (.iadd, 1) := by decide +kernel
theorem d_Traces_remove_38 : decode prog_10_method_10_code 38 = .ok (.aload_n 0, 1) := by decide +kernel
theorem d_Traces_remove_39 : decode prog_10_method_10_code 39 = .ok (.getfield 19, 3) := by decide +kernel
theorem d_Traces_remove_42 : decode prog_10_method_10_code 42 = .ok (.iload_n 3, 1) := by decide +kernel
theorem d_Traces_remove_43 : decode prog_10_method_10_code 43 = .ok (.iload_n 2, 1) := by decide +kernel
theorem d_Traces_remove_44 : decode prog_10_method_10_code 44 = .ok (.bipush 12, 2) := by decide +kernel
theorem d_Traces_remove_46 : decode prog_10_method_10_code 46 = .ok (.imul, 1) := by decide +kernel
theorem d_Traces_remove_47 : decode prog_10_method_10_code 47 = .ok (.invokestatic 31, 3) := by decide +kernel
theorem d_Traces_remove_50 : decode prog_10_method_10_code 50 = .ok (.aload_n 0, 1) := by decide +kernel
theorem d_Traces_remove_51 : decode prog_10_method_10_code 51 = .ok (.getfield 22, 3) := by decide +kernel
theorem d_Traces_remove_54 : decode prog_10_method_10_code 54 = .ok (.iload_n 3, 1) := by decide +kernel
theorem d_Traces_remove_55 : decode prog_10_method_10_code 55 = .ok (.bipush 12, 2) := by decide +kernel
theorem d_Traces_remove_57 : decode prog_10_method_10_code 57 = .ok (.iadd, 1) := by decide +kernel
theorem d_Traces_remove_58 : decode prog_10_method_10_code 58 = .ok (.aload_n 0, 1) := by decide +kernel
theorem d_Traces_remove_59 : decode prog_10_method_10_code 59 = .ok (.getfield 22, 3) := by decide +kernel
theorem d_Traces_remove_62 : decode prog_10_method_10_code 62 = .ok (.iload_n 3, 1) := by decide +kernel
theorem d_Traces_remove_63 : decode prog_10_method_10_code 63 = .ok (.iload_n 2, 1) := by decide +kernel
theorem d_Traces_remove_64 : decode prog_10_method_10_code 64 = .ok (.bipush 12, 2) := by decide +kernel
theorem d_Traces_remove_66 : decode prog_10_method_10_code 66 = .ok (.imul, 1) := by decide +kernel
theorem d_Traces_remove_67 : decode prog_10_method_10_code 67 = .ok (.invokestatic 31, 3) := by decide +kernel
theorem d_Traces_remove_70 : decode prog_10_method_10_code 70 = .ok (.aload_n 0, 1) := by decide +kernel
theorem d_Traces_remove_71 : decode prog_10_method_10_code 71 = .ok (.dup, 1) := by decide +kernel
theorem d_Traces_remove_72 : decode prog_10_method_10_code 72 = .ok (.getfield 25, 3) := by decide +kernel
theorem d_Traces_remove_75 : decode prog_10_method_10_code 75 = .ok (.iconst 1, 1) := by decide +kernel
theorem d_Traces_remove_76 : decode prog_10_method_10_code 76 = .ok (.isub, 1) := by decide +kernel
theorem d_Traces_remove_77 : decode prog_10_method_10_code 77 = .ok (.putfield 25, 3) := by decide +kernel
theorem d_Traces_remove_80 : decode prog_10_method_10_code 80 = .ok (.return_, 1) := by decide +kernel
abbrev m_s1_Traces_remove : Room := { frames := 1, cells := 0, slots := 0, locals := 18 }
set_option maxHeartbeats 4000000 in
set_option maxRecDepth 100000 in
theorem s1_Traces_remove (l : Launch) (G : zG) (b0 : Nat) (b1 : Int32) (b2 : Int32) (b3 : Int32) (b4 : Int32) (b5 : Nat) (b6 : Nat) (b7 : Nat) (b8 : Nat → Int32) (b9 : Nat → Int32) (b10 : Nat → Int32) (hb1 : zI b1 0 19) (hb2 : zI b2 0 20) (hb3 : zI b3 0 3) (hb4 : zI b4 0 20) (hb8 : zR b8 0 12) (hb9 : zR b9 0 9) (hrm : b1.toInt < b2.toInt) : zM l G y_Traces_remove prog_10_method_10_code 4 (Option.none : Option Jvm.ClassFile.FieldType) m_s1_Traces_remove [.ref b0, .int b1] [(b0, .inr (2, [.int b2, .int b3, .int b4, .ref b5, .ref b6, .ref b7])), (b5, .inl (G.2 0, 20, .inl b8)), (b6, .inl (G.2 0, 240, .inl b9)), (b7, .inl (G.2 0, 240, .inl b10))] (fun v w => ∃ (e0 : Int32), ∃ (e1 : Nat → Int32), ∃ (e2 : Nat → Int32), ∃ (e3 : Nat → Int32), v = none ∧ w = [(b0, .inr (2, [.int e0, .int b3, .int b4, .ref b5, .ref b6, .ref b7])), (b5, .inl (G.2 0, 20, .inl e1)), (b6, .inl (G.2 0, 240, .inl e2)), (b7, .inl (G.2 0, 240, .inl e3))] ∧ (zI e0 0 20) ∧ (zR e1 0 12) ∧ (zR e2 0 9)) := by
  refine z_start (by decide +kernel) (Nat.le_of_ble_eq_true rfl) ?_
  intro p e s m below meth c A Z hr hnm hA hP hD hS ls hl
  have Z : zC p s m _ meth c prog_10_method_10_code 4 "TraceMachines$Traces" G := Z
  obtain ⟨hx, hb, hml, hown, hts, hK, hN, hlocks⟩ := id Z
  have hl : lv_has ls 4 [(0, .ref b0), (1, .int b1)] := hl
  have hv_1 : zI b2 1 20 := ⟨by omega, by omega⟩
  refine lv_aload_n hx hb d_Traces_remove_0 rfl (lv_at hl 0 rfl) ?_
  refine va_get (D := G.1) (ci := 2) (v := .int b2) (C := R_Traces) (T := F_Traces) (N := 6) hx hb hts i_Traces hown hK hP 0 rfl rfl 0 (by decide) (hts _ q52) (fun _ h9 => h9) rfl d_Traces_remove_1 ?_
  refine lv_iload_n hx hb d_Traces_remove_4 rfl (lv_at hl 1 rfl) ?_
  refine lv_isub hx hb d_Traces_remove_5 ?_
  refine lv_topi (fun v_2 ev_2 => ?_)
  obtain ⟨qv_2, hv_2⟩ := zI_sub (l := -18) (h := 20) hv_1 hb1 ev_2 (by decide)
  refine lv_iconst (v := 1) hx hb d_Traces_remove_6 (by decide) ?_
  refine lv_isub hx hb d_Traces_remove_7 ?_
  refine lv_topi (fun v_3 ev_3 => ?_)
  obtain ⟨qv_3, hv_3⟩ := zI_sub (l := -19) (h := 19) hv_2 zc_1 ev_3 (by decide)
  rw [li_1] at qv_3
  refine lv_istore_n (lv' := [(2, .int v_3), (0, .ref b0), (1, .int b1)]) hx hb d_Traces_remove_8 rfl hl (by decide) rfl (fun ls hl => ?_)
  refine lv_iload_n hx hb d_Traces_remove_9 rfl (lv_at hl 2 rfl) ?_
  refine lv_bipush (v := 12) hx hb d_Traces_remove_10 (by decide) ?_
  refine lv_imul hx hb d_Traces_remove_12 ?_
  refine lv_topi (fun v_4 ev_4 => ?_)
  obtain ⟨qv_4, hv_4⟩ := zI_mul (l := 0) (h := 228) hb1 zc_12 ev_4 (by decide)
  rw [li_12] at qv_4
  refine lv_istore_n (lv' := [(3, .int v_4), (2, .int v_3), (0, .ref b0), (1, .int b1)]) hx hb d_Traces_remove_13 rfl hl (by decide) rfl (fun ls hl => ?_)
  refine lv_aload_n hx hb d_Traces_remove_14 rfl (lv_at hl 2 rfl) ?_
  refine va_get (D := G.1) (ci := 2) (v := .ref b5) (C := R_Traces) (T := F_Traces) (N := 6) hx hb hts i_Traces hown hK hP 0 rfl rfl 3 (by decide) (hts _ q63) (fun _ h9 => h9) rfl d_Traces_remove_15 ?_
  refine lv_iload_n hx hb d_Traces_remove_18 rfl (lv_at hl 3 rfl) ?_
  refine lv_iconst (v := 1) hx hb d_Traces_remove_19 (by decide) ?_
  refine lv_iadd hx hb d_Traces_remove_20 ?_
  refine lv_topi (fun v_5 ev_5 => ?_)
  obtain ⟨qv_5, hv_5⟩ := zI_add (l := 1) (h := 20) hb1 zc_1 ev_5 (by decide)
  rw [li_1] at qv_5
  refine lv_aload_n hx hb d_Traces_remove_21 rfl (lv_at hl 2 rfl) ?_
  refine va_get (D := G.1) (ci := 2) (v := .ref b5) (C := R_Traces) (T := F_Traces) (N := 6) hx hb hts i_Traces hown hK hP 0 rfl rfl 3 (by decide) (hts _ q63) (fun _ h9 => h9) rfl d_Traces_remove_22 ?_
  refine lv_iload_n hx hb d_Traces_remove_25 rfl (lv_at hl 3 rfl) ?_
  refine lv_iload_n hx hb d_Traces_remove_26 rfl (lv_at hl 1 rfl) ?_
  have hv_6 : zI v_3 0 19 := ⟨by omega, by omega⟩
  refine va_copyi hx hb (hml.trans hl.1.symm) hown (hts _ q502) (hts _ q504) (hts _ q503) (hts _ q15) hK hP hD hS 1 1 0 0 rfl rfl rfl rfl rfl (zi_nn hv_5 (by decide)) (zi_nn hb1 (by decide)) (zi_nn hv_6 (by decide)) (zi_cpo hv_5 hv_6 (by decide) (by decide) (by have _u := hv_5; have _w := hv_6; omega)) (zi_cpo hb1 hv_6 (by decide) (by decide) (by have _u := hb1; have _w := hv_6; omega)) (fun _ _ => rfl) (Nat.le_of_ble_eq_true rfl) (Nat.le_of_ble_eq_true rfl) d_Traces_remove_27 (fun H locs hP hD hS => ?_)
  obtain ⟨f_7, hf_7, hP, hD⟩ := z_newf 1 hP hD rfl (zR.cpy hb8 hb8)
  have hP : va_P G.1 classes [(b0, .inr (2, [.int b2, .int b3, .int b4, .ref b5, .ref b6, .ref b7])), (b5, .inl (G.2 0, 20, .inl f_7)), (b6, .inl (G.2 0, 240, .inl b9)), (b7, .inl (G.2 0, 240, .inl b10))] H := hP
  have hD := z_tie hP hD rfl
  refine lv_aload_n hx hb d_Traces_remove_30 rfl (lv_at hl 2 rfl) ?_
  refine va_get (D := G.1) (ci := 2) (v := .ref b6) (C := R_Traces) (T := F_Traces) (N := 6) hx hb hts i_Traces hown hK hP 0 rfl rfl 4 (by decide) (hts _ q72) (fun _ h9 => h9) rfl d_Traces_remove_31 ?_
  refine lv_iload_n hx hb d_Traces_remove_34 rfl (lv_at hl 0 rfl) ?_
  refine lv_bipush (v := 12) hx hb d_Traces_remove_35 (by decide) ?_
  refine lv_iadd hx hb d_Traces_remove_37 ?_
  refine lv_topi (fun v_8 ev_8 => ?_)
  obtain ⟨qv_8, hv_8⟩ := zI_add (l := 12) (h := 240) hv_4 zc_12 ev_8 (by decide)
  rw [li_12] at qv_8
  refine lv_aload_n hx hb d_Traces_remove_38 rfl (lv_at hl 2 rfl) ?_
  refine va_get (D := G.1) (ci := 2) (v := .ref b6) (C := R_Traces) (T := F_Traces) (N := 6) hx hb hts i_Traces hown hK hP 0 rfl rfl 4 (by decide) (hts _ q72) (fun _ h9 => h9) rfl d_Traces_remove_39 ?_
  refine lv_iload_n hx hb d_Traces_remove_42 rfl (lv_at hl 0 rfl) ?_
  refine lv_iload_n hx hb d_Traces_remove_43 rfl (lv_at hl 1 rfl) ?_
  refine lv_bipush (v := 12) hx hb d_Traces_remove_44 (by decide) ?_
  refine lv_imul hx hb d_Traces_remove_46 ?_
  refine lv_topi (fun v_9 ev_9 => ?_)
  obtain ⟨qv_9, hv_9⟩ := zI_mul (l := 0) (h := 228) hv_6 zc_12 ev_9 (by decide)
  rw [li_12] at qv_9
  refine va_copyi hx hb (hml.trans hl.1.symm) hown (hts _ q502) (hts _ q504) (hts _ q503) (hts _ q15) hK hP hD hS 2 2 0 0 rfl rfl rfl rfl rfl (zi_nn hv_8 (by decide)) (zi_nn hv_4 (by decide)) (zi_nn hv_9 (by decide)) (zi_cpo hv_8 hv_9 (by decide) (by decide) (by have _u := hv_8; have _w := hv_9; omega)) (zi_cpo hv_4 hv_9 (by decide) (by decide) (by have _u := hv_4; have _w := hv_9; omega)) (fun _ _ => rfl) (Nat.le_of_ble_eq_true rfl) (Nat.le_of_ble_eq_true rfl) d_Traces_remove_47 (fun H locs hP hD hS => ?_)
  obtain ⟨f_10, hf_10, hP, hD⟩ := z_newf 2 hP hD rfl (zR.cpy hb9 hb9)
  have hP : va_P G.1 classes [(b0, .inr (2, [.int b2, .int b3, .int b4, .ref b5, .ref b6, .ref b7])), (b5, .inl (G.2 0, 20, .inl f_7)), (b6, .inl (G.2 0, 240, .inl f_10)), (b7, .inl (G.2 0, 240, .inl b10))] H := hP
  have hD := z_tie hP hD rfl
  refine lv_aload_n hx hb d_Traces_remove_50 rfl (lv_at hl 2 rfl) ?_
  refine va_get (D := G.1) (ci := 2) (v := .ref b7) (C := R_Traces) (T := F_Traces) (N := 6) hx hb hts i_Traces hown hK hP 0 rfl rfl 5 (by decide) (hts _ q73) (fun _ h9 => h9) rfl d_Traces_remove_51 ?_
  refine lv_iload_n hx hb d_Traces_remove_54 rfl (lv_at hl 0 rfl) ?_
  refine lv_bipush (v := 12) hx hb d_Traces_remove_55 (by decide) ?_
  refine lv_iadd hx hb d_Traces_remove_57 ?_
  refine lv_topi (fun v_11 ev_11 => ?_)
  obtain rfl : v_8 = v_11 := ev_8.trans ev_11.symm
  refine lv_aload_n hx hb d_Traces_remove_58 rfl (lv_at hl 2 rfl) ?_
  refine va_get (D := G.1) (ci := 2) (v := .ref b7) (C := R_Traces) (T := F_Traces) (N := 6) hx hb hts i_Traces hown hK hP 0 rfl rfl 5 (by decide) (hts _ q73) (fun _ h9 => h9) rfl d_Traces_remove_59 ?_
  refine lv_iload_n hx hb d_Traces_remove_62 rfl (lv_at hl 0 rfl) ?_
  refine lv_iload_n hx hb d_Traces_remove_63 rfl (lv_at hl 1 rfl) ?_
  refine lv_bipush (v := 12) hx hb d_Traces_remove_64 (by decide) ?_
  refine lv_imul hx hb d_Traces_remove_66 ?_
  refine lv_topi (fun v_12 ev_12 => ?_)
  obtain rfl : v_9 = v_12 := ev_9.trans ev_12.symm
  refine va_copyi hx hb (hml.trans hl.1.symm) hown (hts _ q502) (hts _ q504) (hts _ q503) (hts _ q15) hK hP hD hS 3 3 0 0 rfl rfl rfl rfl rfl (zi_nn hv_8 (by decide)) (zi_nn hv_4 (by decide)) (zi_nn hv_9 (by decide)) (zi_cpo hv_8 hv_9 (by decide) (by decide) (by have _u := hv_8; have _w := hv_9; omega)) (zi_cpo hv_4 hv_9 (by decide) (by decide) (by have _u := hv_4; have _w := hv_9; omega)) (fun _ _ => rfl) (Nat.le_of_ble_eq_true rfl) (Nat.le_of_ble_eq_true rfl) d_Traces_remove_67 (fun H locs hP hD hS => ?_)
  obtain ⟨f_13, hP, hD⟩ := z_newF 3 hP hD rfl
  have hP : va_P G.1 classes [(b0, .inr (2, [.int b2, .int b3, .int b4, .ref b5, .ref b6, .ref b7])), (b5, .inl (G.2 0, 20, .inl f_7)), (b6, .inl (G.2 0, 240, .inl f_10)), (b7, .inl (G.2 0, 240, .inl f_13))] H := hP
  have hD := z_tie hP hD rfl
  refine lv_aload_n hx hb d_Traces_remove_70 rfl (lv_at hl 2 rfl) ?_
  refine lv_dup hx hb d_Traces_remove_71 rfl ?_
  refine va_get (D := G.1) (ci := 2) (v := .int b2) (C := R_Traces) (T := F_Traces) (N := 6) hx hb hts i_Traces hown hK hP 0 rfl rfl 0 (by decide) (hts _ q52) (fun _ h9 => h9) rfl d_Traces_remove_72 ?_
  refine lv_iconst (v := 1) hx hb d_Traces_remove_75 (by decide) ?_
  refine lv_isub hx hb d_Traces_remove_76 ?_
  refine lv_topi (fun v_14 ev_14 => ?_)
  obtain ⟨qv_14, hv_14⟩ := zI_sub (l := 0) (h := 19) hv_1 zc_1 ev_14 (by decide)
  rw [li_1] at qv_14
  refine va_put (D := G.1) (ci := 2) (v := .int v_14) (ty := .int) (C := R_Traces) (T := F_Traces) (N := 6) hx hb hts i_Traces t_Traces t_Traces_ok n_Traces hown hK hP hD hS 0 rfl rfl 0 (by decide) (hts _ q52) (fun _ h9 => h9) rfl (by decide +kernel) rfl rfl (Nat.le_of_ble_eq_true rfl) d_Traces_remove_77 (fun H locs hP hD hS => ?_)
  have hP : va_P G.1 classes [(b0, .inr (2, [.int v_14, .int b3, .int b4, .ref b5, .ref b6, .ref b7])), (b5, .inl (G.2 0, 20, .inl f_7)), (b6, .inl (G.2 0, 240, .inl f_10)), (b7, .inl (G.2 0, 240, .inl f_13))] H := hP
  have hD := z_tie hP hD rfl
  exact z_vret hx hb hr hlocks hP hD hS (Nat.le_of_ble_eq_true rfl) (Nat.le_of_ble_eq_true rfl) d_Traces_remove_80 ⟨v_14, f_7, f_10, f_13, rfl, rfl, (zI.wk (l' := 0) (h' := 20) hv_14 (by decide)), hf_7, hf_10⟩
theorem d_Text_put_0 : decode prog_9_method_2_code 0 = .ok (.aload_n 0, 1) := by decide +kernel
theorem d_Text_put_1 : decode prog_9_method_2_code 1 = .ok (.getfield 15, 3) := by decide +kernel
theorem d_Text_put_4 : decode prog_9_method_2_code 4 = .ok (.iconst 4, 1) := by decide +kernel
theorem d_Text_put_5 : decode prog_9_method_2_code 5 = .ok (.iadd, 1) := by decide +kernel
theorem d_Text_put_6 : decode prog_9_method_2_code 6 = .ok (.sipush 240, 3) := by decide +kernel
theorem d_Text_put_9 : decode prog_9_method_2_code 9 = .ok (.if_icmp .le 5, 3) := by decide +kernel
theorem d_Text_put_12 : decode prog_9_method_2_code 12 = .ok (.iconst 0, 1) := by decide +kernel
theorem d_Text_put_13 : decode prog_9_method_2_code 13 = .ok (.ireturn, 1) := by decide +kernel
theorem d_Text_put_14 : decode prog_9_method_2_code 14 = .ok (.bipush 24, 2) := by decide +kernel
theorem d_Text_put_16 : decode prog_9_method_2_code 16 = .ok (.istore_n 2, 1) := by decide +kernel
theorem d_Text_put_17 : decode prog_9_method_2_code 17 = .ok (.iload_n 2, 1) := by decide +kernel
theorem d_Text_put_18 : decode prog_9_method_2_code 18 = .ok (.ifCond .lt 36, 3) := by decide +kernel
theorem d_Text_put_21 : decode prog_9_method_2_code 21 = .ok (.aload_n 0, 1) := by decide +kernel
theorem d_Text_put_22 : decode prog_9_method_2_code 22 = .ok (.getfield 9, 3) := by decide +kernel
theorem d_Text_put_25 : decode prog_9_method_2_code 25 = .ok (.aload_n 0, 1) := by decide +kernel
theorem d_Text_put_26 : decode prog_9_method_2_code 26 = .ok (.getfield 15, 3) := by decide +kernel
theorem d_Text_put_29 : decode prog_9_method_2_code 29 = .ok (.iload_n 1, 1) := by decide +kernel
theorem d_Text_put_30 : decode prog_9_method_2_code 30 = .ok (.iload_n 2, 1) := by decide +kernel
theorem d_Text_put_31 : decode prog_9_method_2_code 31 = .ok (.iushr, 1) := by decide +kernel
theorem d_Text_put_32 : decode prog_9_method_2_code 32 = .ok (.sipush 255, 3) := by decide +kernel
theorem d_Text_put_35 : decode prog_9_method_2_code 35 = .ok (.iand, 1) := by decide +kernel
theorem d_Text_put_36 : decode prog_9_method_2_code 36 = .ok (.i2c, 1) := by decide +kernel
theorem d_Text_put_37 : decode prog_9_method_2_code 37 = .ok (.castore, 1) := by decide +kernel
theorem d_Text_put_38 : decode prog_9_method_2_code 38 = .ok (.aload_n 0, 1) := by decide +kernel
theorem d_Text_put_39 : decode prog_9_method_2_code 39 = .ok (.dup, 1) := by decide +kernel
theorem d_Text_put_40 : decode prog_9_method_2_code 40 = .ok (.getfield 15, 3) := by decide +kernel
theorem d_Text_put_43 : decode prog_9_method_2_code 43 = .ok (.iconst 1, 1) := by decide +kernel
theorem d_Text_put_44 : decode prog_9_method_2_code 44 = .ok (.iadd, 1) := by decide +kernel
theorem d_Text_put_45 : decode prog_9_method_2_code 45 = .ok (.putfield 15, 3) := by decide +kernel
theorem d_Text_put_48 : decode prog_9_method_2_code 48 = .ok (.iinc 2 (-8), 3) := by decide +kernel
theorem d_Text_put_51 : decode prog_9_method_2_code 51 = .ok (.goto (-34), 3) := by decide +kernel
theorem d_Text_put_54 : decode prog_9_method_2_code 54 = .ok (.iconst 1, 1) := by decide +kernel
theorem d_Text_put_55 : decode prog_9_method_2_code 55 = .ok (.ireturn, 1) := by decide +kernel
theorem zc_4 : zI 4 4 4 := ⟨by decide +kernel, by decide +kernel⟩
theorem li_4 : (4 : Int32).toInt = 4 := by decide +kernel
theorem zc_240 : zI 240 240 240 := ⟨by decide +kernel, by decide +kernel⟩
theorem li_240 : (240 : Int32).toInt = 240 := by decide +kernel
theorem li_m1 : ((-1) : Int32).toInt = (-1) := by decide +kernel
abbrev m_s1_Text_put : Room := { frames := 0, cells := 0, slots := 0, locals := 0 }
set_option maxHeartbeats 4000000 in
set_option maxRecDepth 100000 in
theorem s1_Text_put (l : Launch) (G : zG) (b0 : Nat) (b1 : Int32) (b2 : Int32) (b3 : Nat) (b4 : Nat → Int32) (hb2 : zI b2 0 240) : zM l G y_Text_put prog_9_method_2_code 3 (Option.some Jvm.ClassFile.FieldType.boolean) m_s1_Text_put [.ref b0, .int b1] [(b0, .inr (1, [.int b2, .ref b3])), (b3, .inl (G.2 2, 240, .inl b4))] (fun v w => ∃ (e0 : Int32), ∃ (e1 : Int32), ∃ (e2 : Nat → Int32), v = some (.int e0) ∧ w = [(b0, .inr (1, [.int e1, .ref b3])), (b3, .inl (G.2 2, 240, .inl e2))] ∧ (zI e0 0 1) ∧ (zI e1 0 240) ∧ ((b2 : Int32).toInt ≤ 236 → (e0 : Int32).toInt = 1 ∧ (e1 : Int32).toInt = (b2 : Int32).toInt + 4) ∧ (¬ (b2 : Int32).toInt ≤ 236 → (e0 : Int32).toInt = 0 ∧ (e1 : Int32).toInt = (b2 : Int32).toInt)) := by
  refine z_start (by decide +kernel) (Nat.le_of_ble_eq_true rfl) ?_
  intro p e s m below meth c A Z hr hnm hA hP hD hS ls hl
  have Z : zC p s m _ meth c prog_9_method_2_code 3 "TraceMachines$Text" G := Z
  obtain ⟨hx, hb, hml, hown, hts, hK, hN, hlocks⟩ := id Z
  have hl : lv_has ls 3 [(0, .ref b0), (1, .int b1)] := hl
  refine lv_aload_n hx hb d_Text_put_0 rfl (lv_at hl 0 rfl) ?_
  refine va_get (D := G.1) (ci := 1) (v := .int b2) (C := R_Text) (T := F_Text) (N := 2) hx hb hts i_Text hown hK hP 0 rfl rfl 0 (by decide) (hts _ q37) (fun _ h9 => h9) rfl d_Text_put_1 ?_
  refine lv_iconst (v := 4) hx hb d_Text_put_4 (by decide) ?_
  refine lv_iadd hx hb d_Text_put_5 ?_
  refine lv_topi (fun v_1 ev_1 => ?_)
  obtain ⟨qv_1, hv_1⟩ := zI_add (l := 4) (h := 244) hb2 zc_4 ev_1 (by decide)
  rw [li_4] at qv_1
  refine lv_sipush (v := 240) hx hb d_Text_put_6 (by decide) ?_
  refine lv_icmp_le (tgt := 14) hx hb d_Text_put_9 (by decide) (fun hc_2 => ?_) (fun hc_2 => ?_)
  · have _nhc_2 := hc_2
    have ni_3 := (fa_le _ _).mp hc_2
    rw [li_240] at ni_3
    have hv_4 : zI v_1 4 240 := zI.le_l hv_1 zc_240 hc_2 (by decide)
    have hv_5 : zI b2 0 236 := by have _a := hv_4; have _b := qv_1; have _c := zc_4; have _d := hb2; exact ⟨by omega, by omega⟩
    refine lv_bipush (v := 24) hx hb d_Text_put_14 (by decide) ?_
    refine lv_istore_n (lv' := [(2, .int 24), (0, .ref b0), (1, .int b1)]) hx hb d_Text_put_16 rfl hl (by decide) rfl (fun ls hl => ?_)
    refine lv_iload_n hx hb d_Text_put_17 rfl (lv_at hl 0 rfl) ?_
    refine lv_if_lt (tgt := 54) hx hb d_Text_put_18 (by decide) (fun hc => absurd hc (by decide +kernel)) (fun _ => ?_)
    refine lv_aload_n hx hb d_Text_put_21 rfl (lv_at hl 1 rfl) ?_
    refine va_get (D := G.1) (ci := 1) (v := .ref b3) (C := R_Text) (T := F_Text) (N := 2) hx hb hts i_Text hown hK hP 0 rfl rfl 1 (by decide) (hts _ q39) (fun _ h9 => h9) rfl d_Text_put_22 ?_
    refine lv_aload_n hx hb d_Text_put_25 rfl (lv_at hl 1 rfl) ?_
    refine va_get (D := G.1) (ci := 1) (v := .int b2) (C := R_Text) (T := F_Text) (N := 2) hx hb hts i_Text hown hK hP 0 rfl rfl 0 (by decide) (hts _ q37) (fun _ h9 => h9) rfl d_Text_put_26 ?_
    refine lv_iload_n hx hb d_Text_put_29 rfl (lv_at hl 2 rfl) ?_
    refine lv_iload_n hx hb d_Text_put_30 rfl (lv_at hl 0 rfl) ?_
    obtain ⟨v_6, ev_6⟩ : ∃ z : Int32, z = ((b1).toUInt32 >>> ((24 : Int32).toUInt32 &&& Int32.toUInt32 31)).toInt32 := ⟨_, rfl⟩
    refine lv_iushr (v := v_6) hx hb d_Text_put_31 ev_6.symm ?_
    refine lv_sipush (v := 255) hx hb d_Text_put_32 (by decide) ?_
    refine lv_iand hx hb d_Text_put_35 ?_
    refine lv_topi (fun v_7 ev_7 => ?_)
    have hv_7 := zI_and (k := 8) (h := 255) (by decide +kernel) ev_7 (by decide)
    obtain ⟨v_8, ev_8⟩ : ∃ z : Int32, z = ((v_7).toUInt32 % 65536).toInt32 := ⟨_, rfl⟩
    refine lv_i2c (v := v_8) hx hb d_Text_put_36 ev_8.symm ?_
    refine va_cast hx hb hK hP hD hS 1 2 rfl rfl (zI.inn hv_5 (by decide)) d_Text_put_37 (fun H locs hP hD hS => ?_)
    obtain ⟨f_9, hP, hD⟩ := z_newF 1 hP hD rfl
    have hP : va_P G.1 classes [(b0, .inr (1, [.int b2, .ref b3])), (b3, .inl (G.2 2, 240, .inl f_9))] H := hP
    have hD := z_tie hP hD rfl
    refine lv_aload_n hx hb d_Text_put_38 rfl (lv_at hl 1 rfl) ?_
    refine lv_dup hx hb d_Text_put_39 rfl ?_
    refine va_get (D := G.1) (ci := 1) (v := .int b2) (C := R_Text) (T := F_Text) (N := 2) hx hb hts i_Text hown hK hP 0 rfl rfl 0 (by decide) (hts _ q37) (fun _ h9 => h9) rfl d_Text_put_40 ?_
    refine lv_iconst (v := 1) hx hb d_Text_put_43 (by decide) ?_
    refine lv_iadd hx hb d_Text_put_44 ?_
    refine lv_topi (fun v_10 ev_10 => ?_)
    obtain ⟨qv_10, hv_10⟩ := zI_add (l := 1) (h := 237) hv_5 zc_1 ev_10 (by decide)
    rw [li_1] at qv_10
    refine va_put (D := G.1) (ci := 1) (v := .int v_10) (ty := .int) (C := R_Text) (T := F_Text) (N := 2) hx hb hts i_Text t_Text t_Text_ok n_Text hown hK hP hD hS 0 rfl rfl 0 (by decide) (hts _ q37) (fun _ h9 => h9) rfl (by decide +kernel) rfl rfl (Nat.le_of_ble_eq_true rfl) d_Text_put_45 (fun H locs hP hD hS => ?_)
    have hP : va_P G.1 classes [(b0, .inr (1, [.int v_10, .ref b3])), (b3, .inl (G.2 2, 240, .inl f_9))] H := hP
    have hD := z_tie hP hD rfl
    refine lv_iinc (v := 16) (lv' := [(2, .int 16), (0, .ref b0), (1, .int b1)]) hx hb d_Text_put_48 hl (k := 0) rfl (by decide +kernel) (by decide) rfl (fun ls hl => ?_)
    refine lv_goto (tgt := 17) hx hb d_Text_put_51 (by decide) ?_
    refine lv_iload_n hx hb d_Text_put_17 rfl (lv_at hl 0 rfl) ?_
    refine lv_if_lt (tgt := 54) hx hb d_Text_put_18 (by decide) (fun hc => absurd hc (by decide +kernel)) (fun _ => ?_)
    refine lv_aload_n hx hb d_Text_put_21 rfl (lv_at hl 1 rfl) ?_
    refine va_get (D := G.1) (ci := 1) (v := .ref b3) (C := R_Text) (T := F_Text) (N := 2) hx hb hts i_Text hown hK hP 0 rfl rfl 1 (by decide) (hts _ q39) (fun _ h9 => h9) rfl d_Text_put_22 ?_
    refine lv_aload_n hx hb d_Text_put_25 rfl (lv_at hl 1 rfl) ?_
    refine va_get (D := G.1) (ci := 1) (v := .int v_10) (C := R_Text) (T := F_Text) (N := 2) hx hb hts i_Text hown hK hP 0 rfl rfl 0 (by decide) (hts _ q37) (fun _ h9 => h9) rfl d_Text_put_26 ?_
    refine lv_iload_n hx hb d_Text_put_29 rfl (lv_at hl 2 rfl) ?_
    refine lv_iload_n hx hb d_Text_put_30 rfl (lv_at hl 0 rfl) ?_
    obtain ⟨v_11, ev_11⟩ : ∃ z : Int32, z = ((b1).toUInt32 >>> ((16 : Int32).toUInt32 &&& Int32.toUInt32 31)).toInt32 := ⟨_, rfl⟩
    refine lv_iushr (v := v_11) hx hb d_Text_put_31 ev_11.symm ?_
    refine lv_sipush (v := 255) hx hb d_Text_put_32 (by decide) ?_
    refine lv_iand hx hb d_Text_put_35 ?_
    refine lv_topi (fun v_12 ev_12 => ?_)
    have hv_12 := zI_and (k := 8) (h := 255) (by decide +kernel) ev_12 (by decide)
    obtain ⟨v_13, ev_13⟩ : ∃ z : Int32, z = ((v_12).toUInt32 % 65536).toInt32 := ⟨_, rfl⟩
    refine lv_i2c (v := v_13) hx hb d_Text_put_36 ev_13.symm ?_
    refine va_cast hx hb hK hP hD hS 1 2 rfl rfl (zI.inn hv_10 (by decide)) d_Text_put_37 (fun H locs hP hD hS => ?_)
    obtain ⟨f_14, hP, hD⟩ := z_newF 1 hP hD rfl
    have hP : va_P G.1 classes [(b0, .inr (1, [.int v_10, .ref b3])), (b3, .inl (G.2 2, 240, .inl f_14))] H := hP
    have hD := z_tie hP hD rfl
    refine lv_aload_n hx hb d_Text_put_38 rfl (lv_at hl 1 rfl) ?_
    refine lv_dup hx hb d_Text_put_39 rfl ?_
    refine va_get (D := G.1) (ci := 1) (v := .int v_10) (C := R_Text) (T := F_Text) (N := 2) hx hb hts i_Text hown hK hP 0 rfl rfl 0 (by decide) (hts _ q37) (fun _ h9 => h9) rfl d_Text_put_40 ?_
    refine lv_iconst (v := 1) hx hb d_Text_put_43 (by decide) ?_
    refine lv_iadd hx hb d_Text_put_44 ?_
    refine lv_topi (fun v_15 ev_15 => ?_)
    obtain ⟨qv_15, hv_15⟩ := zI_add (l := 2) (h := 238) hv_10 zc_1 ev_15 (by decide)
    rw [li_1] at qv_15
    refine va_put (D := G.1) (ci := 1) (v := .int v_15) (ty := .int) (C := R_Text) (T := F_Text) (N := 2) hx hb hts i_Text t_Text t_Text_ok n_Text hown hK hP hD hS 0 rfl rfl 0 (by decide) (hts _ q37) (fun _ h9 => h9) rfl (by decide +kernel) rfl rfl (Nat.le_of_ble_eq_true rfl) d_Text_put_45 (fun H locs hP hD hS => ?_)
    have hP : va_P G.1 classes [(b0, .inr (1, [.int v_15, .ref b3])), (b3, .inl (G.2 2, 240, .inl f_14))] H := hP
    have hD := z_tie hP hD rfl
    refine lv_iinc (v := 8) (lv' := [(2, .int 8), (0, .ref b0), (1, .int b1)]) hx hb d_Text_put_48 hl (k := 0) rfl (by decide +kernel) (by decide) rfl (fun ls hl => ?_)
    refine lv_goto (tgt := 17) hx hb d_Text_put_51 (by decide) ?_
    refine lv_iload_n hx hb d_Text_put_17 rfl (lv_at hl 0 rfl) ?_
    refine lv_if_lt (tgt := 54) hx hb d_Text_put_18 (by decide) (fun hc => absurd hc (by decide +kernel)) (fun _ => ?_)
    refine lv_aload_n hx hb d_Text_put_21 rfl (lv_at hl 1 rfl) ?_
    refine va_get (D := G.1) (ci := 1) (v := .ref b3) (C := R_Text) (T := F_Text) (N := 2) hx hb hts i_Text hown hK hP 0 rfl rfl 1 (by decide) (hts _ q39) (fun _ h9 => h9) rfl d_Text_put_22 ?_
    refine lv_aload_n hx hb d_Text_put_25 rfl (lv_at hl 1 rfl) ?_
    refine va_get (D := G.1) (ci := 1) (v := .int v_15) (C := R_Text) (T := F_Text) (N := 2) hx hb hts i_Text hown hK hP 0 rfl rfl 0 (by decide) (hts _ q37) (fun _ h9 => h9) rfl d_Text_put_26 ?_
    refine lv_iload_n hx hb d_Text_put_29 rfl (lv_at hl 2 rfl) ?_
    refine lv_iload_n hx hb d_Text_put_30 rfl (lv_at hl 0 rfl) ?_
    obtain ⟨v_16, ev_16⟩ : ∃ z : Int32, z = ((b1).toUInt32 >>> ((8 : Int32).toUInt32 &&& Int32.toUInt32 31)).toInt32 := ⟨_, rfl⟩
    refine lv_iushr (v := v_16) hx hb d_Text_put_31 ev_16.symm ?_
    refine lv_sipush (v := 255) hx hb d_Text_put_32 (by decide) ?_
    refine lv_iand hx hb d_Text_put_35 ?_
    refine lv_topi (fun v_17 ev_17 => ?_)
    have hv_17 := zI_and (k := 8) (h := 255) (by decide +kernel) ev_17 (by decide)
    obtain ⟨v_18, ev_18⟩ : ∃ z : Int32, z = ((v_17).toUInt32 % 65536).toInt32 := ⟨_, rfl⟩
    refine lv_i2c (v := v_18) hx hb d_Text_put_36 ev_18.symm ?_
    refine va_cast hx hb hK hP hD hS 1 2 rfl rfl (zI.inn hv_15 (by decide)) d_Text_put_37 (fun H locs hP hD hS => ?_)
    obtain ⟨f_19, hP, hD⟩ := z_newF 1 hP hD rfl
    have hP : va_P G.1 classes [(b0, .inr (1, [.int v_15, .ref b3])), (b3, .inl (G.2 2, 240, .inl f_19))] H := hP
    have hD := z_tie hP hD rfl
    refine lv_aload_n hx hb d_Text_put_38 rfl (lv_at hl 1 rfl) ?_
    refine lv_dup hx hb d_Text_put_39 rfl ?_
    refine va_get (D := G.1) (ci := 1) (v := .int v_15) (C := R_Text) (T := F_Text) (N := 2) hx hb hts i_Text hown hK hP 0 rfl rfl 0 (by decide) (hts _ q37) (fun _ h9 => h9) rfl d_Text_put_40 ?_
    refine lv_iconst (v := 1) hx hb d_Text_put_43 (by decide) ?_
    refine lv_iadd hx hb d_Text_put_44 ?_
    refine lv_topi (fun v_20 ev_20 => ?_)
    obtain ⟨qv_20, hv_20⟩ := zI_add (l := 3) (h := 239) hv_15 zc_1 ev_20 (by decide)
    rw [li_1] at qv_20
    refine va_put (D := G.1) (ci := 1) (v := .int v_20) (ty := .int) (C := R_Text) (T := F_Text) (N := 2) hx hb hts i_Text t_Text t_Text_ok n_Text hown hK hP hD hS 0 rfl rfl 0 (by decide) (hts _ q37) (fun _ h9 => h9) rfl (by decide +kernel) rfl rfl (Nat.le_of_ble_eq_true rfl) d_Text_put_45 (fun H locs hP hD hS => ?_)
    have hP : va_P G.1 classes [(b0, .inr (1, [.int v_20, .ref b3])), (b3, .inl (G.2 2, 240, .inl f_19))] H := hP
    have hD := z_tie hP hD rfl
    refine lv_iinc (v := 0) (lv' := [(2, .int 0), (0, .ref b0), (1, .int b1)]) hx hb d_Text_put_48 hl (k := 0) rfl (by decide +kernel) (by decide) rfl (fun ls hl => ?_)
    refine lv_goto (tgt := 17) hx hb d_Text_put_51 (by decide) ?_
    refine lv_iload_n hx hb d_Text_put_17 rfl (lv_at hl 0 rfl) ?_
    refine lv_if_lt (tgt := 54) hx hb d_Text_put_18 (by decide) (fun hc => absurd hc (by decide +kernel)) (fun _ => ?_)
    refine lv_aload_n hx hb d_Text_put_21 rfl (lv_at hl 1 rfl) ?_
    refine va_get (D := G.1) (ci := 1) (v := .ref b3) (C := R_Text) (T := F_Text) (N := 2) hx hb hts i_Text hown hK hP 0 rfl rfl 1 (by decide) (hts _ q39) (fun _ h9 => h9) rfl d_Text_put_22 ?_
    refine lv_aload_n hx hb d_Text_put_25 rfl (lv_at hl 1 rfl) ?_
    refine va_get (D := G.1) (ci := 1) (v := .int v_20) (C := R_Text) (T := F_Text) (N := 2) hx hb hts i_Text hown hK hP 0 rfl rfl 0 (by decide) (hts _ q37) (fun _ h9 => h9) rfl d_Text_put_26 ?_
    refine lv_iload_n hx hb d_Text_put_29 rfl (lv_at hl 2 rfl) ?_
    refine lv_iload_n hx hb d_Text_put_30 rfl (lv_at hl 0 rfl) ?_
    obtain ⟨v_21, ev_21⟩ : ∃ z : Int32, z = ((b1).toUInt32 >>> ((0 : Int32).toUInt32 &&& Int32.toUInt32 31)).toInt32 := ⟨_, rfl⟩
    refine lv_iushr (v := v_21) hx hb d_Text_put_31 ev_21.symm ?_
    refine lv_sipush (v := 255) hx hb d_Text_put_32 (by decide) ?_
    refine lv_iand hx hb d_Text_put_35 ?_
    refine lv_topi (fun v_22 ev_22 => ?_)
    have hv_22 := zI_and (k := 8) (h := 255) (by decide +kernel) ev_22 (by decide)
    obtain ⟨v_23, ev_23⟩ : ∃ z : Int32, z = ((v_22).toUInt32 % 65536).toInt32 := ⟨_, rfl⟩
    refine lv_i2c (v := v_23) hx hb d_Text_put_36 ev_23.symm ?_
    refine va_cast hx hb hK hP hD hS 1 2 rfl rfl (zI.inn hv_20 (by decide)) d_Text_put_37 (fun H locs hP hD hS => ?_)
    obtain ⟨f_24, hP, hD⟩ := z_newF 1 hP hD rfl
    have hP : va_P G.1 classes [(b0, .inr (1, [.int v_20, .ref b3])), (b3, .inl (G.2 2, 240, .inl f_24))] H := hP
    have hD := z_tie hP hD rfl
    refine lv_aload_n hx hb d_Text_put_38 rfl (lv_at hl 1 rfl) ?_
    refine lv_dup hx hb d_Text_put_39 rfl ?_
    refine va_get (D := G.1) (ci := 1) (v := .int v_20) (C := R_Text) (T := F_Text) (N := 2) hx hb hts i_Text hown hK hP 0 rfl rfl 0 (by decide) (hts _ q37) (fun _ h9 => h9) rfl d_Text_put_40 ?_
    refine lv_iconst (v := 1) hx hb d_Text_put_43 (by decide) ?_
    refine lv_iadd hx hb d_Text_put_44 ?_
    refine lv_topi (fun v_25 ev_25 => ?_)
    obtain ⟨qv_25, hv_25⟩ := zI_add (l := 4) (h := 240) hv_20 zc_1 ev_25 (by decide)
    rw [li_1] at qv_25
    refine va_put (D := G.1) (ci := 1) (v := .int v_25) (ty := .int) (C := R_Text) (T := F_Text) (N := 2) hx hb hts i_Text t_Text t_Text_ok n_Text hown hK hP hD hS 0 rfl rfl 0 (by decide) (hts _ q37) (fun _ h9 => h9) rfl (by decide +kernel) rfl rfl (Nat.le_of_ble_eq_true rfl) d_Text_put_45 (fun H locs hP hD hS => ?_)
    have hP : va_P G.1 classes [(b0, .inr (1, [.int v_25, .ref b3])), (b3, .inl (G.2 2, 240, .inl f_24))] H := hP
    have hD := z_tie hP hD rfl
    refine lv_iinc (v := (-8)) (lv' := [(2, .int (-8)), (0, .ref b0), (1, .int b1)]) hx hb d_Text_put_48 hl (k := 0) rfl (by decide +kernel) (by decide) rfl (fun ls hl => ?_)
    refine lv_goto (tgt := 17) hx hb d_Text_put_51 (by decide) ?_
    refine lv_iload_n hx hb d_Text_put_17 rfl (lv_at hl 0 rfl) ?_
    refine lv_if_lt (tgt := 54) hx hb d_Text_put_18 (by decide) (fun _ => ?_) (fun hc => absurd hc (by decide +kernel))
    refine lv_iconst (v := 1) hx hb d_Text_put_54 (by decide) ?_
    exact z_zret hx hb hr hlocks rfl hP hD hS (Nat.le_of_ble_eq_true rfl) (Nat.le_of_ble_eq_true rfl) d_Text_put_55 ⟨1, v_25, f_24, rfl, rfl, (zI.wk (l' := 0) (h' := 1) zc_1 (by decide)), (zI.wk (l' := 0) (h' := 240) hv_25 (by decide)), (by have _l0 := li_0; have _l1 := li_1; have _l2 := li_m1; intro h9; omega), (by have _l0 := li_0; have _l1 := li_1; have _l2 := li_m1; intro h9; omega)⟩
  · have _nhc_2 := hc_2
    have ni_26 := (fa_lt _ _).mp (zi_nle hc_2)
    rw [li_240] at ni_26
    have hv_27 : zI v_1 241 244 := zI.lt_r zc_240 hv_1 (zi_nle hc_2) (by decide)
    have hv_28 : zI b2 237 240 := by have _a := hv_27; have _b := qv_1; have _c := zc_4; have _d := hb2; exact ⟨by omega, by omega⟩
    refine lv_iconst (v := 0) hx hb d_Text_put_12 (by decide) ?_
    exact z_zret hx hb hr hlocks rfl hP hD hS (Nat.le_of_ble_eq_true rfl) (Nat.le_of_ble_eq_true rfl) d_Text_put_13 ⟨0, b2, b4, rfl, rfl, (zI.wk (l' := 0) (h' := 1) zc_0 (by decide)), (zI.wk (l' := 0) (h' := 240) hv_28 (by decide)), (by have _l0 := li_0; have _l1 := li_1; have _l2 := li_m1; intro h9; omega), (by have _l0 := li_0; have _l1 := li_1; have _l2 := li_m1; intro h9; omega)⟩
theorem d_Text_cut_0 : decode prog_9_method_3_code 0 = .ok (.iload_n 1, 1) := by decide +kernel
theorem d_Text_cut_1 : decode prog_9_method_3_code 1 = .ok (.ifCond .lt 11, 3) := by decide +kernel
theorem d_Text_cut_4 : decode prog_9_method_3_code 4 = .ok (.iload_n 1, 1) := by decide +kernel
theorem d_Text_cut_5 : decode prog_9_method_3_code 5 = .ok (.aload_n 0, 1) := by decide +kernel
theorem d_Text_cut_6 : decode prog_9_method_3_code 6 = .ok (.getfield 15, 3) := by decide +kernel
theorem d_Text_cut_9 : decode prog_9_method_3_code 9 = .ok (.if_icmp .le 5, 3) := by decide +kernel
theorem d_Text_cut_12 : decode prog_9_method_3_code 12 = .ok (.iconst 0, 1) := by decide +kernel
theorem d_Text_cut_13 : decode prog_9_method_3_code 13 = .ok (.ireturn, 1) := by decide +kernel
theorem d_Text_cut_14 : decode prog_9_method_3_code 14 = .ok (.aload_n 0, 1) := by decide +kernel
theorem d_Text_cut_15 : decode prog_9_method_3_code 15 = .ok (.iload_n 1, 1) := by decide +kernel
theorem d_Text_cut_16 : decode prog_9_method_3_code 16 = .ok (.putfield 15, 3) := by decide +kernel
theorem d_Text_cut_19 : decode prog_9_method_3_code 19 = .ok (.iconst 1, 1) := by decide +kernel
theorem d_Text_cut_20 : decode prog_9_method_3_code 20 = .ok (.ireturn, 1) := by decide +kernel
abbrev m_s1_Text_cut : Room := { frames := 0, cells := 0, slots := 0, locals := 0 }
set_option maxHeartbeats 4000000 in
set_option maxRecDepth 100000 in
theorem s1_Text_cut (l : Launch) (G : zG) (b0 : Nat) (b1 : Int32) (b2 : Int32) (b3 : Nat) (hb2 : zI b2 0 240) : zM l G y_Text_cut prog_9_method_3_code 2 (Option.some Jvm.ClassFile.FieldType.boolean) m_s1_Text_cut [.ref b0, .int b1] [(b0, .inr (1, [.int b2, .ref b3]))] (fun v w => ∃ (e0 : Int32), ∃ (e1 : Int32), v = some (.int e0) ∧ w = [(b0, .inr (1, [.int e1, .ref b3]))] ∧ (zI e0 0 1) ∧ (zI e1 0 240) ∧ ((0 ≤ (b1 : Int32).toInt ∧ (b1 : Int32).toInt ≤ (b2 : Int32).toInt) → (e0 : Int32).toInt = 1 ∧ (e1 : Int32).toInt = (b1 : Int32).toInt) ∧ (¬ (0 ≤ (b1 : Int32).toInt ∧ (b1 : Int32).toInt ≤ (b2 : Int32).toInt) → (e0 : Int32).toInt = 0 ∧ (e1 : Int32).toInt = (b2 : Int32).toInt)) := by
  refine z_start (by decide +kernel) (Nat.le_of_ble_eq_true rfl) ?_
  intro p e s m below meth c A Z hr hnm hA hP hD hS ls hl
  have Z : zC p s m _ meth c prog_9_method_3_code 2 "TraceMachines$Text" G := Z
  obtain ⟨hx, hb, hml, hown, hts, hK, hN, hlocks⟩ := id Z
  have hl : lv_has ls 2 [(0, .ref b0), (1, .int b1)] := hl
  refine lv_iload_n hx hb d_Text_cut_0 rfl (lv_at hl 1 rfl) ?_
  refine lv_if_lt (tgt := 12) hx hb d_Text_cut_1 (by decide) (fun hc_1 => ?_) (fun hc_1 => ?_)
  · have _nhc_1 := hc_1
    have ni_2 := (fa_lt _ _).mp hc_1
    rw [li_0] at ni_2
    have hv_3 : zI b1 (-2147483648) (-1) := zI.lt_l (zI_all b1) zc_0 hc_1 (by decide)
    refine lv_iconst (v := 0) hx hb d_Text_cut_12 (by decide) ?_
    exact z_zret hx hb hr hlocks rfl hP hD hS (Nat.le_of_ble_eq_true rfl) (Nat.le_of_ble_eq_true rfl) d_Text_cut_13 ⟨0, b2, rfl, rfl, (zI.wk (l' := 0) (h' := 1) zc_0 (by decide)), hb2, (by have _l0 := li_0; have _l1 := li_1; have _l2 := li_m1; intro h9; omega), (by have _l0 := li_0; have _l1 := li_1; have _l2 := li_m1; intro h9; omega)⟩
  · have _nhc_1 := hc_1
    have ni_4 := (fa_le _ _).mp (zi_nlt hc_1)
    rw [li_0] at ni_4
    have hv_5 : zI b1 0 2147483647 := zI.le_r zc_0 (zI_all b1) (zi_nlt hc_1) (by decide)
    refine lv_iload_n hx hb d_Text_cut_4 rfl (lv_at hl 1 rfl) ?_
    refine lv_aload_n hx hb d_Text_cut_5 rfl (lv_at hl 0 rfl) ?_
    refine va_get (D := G.1) (ci := 1) (v := .int b2) (C := R_Text) (T := F_Text) (N := 2) hx hb hts i_Text hown hK hP 0 rfl rfl 0 (by decide) (hts _ q37) (fun _ h9 => h9) rfl d_Text_cut_6 ?_
    refine lv_icmp_le (tgt := 14) hx hb d_Text_cut_9 (by decide) (fun hc_6 => ?_) (fun hc_6 => ?_)
    · have _nhc_6 := hc_6
      have ni_7 := (fa_le _ _).mp hc_6
      have hv_8 : zI b1 0 240 := zI.le_l hv_5 hb2 hc_6 (by decide)
      refine lv_aload_n hx hb d_Text_cut_14 rfl (lv_at hl 0 rfl) ?_
      refine lv_iload_n hx hb d_Text_cut_15 rfl (lv_at hl 1 rfl) ?_
      refine va_put (D := G.1) (ci := 1) (v := .int b1) (ty := .int) (C := R_Text) (T := F_Text) (N := 2) hx hb hts i_Text t_Text t_Text_ok n_Text hown hK hP hD hS 0 rfl rfl 0 (by decide) (hts _ q37) (fun _ h9 => h9) rfl (by decide +kernel) rfl rfl (Nat.le_of_ble_eq_true rfl) d_Text_cut_16 (fun H locs hP hD hS => ?_)
      have hP : va_P G.1 classes [(b0, .inr (1, [.int b1, .ref b3]))] H := hP
      have hD := z_tie hP hD rfl
      refine lv_iconst (v := 1) hx hb d_Text_cut_19 (by decide) ?_
      exact z_zret hx hb hr hlocks rfl hP hD hS (Nat.le_of_ble_eq_true rfl) (Nat.le_of_ble_eq_true rfl) d_Text_cut_20 ⟨1, b1, rfl, rfl, (zI.wk (l' := 0) (h' := 1) zc_1 (by decide)), hv_8, (by have _l0 := li_0; have _l1 := li_1; have _l2 := li_m1; intro h9; omega), (by have _l0 := li_0; have _l1 := li_1; have _l2 := li_m1; intro h9; omega)⟩
    · have _nhc_6 := hc_6
      have ni_9 := (fa_lt _ _).mp (zi_nle hc_6)
      have hv_10 : zI b1 1 2147483647 := zI.lt_r hb2 hv_5 (zi_nle hc_6) (by decide)
      refine lv_iconst (v := 0) hx hb d_Text_cut_12 (by decide) ?_
      exact z_zret hx hb hr hlocks rfl hP hD hS (Nat.le_of_ble_eq_true rfl) (Nat.le_of_ble_eq_true rfl) d_Text_cut_13 ⟨0, b2, rfl, rfl, (zI.wk (l' := 0) (h' := 1) zc_0 (by decide)), hb2, (by have _l0 := li_0; have _l1 := li_1; have _l2 := li_m1; intro h9; omega), (by have _l0 := li_0; have _l1 := li_1; have _l2 := li_m1; intro h9; omega)⟩
theorem d_Odds_placeOf_0 : decode prog_5_method_4_code 0 = .ok (.iconst 0, 1) := by decide +kernel
theorem d_Odds_placeOf_1 : decode prog_5_method_4_code 1 = .ok (.istore_n 2, 1) := by decide +kernel
theorem d_Odds_placeOf_2 : decode prog_5_method_4_code 2 = .ok (.iconst 0, 1) := by decide +kernel
theorem d_Odds_placeOf_3 : decode prog_5_method_4_code 3 = .ok (.istore_n 3, 1) := by decide +kernel
theorem d_Odds_placeOf_4 : decode prog_5_method_4_code 4 = .ok (.iload_n 3, 1) := by decide +kernel
theorem d_Odds_placeOf_5 : decode prog_5_method_4_code 5 = .ok (.aload_n 0, 1) := by decide +kernel
theorem d_Odds_placeOf_6 : decode prog_5_method_4_code 6 = .ok (.getfield 24, 3) := by decide +kernel
theorem d_Odds_placeOf_9 : decode prog_5_method_4_code 9 = .ok (.if_icmp .ge 21, 3) := by decide +kernel
theorem d_Odds_placeOf_12 : decode prog_5_method_4_code 12 = .ok (.aload_n 0, 1) := by decide +kernel
theorem d_Odds_placeOf_13 : decode prog_5_method_4_code 13 = .ok (.iload_n 3, 1) := by decide +kernel
theorem d_Odds_placeOf_14 : decode prog_5_method_4_code 14 = .ok (.iload_n 1, 1) := by decide +kernel
theorem d_Odds_placeOf_15 : decode prog_5_method_4_code 15 = .ok (.invokevirtual 46, 3) := by decide +kernel
theorem d_Odds_placeOf_18 : decode prog_5_method_4_code 18 = .ok (.ifCond .eq 6, 3) := by decide +kernel
theorem d_Odds_placeOf_21 : decode prog_5_method_4_code 21 = .ok (.iinc 2 1, 3) := by decide +kernel
theorem d_Odds_placeOf_24 : decode prog_5_method_4_code 24 = .ok (.iinc 3 1, 3) := by decide +kernel
theorem d_Odds_placeOf_27 : decode prog_5_method_4_code 27 = .ok (.goto (-23), 3) := by decide +kernel
theorem d_Odds_placeOf_30 : decode prog_5_method_4_code 30 = .ok (.iload_n 2, 1) := by decide +kernel
theorem d_Odds_placeOf_31 : decode prog_5_method_4_code 31 = .ok (.ireturn, 1) := by decide +kernel
theorem d_Odds_isOdder_0 : decode prog_5_method_5_code 0 = .ok (.aload_n 0, 1) := by decide +kernel
theorem d_Odds_isOdder_1 : decode prog_5_method_5_code 1 = .ok (.getfield 9, 3) := by decide +kernel
theorem d_Odds_isOdder_4 : decode prog_5_method_5_code 4 = .ok (.iload_n 1, 1) := by decide +kernel
theorem d_Odds_isOdder_5 : decode prog_5_method_5_code 5 = .ok (.iaload, 1) := by decide +kernel
theorem d_Odds_isOdder_6 : decode prog_5_method_5_code 6 = .ok (.aload_n 0, 1) := by decide +kernel
theorem d_Odds_isOdder_7 : decode prog_5_method_5_code 7 = .ok (.getfield 9, 3) := by decide +kernel
theorem d_Odds_isOdder_10 : decode prog_5_method_5_code 10 = .ok (.iload_n 2, 1) := by decide +kernel
theorem d_Odds_isOdder_11 : decode prog_5_method_5_code 11 = .ok (.iaload, 1) := by decide +kernel
theorem d_Odds_isOdder_12 : decode prog_5_method_5_code 12 = .ok (.if_icmp .eq 24, 3) := by decide +kernel
theorem d_Odds_isOdder_15 : decode prog_5_method_5_code 15 = .ok (.aload_n 0, 1) := by decide +kernel
theorem d_Odds_isOdder_16 : decode prog_5_method_5_code 16 = .ok (.getfield 9, 3) := by decide +kernel
theorem d_Odds_isOdder_19 : decode prog_5_method_5_code 19 = .ok (.iload_n 1, 1) := by decide +kernel
theorem d_Odds_isOdder_20 : decode prog_5_method_5_code 20 = .ok (.iaload, 1) := by decide +kernel
theorem d_Odds_isOdder_21 : decode prog_5_method_5_code 21 = .ok (.aload_n 0, 1) := by decide +kernel
theorem d_Odds_isOdder_22 : decode prog_5_method_5_code 22 = .ok (.getfield 9, 3) := by decide +kernel
theorem d_Odds_isOdder_25 : decode prog_5_method_5_code 25 = .ok (.iload_n 2, 1) := by decide +kernel
theorem d_Odds_isOdder_26 : decode prog_5_method_5_code 26 = .ok (.iaload, 1) := by decide +kernel
theorem d_Odds_isOdder_27 : decode prog_5_method_5_code 27 = .ok (.if_icmp .ge 7, 3) := by decide +kernel
theorem d_Odds_isOdder_30 : decode prog_5_method_5_code 30 = .ok (.iconst 1, 1) := by decide +kernel
theorem d_Odds_isOdder_31 : decode prog_5_method_5_code 31 = .ok (.goto 4, 3) := by decide +kernel
theorem d_Odds_isOdder_34 : decode prog_5_method_5_code 34 = .ok (.iconst 0, 1) := by decide +kernel
theorem d_Odds_isOdder_35 : decode prog_5_method_5_code 35 = .ok (.ireturn, 1) := by decide +kernel
theorem d_Odds_isOdder_36 : decode prog_5_method_5_code 36 = .ok (.aload_n 0, 1) := by decide +kernel
theorem d_Odds_isOdder_37 : decode prog_5_method_5_code 37 = .ok (.getfield 15, 3) := by decide +kernel
theorem d_Odds_isOdder_40 : decode prog_5_method_5_code 40 = .ok (.iload_n 1, 1) := by decide +kernel
theorem d_Odds_isOdder_41 : decode prog_5_method_5_code 41 = .ok (.iaload, 1) := by decide +kernel
theorem d_Odds_isOdder_42 : decode prog_5_method_5_code 42 = .ok (.aload_n 0, 1) := by decide +kernel
theorem d_Odds_isOdder_43 : decode prog_5_method_5_code 43 = .ok (.getfield 15, 3) := by decide +kernel
theorem d_Odds_isOdder_46 : decode prog_5_method_5_code 46 = .ok (.iload_n 2, 1) := by decide +kernel
theorem d_Odds_isOdder_47 : decode prog_5_method_5_code 47 = .ok (.iaload, 1) := by decide +kernel
theorem d_Odds_isOdder_48 : decode prog_5_method_5_code 48 = .ok (.if_icmp .eq 24, 3) := by decide +kernel
theorem d_Odds_isOdder_51 : decode prog_5_method_5_code 51 = .ok (.aload_n 0, 1) := by decide +kernel
theorem d_Odds_isOdder_52 : decode prog_5_method_5_code 52 = .ok (.getfield 15, 3) := by decide +kernel
theorem d_Odds_isOdder_55 : decode prog_5_method_5_code 55 = .ok (.iload_n 1, 1) := by decide +kernel
theorem d_Odds_isOdder_56 : decode prog_5_method_5_code 56 = .ok (.iaload, 1) := by decide +kernel
theorem d_Odds_isOdder_57 : decode prog_5_method_5_code 57 = .ok (.aload_n 0, 1) := by decide +kernel
theorem d_Odds_isOdder_58 : decode prog_5_method_5_code 58 = .ok (.getfield 15, 3) := by decide +kernel
theorem d_Odds_isOdder_61 : decode prog_5_method_5_code 61 = .ok (.iload_n 2, 1) := by decide +kernel
theorem d_Odds_isOdder_62 : decode prog_5_method_5_code 62 = .ok (.iaload, 1) := by decide +kernel
theorem d_Odds_isOdder_63 : decode prog_5_method_5_code 63 = .ok (.if_icmp .le 7, 3) := by decide +kernel
theorem d_Odds_isOdder_66 : decode prog_5_method_5_code 66 = .ok (.iconst 1, 1) := by decide +kernel
theorem d_Odds_isOdder_67 : decode prog_5_method_5_code 67 = .ok (.goto 4, 3) := by decide +kernel
theorem d_Odds_isOdder_70 : decode prog_5_method_5_code 70 = .ok (.iconst 0, 1) := by decide +kernel
theorem d_Odds_isOdder_71 : decode prog_5_method_5_code 71 = .ok (.ireturn, 1) := by decide +kernel
theorem d_Odds_isOdder_72 : decode prog_5_method_5_code 72 = .ok (.iload_n 1, 1) := by decide +kernel
theorem d_Odds_isOdder_73 : decode prog_5_method_5_code 73 = .ok (.iload_n 2, 1) := by decide +kernel
theorem d_Odds_isOdder_74 : decode prog_5_method_5_code 74 = .ok (.if_icmp .ge 7, 3) := by decide +kernel
theorem d_Odds_isOdder_77 : decode prog_5_method_5_code 77 = .ok (.iconst 1, 1) := by decide +kernel
theorem d_Odds_isOdder_78 : decode prog_5_method_5_code 78 = .ok (.goto 4, 3) := by decide +kernel
theorem d_Odds_isOdder_81 : decode prog_5_method_5_code 81 = .ok (.iconst 0, 1) := by decide +kernel
theorem d_Odds_isOdder_82 : decode prog_5_method_5_code 82 = .ok (.ireturn, 1) := by decide +kernel
abbrev m_s8_Odds_isOdder : Room := { frames := 0, cells := 0, slots := 0, locals := 0 }
set_option maxHeartbeats 4000000 in
set_option maxRecDepth 100000 in
theorem s8_Odds_isOdder (l : Launch) (G : zG) (b0 : Nat) (b1 : Int32) (b2 : Int32) (b3 : Nat) (b4 : Nat) (b5 : Int32) (b6 : Nat → Int32) (b7 : Nat → Int32) (hb1 : zI b1 0 19) (hb2 : zI b2 0 19) (hb5 : zI b5 0 20) : zM l G y_Odds_isOdder prog_5_method_5_code 3 (Option.some Jvm.ClassFile.FieldType.boolean) m_s8_Odds_isOdder [.ref b0, .int b1, .int b2] [(b0, .inr (11, [.ref b3, .ref b4, .int b5])), (b3, .inl (G.2 0, 20, .inl b6)), (b4, .inl (G.2 0, 20, .inl b7))] (fun v w => ∃ (e0 : Int32), v = some (.int e0) ∧ w = [(b0, .inr (11, [.ref b3, .ref b4, .int b5])), (b3, .inl (G.2 0, 20, .inl b6)), (b4, .inl (G.2 0, 20, .inl b7))] ∧ (zI e0 0 1)) := by
  refine z_start (by decide +kernel) (Nat.le_of_ble_eq_true rfl) ?_
  intro p e s m below meth c A Z hr hnm hA hP hD hS ls hl
  have Z : zC p s m _ meth c prog_5_method_5_code 3 "TraceMachines$Odds" G := Z
  obtain ⟨hx, hb, hml, hown, hts, hK, hN, hlocks⟩ := id Z
  have hl : lv_has ls 3 [(0, .ref b0), (1, .int b1), (2, .int b2)] := hl
  refine lv_aload_n hx hb d_Odds_isOdder_0 rfl (lv_at hl 0 rfl) ?_
  refine va_get (D := G.1) (ci := 11) (v := .ref b3) (C := R_Odds) (T := F_Odds) (N := 3) hx hb hts i_Odds hown hK hP 0 rfl rfl 0 (by decide) (hts _ q402) (fun _ h9 => h9) rfl d_Odds_isOdder_1 ?_
  refine lv_iload_n hx hb d_Odds_isOdder_4 rfl (lv_at hl 1 rfl) ?_
  refine va_iald hx hb hK hP 1 0 rfl rfl (zI.inn hb1 (by decide)) d_Odds_isOdder_5 ?_
  refine lv_topi (fun v_1 ev_1 => ?_)
  refine lv_aload_n hx hb d_Odds_isOdder_6 rfl (lv_at hl 0 rfl) ?_
  refine va_get (D := G.1) (ci := 11) (v := .ref b3) (C := R_Odds) (T := F_Odds) (N := 3) hx hb hts i_Odds hown hK hP 0 rfl rfl 0 (by decide) (hts _ q402) (fun _ h9 => h9) rfl d_Odds_isOdder_7 ?_
  refine lv_iload_n hx hb d_Odds_isOdder_10 rfl (lv_at hl 2 rfl) ?_
  refine va_iald hx hb hK hP 1 0 rfl rfl (zI.inn hb2 (by decide)) d_Odds_isOdder_11 ?_
  refine lv_topi (fun v_2 ev_2 => ?_)
  refine lv_icmp_eq (tgt := 36) hx hb d_Odds_isOdder_12 (by decide) (fun hc_3 => ?_) (fun hc_3 => ?_)
  · have _nhc_3 := hc_3
    have ni_4 := (fa_eq _ _).mp hc_3
    refine lv_aload_n hx hb d_Odds_isOdder_36 rfl (lv_at hl 0 rfl) ?_
    refine va_get (D := G.1) (ci := 11) (v := .ref b4) (C := R_Odds) (T := F_Odds) (N := 3) hx hb hts i_Odds hown hK hP 0 rfl rfl 1 (by decide) (hts _ q404) (fun _ h9 => h9) rfl d_Odds_isOdder_37 ?_
    refine lv_iload_n hx hb d_Odds_isOdder_40 rfl (lv_at hl 1 rfl) ?_
    refine va_iald hx hb hK hP 2 0 rfl rfl (zI.inn hb1 (by decide)) d_Odds_isOdder_41 ?_
    refine lv_topi (fun v_5 ev_5 => ?_)
    refine lv_aload_n hx hb d_Odds_isOdder_42 rfl (lv_at hl 0 rfl) ?_
    refine va_get (D := G.1) (ci := 11) (v := .ref b4) (C := R_Odds) (T := F_Odds) (N := 3) hx hb hts i_Odds hown hK hP 0 rfl rfl 1 (by decide) (hts _ q404) (fun _ h9 => h9) rfl d_Odds_isOdder_43 ?_
    refine lv_iload_n hx hb d_Odds_isOdder_46 rfl (lv_at hl 2 rfl) ?_
    refine va_iald hx hb hK hP 2 0 rfl rfl (zI.inn hb2 (by decide)) d_Odds_isOdder_47 ?_
    refine lv_topi (fun v_6 ev_6 => ?_)
    refine lv_icmp_eq (tgt := 72) hx hb d_Odds_isOdder_48 (by decide) (fun hc_7 => ?_) (fun hc_7 => ?_)
    · have _nhc_7 := hc_7
      have ni_8 := (fa_eq _ _).mp hc_7
      refine lv_iload_n hx hb d_Odds_isOdder_72 rfl (lv_at hl 1 rfl) ?_
      refine lv_iload_n hx hb d_Odds_isOdder_73 rfl (lv_at hl 2 rfl) ?_
      refine lv_icmp_ge (tgt := 81) hx hb d_Odds_isOdder_74 (by decide) (fun hc_9 => ?_) (fun hc_9 => ?_)
      · have _nhc_9 := hc_9
        have ni_10 := (fa_le _ _).mp hc_9
        refine lv_iconst (v := 0) hx hb d_Odds_isOdder_81 (by decide) ?_
        exact z_zret hx hb hr hlocks rfl hP hD hS (Nat.le_of_ble_eq_true rfl) (Nat.le_of_ble_eq_true rfl) d_Odds_isOdder_82 ⟨0, rfl, rfl, (zI.wk (l' := 0) (h' := 1) zc_0 (by decide))⟩
      · have _nhc_9 := hc_9
        have ni_11 := (fa_lt _ _).mp (zi_nle hc_9)
        have hv_12 : zI b1 0 18 := zI.lt_l hb1 hb2 (zi_nle hc_9) (by decide)
        have hv_13 : zI b2 1 19 := zI.lt_r hb1 hb2 (zi_nle hc_9) (by decide)
        refine lv_iconst (v := 1) hx hb d_Odds_isOdder_77 (by decide) ?_
        refine lv_goto (tgt := 82) hx hb d_Odds_isOdder_78 (by decide) ?_
        exact z_zret hx hb hr hlocks rfl hP hD hS (Nat.le_of_ble_eq_true rfl) (Nat.le_of_ble_eq_true rfl) d_Odds_isOdder_82 ⟨1, rfl, rfl, (zI.wk (l' := 0) (h' := 1) zc_1 (by decide))⟩
    · have _nhc_7 := hc_7
      have ni_14 : ¬ (v_5 : Int32).toInt = (v_6 : Int32).toInt := fun z => hc_7 ((fa_eq _ _).mpr z)
      refine lv_aload_n hx hb d_Odds_isOdder_51 rfl (lv_at hl 0 rfl) ?_
      refine va_get (D := G.1) (ci := 11) (v := .ref b4) (C := R_Odds) (T := F_Odds) (N := 3) hx hb hts i_Odds hown hK hP 0 rfl rfl 1 (by decide) (hts _ q404) (fun _ h9 => h9) rfl d_Odds_isOdder_52 ?_
      refine lv_iload_n hx hb d_Odds_isOdder_55 rfl (lv_at hl 1 rfl) ?_
      refine va_iald hx hb hK hP 2 0 rfl rfl (zI.inn hb1 (by decide)) d_Odds_isOdder_56 ?_
      refine lv_topi (fun v_15 ev_15 => ?_)
      obtain rfl : v_5 = v_15 := ev_5.trans ev_15.symm
      refine lv_aload_n hx hb d_Odds_isOdder_57 rfl (lv_at hl 0 rfl) ?_
      refine va_get (D := G.1) (ci := 11) (v := .ref b4) (C := R_Odds) (T := F_Odds) (N := 3) hx hb hts i_Odds hown hK hP 0 rfl rfl 1 (by decide) (hts _ q404) (fun _ h9 => h9) rfl d_Odds_isOdder_58 ?_
      refine lv_iload_n hx hb d_Odds_isOdder_61 rfl (lv_at hl 2 rfl) ?_
      refine va_iald hx hb hK hP 2 0 rfl rfl (zI.inn hb2 (by decide)) d_Odds_isOdder_62 ?_
      refine lv_topi (fun v_16 ev_16 => ?_)
      obtain rfl : v_6 = v_16 := ev_6.trans ev_16.symm
      refine lv_icmp_le (tgt := 70) hx hb d_Odds_isOdder_63 (by decide) (fun hc_17 => ?_) (fun hc_17 => ?_)
      · have _nhc_17 := hc_17
        have ni_18 := (fa_le _ _).mp hc_17
        refine lv_iconst (v := 0) hx hb d_Odds_isOdder_70 (by decide) ?_
        exact z_zret hx hb hr hlocks rfl hP hD hS (Nat.le_of_ble_eq_true rfl) (Nat.le_of_ble_eq_true rfl) d_Odds_isOdder_71 ⟨0, rfl, rfl, (zI.wk (l' := 0) (h' := 1) zc_0 (by decide))⟩
      · have _nhc_17 := hc_17
        have ni_19 := (fa_lt _ _).mp (zi_nle hc_17)
        have hv_20 : zI v_6 (-2147483648) 2147483646 := zI.lt_l (zI_all v_6) (zI_all v_5) (zi_nle hc_17) (by decide)
        have hv_21 : zI v_5 (-2147483647) 2147483647 := zI.lt_r (zI_all v_6) (zI_all v_5) (zi_nle hc_17) (by decide)
        refine lv_iconst (v := 1) hx hb d_Odds_isOdder_66 (by decide) ?_
        refine lv_goto (tgt := 71) hx hb d_Odds_isOdder_67 (by decide) ?_
        exact z_zret hx hb hr hlocks rfl hP hD hS (Nat.le_of_ble_eq_true rfl) (Nat.le_of_ble_eq_true rfl) d_Odds_isOdder_71 ⟨1, rfl, rfl, (zI.wk (l' := 0) (h' := 1) zc_1 (by decide))⟩
  · have _nhc_3 := hc_3
    have ni_22 : ¬ (v_1 : Int32).toInt = (v_2 : Int32).toInt := fun z => hc_3 ((fa_eq _ _).mpr z)
    refine lv_aload_n hx hb d_Odds_isOdder_15 rfl (lv_at hl 0 rfl) ?_
    refine va_get (D := G.1) (ci := 11) (v := .ref b3) (C := R_Odds) (T := F_Odds) (N := 3) hx hb hts i_Odds hown hK hP 0 rfl rfl 0 (by decide) (hts _ q402) (fun _ h9 => h9) rfl d_Odds_isOdder_16 ?_
    refine lv_iload_n hx hb d_Odds_isOdder_19 rfl (lv_at hl 1 rfl) ?_
    refine va_iald hx hb hK hP 1 0 rfl rfl (zI.inn hb1 (by decide)) d_Odds_isOdder_20 ?_
    refine lv_topi (fun v_23 ev_23 => ?_)
    obtain rfl : v_1 = v_23 := ev_1.trans ev_23.symm
    refine lv_aload_n hx hb d_Odds_isOdder_21 rfl (lv_at hl 0 rfl) ?_
    refine va_get (D := G.1) (ci := 11) (v := .ref b3) (C := R_Odds) (T := F_Odds) (N := 3) hx hb hts i_Odds hown hK hP 0 rfl rfl 0 (by decide) (hts _ q402) (fun _ h9 => h9) rfl d_Odds_isOdder_22 ?_
    refine lv_iload_n hx hb d_Odds_isOdder_25 rfl (lv_at hl 2 rfl) ?_
    refine va_iald hx hb hK hP 1 0 rfl rfl (zI.inn hb2 (by decide)) d_Odds_isOdder_26 ?_
    refine lv_topi (fun v_24 ev_24 => ?_)
    obtain rfl : v_2 = v_24 := ev_2.trans ev_24.symm
    refine lv_icmp_ge (tgt := 34) hx hb d_Odds_isOdder_27 (by decide) (fun hc_25 => ?_) (fun hc_25 => ?_)
    · have _nhc_25 := hc_25
      have ni_26 := (fa_le _ _).mp hc_25
      refine lv_iconst (v := 0) hx hb d_Odds_isOdder_34 (by decide) ?_
      exact z_zret hx hb hr hlocks rfl hP hD hS (Nat.le_of_ble_eq_true rfl) (Nat.le_of_ble_eq_true rfl) d_Odds_isOdder_35 ⟨0, rfl, rfl, (zI.wk (l' := 0) (h' := 1) zc_0 (by decide))⟩
    · have _nhc_25 := hc_25
      have ni_27 := (fa_lt _ _).mp (zi_nle hc_25)
      have hv_28 : zI v_1 (-2147483648) 2147483646 := zI.lt_l (zI_all v_1) (zI_all v_2) (zi_nle hc_25) (by decide)
      have hv_29 : zI v_2 (-2147483647) 2147483647 := zI.lt_r (zI_all v_1) (zI_all v_2) (zi_nle hc_25) (by decide)
      refine lv_iconst (v := 1) hx hb d_Odds_isOdder_30 (by decide) ?_
      refine lv_goto (tgt := 35) hx hb d_Odds_isOdder_31 (by decide) ?_
      exact z_zret hx hb hr hlocks rfl hP hD hS (Nat.le_of_ble_eq_true rfl) (Nat.le_of_ble_eq_true rfl) d_Odds_isOdder_35 ⟨1, rfl, rfl, (zI.wk (l' := 0) (h' := 1) zc_1 (by decide))⟩
abbrev m_s1_Odds_placeOf : Room := { frames := 1, cells := 0, slots := 0, locals := 22 }
set_option maxHeartbeats 4000000 in
set_option maxRecDepth 100000 in
theorem s1_Odds_placeOf (l : Launch) (G : zG) (b0 : Nat) (b1 : Int32) (b2 : Nat) (b3 : Nat) (b4 : Int32) (b5 : Nat → Int32) (b6 : Nat → Int32) (hb1 : zI b1 0 19) (hb4 : zI b4 0 20) : zM l G y_Odds_placeOf prog_5_method_4_code 4 (Option.some Jvm.ClassFile.FieldType.int) m_s1_Odds_placeOf [.ref b0, .int b1] [(b0, .inr (11, [.ref b2, .ref b3, .int b4])), (b2, .inl (G.2 0, 20, .inl b5)), (b3, .inl (G.2 0, 20, .inl b6))] (fun v w => ∃ (e0 : Int32), v = some (.int e0) ∧ w = [(b0, .inr (11, [.ref b2, .ref b3, .int b4])), (b2, .inl (G.2 0, 20, .inl b5)), (b3, .inl (G.2 0, 20, .inl b6))]) := by
  refine z_start (by decide +kernel) (Nat.le_of_ble_eq_true rfl) ?_
  intro p e s m below meth c A Z hr hnm hA hP hD hS ls hl
  have Z : zC p s m _ meth c prog_5_method_4_code 4 "TraceMachines$Odds" G := Z
  obtain ⟨hx, hb, hml, hown, hts, hK, hN, hlocks⟩ := id Z
  have hl : lv_has ls 4 [(0, .ref b0), (1, .int b1)] := hl
  refine lv_iconst (v := 0) hx hb d_Odds_placeOf_0 (by decide) ?_
  refine lv_istore_n (lv' := [(2, .int 0), (0, .ref b0), (1, .int b1)]) hx hb d_Odds_placeOf_1 rfl hl (by decide) rfl (fun ls hl => ?_)
  refine lv_iconst (v := 0) hx hb d_Odds_placeOf_2 (by decide) ?_
  refine lv_istore_n (lv' := [(3, .int 0), (2, .int 0), (0, .ref b0), (1, .int b1)]) hx hb d_Odds_placeOf_3 rfl hl (by decide) rfl (fun ls hl => ?_)
  suffices key : ∀ (k_18 : Nat) (y_19 : Int32) (y_20 : Int32) (H : Heap) (locs : List Loc) (ls : Array Slot), (zI y_19 0 20) → (20 : Int) - y_19.toInt < (k_18 : Int) → va_P G.1 classes [(b0, .inr (11, [.ref b2, .ref b3, .int b4])), (b2, .inl (G.2 0, 20, .inl b5)), (b3, .inl (G.2 0, 20, .inl b6))] H → va_D A [(b0, .inr (11, [.ref b2, .ref b3, .int b4])), (b2, .inl (G.2 0, 20, .inl b5)), (b3, .inl (G.2 0, 20, .inl b6))] → va_S A s.heap H locs → lv_has ls 4 [(3, .int y_19), (2, .int y_20), (0, .ref b0), (1, .int b1)] → W p l e m_s1_Odds_placeOf s m ([.ref b0, .int b1] : List Value).toArray below meth c H locs 0 0 (MQ below (zQ G (fun v w => ∃ (e0 : Int32), v = some (.int e0) ∧ w = [(b0, .inr (11, [.ref b2, .ref b3, .int b4])), (b2, .inl (G.2 0, 20, .inl b5)), (b3, .inl (G.2 0, 20, .inl b6))]) A) ([.ref b0, .int b1] : List Value).toArray s m_s1_Odds_placeOf.cells m_s1_Odds_placeOf.slots A) (F0 m 4 ls []) by
    exact key 21 (0) (0) _ _ _ (zI.wk (l' := 0) (h' := 20) zc_0 (by decide)) (zm_upi (zI.wk (l' := 0) (h' := 20) zc_0 (by decide)) (by decide)) hP hD hS (lv_sub hl [0, 1, 2, 3] rfl)
  intro k_18
  induction k_18 with
  | zero =>
    intro y_19 y_20 H locs ls hy_19 hmk_18 hP hD hS hl
    exact (zm_up0 hy_19 hmk_18).elim
  | succ k_18 ihk_18 =>
    intro y_19 y_20 H locs ls hy_19 hmk_18 hP hD hS hl
    refine lv_iload_n hx hb d_Odds_placeOf_4 rfl (lv_at hl 0 rfl) ?_
    refine lv_aload_n hx hb d_Odds_placeOf_5 rfl (lv_at hl 2 rfl) ?_
    refine va_get (D := G.1) (ci := 11) (v := .int b4) (C := R_Odds) (T := F_Odds) (N := 3) hx hb hts i_Odds hown hK hP 0 rfl rfl 2 (by decide) (hts _ q406) (fun _ h9 => h9) rfl d_Odds_placeOf_6 ?_
    refine lv_icmp_ge (tgt := 30) hx hb d_Odds_placeOf_9 (by decide) (fun hc_21 => ?_) (fun hc_21 => ?_)
    · have _nhc_21 := hc_21
      have ni_22 := (fa_le _ _).mp hc_21
      refine lv_iload_n hx hb d_Odds_placeOf_30 rfl (lv_at hl 1 rfl) ?_
      exact z_iret hx hb hr hlocks hP hD hS (Nat.le_of_ble_eq_true rfl) (Nat.le_of_ble_eq_true rfl) d_Odds_placeOf_31 ⟨y_20, rfl, rfl⟩
    · have _nhc_21 := hc_21
      have ni_23 := (fa_lt _ _).mp (zi_nle hc_21)
      have hv_24 : zI y_19 0 19 := zI.lt_l hy_19 hb4 (zi_nle hc_21) (by decide)
      have hv_25 : zI b4 1 20 := zI.lt_r hy_19 hb4 (zi_nle hc_21) (by decide)
      refine lv_aload_n hx hb d_Odds_placeOf_12 rfl (lv_at hl 2 rfl) ?_
      refine lv_iload_n hx hb d_Odds_placeOf_13 rfl (lv_at hl 0 rfl) ?_
      refine lv_iload_n hx hb d_Odds_placeOf_14 rfl (lv_at hl 3 rfl) ?_
      refine z_callV (index := 46) (As := [.int y_19, .int b1]) (rest := []) (wr := []) Z (s8_Odds_isOdder l G (b0) (y_19) (b1) (b2) (b3) (b4) (b5) (b6) hv_24 hb1 (zI.wk (l' := 0) (h' := 20) hv_25 (by decide))) hl.1 q974 q976 qs39 q12 q977 ⟨by decide, by decide, by show _ = some 2; decide +kernel⟩ ⟨Nat.le_of_ble_eq_true rfl, Nat.le_of_ble_eq_true rfl⟩ ⟨Nat.le_of_ble_eq_true rfl, Nat.le_of_ble_eq_true rfl⟩ rfl (Nat.le_of_ble_eq_true rfl) d_Odds_placeOf_15 hP hD hS hA 0 11 rfl rfl rfl [0, 1, 2] [] rfl rfl rfl rfl (by decide) (fun v w1 H locs hw_26 hP hD hS => ?_)
      obtain ⟨x_27, rfl, rfl, hx_27⟩ := hw_26
      have hP : va_P G.1 classes [(b0, .inr (11, [.ref b2, .ref b3, .int b4])), (b2, .inl (G.2 0, 20, .inl b5)), (b3, .inl (G.2 0, 20, .inl b6))] H := hP
      have hD := z_tie hP hD rfl
      refine W.widen (k := 0) (n := 0) (Nat.le_of_ble_eq_true rfl) (Nat.le_of_ble_eq_true rfl) ?_
      refine lv_if_eq (tgt := 24) hx hb d_Odds_placeOf_18 (by decide) (fun hc_28 => ?_) (fun hc_28 => ?_)
      · have _nhc_28 := hc_28
        have ni_29 := (fa_eq _ _).mp hc_28
        rw [li_0] at ni_29
        have hv_30 : zI x_27 0 0 := zI.eq_l hx_27 zc_0 hc_28
        obtain ⟨v_31, ev_31⟩ : ∃ z : Int32, z = y_19 + 1 := ⟨_, rfl⟩
        obtain ⟨qv_31, hv_31⟩ := zI_add (l := 1) (h := 20) hv_24 zc_1 ev_31 (by decide)
        rw [li_1] at qv_31
        refine lv_iinc (v := v_31) (lv' := [(3, .int v_31), (2, .int y_20), (0, .ref b0), (1, .int b1)]) hx hb d_Odds_placeOf_24 hl (k := 0) rfl (by rw [ev_31]; rfl) (by decide) rfl (fun ls hl => ?_)
        refine lv_goto (tgt := 4) hx hb d_Odds_placeOf_27 (by decide) ?_
        exact ihk_18 (v_31) (y_20) _ _ _ (zI.wk (l' := 0) (h' := 20) hv_31 (by decide)) (zm_up qv_31 hmk_18 (by decide)) hP hD hS (lv_sub hl [0, 1, 2, 3] rfl)
      · have _nhc_28 := hc_28
        have ni_32 : ¬ (x_27 : Int32).toInt = (0 : Int32).toInt := fun z => hc_28 ((fa_eq _ _).mpr z)
        simp only [li_0] at ni_32
        have hv_33 : zI x_27 1 1 := zI.ne_lo hx_27 zc_0 hc_28 (by decide)
        obtain ⟨v_34, ev_34⟩ : ∃ z : Int32, z = y_20 + 1 := ⟨_, rfl⟩
        refine lv_iinc (v := v_34) (lv' := [(2, .int v_34), (3, .int y_19), (0, .ref b0), (1, .int b1)]) hx hb d_Odds_placeOf_21 hl (k := 1) rfl (by rw [ev_34]; rfl) (by decide) rfl (fun ls hl => ?_)
        obtain ⟨v_35, ev_35⟩ : ∃ z : Int32, z = y_19 + 1 := ⟨_, rfl⟩
        obtain ⟨qv_35, hv_35⟩ := zI_add (l := 1) (h := 20) hv_24 zc_1 ev_35 (by decide)
        rw [li_1] at qv_35
        refine lv_iinc (v := v_35) (lv' := [(3, .int v_35), (2, .int v_34), (0, .ref b0), (1, .int b1)]) hx hb d_Odds_placeOf_24 hl (k := 1) rfl (by rw [ev_35]; rfl) (by decide) rfl (fun ls hl => ?_)
        refine lv_goto (tgt := 4) hx hb d_Odds_placeOf_27 (by decide) ?_
        exact ihk_18 (v_35) (v_34) _ _ _ (zI.wk (l' := 0) (h' := 20) hv_35 (by decide)) (zm_up qv_35 hmk_18 (by decide)) hP hD hS (lv_sub hl [0, 1, 2, 3] rfl)
theorem d_Tree_prefixAt_0 : decode prog_11_method_2_code 0 = .ok (.aload_n 0, 1) := by decide +kernel
theorem d_Tree_prefixAt_1 : decode prog_11_method_2_code 1 = .ok (.getfield 33, 3) := by decide +kernel
theorem d_Tree_prefixAt_4 : decode prog_11_method_2_code 4 = .ok (.iload_n 1, 1) := by decide +kernel
theorem d_Tree_prefixAt_5 : decode prog_11_method_2_code 5 = .ok (.bipush 13, 2) := by decide +kernel
theorem d_Tree_prefixAt_7 : decode prog_11_method_2_code 7 = .ok (.imul, 1) := by decide +kernel
theorem d_Tree_prefixAt_8 : decode prog_11_method_2_code 8 = .ok (.iload_n 2, 1) := by decide +kernel
theorem d_Tree_prefixAt_9 : decode prog_11_method_2_code 9 = .ok (.iadd, 1) := by decide +kernel
theorem d_Tree_prefixAt_10 : decode prog_11_method_2_code 10 = .ok (.iaload, 1) := by decide +kernel
theorem d_Tree_prefixAt_11 : decode prog_11_method_2_code 11 = .ok (.ireturn, 1) := by decide +kernel
theorem zc_13 : zI 13 13 13 := ⟨by decide +kernel, by decide +kernel⟩
theorem li_13 : (13 : Int32).toInt = 13 := by decide +kernel
abbrev m_s1_Tree_prefixAt : Room := { frames := 0, cells := 0, slots := 0, locals := 0 }
set_option maxHeartbeats 4000000 in
set_option maxRecDepth 100000 in
theorem s1_Tree_prefixAt (l : Launch) (G : zG) (b0 : Nat) (b1 : Int32) (b2 : Int32) (b3 : Int32) (b4 : Int32) (b5 : Int32) (b6 : Nat) (b7 : Nat) (b8 : Nat) (b9 : Nat) (b10 : Nat) (b11 : Nat) (b12 : Nat) (b13 : Nat) (b14 : Nat → Int32) (hb1 : zI b1 0 19) (hb2 : zI b2 0 12) (hb3 : zI b3 0 1) (hb5 : zI b5 0 241) (hb14 : zqa qP b14) : zM l G y_Tree_prefixAt prog_11_method_2_code 3 (Option.some Jvm.ClassFile.FieldType.int) m_s1_Tree_prefixAt [.ref b0, .int b1, .int b2] [(b0, .inr (3, [.int b3, .int b4, .int b5, .ref b6, .ref b7, .ref b8, .ref b9, .ref b10, .ref b11, .ref b12, .ref b13])), (b13, .inl (G.2 0, 260, .inl b14))] (fun v w => ∃ (e0 : Int32), v = some (.int e0) ∧ w = [(b0, .inr (3, [.int b3, .int b4, .int b5, .ref b6, .ref b7, .ref b8, .ref b9, .ref b10, .ref b11, .ref b12, .ref b13])), (b13, .inl (G.2 0, 260, .inl b14))] ∧ (zI e0 0 240) ∧ (e0 = b14 (13 * b1.toInt.toNat + b2.toInt.toNat)) ∧ (e0.toInt ≤ 13 * b1.toInt + b2.toInt)) := by
  refine z_start (by decide +kernel) (Nat.le_of_ble_eq_true rfl) ?_
  intro p e s m below meth c A Z hr hnm hA hP hD hS ls hl
  have Z : zC p s m _ meth c prog_11_method_2_code 3 "TraceMachines$Tree" G := Z
  obtain ⟨hx, hb, hml, hown, hts, hK, hN, hlocks⟩ := id Z
  have hl : lv_has ls 3 [(0, .ref b0), (1, .int b1), (2, .int b2)] := hl
  refine lv_aload_n hx hb d_Tree_prefixAt_0 rfl (lv_at hl 0 rfl) ?_
  refine va_get (D := G.1) (ci := 3) (v := .ref b13) (C := R_Tree) (T := F_Tree) (N := 11) hx hb hts i_Tree hown hK hP 0 rfl rfl 10 (by decide) (hts _ q116) (fun _ h9 => h9) rfl d_Tree_prefixAt_1 ?_
  refine lv_iload_n hx hb d_Tree_prefixAt_4 rfl (lv_at hl 1 rfl) ?_
  refine lv_bipush (v := 13) hx hb d_Tree_prefixAt_5 (by decide) ?_
  refine lv_imul hx hb d_Tree_prefixAt_7 ?_
  refine lv_topi (fun v_1 ev_1 => ?_)
  obtain ⟨qv_1, hv_1⟩ := zI_mul (l := 0) (h := 247) hb1 zc_13 ev_1 (by decide)
  rw [li_13] at qv_1
  refine lv_iload_n hx hb d_Tree_prefixAt_8 rfl (lv_at hl 2 rfl) ?_
  refine lv_iadd hx hb d_Tree_prefixAt_9 ?_
  refine lv_topi (fun v_2 ev_2 => ?_)
  obtain ⟨qv_2, hv_2⟩ := zI_add (l := 0) (h := 259) hv_1 hb2 ev_2 (by decide)
  refine va_iald hx hb hK hP 1 0 rfl rfl (zI.inn hv_2 (by decide)) d_Tree_prefixAt_10 ?_
  refine lv_topi (fun v_3 ev_3 => ?_)
  obtain ⟨hv_3, kv_3⟩ := zQP.ld hb14 hv_2 ev_3 (by decide)
  exact z_iret hx hb hr hlocks hP hD hS (Nat.le_of_ble_eq_true rfl) (Nat.le_of_ble_eq_true rfl) d_Tree_prefixAt_11 ⟨v_3, rfl, rfl, hv_3, (by rw [ev_3, z_plf hv_2 (by decide)]; congr 1; omega), (by omega)⟩
theorem d_Tree_stepFrom_0 : decode prog_11_method_5_code 0 = .ok (.iload_n 1, 1) := by decide +kernel
theorem d_Tree_stepFrom_1 : decode prog_11_method_5_code 1 = .ok (.bipush 10, 2) := by decide +kernel
theorem d_Tree_stepFrom_3 : decode prog_11_method_5_code 3 = .ok (.imul, 1) := by decide +kernel
theorem d_Tree_stepFrom_4 : decode prog_11_method_5_code 4 = .ok (.iload_n 2, 1) := by decide +kernel
theorem d_Tree_stepFrom_5 : decode prog_11_method_5_code 5 = .ok (.iadd, 1) := by decide +kernel
theorem d_Tree_stepFrom_6 : decode prog_11_method_5_code 6 = .ok (.istore_n 3, 1) := by decide +kernel
theorem d_Tree_stepFrom_7 : decode prog_11_method_5_code 7 = .ok (.aload_n 0, 1) := by decide +kernel
theorem d_Tree_stepFrom_8 : decode prog_11_method_5_code 8 = .ok (.getfield 30, 3) := by decide +kernel
theorem d_Tree_stepFrom_11 : decode prog_11_method_5_code 11 = .ok (.iload_n 3, 1) := by decide +kernel
theorem d_Tree_stepFrom_12 : decode prog_11_method_5_code 12 = .ok (.iaload, 1) := by decide +kernel
theorem d_Tree_stepFrom_13 : decode prog_11_method_5_code 13 = .ok (.iconst (-1), 1) := by decide +kernel
theorem d_Tree_stepFrom_14 : decode prog_11_method_5_code 14 = .ok (.if_icmp .ne 15, 3) := by decide +kernel
theorem d_Tree_stepFrom_17 : decode prog_11_method_5_code 17 = .ok (.aload_n 0, 1) := by decide +kernel
theorem d_Tree_stepFrom_18 : decode prog_11_method_5_code 18 = .ok (.getfield 30, 3) := by decide +kernel
theorem d_Tree_stepFrom_21 : decode prog_11_method_5_code 21 = .ok (.iload_n 3, 1) := by decide +kernel
theorem d_Tree_stepFrom_22 : decode prog_11_method_5_code 22 = .ok (.aload_n 0, 1) := by decide +kernel
theorem d_Tree_stepFrom_23 : decode prog_11_method_5_code 23 = .ok (.iload_n 1, 1) := by decide +kernel
theorem d_Tree_stepFrom_24 : decode prog_11_method_5_code 24 = .ok (.iload_n 2, 1) := by decide +kernel
theorem d_Tree_stepFrom_25 : decode prog_11_method_5_code 25 = .ok (.invokevirtual 56, 3) := by decide +kernel
theorem d_Tree_stepFrom_28 : decode prog_11_method_5_code 28 = .ok (.iastore, 1) := by decide +kernel
theorem d_Tree_stepFrom_29 : decode prog_11_method_5_code 29 = .ok (.aload_n 0, 1) := by decide +kernel
theorem d_Tree_stepFrom_30 : decode prog_11_method_5_code 30 = .ok (.getfield 30, 3) := by decide +kernel
theorem d_Tree_stepFrom_33 : decode prog_11_method_5_code 33 = .ok (.iload_n 3, 1) := by decide +kernel
theorem d_Tree_stepFrom_34 : decode prog_11_method_5_code 34 = .ok (.iaload, 1) := by decide +kernel
theorem d_Tree_stepFrom_35 : decode prog_11_method_5_code 35 = .ok (.ireturn, 1) := by decide +kernel
theorem d_Tree_addPrefix_0 : decode prog_11_method_6_code 0 = .ok (.aload_n 0, 1) := by decide +kernel
theorem d_Tree_addPrefix_1 : decode prog_11_method_6_code 1 = .ok (.getfield 44, 3) := by decide +kernel
theorem d_Tree_addPrefix_4 : decode prog_11_method_6_code 4 = .ok (.istore_n 3, 1) := by decide +kernel
theorem d_Tree_addPrefix_5 : decode prog_11_method_6_code 5 = .ok (.aload_n 0, 1) := by decide +kernel
theorem d_Tree_addPrefix_6 : decode prog_11_method_6_code 6 = .ok (.dup, 1) := by decide +kernel
theorem d_Tree_addPrefix_7 : decode prog_11_method_6_code 7 = .ok (.getfield 44, 3) := by decide +kernel
theorem d_Tree_addPrefix_10 : decode prog_11_method_6_code 10 = .ok (.iconst 1, 1) := by decide +kernel
theorem d_Tree_addPrefix_11 : decode prog_11_method_6_code 11 = .ok (.iadd, 1) := by decide +kernel
theorem d_Tree_addPrefix_12 : decode prog_11_method_6_code 12 = .ok (.putfield 44, 3) := by decide +kernel
theorem d_Tree_addPrefix_15 : decode prog_11_method_6_code 15 = .ok (.aload_n 0, 1) := by decide +kernel
theorem d_Tree_addPrefix_16 : decode prog_11_method_6_code 16 = .ok (.getfield 9, 3) := by decide +kernel
theorem d_Tree_addPrefix_19 : decode prog_11_method_6_code 19 = .ok (.iload_n 3, 1) := by decide +kernel
theorem d_Tree_addPrefix_20 : decode prog_11_method_6_code 20 = .ok (.iload_n 1, 1) := by decide +kernel
theorem d_Tree_addPrefix_21 : decode prog_11_method_6_code 21 = .ok (.iastore, 1) := by decide +kernel
theorem d_Tree_addPrefix_22 : decode prog_11_method_6_code 22 = .ok (.aload_n 0, 1) := by decide +kernel
theorem d_Tree_addPrefix_23 : decode prog_11_method_6_code 23 = .ok (.getfield 15, 3) := by decide +kernel
theorem d_Tree_addPrefix_26 : decode prog_11_method_6_code 26 = .ok (.iload_n 3, 1) := by decide +kernel
theorem d_Tree_addPrefix_27 : decode prog_11_method_6_code 27 = .ok (.iload_n 2, 1) := by decide +kernel
theorem d_Tree_addPrefix_28 : decode prog_11_method_6_code 28 = .ok (.iastore, 1) := by decide +kernel
theorem d_Tree_addPrefix_29 : decode prog_11_method_6_code 29 = .ok (.aload_n 0, 1) := by decide +kernel
theorem d_Tree_addPrefix_30 : decode prog_11_method_6_code 30 = .ok (.getfield 18, 3) := by decide +kernel
theorem d_Tree_addPrefix_33 : decode prog_11_method_6_code 33 = .ok (.iload_n 3, 1) := by decide +kernel
theorem d_Tree_addPrefix_34 : decode prog_11_method_6_code 34 = .ok (.iconst 0, 1) := by decide +kernel
theorem d_Tree_addPrefix_35 : decode prog_11_method_6_code 35 = .ok (.iastore, 1) := by decide +kernel
theorem d_Tree_addPrefix_36 : decode prog_11_method_6_code 36 = .ok (.aload_n 0, 1) := by decide +kernel
theorem d_Tree_addPrefix_37 : decode prog_11_method_6_code 37 = .ok (.getfield 21, 3) := by decide +kernel
theorem d_Tree_addPrefix_40 : decode prog_11_method_6_code 40 = .ok (.iload_n 3, 1) := by decide +kernel
theorem d_Tree_addPrefix_41 : decode prog_11_method_6_code 41 = .ok (.iconst 0, 1) := by decide +kernel
theorem d_Tree_addPrefix_42 : decode prog_11_method_6_code 42 = .ok (.iastore, 1) := by decide +kernel
theorem d_Tree_addPrefix_43 : decode prog_11_method_6_code 43 = .ok (.aload_n 0, 1) := by decide +kernel
theorem d_Tree_addPrefix_44 : decode prog_11_method_6_code 44 = .ok (.getfield 24, 3) := by decide +kernel
theorem d_Tree_addPrefix_47 : decode prog_11_method_6_code 47 = .ok (.iload_n 3, 1) := by decide +kernel
theorem d_Tree_addPrefix_48 : decode prog_11_method_6_code 48 = .ok (.bipush 99, 2) := by decide +kernel
theorem d_Tree_addPrefix_50 : decode prog_11_method_6_code 50 = .ok (.iastore, 1) := by decide +kernel
theorem d_Tree_addPrefix_51 : decode prog_11_method_6_code 51 = .ok (.aload_n 0, 1) := by decide +kernel
theorem d_Tree_addPrefix_52 : decode prog_11_method_6_code 52 = .ok (.getfield 27, 3) := by decide +kernel
theorem d_Tree_addPrefix_55 : decode prog_11_method_6_code 55 = .ok (.iload_n 3, 1) := by decide +kernel
theorem d_Tree_addPrefix_56 : decode prog_11_method_6_code 56 = .ok (.iconst 0, 1) := by decide +kernel
theorem d_Tree_addPrefix_57 : decode prog_11_method_6_code 57 = .ok (.iastore, 1) := by decide +kernel
theorem d_Tree_addPrefix_58 : decode prog_11_method_6_code 58 = .ok (.iconst 0, 1) := by decide +kernel
theorem d_Tree_addPrefix_59 : decode prog_11_method_6_code 59 = .ok (.istore 4, 2) := by decide +kernel
theorem d_Tree_addPrefix_61 : decode prog_11_method_6_code 61 = .ok (.iload 4, 2) := by decide +kernel
theorem d_Tree_addPrefix_63 : decode prog_11_method_6_code 63 = .ok (.bipush 10, 2) := by decide +kernel
theorem d_Tree_addPrefix_65 : decode prog_11_method_6_code 65 = .ok (.if_icmp .ge 22, 3) := by decide +kernel
theorem d_Tree_addPrefix_68 : decode prog_11_method_6_code 68 = .ok (.aload_n 0, 1) := by decide +kernel
theorem d_Tree_addPrefix_69 : decode prog_11_method_6_code 69 = .ok (.getfield 30, 3) := by decide +kernel
theorem d_Tree_addPrefix_72 : decode prog_11_method_6_code 72 = .ok (.iload_n 3, 1) := by decide +kernel
theorem d_Tree_addPrefix_73 : decode prog_11_method_6_code 73 = .ok (.bipush 10, 2) := by decide +kernel
theorem d_Tree_addPrefix_75 : decode prog_11_method_6_code 75 = .ok (.imul, 1) := by decide +kernel
theorem d_Tree_addPrefix_76 : decode prog_11_method_6_code 76 = .ok (.iload 4, 2) := by decide +kernel
theorem d_Tree_addPrefix_78 : decode prog_11_method_6_code 78 = .ok (.iadd, 1) := by decide +kernel
theorem d_Tree_addPrefix_79 : decode prog_11_method_6_code 79 = .ok (.iconst (-1), 1) := by decide +kernel
theorem d_Tree_addPrefix_80 : decode prog_11_method_6_code 80 = .ok (.iastore, 1) := by decide +kernel
theorem d_Tree_addPrefix_81 : decode prog_11_method_6_code 81 = .ok (.iinc 4 1, 3) := by decide +kernel
theorem d_Tree_addPrefix_84 : decode prog_11_method_6_code 84 = .ok (.goto (-23), 3) := by decide +kernel
theorem d_Tree_addPrefix_87 : decode prog_11_method_6_code 87 = .ok (.iload_n 3, 1) := by decide +kernel
theorem d_Tree_addPrefix_88 : decode prog_11_method_6_code 88 = .ok (.ireturn, 1) := by decide +kernel
theorem zc_10 : zI 10 10 10 := ⟨by decide +kernel, by decide +kernel⟩
theorem li_10 : (10 : Int32).toInt = 10 := by decide +kernel
theorem zc_m1 : zI (-1) (-1) (-1) := ⟨by decide +kernel, by decide +kernel⟩
abbrev m_s2_Tree_addPrefix : Room := { frames := 0, cells := 0, slots := 0, locals := 0 }
set_option maxHeartbeats 4000000 in
set_option maxRecDepth 100000 in
theorem s2_Tree_addPrefix (l : Launch) (G : zG) (b0 : Nat) (b1 : Int32) (b2 : Int32) (b3 : Int32) (b4 : Int32) (b5 : Int32) (b6 : Nat) (b7 : Nat) (b8 : Nat) (b9 : Nat) (b10 : Nat) (b11 : Nat) (b12 : Nat) (b13 : Nat) (b14 : Nat → Int32) (b15 : Nat → Int32) (b16 : Nat → Int32) (b17 : Nat → Int32) (b18 : Nat → Int32) (b19 : Nat → Int32) (b20 : Nat → Int32) (hb1 : zI b1 0 240) (hb2 : zI b2 0 9) (hb3 : zI b3 0 1) (hb5 : zI b5 0 241) (hb14 : zR1 b14 0 240) (hb15 : zR1 b15 0 9) (hb20 : zR b20 (-1) 240) (hap : 1 ≤ b5.toInt ∧ b5.toInt ≤ 240) (hlo : zLo b20 (10 * (b5 : Int32).toInt) (b5 : Int32).toInt) : zM l G y_Tree_addPrefix prog_11_method_6_code 5 (Option.some Jvm.ClassFile.FieldType.int) m_s2_Tree_addPrefix [.ref b0, .int b1, .int b2] [(b0, .inr (3, [.int b3, .int b4, .int b5, .ref b6, .ref b7, .ref b8, .ref b9, .ref b10, .ref b11, .ref b12, .ref b13])), (b6, .inl (G.2 0, 241, .inl b14)), (b7, .inl (G.2 0, 241, .inl b15)), (b8, .inl (G.2 0, 241, .inl b16)), (b9, .inl (G.2 0, 241, .inl b17)), (b10, .inl (G.2 0, 241, .inl b18)), (b11, .inl (G.2 0, 241, .inl b19)), (b12, .inl (G.2 0, 2410, .inl b20))] (fun v w => ∃ (e0 : Int32), ∃ (e1 : Nat → Int32), ∃ (e2 : Nat → Int32), ∃ (e3 : Nat → Int32), ∃ (e4 : Nat → Int32), ∃ (e5 : Nat → Int32), ∃ (e6 : Nat → Int32), ∃ (e7 : Nat → Int32), v = some (.int b5) ∧ w = [(b0, .inr (3, [.int b3, .int b4, .int e0, .ref b6, .ref b7, .ref b8, .ref b9, .ref b10, .ref b11, .ref b12, .ref b13])), (b6, .inl (G.2 0, 241, .inl e1)), (b7, .inl (G.2 0, 241, .inl e2)), (b8, .inl (G.2 0, 241, .inl e3)), (b9, .inl (G.2 0, 241, .inl e4)), (b10, .inl (G.2 0, 241, .inl e5)), (b11, .inl (G.2 0, 241, .inl e6)), (b12, .inl (G.2 0, 2410, .inl e7))] ∧ (zI e0 0 241) ∧ (zR1 e1 0 240) ∧ (zR1 e2 0 9) ∧ (zR e7 (-1) 240) ∧ (e0.toInt = b5.toInt + 1) ∧ (zLo e7 (10 * (e0 : Int32).toInt) (e0 : Int32).toInt)) := by
  refine z_start (by decide +kernel) (Nat.le_of_ble_eq_true rfl) ?_
  intro p e s m below meth c A Z hr hnm hA hP hD hS ls hl
  have Z : zC p s m _ meth c prog_11_method_6_code 5 "TraceMachines$Tree" G := Z
  obtain ⟨hx, hb, hml, hown, hts, hK, hN, hlocks⟩ := id Z
  have hl : lv_has ls 5 [(0, .ref b0), (1, .int b1), (2, .int b2)] := hl
  have hv_1 : zI b5 1 240 := ⟨by omega, by omega⟩
  refine lv_aload_n hx hb d_Tree_addPrefix_0 rfl (lv_at hl 0 rfl) ?_
  refine va_get (D := G.1) (ci := 3) (v := .int b5) (C := R_Tree) (T := F_Tree) (N := 11) hx hb hts i_Tree hown hK hP 0 rfl rfl 2 (by decide) (hts _ q100) (fun _ h9 => h9) rfl d_Tree_addPrefix_1 ?_
  refine lv_istore_n (lv' := [(3, .int b5), (0, .ref b0), (1, .int b1), (2, .int b2)]) hx hb d_Tree_addPrefix_4 rfl hl (by decide) rfl (fun ls hl => ?_)
  refine lv_aload_n hx hb d_Tree_addPrefix_5 rfl (lv_at hl 1 rfl) ?_
  refine lv_dup hx hb d_Tree_addPrefix_6 rfl ?_
  refine va_get (D := G.1) (ci := 3) (v := .int b5) (C := R_Tree) (T := F_Tree) (N := 11) hx hb hts i_Tree hown hK hP 0 rfl rfl 2 (by decide) (hts _ q100) (fun _ h9 => h9) rfl d_Tree_addPrefix_7 ?_
  refine lv_iconst (v := 1) hx hb d_Tree_addPrefix_10 (by decide) ?_
  refine lv_iadd hx hb d_Tree_addPrefix_11 ?_
  refine lv_topi (fun v_2 ev_2 => ?_)
  obtain ⟨qv_2, hv_2⟩ := zI_add (l := 2) (h := 241) hv_1 zc_1 ev_2 (by decide)
  rw [li_1] at qv_2
  refine va_put (D := G.1) (ci := 3) (v := .int v_2) (ty := .int) (C := R_Tree) (T := F_Tree) (N := 11) hx hb hts i_Tree t_Tree t_Tree_ok n_Tree hown hK hP hD hS 0 rfl rfl 2 (by decide) (hts _ q100) (fun _ h9 => h9) rfl (by decide +kernel) rfl rfl (Nat.le_of_ble_eq_true rfl) d_Tree_addPrefix_12 (fun H locs hP hD hS => ?_)
  have hP : va_P G.1 classes [(b0, .inr (3, [.int b3, .int b4, .int v_2, .ref b6, .ref b7, .ref b8, .ref b9, .ref b10, .ref b11, .ref b12, .ref b13])), (b6, .inl (G.2 0, 241, .inl b14)), (b7, .inl (G.2 0, 241, .inl b15)), (b8, .inl (G.2 0, 241, .inl b16)), (b9, .inl (G.2 0, 241, .inl b17)), (b10, .inl (G.2 0, 241, .inl b18)), (b11, .inl (G.2 0, 241, .inl b19)), (b12, .inl (G.2 0, 2410, .inl b20))] H := hP
  have hD := z_tie hP hD rfl
  refine lv_aload_n hx hb d_Tree_addPrefix_15 rfl (lv_at hl 1 rfl) ?_
  refine va_get (D := G.1) (ci := 3) (v := .ref b6) (C := R_Tree) (T := F_Tree) (N := 11) hx hb hts i_Tree hown hK hP 0 rfl rfl 3 (by decide) (hts _ q103) (fun _ h9 => h9) rfl d_Tree_addPrefix_16 ?_
  refine lv_iload_n hx hb d_Tree_addPrefix_19 rfl (lv_at hl 0 rfl) ?_
  refine lv_iload_n hx hb d_Tree_addPrefix_20 rfl (lv_at hl 2 rfl) ?_
  refine va_iast hx hb hK hP hD hS 1 0 rfl rfl (zI.inn hv_1 (by decide)) d_Tree_addPrefix_21 (fun H locs hP hD hS => ?_)
  obtain ⟨f_3, hf_3, gf_3, uf_3, hP, hD⟩ := z_newfo 1 hP hD rfl hb14 (Or.inr hb1)
  have hP : va_P G.1 classes [(b0, .inr (3, [.int b3, .int b4, .int v_2, .ref b6, .ref b7, .ref b8, .ref b9, .ref b10, .ref b11, .ref b12, .ref b13])), (b6, .inl (G.2 0, 241, .inl f_3)), (b7, .inl (G.2 0, 241, .inl b15)), (b8, .inl (G.2 0, 241, .inl b16)), (b9, .inl (G.2 0, 241, .inl b17)), (b10, .inl (G.2 0, 241, .inl b18)), (b11, .inl (G.2 0, 241, .inl b19)), (b12, .inl (G.2 0, 2410, .inl b20))] H := hP
  have hD := z_tie hP hD rfl
  refine lv_aload_n hx hb d_Tree_addPrefix_22 rfl (lv_at hl 1 rfl) ?_
  refine va_get (D := G.1) (ci := 3) (v := .ref b7) (C := R_Tree) (T := F_Tree) (N := 11) hx hb hts i_Tree hown hK hP 0 rfl rfl 4 (by decide) (hts _ q105) (fun _ h9 => h9) rfl d_Tree_addPrefix_23 ?_
  refine lv_iload_n hx hb d_Tree_addPrefix_26 rfl (lv_at hl 0 rfl) ?_
  refine lv_iload_n hx hb d_Tree_addPrefix_27 rfl (lv_at hl 3 rfl) ?_
  refine va_iast hx hb hK hP hD hS 2 0 rfl rfl (zI.inn hv_1 (by decide)) d_Tree_addPrefix_28 (fun H locs hP hD hS => ?_)
  obtain ⟨f_4, hf_4, gf_4, uf_4, hP, hD⟩ := z_newfo 2 hP hD rfl hb15 (Or.inr hb2)
  have hP : va_P G.1 classes [(b0, .inr (3, [.int b3, .int b4, .int v_2, .ref b6, .ref b7, .ref b8, .ref b9, .ref b10, .ref b11, .ref b12, .ref b13])), (b6, .inl (G.2 0, 241, .inl f_3)), (b7, .inl (G.2 0, 241, .inl f_4)), (b8, .inl (G.2 0, 241, .inl b16)), (b9, .inl (G.2 0, 241, .inl b17)), (b10, .inl (G.2 0, 241, .inl b18)), (b11, .inl (G.2 0, 241, .inl b19)), (b12, .inl (G.2 0, 2410, .inl b20))] H := hP
  have hD := z_tie hP hD rfl
  refine lv_aload_n hx hb d_Tree_addPrefix_29 rfl (lv_at hl 1 rfl) ?_
  refine va_get (D := G.1) (ci := 3) (v := .ref b8) (C := R_Tree) (T := F_Tree) (N := 11) hx hb hts i_Tree hown hK hP 0 rfl rfl 5 (by decide) (hts _ q107) (fun _ h9 => h9) rfl d_Tree_addPrefix_30 ?_
  refine lv_iload_n hx hb d_Tree_addPrefix_33 rfl (lv_at hl 0 rfl) ?_
  refine lv_iconst (v := 0) hx hb d_Tree_addPrefix_34 (by decide) ?_
  refine va_iast hx hb hK hP hD hS 3 0 rfl rfl (zI.inn hv_1 (by decide)) d_Tree_addPrefix_35 (fun H locs hP hD hS => ?_)
  obtain ⟨f_5, gf_5, uf_5, hP, hD⟩ := z_newFu 3 hP hD rfl
  have hP : va_P G.1 classes [(b0, .inr (3, [.int b3, .int b4, .int v_2, .ref b6, .ref b7, .ref b8, .ref b9, .ref b10, .ref b11, .ref b12, .ref b13])), (b6, .inl (G.2 0, 241, .inl f_3)), (b7, .inl (G.2 0, 241, .inl f_4)), (b8, .inl (G.2 0, 241, .inl f_5)), (b9, .inl (G.2 0, 241, .inl b17)), (b10, .inl (G.2 0, 241, .inl b18)), (b11, .inl (G.2 0, 241, .inl b19)), (b12, .inl (G.2 0, 2410, .inl b20))] H := hP
  have hD := z_tie hP hD rfl
  refine lv_aload_n hx hb d_Tree_addPrefix_36 rfl (lv_at hl 1 rfl) ?_
  refine va_get (D := G.1) (ci := 3) (v := .ref b9) (C := R_Tree) (T := F_Tree) (N := 11) hx hb hts i_Tree hown hK hP 0 rfl rfl 6 (by decide) (hts _ q109) (fun _ h9 => h9) rfl d_Tree_addPrefix_37 ?_
  refine lv_iload_n hx hb d_Tree_addPrefix_40 rfl (lv_at hl 0 rfl) ?_
  refine lv_iconst (v := 0) hx hb d_Tree_addPrefix_41 (by decide) ?_
  refine va_iast hx hb hK hP hD hS 4 0 rfl rfl (zI.inn hv_1 (by decide)) d_Tree_addPrefix_42 (fun H locs hP hD hS => ?_)
  obtain ⟨f_6, gf_6, uf_6, hP, hD⟩ := z_newFu 4 hP hD rfl
  have hP : va_P G.1 classes [(b0, .inr (3, [.int b3, .int b4, .int v_2, .ref b6, .ref b7, .ref b8, .ref b9, .ref b10, .ref b11, .ref b12, .ref b13])), (b6, .inl (G.2 0, 241, .inl f_3)), (b7, .inl (G.2 0, 241, .inl f_4)), (b8, .inl (G.2 0, 241, .inl f_5)), (b9, .inl (G.2 0, 241, .inl f_6)), (b10, .inl (G.2 0, 241, .inl b18)), (b11, .inl (G.2 0, 241, .inl b19)), (b12, .inl (G.2 0, 2410, .inl b20))] H := hP
  have hD := z_tie hP hD rfl
  refine lv_aload_n hx hb d_Tree_addPrefix_43 rfl (lv_at hl 1 rfl) ?_
  refine va_get (D := G.1) (ci := 3) (v := .ref b10) (C := R_Tree) (T := F_Tree) (N := 11) hx hb hts i_Tree hown hK hP 0 rfl rfl 7 (by decide) (hts _ q111) (fun _ h9 => h9) rfl d_Tree_addPrefix_44 ?_
  refine lv_iload_n hx hb d_Tree_addPrefix_47 rfl (lv_at hl 0 rfl) ?_
  refine lv_bipush (v := 99) hx hb d_Tree_addPrefix_48 (by decide) ?_
  refine va_iast hx hb hK hP hD hS 5 0 rfl rfl (zI.inn hv_1 (by decide)) d_Tree_addPrefix_50 (fun H locs hP hD hS => ?_)
  obtain ⟨f_7, gf_7, uf_7, hP, hD⟩ := z_newFu 5 hP hD rfl
  have hP : va_P G.1 classes [(b0, .inr (3, [.int b3, .int b4, .int v_2, .ref b6, .ref b7, .ref b8, .ref b9, .ref b10, .ref b11, .ref b12, .ref b13])), (b6, .inl (G.2 0, 241, .inl f_3)), (b7, .inl (G.2 0, 241, .inl f_4)), (b8, .inl (G.2 0, 241, .inl f_5)), (b9, .inl (G.2 0, 241, .inl f_6)), (b10, .inl (G.2 0, 241, .inl f_7)), (b11, .inl (G.2 0, 241, .inl b19)), (b12, .inl (G.2 0, 2410, .inl b20))] H := hP
  have hD := z_tie hP hD rfl
  refine lv_aload_n hx hb d_Tree_addPrefix_51 rfl (lv_at hl 1 rfl) ?_
  refine va_get (D := G.1) (ci := 3) (v := .ref b11) (C := R_Tree) (T := F_Tree) (N := 11) hx hb hts i_Tree hown hK hP 0 rfl rfl 8 (by decide) (hts _ q113) (fun _ h9 => h9) rfl d_Tree_addPrefix_52 ?_
  refine lv_iload_n hx hb d_Tree_addPrefix_55 rfl (lv_at hl 0 rfl) ?_
  refine lv_iconst (v := 0) hx hb d_Tree_addPrefix_56 (by decide) ?_
  refine va_iast hx hb hK hP hD hS 6 0 rfl rfl (zI.inn hv_1 (by decide)) d_Tree_addPrefix_57 (fun H locs hP hD hS => ?_)
  obtain ⟨f_8, gf_8, uf_8, hP, hD⟩ := z_newFu 6 hP hD rfl
  have hP : va_P G.1 classes [(b0, .inr (3, [.int b3, .int b4, .int v_2, .ref b6, .ref b7, .ref b8, .ref b9, .ref b10, .ref b11, .ref b12, .ref b13])), (b6, .inl (G.2 0, 241, .inl f_3)), (b7, .inl (G.2 0, 241, .inl f_4)), (b8, .inl (G.2 0, 241, .inl f_5)), (b9, .inl (G.2 0, 241, .inl f_6)), (b10, .inl (G.2 0, 241, .inl f_7)), (b11, .inl (G.2 0, 241, .inl f_8)), (b12, .inl (G.2 0, 2410, .inl b20))] H := hP
  have hD := z_tie hP hD rfl
  refine lv_iconst (v := 0) hx hb d_Tree_addPrefix_58 (by decide) ?_
  refine lv_istore (lv' := [(4, .int 0), (3, .int b5), (0, .ref b0), (1, .int b1), (2, .int b2)]) hx hb d_Tree_addPrefix_59 hl (by decide) rfl (fun ls hl => ?_)
  suffices key : ∀ (k_20 : Nat) (y_21 : Int32) (y_22 : Nat → Int32) (H : Heap) (locs : List Loc) (ls : Array Slot), (zI y_21 0 10) → (zR y_22 (-1) 240) → (zLo y_22 (10 * (b5 : Int32).toInt + (y_21 : Int32).toInt) ((b5 : Int32).toInt + 1)) → (10 : Int) - y_21.toInt < (k_20 : Int) → va_P G.1 classes [(b0, .inr (3, [.int b3, .int b4, .int v_2, .ref b6, .ref b7, .ref b8, .ref b9, .ref b10, .ref b11, .ref b12, .ref b13])), (b6, .inl (G.2 0, 241, .inl f_3)), (b7, .inl (G.2 0, 241, .inl f_4)), (b8, .inl (G.2 0, 241, .inl f_5)), (b9, .inl (G.2 0, 241, .inl f_6)), (b10, .inl (G.2 0, 241, .inl f_7)), (b11, .inl (G.2 0, 241, .inl f_8)), (b12, .inl (G.2 0, 2410, .inl y_22))] H → va_D A [(b0, .inr (3, [.int b3, .int b4, .int v_2, .ref b6, .ref b7, .ref b8, .ref b9, .ref b10, .ref b11, .ref b12, .ref b13])), (b6, .inl (G.2 0, 241, .inl f_3)), (b7, .inl (G.2 0, 241, .inl f_4)), (b8, .inl (G.2 0, 241, .inl f_5)), (b9, .inl (G.2 0, 241, .inl f_6)), (b10, .inl (G.2 0, 241, .inl f_7)), (b11, .inl (G.2 0, 241, .inl f_8)), (b12, .inl (G.2 0, 2410, .inl y_22))] → va_S A s.heap H locs → lv_has ls 5 [(4, .int y_21), (3, .int b5), (0, .ref b0), (1, .int b1), (2, .int b2)] → W p l e m_s2_Tree_addPrefix s m ([.ref b0, .int b1, .int b2] : List Value).toArray below meth c H locs 0 0 (MQ below (zQ G (fun v w => ∃ (e0 : Int32), ∃ (e1 : Nat → Int32), ∃ (e2 : Nat → Int32), ∃ (e3 : Nat → Int32), ∃ (e4 : Nat → Int32), ∃ (e5 : Nat → Int32), ∃ (e6 : Nat → Int32), ∃ (e7 : Nat → Int32), v = some (.int b5) ∧ w = [(b0, .inr (3, [.int b3, .int b4, .int e0, .ref b6, .ref b7, .ref b8, .ref b9, .ref b10, .ref b11, .ref b12, .ref b13])), (b6, .inl (G.2 0, 241, .inl e1)), (b7, .inl (G.2 0, 241, .inl e2)), (b8, .inl (G.2 0, 241, .inl e3)), (b9, .inl (G.2 0, 241, .inl e4)), (b10, .inl (G.2 0, 241, .inl e5)), (b11, .inl (G.2 0, 241, .inl e6)), (b12, .inl (G.2 0, 2410, .inl e7))] ∧ (zI e0 0 241) ∧ (zR1 e1 0 240) ∧ (zR1 e2 0 9) ∧ (zR e7 (-1) 240) ∧ (e0.toInt = b5.toInt + 1) ∧ (zLo e7 (10 * (e0 : Int32).toInt) (e0 : Int32).toInt)) A) ([.ref b0, .int b1, .int b2] : List Value).toArray s m_s2_Tree_addPrefix.cells m_s2_Tree_addPrefix.slots A) (F0 m 61 ls []) by
    exact key 11 (0) (b20) _ _ _ (zI.wk (l' := 0) (h' := 10) zc_0 (by decide)) hb20 (by have _l0 := li_0; intro q hq; have := hlo q (by omega); omega) (zm_upi (zI.wk (l' := 0) (h' := 10) zc_0 (by decide)) (by decide)) hP hD hS (lv_sub hl [0, 1, 2, 3, 4] rfl)
  intro k_20
  induction k_20 with
  | zero =>
    intro y_21 y_22 H locs ls hy_21 hy_22 hli_23 hmk_20 hP hD hS hl
    exact (zm_up0 hy_21 hmk_20).elim
  | succ k_20 ihk_20 =>
    intro y_21 y_22 H locs ls hy_21 hy_22 hli_23 hmk_20 hP hD hS hl
    refine lv_iload hx hb d_Tree_addPrefix_61 (lv_at hl 0 rfl) ?_
    refine lv_bipush (v := 10) hx hb d_Tree_addPrefix_63 (by decide) ?_
    refine lv_icmp_ge (tgt := 87) hx hb d_Tree_addPrefix_65 (by decide) (fun hc_24 => ?_) (fun hc_24 => ?_)
    · have _nhc_24 := hc_24
      have ni_25 := (fa_le _ _).mp hc_24
      rw [li_10] at ni_25
      have hv_26 : zI y_21 10 10 := zI.le_r zc_10 hy_21 hc_24 (by decide)
      refine lv_iload_n hx hb d_Tree_addPrefix_87 rfl (lv_at hl 1 rfl) ?_
      exact z_iret hx hb hr hlocks hP hD hS (Nat.le_of_ble_eq_true rfl) (Nat.le_of_ble_eq_true rfl) d_Tree_addPrefix_88 ⟨v_2, f_3, f_4, f_5, f_6, f_7, f_8, y_22, rfl, rfl, (zI.wk (l' := 0) (h' := 241) hv_2 (by decide)), hf_3, hf_4, hy_22, (by omega), (by have _l0 := li_0; have _l1 := li_1; have _l2 := li_10; intro q hq; have := hli_23 q (by omega); omega)⟩
    · have _nhc_24 := hc_24
      have ni_27 := (fa_lt _ _).mp (zi_nle hc_24)
      rw [li_10] at ni_27
      have hv_28 : zI y_21 0 9 := zI.lt_l hy_21 zc_10 (zi_nle hc_24) (by decide)
      refine lv_aload_n hx hb d_Tree_addPrefix_68 rfl (lv_at hl 2 rfl) ?_
      refine va_get (D := G.1) (ci := 3) (v := .ref b12) (C := R_Tree) (T := F_Tree) (N := 11) hx hb hts i_Tree hown hK hP 0 rfl rfl 9 (by decide) (hts _ q115) (fun _ h9 => h9) rfl d_Tree_addPrefix_69 ?_
      refine lv_iload_n hx hb d_Tree_addPrefix_72 rfl (lv_at hl 1 rfl) ?_
      refine lv_bipush (v := 10) hx hb d_Tree_addPrefix_73 (by decide) ?_
      refine lv_imul hx hb d_Tree_addPrefix_75 ?_
      refine lv_topi (fun v_29 ev_29 => ?_)
      obtain ⟨qv_29, hv_29⟩ := zI_mul (l := 10) (h := 2400) hv_1 zc_10 ev_29 (by decide)
      rw [li_10] at qv_29
      refine lv_iload hx hb d_Tree_addPrefix_76 (lv_at hl 0 rfl) ?_
      refine lv_iadd hx hb d_Tree_addPrefix_78 ?_
      refine lv_topi (fun v_30 ev_30 => ?_)
      obtain ⟨qv_30, hv_30⟩ := zI_add (l := 10) (h := 2409) hv_29 hv_28 ev_30 (by decide)
      refine lv_iconst (v := (-1)) hx hb d_Tree_addPrefix_79 (by decide) ?_
      refine va_iast hx hb hK hP hD hS 7 0 rfl rfl (zI.inn hv_30 (by decide)) d_Tree_addPrefix_80 (fun H locs hP hD hS => ?_)
      obtain ⟨f_31, hf_31, gf_31, uf_31, hP, hD⟩ := z_newfu 7 hP hD rfl hy_22 (zI.wk (l' := (-1)) (h' := 240) zc_m1 (by decide))
      have hP : va_P G.1 classes [(b0, .inr (3, [.int b3, .int b4, .int v_2, .ref b6, .ref b7, .ref b8, .ref b9, .ref b10, .ref b11, .ref b12, .ref b13])), (b6, .inl (G.2 0, 241, .inl f_3)), (b7, .inl (G.2 0, 241, .inl f_4)), (b8, .inl (G.2 0, 241, .inl f_5)), (b9, .inl (G.2 0, 241, .inl f_6)), (b10, .inl (G.2 0, 241, .inl f_7)), (b11, .inl (G.2 0, 241, .inl f_8)), (b12, .inl (G.2 0, 2410, .inl f_31))] H := hP
      have hD := z_tie hP hD rfl
      obtain ⟨v_32, ev_32⟩ : ∃ z : Int32, z = y_21 + 1 := ⟨_, rfl⟩
      obtain ⟨qv_32, hv_32⟩ := zI_add (l := 1) (h := 10) hv_28 zc_1 ev_32 (by decide)
      rw [li_1] at qv_32
      refine lv_iinc (v := v_32) (lv' := [(4, .int v_32), (3, .int b5), (0, .ref b0), (1, .int b1), (2, .int b2)]) hx hb d_Tree_addPrefix_81 hl (k := 0) rfl (by rw [ev_32]; rfl) (by decide) rfl (fun ls hl => ?_)
      refine lv_goto (tgt := 61) hx hb d_Tree_addPrefix_84 (by decide) ?_
      exact ihk_20 (v_32) (f_31) _ _ _ (zI.wk (l' := 0) (h' := 10) hv_32 (by decide)) hf_31 (by have _l0 := li_0; have _l1 := li_m1; have _l2 := li_10; have p9 := z_pl hv_30 (by decide); intro q hq; rw [uf_31, z_at]; split; omega; exact hli_23 q (by omega)) (zm_up qv_32 hmk_20 (by decide)) hP hD hS (lv_sub hl [0, 1, 2, 3, 4] rfl)
abbrev m_s1_Tree_stepFrom : Room := { frames := 1, cells := 0, slots := 0, locals := 24 }
set_option maxHeartbeats 4000000 in
set_option maxRecDepth 100000 in
theorem s1_Tree_stepFrom (l : Launch) (G : zG) (b0 : Nat) (b1 : Int32) (b2 : Int32) (b3 : Int32) (b4 : Int32) (b5 : Int32) (b6 : Nat) (b7 : Nat) (b8 : Nat) (b9 : Nat) (b10 : Nat) (b11 : Nat) (b12 : Nat) (b13 : Nat) (b14 : Nat → Int32) (b15 : Nat → Int32) (b16 : Nat → Int32) (b17 : Nat → Int32) (b18 : Nat → Int32) (b19 : Nat → Int32) (b20 : Nat → Int32) (hb1 : zI b1 0 240) (hb2 : zI b2 0 9) (hb3 : zI b3 0 1) (hb5 : zI b5 0 241) (hb14 : zR1 b14 0 240) (hb15 : zR1 b15 0 9) (hb20 : zR b20 (-1) 240) (hsf : 1 ≤ b5.toInt ∧ b5.toInt ≤ 240) (hlo : zLo b20 (10 * (b5 : Int32).toInt) (b5 : Int32).toInt) (hsp : b1.toInt < b5.toInt) : zM l G y_Tree_stepFrom prog_11_method_5_code 4 (Option.some Jvm.ClassFile.FieldType.int) m_s1_Tree_stepFrom [.ref b0, .int b1, .int b2] [(b0, .inr (3, [.int b3, .int b4, .int b5, .ref b6, .ref b7, .ref b8, .ref b9, .ref b10, .ref b11, .ref b12, .ref b13])), (b6, .inl (G.2 0, 241, .inl b14)), (b7, .inl (G.2 0, 241, .inl b15)), (b8, .inl (G.2 0, 241, .inl b16)), (b9, .inl (G.2 0, 241, .inl b17)), (b10, .inl (G.2 0, 241, .inl b18)), (b11, .inl (G.2 0, 241, .inl b19)), (b12, .inl (G.2 0, 2410, .inl b20))] (fun v w => ∃ (e0 : Int32), ∃ (e1 : Int32), ∃ (e2 : Nat → Int32), ∃ (e3 : Nat → Int32), ∃ (e4 : Nat → Int32), ∃ (e5 : Nat → Int32), ∃ (e6 : Nat → Int32), ∃ (e7 : Nat → Int32), ∃ (e8 : Nat → Int32), v = some (.int e0) ∧ w = [(b0, .inr (3, [.int b3, .int b4, .int e1, .ref b6, .ref b7, .ref b8, .ref b9, .ref b10, .ref b11, .ref b12, .ref b13])), (b6, .inl (G.2 0, 241, .inl e2)), (b7, .inl (G.2 0, 241, .inl e3)), (b8, .inl (G.2 0, 241, .inl e4)), (b9, .inl (G.2 0, 241, .inl e5)), (b10, .inl (G.2 0, 241, .inl e6)), (b11, .inl (G.2 0, 241, .inl e7)), (b12, .inl (G.2 0, 2410, .inl e8))] ∧ (zI e0 0 240) ∧ (zI e1 0 241) ∧ (zR1 e2 0 240) ∧ (zR1 e3 0 9) ∧ (zR e8 (-1) 240) ∧ (e1.toInt ≤ b5.toInt + 1) ∧ (b5.toInt ≤ e1.toInt) ∧ (zLo e8 (10 * (e1 : Int32).toInt) (e1 : Int32).toInt) ∧ (e0.toInt < (e1 : Int32).toInt)) := by
  refine z_start (by decide +kernel) (Nat.le_of_ble_eq_true rfl) ?_
  intro p e s m below meth c A Z hr hnm hA hP hD hS ls hl
  have Z : zC p s m _ meth c prog_11_method_5_code 4 "TraceMachines$Tree" G := Z
  obtain ⟨hx, hb, hml, hown, hts, hK, hN, hlocks⟩ := id Z
  have hl : lv_has ls 4 [(0, .ref b0), (1, .int b1), (2, .int b2)] := hl
  have hv_1 : zI b5 1 240 := ⟨by omega, by omega⟩
  refine lv_iload_n hx hb d_Tree_stepFrom_0 rfl (lv_at hl 1 rfl) ?_
  refine lv_bipush (v := 10) hx hb d_Tree_stepFrom_1 (by decide) ?_
  refine lv_imul hx hb d_Tree_stepFrom_3 ?_
  refine lv_topi (fun v_2 ev_2 => ?_)
  obtain ⟨qv_2, hv_2⟩ := zI_mul (l := 0) (h := 2400) hb1 zc_10 ev_2 (by decide)
  rw [li_10] at qv_2
  refine lv_iload_n hx hb d_Tree_stepFrom_4 rfl (lv_at hl 2 rfl) ?_
  refine lv_iadd hx hb d_Tree_stepFrom_5 ?_
  refine lv_topi (fun v_3 ev_3 => ?_)
  obtain ⟨qv_3, hv_3⟩ := zI_add (l := 0) (h := 2409) hv_2 hb2 ev_3 (by decide)
  refine lv_istore_n (lv' := [(3, .int v_3), (0, .ref b0), (1, .int b1), (2, .int b2)]) hx hb d_Tree_stepFrom_6 rfl hl (by decide) rfl (fun ls hl => ?_)
  refine lv_aload_n hx hb d_Tree_stepFrom_7 rfl (lv_at hl 1 rfl) ?_
  refine va_get (D := G.1) (ci := 3) (v := .ref b12) (C := R_Tree) (T := F_Tree) (N := 11) hx hb hts i_Tree hown hK hP 0 rfl rfl 9 (by decide) (hts _ q115) (fun _ h9 => h9) rfl d_Tree_stepFrom_8 ?_
  refine lv_iload_n hx hb d_Tree_stepFrom_11 rfl (lv_at hl 0 rfl) ?_
  refine va_iald hx hb hK hP 7 0 rfl rfl (zI.inn hv_3 (by decide)) d_Tree_stepFrom_12 ?_
  refine lv_topi (fun v_4 ev_4 => ?_)
  have hv_4 : zI v_4 (-1) 240 := (hb20 _).eq ev_4
  refine lv_iconst (v := (-1)) hx hb d_Tree_stepFrom_13 (by decide) ?_
  refine lv_icmp_ne (tgt := 29) hx hb d_Tree_stepFrom_14 (by decide) (fun hc_5 => ?_) (fun hc_5 => ?_)
  · have _nhc_5 := hc_5
    have ni_6 : ¬ (v_4 : Int32).toInt = ((-1) : Int32).toInt := fun z => hc_5 ((fa_eq _ _).mpr z)
    simp only [li_m1] at ni_6
    have hv_7 : zI v_4 0 240 := zI.ne_lo hv_4 zc_m1 hc_5 (by decide)
    refine lv_aload_n hx hb d_Tree_stepFrom_29 rfl (lv_at hl 1 rfl) ?_
    refine va_get (D := G.1) (ci := 3) (v := .ref b12) (C := R_Tree) (T := F_Tree) (N := 11) hx hb hts i_Tree hown hK hP 0 rfl rfl 9 (by decide) (hts _ q115) (fun _ h9 => h9) rfl d_Tree_stepFrom_30 ?_
    refine lv_iload_n hx hb d_Tree_stepFrom_33 rfl (lv_at hl 0 rfl) ?_
    refine va_iald hx hb hK hP 7 0 rfl rfl (zI.inn hv_3 (by decide)) d_Tree_stepFrom_34 ?_
    refine lv_topi (fun v_8 ev_8 => ?_)
    obtain rfl : v_4 = v_8 := ev_4.trans ev_8.symm
    exact z_iret hx hb hr hlocks hP hD hS (Nat.le_of_ble_eq_true rfl) (Nat.le_of_ble_eq_true rfl) d_Tree_stepFrom_35 ⟨v_4, b5, b14, b15, b16, b17, b18, b19, b20, rfl, rfl, hv_7, (zI.wk (l' := 0) (h' := 241) hv_1 (by decide)), hb14, hb15, hb20, (by omega), (by omega), hlo, (by have p9 := z_pl hv_3 (by decide); rw [ev_4]; exact hlo _ (by omega))⟩
  · have _nhc_5 := hc_5
    have ni_9 := (fa_eq _ _).mp hc_5
    rw [li_m1] at ni_9
    have hv_10 : zI v_4 (-1) (-1) := zI.eq_l hv_4 zc_m1 hc_5
    refine lv_aload_n hx hb d_Tree_stepFrom_17 rfl (lv_at hl 1 rfl) ?_
    refine va_get (D := G.1) (ci := 3) (v := .ref b12) (C := R_Tree) (T := F_Tree) (N := 11) hx hb hts i_Tree hown hK hP 0 rfl rfl 9 (by decide) (hts _ q115) (fun _ h9 => h9) rfl d_Tree_stepFrom_18 ?_
    refine lv_iload_n hx hb d_Tree_stepFrom_21 rfl (lv_at hl 0 rfl) ?_
    refine lv_aload_n hx hb d_Tree_stepFrom_22 rfl (lv_at hl 1 rfl) ?_
    refine lv_iload_n hx hb d_Tree_stepFrom_23 rfl (lv_at hl 2 rfl) ?_
    refine lv_iload_n hx hb d_Tree_stepFrom_24 rfl (lv_at hl 3 rfl) ?_
    refine z_callV (index := 56) (As := [.int b1, .int b2]) (rest := [.int v_3, .ref b12]) (wr := []) Z (s2_Tree_addPrefix l G (b0) (b1) (b2) (b3) (b4) (b5) (b6) (b7) (b8) (b9) (b10) (b11) (b12) (b13) (b14) (b15) (b16) (b17) (b18) (b19) (b20) hb1 hb2 hb3 (zI.wk (l' := 0) (h' := 241) hv_1 (by decide)) hb14 hb15 hb20 (by omega) hlo) hl.1 q575 q577 qs4 q4 q578 ⟨by decide, by decide, by show _ = some 2; decide +kernel⟩ ⟨Nat.le_of_ble_eq_true rfl, Nat.le_of_ble_eq_true rfl⟩ ⟨Nat.le_of_ble_eq_true rfl, Nat.le_of_ble_eq_true rfl⟩ rfl (Nat.le_of_ble_eq_true rfl) d_Tree_stepFrom_25 hP hD hS hA 0 3 rfl rfl rfl [0, 1, 2, 3, 4, 5, 6, 7] [] rfl rfl rfl rfl (by decide) (fun v w1 H locs hw_11 hP hD hS => ?_)
    obtain ⟨x_12, f_13, f_14, f_15, f_16, f_17, f_18, f_19, rfl, rfl, hx_12, hf_13, hf_14, hf_19, hfx_20, hfx_21⟩ := hw_11
    have hP : va_P G.1 classes [(b0, .inr (3, [.int b3, .int b4, .int x_12, .ref b6, .ref b7, .ref b8, .ref b9, .ref b10, .ref b11, .ref b12, .ref b13])), (b6, .inl (G.2 0, 241, .inl f_13)), (b7, .inl (G.2 0, 241, .inl f_14)), (b8, .inl (G.2 0, 241, .inl f_15)), (b9, .inl (G.2 0, 241, .inl f_16)), (b10, .inl (G.2 0, 241, .inl f_17)), (b11, .inl (G.2 0, 241, .inl f_18)), (b12, .inl (G.2 0, 2410, .inl f_19))] H := hP
    have hD := z_tie hP hD rfl
    refine W.widen (k := 0) (n := 0) (Nat.le_of_ble_eq_true rfl) (Nat.le_of_ble_eq_true rfl) ?_
    refine va_iast hx hb hK hP hD hS 7 0 rfl rfl (zI.inn hv_3 (by decide)) d_Tree_stepFrom_28 (fun H locs hP hD hS => ?_)
    obtain ⟨f_22, hf_22, gf_22, uf_22, hP, hD⟩ := z_newfu 7 hP hD rfl hf_19 (zI.wk (l' := (-1)) (h' := 240) hv_1 (by decide))
    have hP : va_P G.1 classes [(b0, .inr (3, [.int b3, .int b4, .int x_12, .ref b6, .ref b7, .ref b8, .ref b9, .ref b10, .ref b11, .ref b12, .ref b13])), (b6, .inl (G.2 0, 241, .inl f_13)), (b7, .inl (G.2 0, 241, .inl f_14)), (b8, .inl (G.2 0, 241, .inl f_15)), (b9, .inl (G.2 0, 241, .inl f_16)), (b10, .inl (G.2 0, 241, .inl f_17)), (b11, .inl (G.2 0, 241, .inl f_18)), (b12, .inl (G.2 0, 2410, .inl f_22))] H := hP
    have hD := z_tie hP hD rfl
    refine lv_aload_n hx hb d_Tree_stepFrom_29 rfl (lv_at hl 1 rfl) ?_
    refine va_get (D := G.1) (ci := 3) (v := .ref b12) (C := R_Tree) (T := F_Tree) (N := 11) hx hb hts i_Tree hown hK hP 0 rfl rfl 9 (by decide) (hts _ q115) (fun _ h9 => h9) rfl d_Tree_stepFrom_30 ?_
    refine lv_iload_n hx hb d_Tree_stepFrom_33 rfl (lv_at hl 0 rfl) ?_
    refine va_iald hx hb hK hP 7 0 rfl rfl (zI.inn hv_3 (by decide)) d_Tree_stepFrom_34 ?_
    refine lv_topi (fun v_23 ev_23 => ?_)
    obtain rfl : b5 = v_23 := gf_22.symm.trans ev_23.symm
    exact z_iret hx hb hr hlocks hP hD hS (Nat.le_of_ble_eq_true rfl) (Nat.le_of_ble_eq_true rfl) d_Tree_stepFrom_35 ⟨b5, x_12, f_13, f_14, f_15, f_16, f_17, f_18, f_22, rfl, rfl, (zI.wk (l' := 0) (h' := 240) hv_1 (by decide)), hx_12, hf_13, hf_14, hf_22, (by omega), (by omega), (by have _l0 := li_0; have _l1 := li_m1; have _l2 := li_10; have p9 := z_pl hv_3 (by decide); intro q hq; rw [uf_22, z_at]; split; omega; have := hfx_21 q (by omega); omega), (by omega)⟩
theorem d_Tree_follow_0 : decode prog_11_method_4_code 0 = .ok (.aload_n 0, 1) := by decide +kernel
theorem d_Tree_follow_1 : decode prog_11_method_4_code 1 = .ok (.getfield 44, 3) := by decide +kernel
theorem d_Tree_follow_4 : decode prog_11_method_4_code 4 = .ok (.ifCond .ne 10, 3) := by decide +kernel
theorem d_Tree_follow_7 : decode prog_11_method_4_code 7 = .ok (.aload_n 0, 1) := by decide +kernel
theorem d_Tree_follow_8 : decode prog_11_method_4_code 8 = .ok (.iconst (-1), 1) := by decide +kernel
theorem d_Tree_follow_9 : decode prog_11_method_4_code 9 = .ok (.iconst (-1), 1) := by decide +kernel
theorem d_Tree_follow_10 : decode prog_11_method_4_code 10 = .ok (.invokevirtual 56, 3) := by decide +kernel
theorem d_Tree_follow_13 : decode prog_11_method_4_code 13 = .ok (.pop, 1) := by decide +kernel
theorem d_Tree_follow_14 : decode prog_11_method_4_code 14 = .ok (.iconst 0, 1) := by decide +kernel
theorem d_Tree_follow_15 : decode prog_11_method_4_code 15 = .ok (.istore_n 3, 1) := by decide +kernel
theorem d_Tree_follow_16 : decode prog_11_method_4_code 16 = .ok (.aload_n 1, 1) := by decide +kernel
theorem d_Tree_follow_17 : decode prog_11_method_4_code 17 = .ok (.getfield 60, 3) := by decide +kernel
theorem d_Tree_follow_20 : decode prog_11_method_4_code 20 = .ok (.iload_n 2, 1) := by decide +kernel
theorem d_Tree_follow_21 : decode prog_11_method_4_code 21 = .ok (.iaload, 1) := by decide +kernel
theorem d_Tree_follow_22 : decode prog_11_method_4_code 22 = .ok (.istore 4, 2) := by decide +kernel
theorem d_Tree_follow_24 : decode prog_11_method_4_code 24 = .ok (.aload_n 0, 1) := by decide +kernel
theorem d_Tree_follow_25 : decode prog_11_method_4_code 25 = .ok (.getfield 33, 3) := by decide +kernel
theorem d_Tree_follow_28 : decode prog_11_method_4_code 28 = .ok (.iload_n 2, 1) := by decide +kernel
theorem d_Tree_follow_29 : decode prog_11_method_4_code 29 = .ok (.bipush 13, 2) := by decide +kernel
theorem d_Tree_follow_31 : decode prog_11_method_4_code 31 = .ok (.imul, 1) := by decide +kernel
theorem d_Tree_follow_32 : decode prog_11_method_4_code 32 = .ok (.iload_n 3, 1) := by decide +kernel
theorem d_Tree_follow_33 : decode prog_11_method_4_code 33 = .ok (.iastore, 1) := by decide +kernel
theorem d_Tree_follow_34 : decode prog_11_method_4_code 34 = .ok (.aload_n 0, 1) := by decide +kernel
theorem d_Tree_follow_35 : decode prog_11_method_4_code 35 = .ok (.getfield 18, 3) := by decide +kernel
theorem d_Tree_follow_38 : decode prog_11_method_4_code 38 = .ok (.iload_n 3, 1) := by decide +kernel
theorem d_Tree_follow_39 : decode prog_11_method_4_code 39 = .ok (.dup2, 1) := by decide +kernel
theorem d_Tree_follow_40 : decode prog_11_method_4_code 40 = .ok (.iaload, 1) := by decide +kernel
theorem d_Tree_follow_41 : decode prog_11_method_4_code 41 = .ok (.iconst 1, 1) := by decide +kernel
theorem d_Tree_follow_42 : decode prog_11_method_4_code 42 = .ok (.iadd, 1) := by decide +kernel
theorem d_Tree_follow_43 : decode prog_11_method_4_code 43 = .ok (.iastore, 1) := by decide +kernel
theorem d_Tree_follow_44 : decode prog_11_method_4_code 44 = .ok (.iconst 0, 1) := by decide +kernel
theorem d_Tree_follow_45 : decode prog_11_method_4_code 45 = .ok (.istore 5, 2) := by decide +kernel
theorem d_Tree_follow_47 : decode prog_11_method_4_code 47 = .ok (.iload 5, 2) := by decide +kernel
theorem d_Tree_follow_49 : decode prog_11_method_4_code 49 = .ok (.iload 4, 2) := by decide +kernel
theorem d_Tree_follow_51 : decode prog_11_method_4_code 51 = .ok (.if_icmp .ge 90, 3) := by decide +kernel
theorem d_Tree_follow_54 : decode prog_11_method_4_code 54 = .ok (.aload_n 0, 1) := by decide +kernel
theorem d_Tree_follow_55 : decode prog_11_method_4_code 55 = .ok (.iload_n 3, 1) := by decide +kernel
theorem d_Tree_follow_56 : decode prog_11_method_4_code 56 = .ok (.aload_n 1, 1) := by decide +kernel
theorem d_Tree_follow_57 : decode prog_11_method_4_code 57 = .ok (.iload_n 2, 1) := by decide +kernel
theorem d_Tree_follow_58 : decode prog_11_method_4_code 58 = .ok (.iload 5, 2) := by decide +kernel
theorem d_Tree_follow_60 : decode prog_11_method_4_code 60 = .ok (.invokevirtual 63, 3) := by decide +kernel
theorem d_Tree_follow_63 : decode prog_11_method_4_code 63 = .ok (.invokevirtual 66, 3) := by decide +kernel
theorem d_Tree_follow_66 : decode prog_11_method_4_code 66 = .ok (.istore_n 3, 1) := by decide +kernel
theorem d_Tree_follow_67 : decode prog_11_method_4_code 67 = .ok (.aload_n 0, 1) := by decide +kernel
theorem d_Tree_follow_68 : decode prog_11_method_4_code 68 = .ok (.getfield 33, 3) := by decide +kernel
theorem d_Tree_follow_71 : decode prog_11_method_4_code 71 = .ok (.iload_n 2, 1) := by decide +kernel
theorem d_Tree_follow_72 : decode prog_11_method_4_code 72 = .ok (.bipush 13, 2) := by decide +kernel
theorem d_Tree_follow_74 : decode prog_11_method_4_code 74 = .ok (.imul, 1) := by decide +kernel
theorem d_Tree_follow_75 : decode prog_11_method_4_code 75 = .ok (.iload 5, 2) := by decide +kernel
theorem d_Tree_follow_77 : decode prog_11_method_4_code 77 = .ok (.iadd, 1) := by decide +kernel
theorem d_Tree_follow_78 : decode prog_11_method_4_code 78 = .ok (.iconst 1, 1) := by decide +kernel
theorem d_Tree_follow_79 : decode prog_11_method_4_code 79 = .ok (.iadd, 1) := by decide +kernel
theorem d_Tree_follow_80 : decode prog_11_method_4_code 80 = .ok (.iload_n 3, 1) := by decide +kernel
theorem d_Tree_follow_81 : decode prog_11_method_4_code 81 = .ok (.iastore, 1) := by decide +kernel
theorem d_Tree_follow_82 : decode prog_11_method_4_code 82 = .ok (.aload_n 0, 1) := by decide +kernel
theorem d_Tree_follow_83 : decode prog_11_method_4_code 83 = .ok (.getfield 18, 3) := by decide +kernel
theorem d_Tree_follow_86 : decode prog_11_method_4_code 86 = .ok (.iload_n 3, 1) := by decide +kernel
theorem d_Tree_follow_87 : decode prog_11_method_4_code 87 = .ok (.dup2, 1) := by decide +kernel
theorem d_Tree_follow_88 : decode prog_11_method_4_code 88 = .ok (.iaload, 1) := by decide +kernel
theorem d_Tree_follow_89 : decode prog_11_method_4_code 89 = .ok (.iconst 1, 1) := by decide +kernel
theorem d_Tree_follow_90 : decode prog_11_method_4_code 90 = .ok (.iadd, 1) := by decide +kernel
theorem d_Tree_follow_91 : decode prog_11_method_4_code 91 = .ok (.iastore, 1) := by decide +kernel
theorem d_Tree_follow_92 : decode prog_11_method_4_code 92 = .ok (.aload_n 1, 1) := by decide +kernel
theorem d_Tree_follow_93 : decode prog_11_method_4_code 93 = .ok (.iload_n 2, 1) := by decide +kernel
theorem d_Tree_follow_94 : decode prog_11_method_4_code 94 = .ok (.iload 5, 2) := by decide +kernel
theorem d_Tree_follow_96 : decode prog_11_method_4_code 96 = .ok (.invokevirtual 69, 3) := by decide +kernel
theorem d_Tree_follow_99 : decode prog_11_method_4_code 99 = .ok (.istore 6, 2) := by decide +kernel
theorem d_Tree_follow_101 : decode prog_11_method_4_code 101 = .ok (.aload_n 0, 1) := by decide +kernel
theorem d_Tree_follow_102 : decode prog_11_method_4_code 102 = .ok (.getfield 24, 3) := by decide +kernel
theorem d_Tree_follow_105 : decode prog_11_method_4_code 105 = .ok (.iload_n 3, 1) := by decide +kernel
theorem d_Tree_follow_106 : decode prog_11_method_4_code 106 = .ok (.aload_n 0, 1) := by decide +kernel
theorem d_Tree_follow_107 : decode prog_11_method_4_code 107 = .ok (.getfield 24, 3) := by decide +kernel
theorem d_Tree_follow_110 : decode prog_11_method_4_code 110 = .ok (.iload_n 3, 1) := by decide +kernel
theorem d_Tree_follow_111 : decode prog_11_method_4_code 111 = .ok (.iaload, 1) := by decide +kernel
theorem d_Tree_follow_112 : decode prog_11_method_4_code 112 = .ok (.iload 6, 2) := by decide +kernel
theorem d_Tree_follow_114 : decode prog_11_method_4_code 114 = .ok (.invokestatic 72, 3) := by decide +kernel
theorem d_Tree_follow_117 : decode prog_11_method_4_code 117 = .ok (.iastore, 1) := by decide +kernel
theorem d_Tree_follow_118 : decode prog_11_method_4_code 118 = .ok (.aload_n 0, 1) := by decide +kernel
theorem d_Tree_follow_119 : decode prog_11_method_4_code 119 = .ok (.getfield 27, 3) := by decide +kernel
theorem d_Tree_follow_122 : decode prog_11_method_4_code 122 = .ok (.iload_n 3, 1) := by decide +kernel
theorem d_Tree_follow_123 : decode prog_11_method_4_code 123 = .ok (.aload_n 0, 1) := by decide +kernel
theorem d_Tree_follow_124 : decode prog_11_method_4_code 124 = .ok (.getfield 27, 3) := by decide +kernel
theorem d_Tree_follow_127 : decode prog_11_method_4_code 127 = .ok (.iload_n 3, 1) := by decide +kernel
theorem d_Tree_follow_128 : decode prog_11_method_4_code 128 = .ok (.iaload, 1) := by decide +kernel
theorem d_Tree_follow_129 : decode prog_11_method_4_code 129 = .ok (.iload 6, 2) := by decide +kernel
theorem d_Tree_follow_131 : decode prog_11_method_4_code 131 = .ok (.invokestatic 77, 3) := by decide +kernel
theorem d_Tree_follow_134 : decode prog_11_method_4_code 134 = .ok (.iastore, 1) := by decide +kernel
theorem d_Tree_follow_135 : decode prog_11_method_4_code 135 = .ok (.iinc 5 1, 3) := by decide +kernel
theorem d_Tree_follow_138 : decode prog_11_method_4_code 138 = .ok (.goto (-91), 3) := by decide +kernel
theorem d_Tree_follow_141 : decode prog_11_method_4_code 141 = .ok (.aload_n 0, 1) := by decide +kernel
theorem d_Tree_follow_142 : decode prog_11_method_4_code 142 = .ok (.getfield 21, 3) := by decide +kernel
theorem d_Tree_follow_145 : decode prog_11_method_4_code 145 = .ok (.iload_n 3, 1) := by decide +kernel
theorem d_Tree_follow_146 : decode prog_11_method_4_code 146 = .ok (.dup2, 1) := by decide +kernel
theorem d_Tree_follow_147 : decode prog_11_method_4_code 147 = .ok (.iaload, 1) := by decide +kernel
theorem d_Tree_follow_148 : decode prog_11_method_4_code 148 = .ok (.iconst 1, 1) := by decide +kernel
theorem d_Tree_follow_149 : decode prog_11_method_4_code 149 = .ok (.iadd, 1) := by decide +kernel
theorem d_Tree_follow_150 : decode prog_11_method_4_code 150 = .ok (.iastore, 1) := by decide +kernel
theorem d_Tree_follow_151 : decode prog_11_method_4_code 151 = .ok (.return_, 1) := by decide +kernel
abbrev m_s4_Tree_addPrefix : Room := { frames := 0, cells := 0, slots := 0, locals := 0 }
set_option maxHeartbeats 4000000 in
set_option maxRecDepth 100000 in
theorem s4_Tree_addPrefix (l : Launch) (G : zG) (b0 : Nat) (b1 : Int32) (b2 : Int32) (b3 : Int32) (b4 : Nat) (b5 : Nat) (b6 : Nat) (b7 : Nat) (b8 : Nat) (b9 : Nat) (b10 : Nat) (b11 : Nat) (b12 : Nat → Int32) (b13 : Nat → Int32) (b14 : Nat → Int32) (b15 : Nat → Int32) (b16 : Nat → Int32) (b17 : Nat → Int32) (b18 : Nat → Int32) (hb1 : zI b1 0 1) (hb3 : zI b3 0 241) (hb12 : zR1 b12 0 240) (hb13 : zR1 b13 0 9) (hb18 : zR b18 (-1) 240) (hap : b3.toInt = 0) : zM l G y_Tree_addPrefix prog_11_method_6_code 5 (Option.some Jvm.ClassFile.FieldType.int) m_s4_Tree_addPrefix [.ref b0, .int (-1), .int (-1)] [(b0, .inr (3, [.int b1, .int b2, .int b3, .ref b4, .ref b5, .ref b6, .ref b7, .ref b8, .ref b9, .ref b10, .ref b11])), (b4, .inl (G.2 0, 241, .inl b12)), (b5, .inl (G.2 0, 241, .inl b13)), (b6, .inl (G.2 0, 241, .inl b14)), (b7, .inl (G.2 0, 241, .inl b15)), (b8, .inl (G.2 0, 241, .inl b16)), (b9, .inl (G.2 0, 241, .inl b17)), (b10, .inl (G.2 0, 2410, .inl b18))] (fun v w => ∃ (e0 : Nat → Int32), ∃ (e1 : Nat → Int32), ∃ (e2 : Nat → Int32), ∃ (e3 : Nat → Int32), ∃ (e4 : Nat → Int32), ∃ (e5 : Nat → Int32), ∃ (e6 : Nat → Int32), v = some (.int 0) ∧ w = [(b0, .inr (3, [.int b1, .int b2, .int 1, .ref b4, .ref b5, .ref b6, .ref b7, .ref b8, .ref b9, .ref b10, .ref b11])), (b4, .inl (G.2 0, 241, .inl e0)), (b5, .inl (G.2 0, 241, .inl e1)), (b6, .inl (G.2 0, 241, .inl e2)), (b7, .inl (G.2 0, 241, .inl e3)), (b8, .inl (G.2 0, 241, .inl e4)), (b9, .inl (G.2 0, 241, .inl e5)), (b10, .inl (G.2 0, 2410, .inl e6))] ∧ (zR1 e0 0 240) ∧ (zR1 e1 0 9) ∧ (zR e6 (-1) 240) ∧ (zLo e6 (10 * (1 : Int32).toInt) (1 : Int32).toInt)) := by
  refine z_start (by decide +kernel) (Nat.le_of_ble_eq_true rfl) ?_
  intro p e s m below meth c A Z hr hnm hA hP hD hS ls hl
  have Z : zC p s m _ meth c prog_11_method_6_code 5 "TraceMachines$Tree" G := Z
  obtain ⟨hx, hb, hml, hown, hts, hK, hN, hlocks⟩ := id Z
  have hl : lv_has ls 5 [(0, .ref b0), (1, .int (-1)), (2, .int (-1))] := hl
  obtain rfl : b3 = 0 := by rw [fa_eq, li_0]; omega
  refine lv_aload_n hx hb d_Tree_addPrefix_0 rfl (lv_at hl 0 rfl) ?_
  refine va_get (D := G.1) (ci := 3) (v := .int 0) (C := R_Tree) (T := F_Tree) (N := 11) hx hb hts i_Tree hown hK hP 0 rfl rfl 2 (by decide) (hts _ q100) (fun _ h9 => h9) rfl d_Tree_addPrefix_1 ?_
  refine lv_istore_n (lv' := [(3, .int 0), (0, .ref b0), (1, .int (-1)), (2, .int (-1))]) hx hb d_Tree_addPrefix_4 rfl hl (by decide) rfl (fun ls hl => ?_)
  refine lv_aload_n hx hb d_Tree_addPrefix_5 rfl (lv_at hl 1 rfl) ?_
  refine lv_dup hx hb d_Tree_addPrefix_6 rfl ?_
  refine va_get (D := G.1) (ci := 3) (v := .int 0) (C := R_Tree) (T := F_Tree) (N := 11) hx hb hts i_Tree hown hK hP 0 rfl rfl 2 (by decide) (hts _ q100) (fun _ h9 => h9) rfl d_Tree_addPrefix_7 ?_
  refine lv_iconst (v := 1) hx hb d_Tree_addPrefix_10 (by decide) ?_
  refine lv_iadd hx hb d_Tree_addPrefix_11 ?_
  refine z_topi (y := 1) (by decide +kernel) ?_
  refine va_put (D := G.1) (ci := 3) (v := .int 1) (ty := .int) (C := R_Tree) (T := F_Tree) (N := 11) hx hb hts i_Tree t_Tree t_Tree_ok n_Tree hown hK hP hD hS 0 rfl rfl 2 (by decide) (hts _ q100) (fun _ h9 => h9) rfl (by decide +kernel) rfl rfl (Nat.le_of_ble_eq_true rfl) d_Tree_addPrefix_12 (fun H locs hP hD hS => ?_)
  have hP : va_P G.1 classes [(b0, .inr (3, [.int b1, .int b2, .int 1, .ref b4, .ref b5, .ref b6, .ref b7, .ref b8, .ref b9, .ref b10, .ref b11])), (b4, .inl (G.2 0, 241, .inl b12)), (b5, .inl (G.2 0, 241, .inl b13)), (b6, .inl (G.2 0, 241, .inl b14)), (b7, .inl (G.2 0, 241, .inl b15)), (b8, .inl (G.2 0, 241, .inl b16)), (b9, .inl (G.2 0, 241, .inl b17)), (b10, .inl (G.2 0, 2410, .inl b18))] H := hP
  have hD := z_tie hP hD rfl
  refine lv_aload_n hx hb d_Tree_addPrefix_15 rfl (lv_at hl 1 rfl) ?_
  refine va_get (D := G.1) (ci := 3) (v := .ref b4) (C := R_Tree) (T := F_Tree) (N := 11) hx hb hts i_Tree hown hK hP 0 rfl rfl 3 (by decide) (hts _ q103) (fun _ h9 => h9) rfl d_Tree_addPrefix_16 ?_
  refine lv_iload_n hx hb d_Tree_addPrefix_19 rfl (lv_at hl 0 rfl) ?_
  refine lv_iload_n hx hb d_Tree_addPrefix_20 rfl (lv_at hl 2 rfl) ?_
  refine va_iast hx hb hK hP hD hS 1 0 rfl rfl (i := 0) (z_in rfl) d_Tree_addPrefix_21 (fun H locs hP hD hS => ?_)
  obtain ⟨f_1, hf_1, gf_1, uf_1, hP, hD⟩ := z_newfo 1 hP hD rfl hb12 (Or.inl (by decide))
  have hP : va_P G.1 classes [(b0, .inr (3, [.int b1, .int b2, .int 1, .ref b4, .ref b5, .ref b6, .ref b7, .ref b8, .ref b9, .ref b10, .ref b11])), (b4, .inl (G.2 0, 241, .inl f_1)), (b5, .inl (G.2 0, 241, .inl b13)), (b6, .inl (G.2 0, 241, .inl b14)), (b7, .inl (G.2 0, 241, .inl b15)), (b8, .inl (G.2 0, 241, .inl b16)), (b9, .inl (G.2 0, 241, .inl b17)), (b10, .inl (G.2 0, 2410, .inl b18))] H := hP
  have hD := z_tie hP hD rfl
  refine lv_aload_n hx hb d_Tree_addPrefix_22 rfl (lv_at hl 1 rfl) ?_
  refine va_get (D := G.1) (ci := 3) (v := .ref b5) (C := R_Tree) (T := F_Tree) (N := 11) hx hb hts i_Tree hown hK hP 0 rfl rfl 4 (by decide) (hts _ q105) (fun _ h9 => h9) rfl d_Tree_addPrefix_23 ?_
  refine lv_iload_n hx hb d_Tree_addPrefix_26 rfl (lv_at hl 0 rfl) ?_
  refine lv_iload_n hx hb d_Tree_addPrefix_27 rfl (lv_at hl 3 rfl) ?_
  refine va_iast hx hb hK hP hD hS 2 0 rfl rfl (i := 0) (z_in rfl) d_Tree_addPrefix_28 (fun H locs hP hD hS => ?_)
  obtain ⟨f_2, hf_2, gf_2, uf_2, hP, hD⟩ := z_newfo 2 hP hD rfl hb13 (Or.inl (by decide))
  have hP : va_P G.1 classes [(b0, .inr (3, [.int b1, .int b2, .int 1, .ref b4, .ref b5, .ref b6, .ref b7, .ref b8, .ref b9, .ref b10, .ref b11])), (b4, .inl (G.2 0, 241, .inl f_1)), (b5, .inl (G.2 0, 241, .inl f_2)), (b6, .inl (G.2 0, 241, .inl b14)), (b7, .inl (G.2 0, 241, .inl b15)), (b8, .inl (G.2 0, 241, .inl b16)), (b9, .inl (G.2 0, 241, .inl b17)), (b10, .inl (G.2 0, 2410, .inl b18))] H := hP
  have hD := z_tie hP hD rfl
  refine lv_aload_n hx hb d_Tree_addPrefix_29 rfl (lv_at hl 1 rfl) ?_
  refine va_get (D := G.1) (ci := 3) (v := .ref b6) (C := R_Tree) (T := F_Tree) (N := 11) hx hb hts i_Tree hown hK hP 0 rfl rfl 5 (by decide) (hts _ q107) (fun _ h9 => h9) rfl d_Tree_addPrefix_30 ?_
  refine lv_iload_n hx hb d_Tree_addPrefix_33 rfl (lv_at hl 0 rfl) ?_
  refine lv_iconst (v := 0) hx hb d_Tree_addPrefix_34 (by decide) ?_
  refine va_iast hx hb hK hP hD hS 3 0 rfl rfl (i := 0) (z_in rfl) d_Tree_addPrefix_35 (fun H locs hP hD hS => ?_)
  obtain ⟨f_3, gf_3, uf_3, hP, hD⟩ := z_newFu 3 hP hD rfl
  have hP : va_P G.1 classes [(b0, .inr (3, [.int b1, .int b2, .int 1, .ref b4, .ref b5, .ref b6, .ref b7, .ref b8, .ref b9, .ref b10, .ref b11])), (b4, .inl (G.2 0, 241, .inl f_1)), (b5, .inl (G.2 0, 241, .inl f_2)), (b6, .inl (G.2 0, 241, .inl f_3)), (b7, .inl (G.2 0, 241, .inl b15)), (b8, .inl (G.2 0, 241, .inl b16)), (b9, .inl (G.2 0, 241, .inl b17)), (b10, .inl (G.2 0, 2410, .inl b18))] H := hP
  have hD := z_tie hP hD rfl
  refine lv_aload_n hx hb d_Tree_addPrefix_36 rfl (lv_at hl 1 rfl) ?_
  refine va_get (D := G.1) (ci := 3) (v := .ref b7) (C := R_Tree) (T := F_Tree) (N := 11) hx hb hts i_Tree hown hK hP 0 rfl rfl 6 (by decide) (hts _ q109) (fun _ h9 => h9) rfl d_Tree_addPrefix_37 ?_
  refine lv_iload_n hx hb d_Tree_addPrefix_40 rfl (lv_at hl 0 rfl) ?_
  refine lv_iconst (v := 0) hx hb d_Tree_addPrefix_41 (by decide) ?_
  refine va_iast hx hb hK hP hD hS 4 0 rfl rfl (i := 0) (z_in rfl) d_Tree_addPrefix_42 (fun H locs hP hD hS => ?_)
  obtain ⟨f_4, gf_4, uf_4, hP, hD⟩ := z_newFu 4 hP hD rfl
  have hP : va_P G.1 classes [(b0, .inr (3, [.int b1, .int b2, .int 1, .ref b4, .ref b5, .ref b6, .ref b7, .ref b8, .ref b9, .ref b10, .ref b11])), (b4, .inl (G.2 0, 241, .inl f_1)), (b5, .inl (G.2 0, 241, .inl f_2)), (b6, .inl (G.2 0, 241, .inl f_3)), (b7, .inl (G.2 0, 241, .inl f_4)), (b8, .inl (G.2 0, 241, .inl b16)), (b9, .inl (G.2 0, 241, .inl b17)), (b10, .inl (G.2 0, 2410, .inl b18))] H := hP
  have hD := z_tie hP hD rfl
  refine lv_aload_n hx hb d_Tree_addPrefix_43 rfl (lv_at hl 1 rfl) ?_
  refine va_get (D := G.1) (ci := 3) (v := .ref b8) (C := R_Tree) (T := F_Tree) (N := 11) hx hb hts i_Tree hown hK hP 0 rfl rfl 7 (by decide) (hts _ q111) (fun _ h9 => h9) rfl d_Tree_addPrefix_44 ?_
  refine lv_iload_n hx hb d_Tree_addPrefix_47 rfl (lv_at hl 0 rfl) ?_
  refine lv_bipush (v := 99) hx hb d_Tree_addPrefix_48 (by decide) ?_
  refine va_iast hx hb hK hP hD hS 5 0 rfl rfl (i := 0) (z_in rfl) d_Tree_addPrefix_50 (fun H locs hP hD hS => ?_)
  obtain ⟨f_5, gf_5, uf_5, hP, hD⟩ := z_newFu 5 hP hD rfl
  have hP : va_P G.1 classes [(b0, .inr (3, [.int b1, .int b2, .int 1, .ref b4, .ref b5, .ref b6, .ref b7, .ref b8, .ref b9, .ref b10, .ref b11])), (b4, .inl (G.2 0, 241, .inl f_1)), (b5, .inl (G.2 0, 241, .inl f_2)), (b6, .inl (G.2 0, 241, .inl f_3)), (b7, .inl (G.2 0, 241, .inl f_4)), (b8, .inl (G.2 0, 241, .inl f_5)), (b9, .inl (G.2 0, 241, .inl b17)), (b10, .inl (G.2 0, 2410, .inl b18))] H := hP
  have hD := z_tie hP hD rfl
  refine lv_aload_n hx hb d_Tree_addPrefix_51 rfl (lv_at hl 1 rfl) ?_
  refine va_get (D := G.1) (ci := 3) (v := .ref b9) (C := R_Tree) (T := F_Tree) (N := 11) hx hb hts i_Tree hown hK hP 0 rfl rfl 8 (by decide) (hts _ q113) (fun _ h9 => h9) rfl d_Tree_addPrefix_52 ?_
  refine lv_iload_n hx hb d_Tree_addPrefix_55 rfl (lv_at hl 0 rfl) ?_
  refine lv_iconst (v := 0) hx hb d_Tree_addPrefix_56 (by decide) ?_
  refine va_iast hx hb hK hP hD hS 6 0 rfl rfl (i := 0) (z_in rfl) d_Tree_addPrefix_57 (fun H locs hP hD hS => ?_)
  obtain ⟨f_6, gf_6, uf_6, hP, hD⟩ := z_newFu 6 hP hD rfl
  have hP : va_P G.1 classes [(b0, .inr (3, [.int b1, .int b2, .int 1, .ref b4, .ref b5, .ref b6, .ref b7, .ref b8, .ref b9, .ref b10, .ref b11])), (b4, .inl (G.2 0, 241, .inl f_1)), (b5, .inl (G.2 0, 241, .inl f_2)), (b6, .inl (G.2 0, 241, .inl f_3)), (b7, .inl (G.2 0, 241, .inl f_4)), (b8, .inl (G.2 0, 241, .inl f_5)), (b9, .inl (G.2 0, 241, .inl f_6)), (b10, .inl (G.2 0, 2410, .inl b18))] H := hP
  have hD := z_tie hP hD rfl
  refine lv_iconst (v := 0) hx hb d_Tree_addPrefix_58 (by decide) ?_
  refine lv_istore (lv' := [(4, .int 0), (3, .int 0), (0, .ref b0), (1, .int (-1)), (2, .int (-1))]) hx hb d_Tree_addPrefix_59 hl (by decide) rfl (fun ls hl => ?_)
  suffices key : ∀ (k_17 : Nat) (y_18 : Int32) (y_19 : Nat → Int32) (H : Heap) (locs : List Loc) (ls : Array Slot), (zI y_18 0 10) → (zR y_19 (-1) 240) → (zLo y_19 (10 * (0 : Int32).toInt + (y_18 : Int32).toInt) ((0 : Int32).toInt + 1)) → (10 : Int) - y_18.toInt < (k_17 : Int) → va_P G.1 classes [(b0, .inr (3, [.int b1, .int b2, .int 1, .ref b4, .ref b5, .ref b6, .ref b7, .ref b8, .ref b9, .ref b10, .ref b11])), (b4, .inl (G.2 0, 241, .inl f_1)), (b5, .inl (G.2 0, 241, .inl f_2)), (b6, .inl (G.2 0, 241, .inl f_3)), (b7, .inl (G.2 0, 241, .inl f_4)), (b8, .inl (G.2 0, 241, .inl f_5)), (b9, .inl (G.2 0, 241, .inl f_6)), (b10, .inl (G.2 0, 2410, .inl y_19))] H → va_D A [(b0, .inr (3, [.int b1, .int b2, .int 1, .ref b4, .ref b5, .ref b6, .ref b7, .ref b8, .ref b9, .ref b10, .ref b11])), (b4, .inl (G.2 0, 241, .inl f_1)), (b5, .inl (G.2 0, 241, .inl f_2)), (b6, .inl (G.2 0, 241, .inl f_3)), (b7, .inl (G.2 0, 241, .inl f_4)), (b8, .inl (G.2 0, 241, .inl f_5)), (b9, .inl (G.2 0, 241, .inl f_6)), (b10, .inl (G.2 0, 2410, .inl y_19))] → va_S A s.heap H locs → lv_has ls 5 [(4, .int y_18), (3, .int 0), (0, .ref b0), (1, .int (-1)), (2, .int (-1))] → W p l e m_s4_Tree_addPrefix s m ([.ref b0, .int (-1), .int (-1)] : List Value).toArray below meth c H locs 0 0 (MQ below (zQ G (fun v w => ∃ (e0 : Nat → Int32), ∃ (e1 : Nat → Int32), ∃ (e2 : Nat → Int32), ∃ (e3 : Nat → Int32), ∃ (e4 : Nat → Int32), ∃ (e5 : Nat → Int32), ∃ (e6 : Nat → Int32), v = some (.int 0) ∧ w = [(b0, .inr (3, [.int b1, .int b2, .int 1, .ref b4, .ref b5, .ref b6, .ref b7, .ref b8, .ref b9, .ref b10, .ref b11])), (b4, .inl (G.2 0, 241, .inl e0)), (b5, .inl (G.2 0, 241, .inl e1)), (b6, .inl (G.2 0, 241, .inl e2)), (b7, .inl (G.2 0, 241, .inl e3)), (b8, .inl (G.2 0, 241, .inl e4)), (b9, .inl (G.2 0, 241, .inl e5)), (b10, .inl (G.2 0, 2410, .inl e6))] ∧ (zR1 e0 0 240) ∧ (zR1 e1 0 9) ∧ (zR e6 (-1) 240) ∧ (zLo e6 (10 * (1 : Int32).toInt) (1 : Int32).toInt)) A) ([.ref b0, .int (-1), .int (-1)] : List Value).toArray s m_s4_Tree_addPrefix.cells m_s4_Tree_addPrefix.slots A) (F0 m 61 ls []) by
    exact key 11 (0) (b18) _ _ _ (zI.wk (l' := 0) (h' := 10) zc_0 (by decide)) hb18 (by have _l0 := li_0; intro q hq; omega) (zm_upi (zI.wk (l' := 0) (h' := 10) zc_0 (by decide)) (by decide)) hP hD hS (lv_sub hl [0, 1, 2, 3, 4] rfl)
  intro k_17
  induction k_17 with
  | zero =>
    intro y_18 y_19 H locs ls hy_18 hy_19 hli_20 hmk_17 hP hD hS hl
    exact (zm_up0 hy_18 hmk_17).elim
  | succ k_17 ihk_17 =>
    intro y_18 y_19 H locs ls hy_18 hy_19 hli_20 hmk_17 hP hD hS hl
    refine lv_iload hx hb d_Tree_addPrefix_61 (lv_at hl 0 rfl) ?_
    refine lv_bipush (v := 10) hx hb d_Tree_addPrefix_63 (by decide) ?_
    refine lv_icmp_ge (tgt := 87) hx hb d_Tree_addPrefix_65 (by decide) (fun hc_21 => ?_) (fun hc_21 => ?_)
    · have _nhc_21 := hc_21
      have ni_22 := (fa_le _ _).mp hc_21
      rw [li_10] at ni_22
      have hv_23 : zI y_18 10 10 := zI.le_r zc_10 hy_18 hc_21 (by decide)
      refine lv_iload_n hx hb d_Tree_addPrefix_87 rfl (lv_at hl 1 rfl) ?_
      exact z_iret hx hb hr hlocks hP hD hS (Nat.le_of_ble_eq_true rfl) (Nat.le_of_ble_eq_true rfl) d_Tree_addPrefix_88 ⟨f_1, f_2, f_3, f_4, f_5, f_6, y_19, rfl, rfl, hf_1, hf_2, hy_19, (by have _l0 := li_0; have _l1 := li_1; have _l2 := li_10; intro q hq; have := hli_20 q (by omega); omega)⟩
    · have _nhc_21 := hc_21
      have ni_24 := (fa_lt _ _).mp (zi_nle hc_21)
      rw [li_10] at ni_24
      have hv_25 : zI y_18 0 9 := zI.lt_l hy_18 zc_10 (zi_nle hc_21) (by decide)
      refine lv_aload_n hx hb d_Tree_addPrefix_68 rfl (lv_at hl 2 rfl) ?_
      refine va_get (D := G.1) (ci := 3) (v := .ref b10) (C := R_Tree) (T := F_Tree) (N := 11) hx hb hts i_Tree hown hK hP 0 rfl rfl 9 (by decide) (hts _ q115) (fun _ h9 => h9) rfl d_Tree_addPrefix_69 ?_
      refine lv_iload_n hx hb d_Tree_addPrefix_72 rfl (lv_at hl 1 rfl) ?_
      refine lv_bipush (v := 10) hx hb d_Tree_addPrefix_73 (by decide) ?_
      refine lv_imul hx hb d_Tree_addPrefix_75 ?_
      refine z_topi (y := 0) (by decide +kernel) ?_
      refine lv_iload hx hb d_Tree_addPrefix_76 (lv_at hl 0 rfl) ?_
      refine lv_iadd hx hb d_Tree_addPrefix_78 ?_
      refine lv_topi (fun v_26 ev_26 => ?_)
      obtain ⟨qv_26, hv_26⟩ := zI_add (l := 0) (h := 9) zc_0 hv_25 ev_26 (by decide)
      rw [li_0] at qv_26
      refine lv_iconst (v := (-1)) hx hb d_Tree_addPrefix_79 (by decide) ?_
      refine va_iast hx hb hK hP hD hS 7 0 rfl rfl (zI.inn hv_26 (by decide)) d_Tree_addPrefix_80 (fun H locs hP hD hS => ?_)
      obtain ⟨f_27, hf_27, gf_27, uf_27, hP, hD⟩ := z_newfu 7 hP hD rfl hy_19 (zI.wk (l' := (-1)) (h' := 240) zc_m1 (by decide))
      have hP : va_P G.1 classes [(b0, .inr (3, [.int b1, .int b2, .int 1, .ref b4, .ref b5, .ref b6, .ref b7, .ref b8, .ref b9, .ref b10, .ref b11])), (b4, .inl (G.2 0, 241, .inl f_1)), (b5, .inl (G.2 0, 241, .inl f_2)), (b6, .inl (G.2 0, 241, .inl f_3)), (b7, .inl (G.2 0, 241, .inl f_4)), (b8, .inl (G.2 0, 241, .inl f_5)), (b9, .inl (G.2 0, 241, .inl f_6)), (b10, .inl (G.2 0, 2410, .inl f_27))] H := hP
      have hD := z_tie hP hD rfl
      obtain ⟨v_28, ev_28⟩ : ∃ z : Int32, z = y_18 + 1 := ⟨_, rfl⟩
      obtain ⟨qv_28, hv_28⟩ := zI_add (l := 1) (h := 10) hv_25 zc_1 ev_28 (by decide)
      rw [li_1] at qv_28
      refine lv_iinc (v := v_28) (lv' := [(4, .int v_28), (3, .int 0), (0, .ref b0), (1, .int (-1)), (2, .int (-1))]) hx hb d_Tree_addPrefix_81 hl (k := 0) rfl (by rw [ev_28]; rfl) (by decide) rfl (fun ls hl => ?_)
      refine lv_goto (tgt := 61) hx hb d_Tree_addPrefix_84 (by decide) ?_
      exact ihk_17 (v_28) (f_27) _ _ _ (zI.wk (l' := 0) (h' := 10) hv_28 (by decide)) hf_27 (by have _l0 := li_0; have _l1 := li_m1; have _l2 := li_10; have p9 := z_pl hv_26 (by decide); intro q hq; rw [uf_27, z_at]; split; omega; exact hli_20 q (by omega)) (zm_up qv_28 hmk_17 (by decide)) hP hD hS (lv_sub hl [0, 1, 2, 3, 4] rfl)
abbrev m_s1_Tree_follow : Room := { frames := 2, cells := 0, slots := 0, locals := 47 }
set_option maxHeartbeats 4000000 in
set_option maxRecDepth 100000 in
theorem s1_Tree_follow (l : Launch) (G : zG) (b0 : Nat) (b1 : Nat) (b2 : Int32) (b3 : Int32) (b4 : Int32) (b5 : Int32) (b6 : Nat) (b7 : Nat) (b8 : Nat) (b9 : Nat) (b10 : Nat) (b11 : Nat) (b12 : Nat) (b13 : Nat) (b14 : Nat → Int32) (b15 : Nat → Int32) (b16 : Nat → Int32) (b17 : Nat → Int32) (b18 : Nat → Int32) (b19 : Nat → Int32) (b20 : Nat → Int32) (b21 : Nat → Int32) (b22 : Int32) (b23 : Int32) (b24 : Int32) (b25 : Nat) (b26 : Nat) (b27 : Nat) (b28 : Nat → Int32) (b29 : Nat → Int32) (b30 : Nat → Int32) (hb2 : zI b2 0 19) (hb3 : zI b3 0 1) (hb5 : zI b5 0 241) (hb22 : zI b22 0 20) (hb23 : zI b23 0 3) (hb24 : zI b24 0 20) (hb14 : zR1 b14 0 240) (hb15 : zR1 b15 0 9) (hb20 : zR b20 (-1) 240) (hb21 : zqa qP b21) (hb28 : zR b28 0 12) (hb29 : zR b29 0 9) (hfo : b5.toInt ≤ 12 * b2.toInt + 1) (hlo : zLo b20 (10 * (b5 : Int32).toInt) (b5 : Int32).toInt) (htr : zTr (b2.toInt) (b4 : Int32).toInt (b5 : Int32).toInt b28 b21) : zM l G y_Tree_follow prog_11_method_4_code 7 (Option.none : Option Jvm.ClassFile.FieldType) m_s1_Tree_follow [.ref b0, .ref b1, .int b2] [(b0, .inr (3, [.int b3, .int b4, .int b5, .ref b6, .ref b7, .ref b8, .ref b9, .ref b10, .ref b11, .ref b12, .ref b13])), (b6, .inl (G.2 0, 241, .inl b14)), (b7, .inl (G.2 0, 241, .inl b15)), (b8, .inl (G.2 0, 241, .inl b16)), (b9, .inl (G.2 0, 241, .inl b17)), (b10, .inl (G.2 0, 241, .inl b18)), (b11, .inl (G.2 0, 241, .inl b19)), (b12, .inl (G.2 0, 2410, .inl b20)), (b13, .inl (G.2 0, 260, .inl b21)), (b1, .inr (2, [.int b22, .int b23, .int b24, .ref b25, .ref b26, .ref b27])), (b25, .inl (G.2 0, 20, .inl b28)), (b26, .inl (G.2 0, 240, .inl b29)), (b27, .inl (G.2 0, 240, .inl b30))] (fun v w => ∃ (e0 : Int32), ∃ (e1 : Nat → Int32), ∃ (e2 : Nat → Int32), ∃ (e3 : Nat → Int32), ∃ (e4 : Nat → Int32), ∃ (e5 : Nat → Int32), ∃ (e6 : Nat → Int32), ∃ (e7 : Nat → Int32), ∃ (e8 : Nat → Int32), v = none ∧ w = [(b0, .inr (3, [.int b3, .int b4, .int e0, .ref b6, .ref b7, .ref b8, .ref b9, .ref b10, .ref b11, .ref b12, .ref b13])), (b6, .inl (G.2 0, 241, .inl e1)), (b7, .inl (G.2 0, 241, .inl e2)), (b8, .inl (G.2 0, 241, .inl e3)), (b9, .inl (G.2 0, 241, .inl e4)), (b10, .inl (G.2 0, 241, .inl e5)), (b11, .inl (G.2 0, 241, .inl e6)), (b12, .inl (G.2 0, 2410, .inl e7)), (b13, .inl (G.2 0, 260, .inl e8)), (b1, .inr (2, [.int b22, .int b23, .int b24, .ref b25, .ref b26, .ref b27])), (b25, .inl (G.2 0, 20, .inl b28)), (b26, .inl (G.2 0, 240, .inl b29)), (b27, .inl (G.2 0, 240, .inl b30))] ∧ (zI e0 0 241) ∧ (zR1 e1 0 240) ∧ (zR1 e2 0 9) ∧ (zR e7 (-1) 240) ∧ (zqa qP e8) ∧ (e0.toInt ≤ 12 * b2.toInt + 13) ∧ (zLo e7 (10 * (e0 : Int32).toInt) (e0 : Int32).toInt) ∧ (zTr (b2.toInt + 1) (b4 : Int32).toInt (e0 : Int32).toInt b28 e8)) := by
  refine z_start (by decide +kernel) (Nat.le_of_ble_eq_true rfl) ?_
  intro p e s m below meth c A Z hr hnm hA hP hD hS ls hl
  have Z : zC p s m _ meth c prog_11_method_4_code 7 "TraceMachines$Tree" G := Z
  obtain ⟨hx, hb, hml, hown, hts, hK, hN, hlocks⟩ := id Z
  have hl : lv_has ls 7 [(0, .ref b0), (1, .ref b1), (2, .int b2)] := hl
  refine lv_aload_n hx hb d_Tree_follow_0 rfl (lv_at hl 0 rfl) ?_
  refine va_get (D := G.1) (ci := 3) (v := .int b5) (C := R_Tree) (T := F_Tree) (N := 11) hx hb hts i_Tree hown hK hP 0 rfl rfl 2 (by decide) (hts _ q100) (fun _ h9 => h9) rfl d_Tree_follow_1 ?_
  refine lv_if_ne (tgt := 14) hx hb d_Tree_follow_4 (by decide) (fun hc_1 => ?_) (fun hc_1 => ?_)
  · have _nhc_1 := hc_1
    have ni_2 : ¬ (b5 : Int32).toInt = (0 : Int32).toInt := fun z => hc_1 ((fa_eq _ _).mpr z)
    simp only [li_0] at ni_2
    have hv_3 : zI b5 1 241 := zI.ne_lo hb5 zc_0 hc_1 (by decide)
    refine lv_iconst (v := 0) hx hb d_Tree_follow_14 (by decide) ?_
    refine lv_istore_n (lv' := [(3, .int 0), (0, .ref b0), (1, .ref b1), (2, .int b2)]) hx hb d_Tree_follow_15 rfl hl (by decide) rfl (fun ls hl => ?_)
    refine lv_aload_n hx hb d_Tree_follow_16 rfl (lv_at hl 2 rfl) ?_
    refine va_get (D := G.1) (ci := 2) (v := .ref b25) (C := R_Traces) (T := F_Traces) (N := 6) hx hb hts i_Traces hown hK hP 9 rfl rfl 3 (by decide) (hts _ q68) (fun _ h9 => h9) rfl d_Tree_follow_17 ?_
    refine lv_iload_n hx hb d_Tree_follow_20 rfl (lv_at hl 3 rfl) ?_
    refine va_iald hx hb hK hP 10 0 rfl rfl (zI.inn hb2 (by decide)) d_Tree_follow_21 ?_
    refine lv_topi (fun v_4 ev_4 => ?_)
    have hv_4 : zI v_4 0 12 := (hb28 _).eq ev_4
    refine lv_istore (lv' := [(4, .int v_4), (3, .int 0), (0, .ref b0), (1, .ref b1), (2, .int b2)]) hx hb d_Tree_follow_22 hl (by decide) rfl (fun ls hl => ?_)
    refine lv_aload_n hx hb d_Tree_follow_24 rfl (lv_at hl 2 rfl) ?_
    refine va_get (D := G.1) (ci := 3) (v := .ref b13) (C := R_Tree) (T := F_Tree) (N := 11) hx hb hts i_Tree hown hK hP 0 rfl rfl 10 (by decide) (hts _ q116) (fun _ h9 => h9) rfl d_Tree_follow_25 ?_
    refine lv_iload_n hx hb d_Tree_follow_28 rfl (lv_at hl 4 rfl) ?_
    refine lv_bipush (v := 13) hx hb d_Tree_follow_29 (by decide) ?_
    refine lv_imul hx hb d_Tree_follow_31 ?_
    refine lv_topi (fun v_5 ev_5 => ?_)
    obtain ⟨qv_5, hv_5⟩ := zI_mul (l := 0) (h := 247) hb2 zc_13 ev_5 (by decide)
    rw [li_13] at qv_5
    refine lv_iload_n hx hb d_Tree_follow_32 rfl (lv_at hl 1 rfl) ?_
    refine va_iast hx hb hK hP hD hS 8 0 rfl rfl (zI.inn hv_5 (by decide)) d_Tree_follow_33 (fun H locs hP hD hS => ?_)
    obtain ⟨f_6, hf_6, gf_6, uf_6, hP, hD⟩ := z_newq_ (Q := qP) 8 hP hD rfl hb21 (qP_v hv_5 (by decide) ⟨⟨by have _w := li_0; have _x := hv_5; omega, by have _w := li_0; have _x := hv_5; omega⟩, by have _w := li_0; have _x := hv_5; omega⟩)
    have hP : va_P G.1 classes [(b0, .inr (3, [.int b3, .int b4, .int b5, .ref b6, .ref b7, .ref b8, .ref b9, .ref b10, .ref b11, .ref b12, .ref b13])), (b6, .inl (G.2 0, 241, .inl b14)), (b7, .inl (G.2 0, 241, .inl b15)), (b8, .inl (G.2 0, 241, .inl b16)), (b9, .inl (G.2 0, 241, .inl b17)), (b10, .inl (G.2 0, 241, .inl b18)), (b11, .inl (G.2 0, 241, .inl b19)), (b12, .inl (G.2 0, 2410, .inl b20)), (b13, .inl (G.2 0, 260, .inl f_6)), (b1, .inr (2, [.int b22, .int b23, .int b24, .ref b25, .ref b26, .ref b27])), (b25, .inl (G.2 0, 20, .inl b28)), (b26, .inl (G.2 0, 240, .inl b29)), (b27, .inl (G.2 0, 240, .inl b30))] H := hP
    have hD := z_tie hP hD rfl
    refine lv_aload_n hx hb d_Tree_follow_34 rfl (lv_at hl 2 rfl) ?_
    refine va_get (D := G.1) (ci := 3) (v := .ref b8) (C := R_Tree) (T := F_Tree) (N := 11) hx hb hts i_Tree hown hK hP 0 rfl rfl 5 (by decide) (hts _ q107) (fun _ h9 => h9) rfl d_Tree_follow_35 ?_
    refine lv_iload_n hx hb d_Tree_follow_38 rfl (lv_at hl 1 rfl) ?_
    refine lv_dup2_11 hx hb d_Tree_follow_39 rfl rfl ?_
    refine va_iald hx hb hK hP 3 0 rfl rfl (i := 0) (z_in rfl) d_Tree_follow_40 ?_
    refine lv_topi (fun v_7 ev_7 => ?_)
    refine lv_iconst (v := 1) hx hb d_Tree_follow_41 (by decide) ?_
    refine lv_iadd hx hb d_Tree_follow_42 ?_
    refine lv_topi (fun v_8 ev_8 => ?_)
    refine va_iast hx hb hK hP hD hS 3 0 rfl rfl (i := 0) (z_in rfl) d_Tree_follow_43 (fun H locs hP hD hS => ?_)
    obtain ⟨f_9, gf_9, uf_9, hP, hD⟩ := z_newFu 3 hP hD rfl
    have hP : va_P G.1 classes [(b0, .inr (3, [.int b3, .int b4, .int b5, .ref b6, .ref b7, .ref b8, .ref b9, .ref b10, .ref b11, .ref b12, .ref b13])), (b6, .inl (G.2 0, 241, .inl b14)), (b7, .inl (G.2 0, 241, .inl b15)), (b8, .inl (G.2 0, 241, .inl f_9)), (b9, .inl (G.2 0, 241, .inl b17)), (b10, .inl (G.2 0, 241, .inl b18)), (b11, .inl (G.2 0, 241, .inl b19)), (b12, .inl (G.2 0, 2410, .inl b20)), (b13, .inl (G.2 0, 260, .inl f_6)), (b1, .inr (2, [.int b22, .int b23, .int b24, .ref b25, .ref b26, .ref b27])), (b25, .inl (G.2 0, 20, .inl b28)), (b26, .inl (G.2 0, 240, .inl b29)), (b27, .inl (G.2 0, 240, .inl b30))] H := hP
    have hD := z_tie hP hD rfl
    refine lv_iconst (v := 0) hx hb d_Tree_follow_44 (by decide) ?_
    refine lv_istore (lv' := [(5, .int 0), (4, .int v_4), (3, .int 0), (0, .ref b0), (1, .ref b1), (2, .int b2)]) hx hb d_Tree_follow_45 hl (by decide) rfl (fun ls hl => ?_)
    suffices key : ∀ (k_70 : Nat) (y_71 : Int32) (y_72 : Int32) (y_73 : Int32) (y_74 : Nat → Int32) (y_75 : Nat → Int32) (y_76 : Nat → Int32) (y_77 : Nat → Int32) (y_78 : Nat → Int32) (y_79 : Nat → Int32) (y_80 : Nat → Int32) (y_81 : Nat → Int32) (H : Heap) (locs : List Loc) (ls : Array Slot), (zI y_71 0 12) → (zI y_72 0 240) → (zI y_73 0 241) → (zR y_76 (-1) 240) → (zqa qP y_77) → (zR1 y_78 0 240) → (zR1 y_79 0 9) → (y_73.toInt ≤ 12 * b2.toInt + 1 + y_71.toInt) → (1 ≤ y_73.toInt) → ((y_72 : Int32).toInt < y_73.toInt) → (zLo y_76 (10 * (y_73 : Int32).toInt) (y_73 : Int32).toInt) → (zTr (b2.toInt) (b4 : Int32).toInt (y_73 : Int32).toInt b28 y_77) → (∀ i : Nat, (i : Int) ≤ (y_71 : Int32).toInt → (y_77 (13 * b2.toInt.toNat + i)).toInt < (y_73 : Int32).toInt) → (12 : Int) - y_71.toInt < (k_70 : Int) → va_P G.1 classes [(b0, .inr (3, [.int b3, .int b4, .int y_73, .ref b6, .ref b7, .ref b8, .ref b9, .ref b10, .ref b11, .ref b12, .ref b13])), (b6, .inl (G.2 0, 241, .inl y_78)), (b7, .inl (G.2 0, 241, .inl y_79)), (b8, .inl (G.2 0, 241, .inl y_80)), (b9, .inl (G.2 0, 241, .inl y_81)), (b10, .inl (G.2 0, 241, .inl y_74)), (b11, .inl (G.2 0, 241, .inl y_75)), (b12, .inl (G.2 0, 2410, .inl y_76)), (b13, .inl (G.2 0, 260, .inl y_77)), (b1, .inr (2, [.int b22, .int b23, .int b24, .ref b25, .ref b26, .ref b27])), (b25, .inl (G.2 0, 20, .inl b28)), (b26, .inl (G.2 0, 240, .inl b29)), (b27, .inl (G.2 0, 240, .inl b30))] H → va_D A [(b0, .inr (3, [.int b3, .int b4, .int y_73, .ref b6, .ref b7, .ref b8, .ref b9, .ref b10, .ref b11, .ref b12, .ref b13])), (b6, .inl (G.2 0, 241, .inl y_78)), (b7, .inl (G.2 0, 241, .inl y_79)), (b8, .inl (G.2 0, 241, .inl y_80)), (b9, .inl (G.2 0, 241, .inl y_81)), (b10, .inl (G.2 0, 241, .inl y_74)), (b11, .inl (G.2 0, 241, .inl y_75)), (b12, .inl (G.2 0, 2410, .inl y_76)), (b13, .inl (G.2 0, 260, .inl y_77)), (b1, .inr (2, [.int b22, .int b23, .int b24, .ref b25, .ref b26, .ref b27])), (b25, .inl (G.2 0, 20, .inl b28)), (b26, .inl (G.2 0, 240, .inl b29)), (b27, .inl (G.2 0, 240, .inl b30))] → va_S A s.heap H locs → lv_has ls 7 [(5, .int y_71), (4, .int v_4), (3, .int y_72), (0, .ref b0), (1, .ref b1), (2, .int b2)] → W p l e m_s1_Tree_follow s m ([.ref b0, .ref b1, .int b2] : List Value).toArray below meth c H locs 0 0 (MQ below (zQ G (fun v w => ∃ (e0 : Int32), ∃ (e1 : Nat → Int32), ∃ (e2 : Nat → Int32), ∃ (e3 : Nat → Int32), ∃ (e4 : Nat → Int32), ∃ (e5 : Nat → Int32), ∃ (e6 : Nat → Int32), ∃ (e7 : Nat → Int32), ∃ (e8 : Nat → Int32), v = none ∧ w = [(b0, .inr (3, [.int b3, .int b4, .int e0, .ref b6, .ref b7, .ref b8, .ref b9, .ref b10, .ref b11, .ref b12, .ref b13])), (b6, .inl (G.2 0, 241, .inl e1)), (b7, .inl (G.2 0, 241, .inl e2)), (b8, .inl (G.2 0, 241, .inl e3)), (b9, .inl (G.2 0, 241, .inl e4)), (b10, .inl (G.2 0, 241, .inl e5)), (b11, .inl (G.2 0, 241, .inl e6)), (b12, .inl (G.2 0, 2410, .inl e7)), (b13, .inl (G.2 0, 260, .inl e8)), (b1, .inr (2, [.int b22, .int b23, .int b24, .ref b25, .ref b26, .ref b27])), (b25, .inl (G.2 0, 20, .inl b28)), (b26, .inl (G.2 0, 240, .inl b29)), (b27, .inl (G.2 0, 240, .inl b30))] ∧ (zI e0 0 241) ∧ (zR1 e1 0 240) ∧ (zR1 e2 0 9) ∧ (zR e7 (-1) 240) ∧ (zqa qP e8) ∧ (e0.toInt ≤ 12 * b2.toInt + 13) ∧ (zLo e7 (10 * (e0 : Int32).toInt) (e0 : Int32).toInt) ∧ (zTr (b2.toInt + 1) (b4 : Int32).toInt (e0 : Int32).toInt b28 e8)) A) ([.ref b0, .ref b1, .int b2] : List Value).toArray s m_s1_Tree_follow.cells m_s1_Tree_follow.slots A) (F0 m 47 ls []) by
      exact key 13 (0) (0) (b5) (b18) (b19) (b20) (f_6) (b14) (b15) (f_9) (b17) _ _ _ (zI.wk (l' := 0) (h' := 12) zc_0 (by decide)) (zI.wk (l' := 0) (h' := 240) zc_0 (by decide)) (zI.wk (l' := 0) (h' := 241) hv_3 (by decide)) hb20 hf_6 hb14 hb15 (by have _l2 := li_0; omega) (by omega) (by have _l0 := li_0; omega) hlo (by have _l0 := li_0; have _l1 := li_1; have _l2 := li_13; have p9 := z_pl hv_5 (by decide); intro t i h1 h2 h3; rw [uf_6, z_at]; split; omega; have := htr t i h1 h2 h3; omega) (by have _l0 := li_0; have _l1 := li_1; have _l2 := li_13; have p9 := z_pl hv_5 (by decide); intro i hi; rw [uf_6, z_at]; split; omega; omega) (zm_upi (zI.wk (l' := 0) (h' := 12) zc_0 (by decide)) (by decide)) hP hD hS (lv_sub hl [0, 1, 2, 3, 4, 5] rfl)
    intro k_70
    induction k_70 with
    | zero =>
      intro y_71 y_72 y_73 y_74 y_75 y_76 y_77 y_78 y_79 y_80 y_81 H locs ls hy_71 hy_72 hy_73 hy_76 hy_77 hy_78 hy_79 hli_82 hli_83 hli_84 hli_85 hli_86 hli_87 hmk_70 hP hD hS hl
      exact (zm_up0 hy_71 hmk_70).elim
    | succ k_70 ihk_70 =>
      intro y_71 y_72 y_73 y_74 y_75 y_76 y_77 y_78 y_79 y_80 y_81 H locs ls hy_71 hy_72 hy_73 hy_76 hy_77 hy_78 hy_79 hli_82 hli_83 hli_84 hli_85 hli_86 hli_87 hmk_70 hP hD hS hl
      refine lv_iload hx hb d_Tree_follow_47 (lv_at hl 0 rfl) ?_
      refine lv_iload hx hb d_Tree_follow_49 (lv_at hl 1 rfl) ?_
      refine lv_icmp_ge (tgt := 141) hx hb d_Tree_follow_51 (by decide) (fun hc_88 => ?_) (fun hc_88 => ?_)
      · have _nhc_88 := hc_88
        have ni_89 := (fa_le _ _).mp hc_88
        refine lv_aload_n hx hb d_Tree_follow_141 rfl (lv_at hl 3 rfl) ?_
        refine va_get (D := G.1) (ci := 3) (v := .ref b9) (C := R_Tree) (T := F_Tree) (N := 11) hx hb hts i_Tree hown hK hP 0 rfl rfl 6 (by decide) (hts _ q109) (fun _ h9 => h9) rfl d_Tree_follow_142 ?_
        refine lv_iload_n hx hb d_Tree_follow_145 rfl (lv_at hl 2 rfl) ?_
        refine lv_dup2_11 hx hb d_Tree_follow_146 rfl rfl ?_
        refine va_iald hx hb hK hP 4 0 rfl rfl (zI.inn hy_72 (by decide)) d_Tree_follow_147 ?_
        refine lv_topi (fun v_90 ev_90 => ?_)
        refine lv_iconst (v := 1) hx hb d_Tree_follow_148 (by decide) ?_
        refine lv_iadd hx hb d_Tree_follow_149 ?_
        refine lv_topi (fun v_91 ev_91 => ?_)
        refine va_iast hx hb hK hP hD hS 4 0 rfl rfl (zI.inn hy_72 (by decide)) d_Tree_follow_150 (fun H locs hP hD hS => ?_)
        obtain ⟨f_92, gf_92, uf_92, hP, hD⟩ := z_newFu 4 hP hD rfl
        have hP : va_P G.1 classes [(b0, .inr (3, [.int b3, .int b4, .int y_73, .ref b6, .ref b7, .ref b8, .ref b9, .ref b10, .ref b11, .ref b12, .ref b13])), (b6, .inl (G.2 0, 241, .inl y_78)), (b7, .inl (G.2 0, 241, .inl y_79)), (b8, .inl (G.2 0, 241, .inl y_80)), (b9, .inl (G.2 0, 241, .inl f_92)), (b10, .inl (G.2 0, 241, .inl y_74)), (b11, .inl (G.2 0, 241, .inl y_75)), (b12, .inl (G.2 0, 2410, .inl y_76)), (b13, .inl (G.2 0, 260, .inl y_77)), (b1, .inr (2, [.int b22, .int b23, .int b24, .ref b25, .ref b26, .ref b27])), (b25, .inl (G.2 0, 20, .inl b28)), (b26, .inl (G.2 0, 240, .inl b29)), (b27, .inl (G.2 0, 240, .inl b30))] H := hP
        have hD := z_tie hP hD rfl
        exact z_vret hx hb hr hlocks hP hD hS (Nat.le_of_ble_eq_true rfl) (Nat.le_of_ble_eq_true rfl) d_Tree_follow_151 ⟨y_73, y_78, y_79, y_80, f_92, y_74, y_75, y_76, y_77, rfl, rfl, hy_73, hy_78, hy_79, hy_76, hy_77, (by omega), hli_85, (by intro t i h1 h2 h3; rcases Decidable.em ((t : Int) < b2.toInt) with h4 | h4; exact hli_86 t i h4 h2 h3; obtain rfl : t = b2.toInt.toNat := (by omega); exact hli_87 i (by rw [← z_plf hb2 (by decide), ← ev_4] at h3; omega))⟩
      · have _nhc_88 := hc_88
        have ni_93 := (fa_lt _ _).mp (zi_nle hc_88)
        have hv_94 : zI y_71 0 11 := zI.lt_l hy_71 hv_4 (zi_nle hc_88) (by decide)
        have hv_95 : zI v_4 1 12 := zI.lt_r hy_71 hv_4 (zi_nle hc_88) (by decide)
        refine lv_aload_n hx hb d_Tree_follow_54 rfl (lv_at hl 3 rfl) ?_
        refine lv_iload_n hx hb d_Tree_follow_55 rfl (lv_at hl 2 rfl) ?_
        refine lv_aload_n hx hb d_Tree_follow_56 rfl (lv_at hl 4 rfl) ?_
        refine lv_iload_n hx hb d_Tree_follow_57 rfl (lv_at hl 5 rfl) ?_
        refine lv_iload hx hb d_Tree_follow_58 (lv_at hl 0 rfl) ?_
        refine z_callV (index := 63) (As := [.int b2, .int y_71]) (rest := [.int y_72, .ref b0]) (wr := [(b0, .inr (3, [.int b3, .int b4, .int y_73, .ref b6, .ref b7, .ref b8, .ref b9, .ref b10, .ref b11, .ref b12, .ref b13])), (b6, .inl (G.2 0, 241, .inl y_78)), (b7, .inl (G.2 0, 241, .inl y_79)), (b8, .inl (G.2 0, 241, .inl y_80)), (b9, .inl (G.2 0, 241, .inl y_81)), (b10, .inl (G.2 0, 241, .inl y_74)), (b11, .inl (G.2 0, 241, .inl y_75)), (b12, .inl (G.2 0, 2410, .inl y_76)), (b13, .inl (G.2 0, 260, .inl y_77)), (b25, .inl (G.2 0, 20, .inl b28)), (b27, .inl (G.2 0, 240, .inl b30))]) Z (s1_Traces_letterAt l G (b1) (b2) (y_71) (b22) (b23) (b24) (b25) (b26) (b27) (b29) hb2 hv_94 hb22 hb23 hb24 hb29) hl.1 q579 q580 q581 q3 q582 ⟨by decide, by decide, by show _ = some 2; decide +kernel⟩ ⟨Nat.le_of_ble_eq_true rfl, Nat.le_of_ble_eq_true rfl⟩ ⟨Nat.le_of_ble_eq_true rfl, Nat.le_of_ble_eq_true rfl⟩ rfl (Nat.le_of_ble_eq_true rfl) d_Tree_follow_60 hP hD hS hA 9 2 rfl rfl rfl [9, 11] [0, 1, 2, 3, 4, 5, 6, 7, 8, 10, 12] rfl rfl rfl rfl (by decide) (fun v w1 H locs hw_96 hP hD hS => ?_)
        obtain ⟨x_97, rfl, rfl, hx_97⟩ := hw_96
        have hP : va_P G.1 classes [(b0, .inr (3, [.int b3, .int b4, .int y_73, .ref b6, .ref b7, .ref b8, .ref b9, .ref b10, .ref b11, .ref b12, .ref b13])), (b6, .inl (G.2 0, 241, .inl y_78)), (b7, .inl (G.2 0, 241, .inl y_79)), (b8, .inl (G.2 0, 241, .inl y_80)), (b9, .inl (G.2 0, 241, .inl y_81)), (b10, .inl (G.2 0, 241, .inl y_74)), (b11, .inl (G.2 0, 241, .inl y_75)), (b12, .inl (G.2 0, 2410, .inl y_76)), (b13, .inl (G.2 0, 260, .inl y_77)), (b25, .inl (G.2 0, 20, .inl b28)), (b27, .inl (G.2 0, 240, .inl b30)), (b1, .inr (2, [.int b22, .int b23, .int b24, .ref b25, .ref b26, .ref b27])), (b26, .inl (G.2 0, 240, .inl b29))] H := hP
        have hD := z_tie hP hD rfl
        refine W.widen (k := 0) (n := 0) (Nat.le_of_ble_eq_true rfl) (Nat.le_of_ble_eq_true rfl) ?_
        refine z_callV (index := 66) (As := [.int y_72, .int x_97]) (rest := []) (wr := [(b13, .inl (G.2 0, 260, .inl y_77)), (b25, .inl (G.2 0, 20, .inl b28)), (b27, .inl (G.2 0, 240, .inl b30)), (b1, .inr (2, [.int b22, .int b23, .int b24, .ref b25, .ref b26, .ref b27])), (b26, .inl (G.2 0, 240, .inl b29))]) Z (s1_Tree_stepFrom l G (b0) (y_72) (x_97) (b3) (b4) (y_73) (b6) (b7) (b8) (b9) (b10) (b11) (b12) (b13) (y_78) (y_79) (y_80) (y_81) (y_74) (y_75) (y_76) hy_72 hx_97 hb3 hy_73 hy_78 hy_79 hy_76 (by omega) hli_85 (by omega)) hl.1 q583 q585 qs5 q4 q586 ⟨by decide, by decide, by show _ = some 2; decide +kernel⟩ ⟨Nat.le_of_ble_eq_true rfl, Nat.le_of_ble_eq_true rfl⟩ ⟨Nat.le_of_ble_eq_true rfl, Nat.le_of_ble_eq_true rfl⟩ rfl (Nat.le_of_ble_eq_true rfl) d_Tree_follow_63 hP hD hS hA 0 3 rfl rfl rfl [0, 1, 2, 3, 4, 5, 6, 7] [8, 9, 10, 11, 12] rfl rfl rfl rfl (by decide) (fun v w1 H locs hw_98 hP hD hS => ?_)
        refine Exists.elim hw_98 (fun x_99 hz_112 => Exists.elim hz_112 (fun x_100 hz_113 => Exists.elim hz_113 (fun f_101 hz_114 => Exists.elim hz_114 (fun f_102 hz_115 => Exists.elim hz_115 (fun f_103 hz_116 => Exists.elim hz_116 (fun f_104 hz_117 => Exists.elim hz_117 (fun f_105 hz_118 => Exists.elim hz_118 (fun f_106 hz_119 => Exists.elim hz_119 (fun f_107 hz_120 => ?_)))))))))
        clear hw_98 hz_112 hz_113 hz_114 hz_115 hz_116 hz_117 hz_118 hz_119
        obtain ⟨rfl, rfl, hx_99, hx_100, hf_101, hf_102, hf_107, hfx_108, hfx_109, hfx_110, hfx_111⟩ := hz_120
        have hP : va_P G.1 classes [(b13, .inl (G.2 0, 260, .inl y_77)), (b25, .inl (G.2 0, 20, .inl b28)), (b27, .inl (G.2 0, 240, .inl b30)), (b1, .inr (2, [.int b22, .int b23, .int b24, .ref b25, .ref b26, .ref b27])), (b26, .inl (G.2 0, 240, .inl b29)), (b0, .inr (3, [.int b3, .int b4, .int x_100, .ref b6, .ref b7, .ref b8, .ref b9, .ref b10, .ref b11, .ref b12, .ref b13])), (b6, .inl (G.2 0, 241, .inl f_101)), (b7, .inl (G.2 0, 241, .inl f_102)), (b8, .inl (G.2 0, 241, .inl f_103)), (b9, .inl (G.2 0, 241, .inl f_104)), (b10, .inl (G.2 0, 241, .inl f_105)), (b11, .inl (G.2 0, 241, .inl f_106)), (b12, .inl (G.2 0, 2410, .inl f_107))] H := hP
        have hD := z_tie hP hD rfl
        refine W.widen (k := 0) (n := 0) (Nat.le_of_ble_eq_true rfl) (Nat.le_of_ble_eq_true rfl) ?_
        refine lv_istore_n (lv' := [(3, .int x_99), (5, .int y_71), (4, .int v_4), (0, .ref b0), (1, .ref b1), (2, .int b2)]) hx hb d_Tree_follow_66 rfl hl (by decide) rfl (fun ls hl => ?_)
        refine lv_aload_n hx hb d_Tree_follow_67 rfl (lv_at hl 3 rfl) ?_
        refine va_get (D := G.1) (ci := 3) (v := .ref b13) (C := R_Tree) (T := F_Tree) (N := 11) hx hb hts i_Tree hown hK hP 5 rfl rfl 10 (by decide) (hts _ q116) (fun _ h9 => h9) rfl d_Tree_follow_68 ?_
        refine lv_iload_n hx hb d_Tree_follow_71 rfl (lv_at hl 5 rfl) ?_
        refine lv_bipush (v := 13) hx hb d_Tree_follow_72 (by decide) ?_
        refine lv_imul hx hb d_Tree_follow_74 ?_
        refine lv_topi (fun v_121 ev_121 => ?_)
        obtain rfl : v_5 = v_121 := ev_5.trans ev_121.symm
        refine lv_iload hx hb d_Tree_follow_75 (lv_at hl 1 rfl) ?_
        refine lv_iadd hx hb d_Tree_follow_77 ?_
        refine lv_topi (fun v_122 ev_122 => ?_)
        obtain ⟨qv_122, hv_122⟩ := zI_add (l := 0) (h := 258) hv_5 hv_94 ev_122 (by decide)
        refine lv_iconst (v := 1) hx hb d_Tree_follow_78 (by decide) ?_
        refine lv_iadd hx hb d_Tree_follow_79 ?_
        refine lv_topi (fun v_123 ev_123 => ?_)
        obtain ⟨qv_123, hv_123⟩ := zI_add (l := 1) (h := 259) hv_122 zc_1 ev_123 (by decide)
        rw [li_1] at qv_123
        refine lv_iload_n hx hb d_Tree_follow_80 rfl (lv_at hl 0 rfl) ?_
        refine va_iast hx hb hK hP hD hS 0 0 rfl rfl (zI.inn hv_123 (by decide)) d_Tree_follow_81 (fun H locs hP hD hS => ?_)
        obtain ⟨f_124, hf_124, gf_124, uf_124, hP, hD⟩ := z_newq_ (Q := qP) 0 hP hD rfl hy_77 (qP_v hv_123 (by decide) ⟨⟨by have _w := hx_99; have _x := hv_123; omega, by have _w := hx_99; have _x := hv_123; omega⟩, by have _w := hx_99; have _x := hv_123; omega⟩)
        have hP : va_P G.1 classes [(b13, .inl (G.2 0, 260, .inl f_124)), (b25, .inl (G.2 0, 20, .inl b28)), (b27, .inl (G.2 0, 240, .inl b30)), (b1, .inr (2, [.int b22, .int b23, .int b24, .ref b25, .ref b26, .ref b27])), (b26, .inl (G.2 0, 240, .inl b29)), (b0, .inr (3, [.int b3, .int b4, .int x_100, .ref b6, .ref b7, .ref b8, .ref b9, .ref b10, .ref b11, .ref b12, .ref b13])), (b6, .inl (G.2 0, 241, .inl f_101)), (b7, .inl (G.2 0, 241, .inl f_102)), (b8, .inl (G.2 0, 241, .inl f_103)), (b9, .inl (G.2 0, 241, .inl f_104)), (b10, .inl (G.2 0, 241, .inl f_105)), (b11, .inl (G.2 0, 241, .inl f_106)), (b12, .inl (G.2 0, 2410, .inl f_107))] H := hP
        have hD := z_tie hP hD rfl
        refine lv_aload_n hx hb d_Tree_follow_82 rfl (lv_at hl 3 rfl) ?_
        refine va_get (D := G.1) (ci := 3) (v := .ref b8) (C := R_Tree) (T := F_Tree) (N := 11) hx hb hts i_Tree hown hK hP 5 rfl rfl 5 (by decide) (hts _ q107) (fun _ h9 => h9) rfl d_Tree_follow_83 ?_
        refine lv_iload_n hx hb d_Tree_follow_86 rfl (lv_at hl 0 rfl) ?_
        refine lv_dup2_11 hx hb d_Tree_follow_87 rfl rfl ?_
        refine va_iald hx hb hK hP 8 0 rfl rfl (zI.inn hx_99 (by decide)) d_Tree_follow_88 ?_
        refine lv_topi (fun v_125 ev_125 => ?_)
        refine lv_iconst (v := 1) hx hb d_Tree_follow_89 (by decide) ?_
        refine lv_iadd hx hb d_Tree_follow_90 ?_
        refine lv_topi (fun v_126 ev_126 => ?_)
        refine va_iast hx hb hK hP hD hS 8 0 rfl rfl (zI.inn hx_99 (by decide)) d_Tree_follow_91 (fun H locs hP hD hS => ?_)
        obtain ⟨f_127, gf_127, uf_127, hP, hD⟩ := z_newFu 8 hP hD rfl
        have hP : va_P G.1 classes [(b13, .inl (G.2 0, 260, .inl f_124)), (b25, .inl (G.2 0, 20, .inl b28)), (b27, .inl (G.2 0, 240, .inl b30)), (b1, .inr (2, [.int b22, .int b23, .int b24, .ref b25, .ref b26, .ref b27])), (b26, .inl (G.2 0, 240, .inl b29)), (b0, .inr (3, [.int b3, .int b4, .int x_100, .ref b6, .ref b7, .ref b8, .ref b9, .ref b10, .ref b11, .ref b12, .ref b13])), (b6, .inl (G.2 0, 241, .inl f_101)), (b7, .inl (G.2 0, 241, .inl f_102)), (b8, .inl (G.2 0, 241, .inl f_127)), (b9, .inl (G.2 0, 241, .inl f_104)), (b10, .inl (G.2 0, 241, .inl f_105)), (b11, .inl (G.2 0, 241, .inl f_106)), (b12, .inl (G.2 0, 2410, .inl f_107))] H := hP
        have hD := z_tie hP hD rfl
        refine lv_aload_n hx hb d_Tree_follow_92 rfl (lv_at hl 4 rfl) ?_
        refine lv_iload_n hx hb d_Tree_follow_93 rfl (lv_at hl 5 rfl) ?_
        refine lv_iload hx hb d_Tree_follow_94 (lv_at hl 1 rfl) ?_
        refine z_callV (index := 69) (As := [.int b2, .int y_71]) (rest := []) (wr := [(b13, .inl (G.2 0, 260, .inl f_124)), (b25, .inl (G.2 0, 20, .inl b28)), (b26, .inl (G.2 0, 240, .inl b29)), (b0, .inr (3, [.int b3, .int b4, .int x_100, .ref b6, .ref b7, .ref b8, .ref b9, .ref b10, .ref b11, .ref b12, .ref b13])), (b6, .inl (G.2 0, 241, .inl f_101)), (b7, .inl (G.2 0, 241, .inl f_102)), (b8, .inl (G.2 0, 241, .inl f_127)), (b9, .inl (G.2 0, 241, .inl f_104)), (b10, .inl (G.2 0, 241, .inl f_105)), (b11, .inl (G.2 0, 241, .inl f_106)), (b12, .inl (G.2 0, 2410, .inl f_107))]) Z (s1_Traces_valueAt l G (b1) (b2) (y_71) (b22) (b23) (b24) (b25) (b26) (b27) (b30) hb2 hv_94 hb22 hb23 hb24) hl.1 q587 q588 q589 q3 q590 ⟨by decide, by decide, by show _ = some 2; decide +kernel⟩ ⟨Nat.le_of_ble_eq_true rfl, Nat.le_of_ble_eq_true rfl⟩ ⟨Nat.le_of_ble_eq_true rfl, Nat.le_of_ble_eq_true rfl⟩ rfl (Nat.le_of_ble_eq_true rfl) d_Tree_follow_96 hP hD hS hA 3 2 rfl rfl rfl [3, 2] [0, 1, 4, 5, 6, 7, 8, 9, 10, 11, 12] rfl rfl rfl rfl (by decide) (fun v w1 H locs hw_128 hP hD hS => ?_)
        obtain ⟨x_129, rfl, rfl⟩ := hw_128
        have hP : va_P G.1 classes [(b13, .inl (G.2 0, 260, .inl f_124)), (b25, .inl (G.2 0, 20, .inl b28)), (b26, .inl (G.2 0, 240, .inl b29)), (b0, .inr (3, [.int b3, .int b4, .int x_100, .ref b6, .ref b7, .ref b8, .ref b9, .ref b10, .ref b11, .ref b12, .ref b13])), (b6, .inl (G.2 0, 241, .inl f_101)), (b7, .inl (G.2 0, 241, .inl f_102)), (b8, .inl (G.2 0, 241, .inl f_127)), (b9, .inl (G.2 0, 241, .inl f_104)), (b10, .inl (G.2 0, 241, .inl f_105)), (b11, .inl (G.2 0, 241, .inl f_106)), (b12, .inl (G.2 0, 2410, .inl f_107)), (b1, .inr (2, [.int b22, .int b23, .int b24, .ref b25, .ref b26, .ref b27])), (b27, .inl (G.2 0, 240, .inl b30))] H := hP
        have hD := z_tie hP hD rfl
        refine W.widen (k := 0) (n := 0) (Nat.le_of_ble_eq_true rfl) (Nat.le_of_ble_eq_true rfl) ?_
        refine lv_istore (lv' := [(6, .int x_129), (3, .int x_99), (5, .int y_71), (4, .int v_4), (0, .ref b0), (1, .ref b1), (2, .int b2)]) hx hb d_Tree_follow_99 hl (by decide) rfl (fun ls hl => ?_)
        refine lv_aload_n hx hb d_Tree_follow_101 rfl (lv_at hl 4 rfl) ?_
        refine va_get (D := G.1) (ci := 3) (v := .ref b10) (C := R_Tree) (T := F_Tree) (N := 11) hx hb hts i_Tree hown hK hP 3 rfl rfl 7 (by decide) (hts _ q111) (fun _ h9 => h9) rfl d_Tree_follow_102 ?_
        refine lv_iload_n hx hb d_Tree_follow_105 rfl (lv_at hl 1 rfl) ?_
        refine lv_aload_n hx hb d_Tree_follow_106 rfl (lv_at hl 4 rfl) ?_
        refine va_get (D := G.1) (ci := 3) (v := .ref b10) (C := R_Tree) (T := F_Tree) (N := 11) hx hb hts i_Tree hown hK hP 3 rfl rfl 7 (by decide) (hts _ q111) (fun _ h9 => h9) rfl d_Tree_follow_107 ?_
        refine lv_iload_n hx hb d_Tree_follow_110 rfl (lv_at hl 1 rfl) ?_
        refine va_iald hx hb hK hP 8 0 rfl rfl (zI.inn hx_99 (by decide)) d_Tree_follow_111 ?_
        refine lv_topi (fun v_130 ev_130 => ?_)
        refine lv_iload hx hb d_Tree_follow_112 (lv_at hl 0 rfl) ?_
        refine va_mmin hx hb (hml.trans hl.1.symm) hown (hts _ q591) (hts _ q592) (hts _ q20) (hts _ q593) (Nat.le_of_ble_eq_true rfl) (Nat.le_of_ble_eq_true rfl) (Nat.le_of_ble_eq_true rfl) (Nat.le_of_ble_eq_true rfl) d_Tree_follow_114 ?_
        refine lv_topi (fun v_131 ev_131 => ?_)
        have hv_131 := zI_min (l := (-2147483648)) (h := 2147483647) (zI_all v_130) (zI_all x_129) ev_131 (by decide)
        refine va_iast hx hb hK hP hD hS 8 0 rfl rfl (zI.inn hx_99 (by decide)) d_Tree_follow_117 (fun H locs hP hD hS => ?_)
        obtain ⟨f_132, gf_132, uf_132, hP, hD⟩ := z_newFu 8 hP hD rfl
        have hP : va_P G.1 classes [(b13, .inl (G.2 0, 260, .inl f_124)), (b25, .inl (G.2 0, 20, .inl b28)), (b26, .inl (G.2 0, 240, .inl b29)), (b0, .inr (3, [.int b3, .int b4, .int x_100, .ref b6, .ref b7, .ref b8, .ref b9, .ref b10, .ref b11, .ref b12, .ref b13])), (b6, .inl (G.2 0, 241, .inl f_101)), (b7, .inl (G.2 0, 241, .inl f_102)), (b8, .inl (G.2 0, 241, .inl f_127)), (b9, .inl (G.2 0, 241, .inl f_104)), (b10, .inl (G.2 0, 241, .inl f_132)), (b11, .inl (G.2 0, 241, .inl f_106)), (b12, .inl (G.2 0, 2410, .inl f_107)), (b1, .inr (2, [.int b22, .int b23, .int b24, .ref b25, .ref b26, .ref b27])), (b27, .inl (G.2 0, 240, .inl b30))] H := hP
        have hD := z_tie hP hD rfl
        refine lv_aload_n hx hb d_Tree_follow_118 rfl (lv_at hl 4 rfl) ?_
        refine va_get (D := G.1) (ci := 3) (v := .ref b11) (C := R_Tree) (T := F_Tree) (N := 11) hx hb hts i_Tree hown hK hP 3 rfl rfl 8 (by decide) (hts _ q113) (fun _ h9 => h9) rfl d_Tree_follow_119 ?_
        refine lv_iload_n hx hb d_Tree_follow_122 rfl (lv_at hl 1 rfl) ?_
        refine lv_aload_n hx hb d_Tree_follow_123 rfl (lv_at hl 4 rfl) ?_
        refine va_get (D := G.1) (ci := 3) (v := .ref b11) (C := R_Tree) (T := F_Tree) (N := 11) hx hb hts i_Tree hown hK hP 3 rfl rfl 8 (by decide) (hts _ q113) (fun _ h9 => h9) rfl d_Tree_follow_124 ?_
        refine lv_iload_n hx hb d_Tree_follow_127 rfl (lv_at hl 1 rfl) ?_
        refine va_iald hx hb hK hP 9 0 rfl rfl (zI.inn hx_99 (by decide)) d_Tree_follow_128 ?_
        refine lv_topi (fun v_133 ev_133 => ?_)
        refine lv_iload hx hb d_Tree_follow_129 (lv_at hl 0 rfl) ?_
        refine va_mmax hx hb (hml.trans hl.1.symm) hown (hts _ q594) (hts _ q595) (hts _ q20) (hts _ q596) (Nat.le_of_ble_eq_true rfl) (Nat.le_of_ble_eq_true rfl) (Nat.le_of_ble_eq_true rfl) (Nat.le_of_ble_eq_true rfl) d_Tree_follow_131 ?_
        refine lv_topi (fun v_134 ev_134 => ?_)
        have hv_134 := zI_max (l := (-2147483648)) (h := 2147483647) (zI_all v_133) (zI_all x_129) ev_134 (by decide)
        refine va_iast hx hb hK hP hD hS 9 0 rfl rfl (zI.inn hx_99 (by decide)) d_Tree_follow_134 (fun H locs hP hD hS => ?_)
        obtain ⟨f_135, gf_135, uf_135, hP, hD⟩ := z_newFu 9 hP hD rfl
        have hP : va_P G.1 classes [(b13, .inl (G.2 0, 260, .inl f_124)), (b25, .inl (G.2 0, 20, .inl b28)), (b26, .inl (G.2 0, 240, .inl b29)), (b0, .inr (3, [.int b3, .int b4, .int x_100, .ref b6, .ref b7, .ref b8, .ref b9, .ref b10, .ref b11, .ref b12, .ref b13])), (b6, .inl (G.2 0, 241, .inl f_101)), (b7, .inl (G.2 0, 241, .inl f_102)), (b8, .inl (G.2 0, 241, .inl f_127)), (b9, .inl (G.2 0, 241, .inl f_104)), (b10, .inl (G.2 0, 241, .inl f_132)), (b11, .inl (G.2 0, 241, .inl f_135)), (b12, .inl (G.2 0, 2410, .inl f_107)), (b1, .inr (2, [.int b22, .int b23, .int b24, .ref b25, .ref b26, .ref b27])), (b27, .inl (G.2 0, 240, .inl b30))] H := hP
        have hD := z_tie hP hD rfl
        obtain ⟨v_136, ev_136⟩ : ∃ z : Int32, z = y_71 + 1 := ⟨_, rfl⟩
        obtain ⟨qv_136, hv_136⟩ := zI_add (l := 1) (h := 12) hv_94 zc_1 ev_136 (by decide)
        rw [li_1] at qv_136
        refine lv_iinc (v := v_136) (lv' := [(5, .int v_136), (6, .int x_129), (3, .int x_99), (4, .int v_4), (0, .ref b0), (1, .ref b1), (2, .int b2)]) hx hb d_Tree_follow_135 hl (k := 2) rfl (by rw [ev_136]; rfl) (by decide) rfl (fun ls hl => ?_)
        refine lv_goto (tgt := 47) hx hb d_Tree_follow_138 (by decide) ?_
        exact ihk_70 (v_136) (x_99) (x_100) (f_132) (f_135) (f_107) (f_124) (f_101) (f_102) (f_127) (f_104) _ _ _ (zI.wk (l' := 0) (h' := 12) hv_136 (by decide)) hx_99 hx_100 hf_107 hf_124 hf_101 hf_102 (by omega) (by omega) (by omega) hfx_110 (by have _l0 := li_0; have _l1 := li_1; have _l2 := li_13; have p9 := z_pl hv_123 (by decide); intro t i h1 h2 h3; rw [uf_124, z_at]; split; omega; have := hli_86 t i h1 h2 h3; omega) (by have _l0 := li_0; have _l1 := li_1; have _l2 := li_13; have p9 := z_pl hv_123 (by decide); intro i hi; rw [uf_124, z_at]; split; omega; have := hli_87 i (by omega); omega) (zm_up qv_136 hmk_70 (by decide)) (hP.sub [3, 4, 5, 6, 7, 8, 9, 10, 0, 11, 1, 2, 12] rfl) (hD.sub [3, 4, 5, 6, 7, 8, 9, 10, 0, 11, 1, 2, 12] (by decide) rfl) hS (lv_sub hl [0, 3, 2, 4, 5, 6] rfl)
  · have _nhc_1 := hc_1
    have ni_137 := (fa_eq _ _).mp hc_1
    rw [li_0] at ni_137
    have hv_138 : zI b5 0 0 := zI.eq_l hb5 zc_0 hc_1
    refine lv_aload_n hx hb d_Tree_follow_7 rfl (lv_at hl 0 rfl) ?_
    refine lv_iconst (v := (-1)) hx hb d_Tree_follow_8 (by decide) ?_
    refine lv_iconst (v := (-1)) hx hb d_Tree_follow_9 (by decide) ?_
    refine z_callV (index := 56) (As := [.int (-1), .int (-1)]) (rest := []) (wr := [(b13, .inl (G.2 0, 260, .inl b21)), (b1, .inr (2, [.int b22, .int b23, .int b24, .ref b25, .ref b26, .ref b27])), (b25, .inl (G.2 0, 20, .inl b28)), (b26, .inl (G.2 0, 240, .inl b29)), (b27, .inl (G.2 0, 240, .inl b30))]) Z (s4_Tree_addPrefix l G (b0) (b3) (b4) (b5) (b6) (b7) (b8) (b9) (b10) (b11) (b12) (b13) (b14) (b15) (b16) (b17) (b18) (b19) (b20) hb3 (zI.wk (l' := 0) (h' := 241) hv_138 (by decide)) hb14 hb15 hb20 (by omega)) hl.1 q575 q577 qs4 q4 q578 ⟨by decide, by decide, by show _ = some 2; decide +kernel⟩ ⟨Nat.le_of_ble_eq_true rfl, Nat.le_of_ble_eq_true rfl⟩ ⟨Nat.le_of_ble_eq_true rfl, Nat.le_of_ble_eq_true rfl⟩ rfl (Nat.le_of_ble_eq_true rfl) d_Tree_follow_10 hP hD hS hA 0 3 rfl rfl rfl [0, 1, 2, 3, 4, 5, 6, 7] [8, 9, 10, 11, 12] rfl rfl rfl rfl (by decide) (fun v w1 H locs hw_139 hP hD hS => ?_)
    obtain ⟨f_140, f_141, f_142, f_143, f_144, f_145, f_146, rfl, rfl, hf_140, hf_141, hf_146, hfx_147⟩ := hw_139
    have hP : va_P G.1 classes [(b13, .inl (G.2 0, 260, .inl b21)), (b1, .inr (2, [.int b22, .int b23, .int b24, .ref b25, .ref b26, .ref b27])), (b25, .inl (G.2 0, 20, .inl b28)), (b26, .inl (G.2 0, 240, .inl b29)), (b27, .inl (G.2 0, 240, .inl b30)), (b0, .inr (3, [.int b3, .int b4, .int 1, .ref b6, .ref b7, .ref b8, .ref b9, .ref b10, .ref b11, .ref b12, .ref b13])), (b6, .inl (G.2 0, 241, .inl f_140)), (b7, .inl (G.2 0, 241, .inl f_141)), (b8, .inl (G.2 0, 241, .inl f_142)), (b9, .inl (G.2 0, 241, .inl f_143)), (b10, .inl (G.2 0, 241, .inl f_144)), (b11, .inl (G.2 0, 241, .inl f_145)), (b12, .inl (G.2 0, 2410, .inl f_146))] H := hP
    have hD := z_tie hP hD rfl
    refine W.widen (k := 0) (n := 0) (Nat.le_of_ble_eq_true rfl) (Nat.le_of_ble_eq_true rfl) ?_
    refine lv_pop hx hb d_Tree_follow_13 rfl ?_
    refine lv_iconst (v := 0) hx hb d_Tree_follow_14 (by decide) ?_
    refine lv_istore_n (lv' := [(3, .int 0), (0, .ref b0), (1, .ref b1), (2, .int b2)]) hx hb d_Tree_follow_15 rfl hl (by decide) rfl (fun ls hl => ?_)
    refine lv_aload_n hx hb d_Tree_follow_16 rfl (lv_at hl 2 rfl) ?_
    refine va_get (D := G.1) (ci := 2) (v := .ref b25) (C := R_Traces) (T := F_Traces) (N := 6) hx hb hts i_Traces hown hK hP 1 rfl rfl 3 (by decide) (hts _ q68) (fun _ h9 => h9) rfl d_Tree_follow_17 ?_
    refine lv_iload_n hx hb d_Tree_follow_20 rfl (lv_at hl 3 rfl) ?_
    refine va_iald hx hb hK hP 2 0 rfl rfl (zI.inn hb2 (by decide)) d_Tree_follow_21 ?_
    refine lv_topi (fun v_148 ev_148 => ?_)
    have hv_148 : zI v_148 0 12 := (hb28 _).eq ev_148
    refine lv_istore (lv' := [(4, .int v_148), (3, .int 0), (0, .ref b0), (1, .ref b1), (2, .int b2)]) hx hb d_Tree_follow_22 hl (by decide) rfl (fun ls hl => ?_)
    refine lv_aload_n hx hb d_Tree_follow_24 rfl (lv_at hl 2 rfl) ?_
    refine va_get (D := G.1) (ci := 3) (v := .ref b13) (C := R_Tree) (T := F_Tree) (N := 11) hx hb hts i_Tree hown hK hP 5 rfl rfl 10 (by decide) (hts _ q116) (fun _ h9 => h9) rfl d_Tree_follow_25 ?_
    refine lv_iload_n hx hb d_Tree_follow_28 rfl (lv_at hl 4 rfl) ?_
    refine lv_bipush (v := 13) hx hb d_Tree_follow_29 (by decide) ?_
    refine lv_imul hx hb d_Tree_follow_31 ?_
    refine lv_topi (fun v_149 ev_149 => ?_)
    obtain ⟨qv_149, hv_149⟩ := zI_mul (l := 0) (h := 247) hb2 zc_13 ev_149 (by decide)
    rw [li_13] at qv_149
    refine lv_iload_n hx hb d_Tree_follow_32 rfl (lv_at hl 1 rfl) ?_
    refine va_iast hx hb hK hP hD hS 0 0 rfl rfl (zI.inn hv_149 (by decide)) d_Tree_follow_33 (fun H locs hP hD hS => ?_)
    obtain ⟨f_150, hf_150, gf_150, uf_150, hP, hD⟩ := z_newq_ (Q := qP) 0 hP hD rfl hb21 (qP_v hv_149 (by decide) ⟨⟨by have _w := li_0; have _x := hv_149; omega, by have _w := li_0; have _x := hv_149; omega⟩, by have _w := li_0; have _x := hv_149; omega⟩)
    have hP : va_P G.1 classes [(b13, .inl (G.2 0, 260, .inl f_150)), (b1, .inr (2, [.int b22, .int b23, .int b24, .ref b25, .ref b26, .ref b27])), (b25, .inl (G.2 0, 20, .inl b28)), (b26, .inl (G.2 0, 240, .inl b29)), (b27, .inl (G.2 0, 240, .inl b30)), (b0, .inr (3, [.int b3, .int b4, .int 1, .ref b6, .ref b7, .ref b8, .ref b9, .ref b10, .ref b11, .ref b12, .ref b13])), (b6, .inl (G.2 0, 241, .inl f_140)), (b7, .inl (G.2 0, 241, .inl f_141)), (b8, .inl (G.2 0, 241, .inl f_142)), (b9, .inl (G.2 0, 241, .inl f_143)), (b10, .inl (G.2 0, 241, .inl f_144)), (b11, .inl (G.2 0, 241, .inl f_145)), (b12, .inl (G.2 0, 2410, .inl f_146))] H := hP
    have hD := z_tie hP hD rfl
    refine lv_aload_n hx hb d_Tree_follow_34 rfl (lv_at hl 2 rfl) ?_
    refine va_get (D := G.1) (ci := 3) (v := .ref b8) (C := R_Tree) (T := F_Tree) (N := 11) hx hb hts i_Tree hown hK hP 5 rfl rfl 5 (by decide) (hts _ q107) (fun _ h9 => h9) rfl d_Tree_follow_35 ?_
    refine lv_iload_n hx hb d_Tree_follow_38 rfl (lv_at hl 1 rfl) ?_
    refine lv_dup2_11 hx hb d_Tree_follow_39 rfl rfl ?_
    refine va_iald hx hb hK hP 8 0 rfl rfl (i := 0) (z_in rfl) d_Tree_follow_40 ?_
    refine lv_topi (fun v_151 ev_151 => ?_)
    refine lv_iconst (v := 1) hx hb d_Tree_follow_41 (by decide) ?_
    refine lv_iadd hx hb d_Tree_follow_42 ?_
    refine lv_topi (fun v_152 ev_152 => ?_)
    refine va_iast hx hb hK hP hD hS 8 0 rfl rfl (i := 0) (z_in rfl) d_Tree_follow_43 (fun H locs hP hD hS => ?_)
    obtain ⟨f_153, gf_153, uf_153, hP, hD⟩ := z_newFu 8 hP hD rfl
    have hP : va_P G.1 classes [(b13, .inl (G.2 0, 260, .inl f_150)), (b1, .inr (2, [.int b22, .int b23, .int b24, .ref b25, .ref b26, .ref b27])), (b25, .inl (G.2 0, 20, .inl b28)), (b26, .inl (G.2 0, 240, .inl b29)), (b27, .inl (G.2 0, 240, .inl b30)), (b0, .inr (3, [.int b3, .int b4, .int 1, .ref b6, .ref b7, .ref b8, .ref b9, .ref b10, .ref b11, .ref b12, .ref b13])), (b6, .inl (G.2 0, 241, .inl f_140)), (b7, .inl (G.2 0, 241, .inl f_141)), (b8, .inl (G.2 0, 241, .inl f_153)), (b9, .inl (G.2 0, 241, .inl f_143)), (b10, .inl (G.2 0, 241, .inl f_144)), (b11, .inl (G.2 0, 241, .inl f_145)), (b12, .inl (G.2 0, 2410, .inl f_146))] H := hP
    have hD := z_tie hP hD rfl
    refine lv_iconst (v := 0) hx hb d_Tree_follow_44 (by decide) ?_
    refine lv_istore (lv' := [(5, .int 0), (4, .int v_148), (3, .int 0), (0, .ref b0), (1, .ref b1), (2, .int b2)]) hx hb d_Tree_follow_45 hl (by decide) rfl (fun ls hl => ?_)
    suffices key : ∀ (k_214 : Nat) (y_215 : Int32) (y_216 : Int32) (y_217 : Int32) (y_218 : Nat → Int32) (y_219 : Nat → Int32) (y_220 : Nat → Int32) (y_221 : Nat → Int32) (y_222 : Nat → Int32) (y_223 : Nat → Int32) (y_224 : Nat → Int32) (y_225 : Nat → Int32) (H : Heap) (locs : List Loc) (ls : Array Slot), (zI y_215 0 12) → (zI y_216 0 240) → (zI y_217 0 241) → (zR y_220 (-1) 240) → (zqa qP y_221) → (zR1 y_222 0 240) → (zR1 y_223 0 9) → (y_217.toInt ≤ 12 * b2.toInt + 1 + y_215.toInt) → (1 ≤ y_217.toInt) → ((y_216 : Int32).toInt < y_217.toInt) → (zLo y_220 (10 * (y_217 : Int32).toInt) (y_217 : Int32).toInt) → (zTr (b2.toInt) (b4 : Int32).toInt (y_217 : Int32).toInt b28 y_221) → (∀ i : Nat, (i : Int) ≤ (y_215 : Int32).toInt → (y_221 (13 * b2.toInt.toNat + i)).toInt < (y_217 : Int32).toInt) → (12 : Int) - y_215.toInt < (k_214 : Int) → va_P G.1 classes [(b13, .inl (G.2 0, 260, .inl y_221)), (b1, .inr (2, [.int b22, .int b23, .int b24, .ref b25, .ref b26, .ref b27])), (b25, .inl (G.2 0, 20, .inl b28)), (b26, .inl (G.2 0, 240, .inl b29)), (b27, .inl (G.2 0, 240, .inl b30)), (b0, .inr (3, [.int b3, .int b4, .int y_217, .ref b6, .ref b7, .ref b8, .ref b9, .ref b10, .ref b11, .ref b12, .ref b13])), (b6, .inl (G.2 0, 241, .inl y_222)), (b7, .inl (G.2 0, 241, .inl y_223)), (b8, .inl (G.2 0, 241, .inl y_224)), (b9, .inl (G.2 0, 241, .inl y_225)), (b10, .inl (G.2 0, 241, .inl y_218)), (b11, .inl (G.2 0, 241, .inl y_219)), (b12, .inl (G.2 0, 2410, .inl y_220))] H → va_D A [(b13, .inl (G.2 0, 260, .inl y_221)), (b1, .inr (2, [.int b22, .int b23, .int b24, .ref b25, .ref b26, .ref b27])), (b25, .inl (G.2 0, 20, .inl b28)), (b26, .inl (G.2 0, 240, .inl b29)), (b27, .inl (G.2 0, 240, .inl b30)), (b0, .inr (3, [.int b3, .int b4, .int y_217, .ref b6, .ref b7, .ref b8, .ref b9, .ref b10, .ref b11, .ref b12, .ref b13])), (b6, .inl (G.2 0, 241, .inl y_222)), (b7, .inl (G.2 0, 241, .inl y_223)), (b8, .inl (G.2 0, 241, .inl y_224)), (b9, .inl (G.2 0, 241, .inl y_225)), (b10, .inl (G.2 0, 241, .inl y_218)), (b11, .inl (G.2 0, 241, .inl y_219)), (b12, .inl (G.2 0, 2410, .inl y_220))] → va_S A s.heap H locs → lv_has ls 7 [(5, .int y_215), (4, .int v_148), (3, .int y_216), (0, .ref b0), (1, .ref b1), (2, .int b2)] → W p l e m_s1_Tree_follow s m ([.ref b0, .ref b1, .int b2] : List Value).toArray below meth c H locs 0 0 (MQ below (zQ G (fun v w => ∃ (e0 : Int32), ∃ (e1 : Nat → Int32), ∃ (e2 : Nat → Int32), ∃ (e3 : Nat → Int32), ∃ (e4 : Nat → Int32), ∃ (e5 : Nat → Int32), ∃ (e6 : Nat → Int32), ∃ (e7 : Nat → Int32), ∃ (e8 : Nat → Int32), v = none ∧ w = [(b0, .inr (3, [.int b3, .int b4, .int e0, .ref b6, .ref b7, .ref b8, .ref b9, .ref b10, .ref b11, .ref b12, .ref b13])), (b6, .inl (G.2 0, 241, .inl e1)), (b7, .inl (G.2 0, 241, .inl e2)), (b8, .inl (G.2 0, 241, .inl e3)), (b9, .inl (G.2 0, 241, .inl e4)), (b10, .inl (G.2 0, 241, .inl e5)), (b11, .inl (G.2 0, 241, .inl e6)), (b12, .inl (G.2 0, 2410, .inl e7)), (b13, .inl (G.2 0, 260, .inl e8)), (b1, .inr (2, [.int b22, .int b23, .int b24, .ref b25, .ref b26, .ref b27])), (b25, .inl (G.2 0, 20, .inl b28)), (b26, .inl (G.2 0, 240, .inl b29)), (b27, .inl (G.2 0, 240, .inl b30))] ∧ (zI e0 0 241) ∧ (zR1 e1 0 240) ∧ (zR1 e2 0 9) ∧ (zR e7 (-1) 240) ∧ (zqa qP e8) ∧ (e0.toInt ≤ 12 * b2.toInt + 13) ∧ (zLo e7 (10 * (e0 : Int32).toInt) (e0 : Int32).toInt) ∧ (zTr (b2.toInt + 1) (b4 : Int32).toInt (e0 : Int32).toInt b28 e8)) A) ([.ref b0, .ref b1, .int b2] : List Value).toArray s m_s1_Tree_follow.cells m_s1_Tree_follow.slots A) (F0 m 47 ls []) by
      exact key 13 (0) (0) (1) (f_144) (f_145) (f_146) (f_150) (f_140) (f_141) (f_153) (f_143) _ _ _ (zI.wk (l' := 0) (h' := 12) zc_0 (by decide)) (zI.wk (l' := 0) (h' := 240) zc_0 (by decide)) (zI.wk (l' := 0) (h' := 241) zc_1 (by decide)) hf_146 hf_150 hf_140 hf_141 (by have _l0 := li_1; have _l2 := li_0; omega) (by have _l0 := li_1; omega) (by have _l0 := li_0; have _l1 := li_1; omega) hfx_147 (by have _l0 := li_0; have _l1 := li_1; have _l2 := li_13; have p9 := z_pl hv_149 (by decide); intro t i h1 h2 h3; rw [uf_150, z_at]; split; omega; have := htr t i h1 h2 h3; omega) (by have _l0 := li_0; have _l1 := li_1; have _l2 := li_13; have p9 := z_pl hv_149 (by decide); intro i hi; rw [uf_150, z_at]; split; omega; omega) (zm_upi (zI.wk (l' := 0) (h' := 12) zc_0 (by decide)) (by decide)) hP hD hS (lv_sub hl [0, 1, 2, 3, 4, 5] rfl)
    intro k_214
    induction k_214 with
    | zero =>
      intro y_215 y_216 y_217 y_218 y_219 y_220 y_221 y_222 y_223 y_224 y_225 H locs ls hy_215 hy_216 hy_217 hy_220 hy_221 hy_222 hy_223 hli_226 hli_227 hli_228 hli_229 hli_230 hli_231 hmk_214 hP hD hS hl
      exact (zm_up0 hy_215 hmk_214).elim
    | succ k_214 ihk_214 =>
      intro y_215 y_216 y_217 y_218 y_219 y_220 y_221 y_222 y_223 y_224 y_225 H locs ls hy_215 hy_216 hy_217 hy_220 hy_221 hy_222 hy_223 hli_226 hli_227 hli_228 hli_229 hli_230 hli_231 hmk_214 hP hD hS hl
      refine lv_iload hx hb d_Tree_follow_47 (lv_at hl 0 rfl) ?_
      refine lv_iload hx hb d_Tree_follow_49 (lv_at hl 1 rfl) ?_
      refine lv_icmp_ge (tgt := 141) hx hb d_Tree_follow_51 (by decide) (fun hc_232 => ?_) (fun hc_232 => ?_)
      · have _nhc_232 := hc_232
        have ni_233 := (fa_le _ _).mp hc_232
        refine lv_aload_n hx hb d_Tree_follow_141 rfl (lv_at hl 3 rfl) ?_
        refine va_get (D := G.1) (ci := 3) (v := .ref b9) (C := R_Tree) (T := F_Tree) (N := 11) hx hb hts i_Tree hown hK hP 5 rfl rfl 6 (by decide) (hts _ q109) (fun _ h9 => h9) rfl d_Tree_follow_142 ?_
        refine lv_iload_n hx hb d_Tree_follow_145 rfl (lv_at hl 2 rfl) ?_
        refine lv_dup2_11 hx hb d_Tree_follow_146 rfl rfl ?_
        refine va_iald hx hb hK hP 9 0 rfl rfl (zI.inn hy_216 (by decide)) d_Tree_follow_147 ?_
        refine lv_topi (fun v_234 ev_234 => ?_)
        refine lv_iconst (v := 1) hx hb d_Tree_follow_148 (by decide) ?_
        refine lv_iadd hx hb d_Tree_follow_149 ?_
        refine lv_topi (fun v_235 ev_235 => ?_)
        refine va_iast hx hb hK hP hD hS 9 0 rfl rfl (zI.inn hy_216 (by decide)) d_Tree_follow_150 (fun H locs hP hD hS => ?_)
        obtain ⟨f_236, gf_236, uf_236, hP, hD⟩ := z_newFu 9 hP hD rfl
        have hP : va_P G.1 classes [(b13, .inl (G.2 0, 260, .inl y_221)), (b1, .inr (2, [.int b22, .int b23, .int b24, .ref b25, .ref b26, .ref b27])), (b25, .inl (G.2 0, 20, .inl b28)), (b26, .inl (G.2 0, 240, .inl b29)), (b27, .inl (G.2 0, 240, .inl b30)), (b0, .inr (3, [.int b3, .int b4, .int y_217, .ref b6, .ref b7, .ref b8, .ref b9, .ref b10, .ref b11, .ref b12, .ref b13])), (b6, .inl (G.2 0, 241, .inl y_222)), (b7, .inl (G.2 0, 241, .inl y_223)), (b8, .inl (G.2 0, 241, .inl y_224)), (b9, .inl (G.2 0, 241, .inl f_236)), (b10, .inl (G.2 0, 241, .inl y_218)), (b11, .inl (G.2 0, 241, .inl y_219)), (b12, .inl (G.2 0, 2410, .inl y_220))] H := hP
        have hD := z_tie hP hD rfl
        exact z_vret hx hb hr hlocks (hP.sub [5, 6, 7, 8, 9, 10, 11, 12, 0, 1, 2, 3, 4] rfl) (hD.sub [5, 6, 7, 8, 9, 10, 11, 12, 0, 1, 2, 3, 4] (by decide) rfl) hS (Nat.le_of_ble_eq_true rfl) (Nat.le_of_ble_eq_true rfl) d_Tree_follow_151 ⟨y_217, y_222, y_223, y_224, f_236, y_218, y_219, y_220, y_221, rfl, rfl, hy_217, hy_222, hy_223, hy_220, hy_221, (by omega), hli_229, (by intro t i h1 h2 h3; rcases Decidable.em ((t : Int) < b2.toInt) with h4 | h4; exact hli_230 t i h4 h2 h3; obtain rfl : t = b2.toInt.toNat := (by omega); exact hli_231 i (by rw [← z_plf hb2 (by decide), ← ev_148] at h3; omega))⟩
      · have _nhc_232 := hc_232
        have ni_237 := (fa_lt _ _).mp (zi_nle hc_232)
        have hv_238 : zI y_215 0 11 := zI.lt_l hy_215 hv_148 (zi_nle hc_232) (by decide)
        have hv_239 : zI v_148 1 12 := zI.lt_r hy_215 hv_148 (zi_nle hc_232) (by decide)
        refine lv_aload_n hx hb d_Tree_follow_54 rfl (lv_at hl 3 rfl) ?_
        refine lv_iload_n hx hb d_Tree_follow_55 rfl (lv_at hl 2 rfl) ?_
        refine lv_aload_n hx hb d_Tree_follow_56 rfl (lv_at hl 4 rfl) ?_
        refine lv_iload_n hx hb d_Tree_follow_57 rfl (lv_at hl 5 rfl) ?_
        refine lv_iload hx hb d_Tree_follow_58 (lv_at hl 0 rfl) ?_
        refine z_callV (index := 63) (As := [.int b2, .int y_215]) (rest := [.int y_216, .ref b0]) (wr := [(b13, .inl (G.2 0, 260, .inl y_221)), (b25, .inl (G.2 0, 20, .inl b28)), (b27, .inl (G.2 0, 240, .inl b30)), (b0, .inr (3, [.int b3, .int b4, .int y_217, .ref b6, .ref b7, .ref b8, .ref b9, .ref b10, .ref b11, .ref b12, .ref b13])), (b6, .inl (G.2 0, 241, .inl y_222)), (b7, .inl (G.2 0, 241, .inl y_223)), (b8, .inl (G.2 0, 241, .inl y_224)), (b9, .inl (G.2 0, 241, .inl y_225)), (b10, .inl (G.2 0, 241, .inl y_218)), (b11, .inl (G.2 0, 241, .inl y_219)), (b12, .inl (G.2 0, 2410, .inl y_220))]) Z (s1_Traces_letterAt l G (b1) (b2) (y_215) (b22) (b23) (b24) (b25) (b26) (b27) (b29) hb2 hv_238 hb22 hb23 hb24 hb29) hl.1 q579 q580 q581 q3 q582 ⟨by decide, by decide, by show _ = some 2; decide +kernel⟩ ⟨Nat.le_of_ble_eq_true rfl, Nat.le_of_ble_eq_true rfl⟩ ⟨Nat.le_of_ble_eq_true rfl, Nat.le_of_ble_eq_true rfl⟩ rfl (Nat.le_of_ble_eq_true rfl) d_Tree_follow_60 hP hD hS hA 1 2 rfl rfl rfl [1, 3] [0, 2, 4, 5, 6, 7, 8, 9, 10, 11, 12] rfl rfl rfl rfl (by decide) (fun v w1 H locs hw_240 hP hD hS => ?_)
        obtain ⟨x_241, rfl, rfl, hx_241⟩ := hw_240
        have hP : va_P G.1 classes [(b13, .inl (G.2 0, 260, .inl y_221)), (b25, .inl (G.2 0, 20, .inl b28)), (b27, .inl (G.2 0, 240, .inl b30)), (b0, .inr (3, [.int b3, .int b4, .int y_217, .ref b6, .ref b7, .ref b8, .ref b9, .ref b10, .ref b11, .ref b12, .ref b13])), (b6, .inl (G.2 0, 241, .inl y_222)), (b7, .inl (G.2 0, 241, .inl y_223)), (b8, .inl (G.2 0, 241, .inl y_224)), (b9, .inl (G.2 0, 241, .inl y_225)), (b10, .inl (G.2 0, 241, .inl y_218)), (b11, .inl (G.2 0, 241, .inl y_219)), (b12, .inl (G.2 0, 2410, .inl y_220)), (b1, .inr (2, [.int b22, .int b23, .int b24, .ref b25, .ref b26, .ref b27])), (b26, .inl (G.2 0, 240, .inl b29))] H := hP
        have hD := z_tie hP hD rfl
        refine W.widen (k := 0) (n := 0) (Nat.le_of_ble_eq_true rfl) (Nat.le_of_ble_eq_true rfl) ?_
        refine z_callV (index := 66) (As := [.int y_216, .int x_241]) (rest := []) (wr := [(b13, .inl (G.2 0, 260, .inl y_221)), (b25, .inl (G.2 0, 20, .inl b28)), (b27, .inl (G.2 0, 240, .inl b30)), (b1, .inr (2, [.int b22, .int b23, .int b24, .ref b25, .ref b26, .ref b27])), (b26, .inl (G.2 0, 240, .inl b29))]) Z (s1_Tree_stepFrom l G (b0) (y_216) (x_241) (b3) (b4) (y_217) (b6) (b7) (b8) (b9) (b10) (b11) (b12) (b13) (y_222) (y_223) (y_224) (y_225) (y_218) (y_219) (y_220) hy_216 hx_241 hb3 hy_217 hy_222 hy_223 hy_220 (by omega) hli_229 (by omega)) hl.1 q583 q585 qs5 q4 q586 ⟨by decide, by decide, by show _ = some 2; decide +kernel⟩ ⟨Nat.le_of_ble_eq_true rfl, Nat.le_of_ble_eq_true rfl⟩ ⟨Nat.le_of_ble_eq_true rfl, Nat.le_of_ble_eq_true rfl⟩ rfl (Nat.le_of_ble_eq_true rfl) d_Tree_follow_63 hP hD hS hA 3 3 rfl rfl rfl [3, 4, 5, 6, 7, 8, 9, 10] [0, 1, 2, 11, 12] rfl rfl rfl rfl (by decide) (fun v w1 H locs hw_242 hP hD hS => ?_)
        refine Exists.elim hw_242 (fun x_243 hz_256 => Exists.elim hz_256 (fun x_244 hz_257 => Exists.elim hz_257 (fun f_245 hz_258 => Exists.elim hz_258 (fun f_246 hz_259 => Exists.elim hz_259 (fun f_247 hz_260 => Exists.elim hz_260 (fun f_248 hz_261 => Exists.elim hz_261 (fun f_249 hz_262 => Exists.elim hz_262 (fun f_250 hz_263 => Exists.elim hz_263 (fun f_251 hz_264 => ?_)))))))))
        clear hw_242 hz_256 hz_257 hz_258 hz_259 hz_260 hz_261 hz_262 hz_263
        obtain ⟨rfl, rfl, hx_243, hx_244, hf_245, hf_246, hf_251, hfx_252, hfx_253, hfx_254, hfx_255⟩ := hz_264
        have hP : va_P G.1 classes [(b13, .inl (G.2 0, 260, .inl y_221)), (b25, .inl (G.2 0, 20, .inl b28)), (b27, .inl (G.2 0, 240, .inl b30)), (b1, .inr (2, [.int b22, .int b23, .int b24, .ref b25, .ref b26, .ref b27])), (b26, .inl (G.2 0, 240, .inl b29)), (b0, .inr (3, [.int b3, .int b4, .int x_244, .ref b6, .ref b7, .ref b8, .ref b9, .ref b10, .ref b11, .ref b12, .ref b13])), (b6, .inl (G.2 0, 241, .inl f_245)), (b7, .inl (G.2 0, 241, .inl f_246)), (b8, .inl (G.2 0, 241, .inl f_247)), (b9, .inl (G.2 0, 241, .inl f_248)), (b10, .inl (G.2 0, 241, .inl f_249)), (b11, .inl (G.2 0, 241, .inl f_250)), (b12, .inl (G.2 0, 2410, .inl f_251))] H := hP
        have hD := z_tie hP hD rfl
        refine W.widen (k := 0) (n := 0) (Nat.le_of_ble_eq_true rfl) (Nat.le_of_ble_eq_true rfl) ?_
        refine lv_istore_n (lv' := [(3, .int x_243), (5, .int y_215), (4, .int v_148), (0, .ref b0), (1, .ref b1), (2, .int b2)]) hx hb d_Tree_follow_66 rfl hl (by decide) rfl (fun ls hl => ?_)
        refine lv_aload_n hx hb d_Tree_follow_67 rfl (lv_at hl 3 rfl) ?_
        refine va_get (D := G.1) (ci := 3) (v := .ref b13) (C := R_Tree) (T := F_Tree) (N := 11) hx hb hts i_Tree hown hK hP 5 rfl rfl 10 (by decide) (hts _ q116) (fun _ h9 => h9) rfl d_Tree_follow_68 ?_
        refine lv_iload_n hx hb d_Tree_follow_71 rfl (lv_at hl 5 rfl) ?_
        refine lv_bipush (v := 13) hx hb d_Tree_follow_72 (by decide) ?_
        refine lv_imul hx hb d_Tree_follow_74 ?_
        refine lv_topi (fun v_265 ev_265 => ?_)
        obtain rfl : v_149 = v_265 := ev_149.trans ev_265.symm
        refine lv_iload hx hb d_Tree_follow_75 (lv_at hl 1 rfl) ?_
        refine lv_iadd hx hb d_Tree_follow_77 ?_
        refine lv_topi (fun v_266 ev_266 => ?_)
        obtain ⟨qv_266, hv_266⟩ := zI_add (l := 0) (h := 258) hv_149 hv_238 ev_266 (by decide)
        refine lv_iconst (v := 1) hx hb d_Tree_follow_78 (by decide) ?_
        refine lv_iadd hx hb d_Tree_follow_79 ?_
        refine lv_topi (fun v_267 ev_267 => ?_)
        obtain ⟨qv_267, hv_267⟩ := zI_add (l := 1) (h := 259) hv_266 zc_1 ev_267 (by decide)
        rw [li_1] at qv_267
        refine lv_iload_n hx hb d_Tree_follow_80 rfl (lv_at hl 0 rfl) ?_
        refine va_iast hx hb hK hP hD hS 0 0 rfl rfl (zI.inn hv_267 (by decide)) d_Tree_follow_81 (fun H locs hP hD hS => ?_)
        obtain ⟨f_268, hf_268, gf_268, uf_268, hP, hD⟩ := z_newq_ (Q := qP) 0 hP hD rfl hy_221 (qP_v hv_267 (by decide) ⟨⟨by have _w := hx_243; have _x := hv_267; omega, by have _w := hx_243; have _x := hv_267; omega⟩, by have _w := hx_243; have _x := hv_267; omega⟩)
        have hP : va_P G.1 classes [(b13, .inl (G.2 0, 260, .inl f_268)), (b25, .inl (G.2 0, 20, .inl b28)), (b27, .inl (G.2 0, 240, .inl b30)), (b1, .inr (2, [.int b22, .int b23, .int b24, .ref b25, .ref b26, .ref b27])), (b26, .inl (G.2 0, 240, .inl b29)), (b0, .inr (3, [.int b3, .int b4, .int x_244, .ref b6, .ref b7, .ref b8, .ref b9, .ref b10, .ref b11, .ref b12, .ref b13])), (b6, .inl (G.2 0, 241, .inl f_245)), (b7, .inl (G.2 0, 241, .inl f_246)), (b8, .inl (G.2 0, 241, .inl f_247)), (b9, .inl (G.2 0, 241, .inl f_248)), (b10, .inl (G.2 0, 241, .inl f_249)), (b11, .inl (G.2 0, 241, .inl f_250)), (b12, .inl (G.2 0, 2410, .inl f_251))] H := hP
        have hD := z_tie hP hD rfl
        refine lv_aload_n hx hb d_Tree_follow_82 rfl (lv_at hl 3 rfl) ?_
        refine va_get (D := G.1) (ci := 3) (v := .ref b8) (C := R_Tree) (T := F_Tree) (N := 11) hx hb hts i_Tree hown hK hP 5 rfl rfl 5 (by decide) (hts _ q107) (fun _ h9 => h9) rfl d_Tree_follow_83 ?_
        refine lv_iload_n hx hb d_Tree_follow_86 rfl (lv_at hl 0 rfl) ?_
        refine lv_dup2_11 hx hb d_Tree_follow_87 rfl rfl ?_
        refine va_iald hx hb hK hP 8 0 rfl rfl (zI.inn hx_243 (by decide)) d_Tree_follow_88 ?_
        refine lv_topi (fun v_269 ev_269 => ?_)
        refine lv_iconst (v := 1) hx hb d_Tree_follow_89 (by decide) ?_
        refine lv_iadd hx hb d_Tree_follow_90 ?_
        refine lv_topi (fun v_270 ev_270 => ?_)
        refine va_iast hx hb hK hP hD hS 8 0 rfl rfl (zI.inn hx_243 (by decide)) d_Tree_follow_91 (fun H locs hP hD hS => ?_)
        obtain ⟨f_271, gf_271, uf_271, hP, hD⟩ := z_newFu 8 hP hD rfl
        have hP : va_P G.1 classes [(b13, .inl (G.2 0, 260, .inl f_268)), (b25, .inl (G.2 0, 20, .inl b28)), (b27, .inl (G.2 0, 240, .inl b30)), (b1, .inr (2, [.int b22, .int b23, .int b24, .ref b25, .ref b26, .ref b27])), (b26, .inl (G.2 0, 240, .inl b29)), (b0, .inr (3, [.int b3, .int b4, .int x_244, .ref b6, .ref b7, .ref b8, .ref b9, .ref b10, .ref b11, .ref b12, .ref b13])), (b6, .inl (G.2 0, 241, .inl f_245)), (b7, .inl (G.2 0, 241, .inl f_246)), (b8, .inl (G.2 0, 241, .inl f_271)), (b9, .inl (G.2 0, 241, .inl f_248)), (b10, .inl (G.2 0, 241, .inl f_249)), (b11, .inl (G.2 0, 241, .inl f_250)), (b12, .inl (G.2 0, 2410, .inl f_251))] H := hP
        have hD := z_tie hP hD rfl
        refine lv_aload_n hx hb d_Tree_follow_92 rfl (lv_at hl 4 rfl) ?_
        refine lv_iload_n hx hb d_Tree_follow_93 rfl (lv_at hl 5 rfl) ?_
        refine lv_iload hx hb d_Tree_follow_94 (lv_at hl 1 rfl) ?_
        refine z_callV (index := 69) (As := [.int b2, .int y_215]) (rest := []) (wr := [(b13, .inl (G.2 0, 260, .inl f_268)), (b25, .inl (G.2 0, 20, .inl b28)), (b26, .inl (G.2 0, 240, .inl b29)), (b0, .inr (3, [.int b3, .int b4, .int x_244, .ref b6, .ref b7, .ref b8, .ref b9, .ref b10, .ref b11, .ref b12, .ref b13])), (b6, .inl (G.2 0, 241, .inl f_245)), (b7, .inl (G.2 0, 241, .inl f_246)), (b8, .inl (G.2 0, 241, .inl f_271)), (b9, .inl (G.2 0, 241, .inl f_248)), (b10, .inl (G.2 0, 241, .inl f_249)), (b11, .inl (G.2 0, 241, .inl f_250)), (b12, .inl (G.2 0, 2410, .inl f_251))]) Z (s1_Traces_valueAt l G (b1) (b2) (y_215) (b22) (b23) (b24) (b25) (b26) (b27) (b30) hb2 hv_238 hb22 hb23 hb24) hl.1 q587 q588 q589 q3 q590 ⟨by decide, by decide, by show _ = some 2; decide +kernel⟩ ⟨Nat.le_of_ble_eq_true rfl, Nat.le_of_ble_eq_true rfl⟩ ⟨Nat.le_of_ble_eq_true rfl, Nat.le_of_ble_eq_true rfl⟩ rfl (Nat.le_of_ble_eq_true rfl) d_Tree_follow_96 hP hD hS hA 3 2 rfl rfl rfl [3, 2] [0, 1, 4, 5, 6, 7, 8, 9, 10, 11, 12] rfl rfl rfl rfl (by decide) (fun v w1 H locs hw_272 hP hD hS => ?_)
        obtain ⟨x_273, rfl, rfl⟩ := hw_272
        have hP : va_P G.1 classes [(b13, .inl (G.2 0, 260, .inl f_268)), (b25, .inl (G.2 0, 20, .inl b28)), (b26, .inl (G.2 0, 240, .inl b29)), (b0, .inr (3, [.int b3, .int b4, .int x_244, .ref b6, .ref b7, .ref b8, .ref b9, .ref b10, .ref b11, .ref b12, .ref b13])), (b6, .inl (G.2 0, 241, .inl f_245)), (b7, .inl (G.2 0, 241, .inl f_246)), (b8, .inl (G.2 0, 241, .inl f_271)), (b9, .inl (G.2 0, 241, .inl f_248)), (b10, .inl (G.2 0, 241, .inl f_249)), (b11, .inl (G.2 0, 241, .inl f_250)), (b12, .inl (G.2 0, 2410, .inl f_251)), (b1, .inr (2, [.int b22, .int b23, .int b24, .ref b25, .ref b26, .ref b27])), (b27, .inl (G.2 0, 240, .inl b30))] H := hP
        have hD := z_tie hP hD rfl
        refine W.widen (k := 0) (n := 0) (Nat.le_of_ble_eq_true rfl) (Nat.le_of_ble_eq_true rfl) ?_
        refine lv_istore (lv' := [(6, .int x_273), (3, .int x_243), (5, .int y_215), (4, .int v_148), (0, .ref b0), (1, .ref b1), (2, .int b2)]) hx hb d_Tree_follow_99 hl (by decide) rfl (fun ls hl => ?_)
        refine lv_aload_n hx hb d_Tree_follow_101 rfl (lv_at hl 4 rfl) ?_
        refine va_get (D := G.1) (ci := 3) (v := .ref b10) (C := R_Tree) (T := F_Tree) (N := 11) hx hb hts i_Tree hown hK hP 3 rfl rfl 7 (by decide) (hts _ q111) (fun _ h9 => h9) rfl d_Tree_follow_102 ?_
        refine lv_iload_n hx hb d_Tree_follow_105 rfl (lv_at hl 1 rfl) ?_
        refine lv_aload_n hx hb d_Tree_follow_106 rfl (lv_at hl 4 rfl) ?_
        refine va_get (D := G.1) (ci := 3) (v := .ref b10) (C := R_Tree) (T := F_Tree) (N := 11) hx hb hts i_Tree hown hK hP 3 rfl rfl 7 (by decide) (hts _ q111) (fun _ h9 => h9) rfl d_Tree_follow_107 ?_
        refine lv_iload_n hx hb d_Tree_follow_110 rfl (lv_at hl 1 rfl) ?_
        refine va_iald hx hb hK hP 8 0 rfl rfl (zI.inn hx_243 (by decide)) d_Tree_follow_111 ?_
        refine lv_topi (fun v_274 ev_274 => ?_)
        refine lv_iload hx hb d_Tree_follow_112 (lv_at hl 0 rfl) ?_
        refine va_mmin hx hb (hml.trans hl.1.symm) hown (hts _ q591) (hts _ q592) (hts _ q20) (hts _ q593) (Nat.le_of_ble_eq_true rfl) (Nat.le_of_ble_eq_true rfl) (Nat.le_of_ble_eq_true rfl) (Nat.le_of_ble_eq_true rfl) d_Tree_follow_114 ?_
        refine lv_topi (fun v_275 ev_275 => ?_)
        have hv_275 := zI_min (l := (-2147483648)) (h := 2147483647) (zI_all v_274) (zI_all x_273) ev_275 (by decide)
        refine va_iast hx hb hK hP hD hS 8 0 rfl rfl (zI.inn hx_243 (by decide)) d_Tree_follow_117 (fun H locs hP hD hS => ?_)
        obtain ⟨f_276, gf_276, uf_276, hP, hD⟩ := z_newFu 8 hP hD rfl
        have hP : va_P G.1 classes [(b13, .inl (G.2 0, 260, .inl f_268)), (b25, .inl (G.2 0, 20, .inl b28)), (b26, .inl (G.2 0, 240, .inl b29)), (b0, .inr (3, [.int b3, .int b4, .int x_244, .ref b6, .ref b7, .ref b8, .ref b9, .ref b10, .ref b11, .ref b12, .ref b13])), (b6, .inl (G.2 0, 241, .inl f_245)), (b7, .inl (G.2 0, 241, .inl f_246)), (b8, .inl (G.2 0, 241, .inl f_271)), (b9, .inl (G.2 0, 241, .inl f_248)), (b10, .inl (G.2 0, 241, .inl f_276)), (b11, .inl (G.2 0, 241, .inl f_250)), (b12, .inl (G.2 0, 2410, .inl f_251)), (b1, .inr (2, [.int b22, .int b23, .int b24, .ref b25, .ref b26, .ref b27])), (b27, .inl (G.2 0, 240, .inl b30))] H := hP
        have hD := z_tie hP hD rfl
        refine lv_aload_n hx hb d_Tree_follow_118 rfl (lv_at hl 4 rfl) ?_
        refine va_get (D := G.1) (ci := 3) (v := .ref b11) (C := R_Tree) (T := F_Tree) (N := 11) hx hb hts i_Tree hown hK hP 3 rfl rfl 8 (by decide) (hts _ q113) (fun _ h9 => h9) rfl d_Tree_follow_119 ?_
        refine lv_iload_n hx hb d_Tree_follow_122 rfl (lv_at hl 1 rfl) ?_
        refine lv_aload_n hx hb d_Tree_follow_123 rfl (lv_at hl 4 rfl) ?_
        refine va_get (D := G.1) (ci := 3) (v := .ref b11) (C := R_Tree) (T := F_Tree) (N := 11) hx hb hts i_Tree hown hK hP 3 rfl rfl 8 (by decide) (hts _ q113) (fun _ h9 => h9) rfl d_Tree_follow_124 ?_
        refine lv_iload_n hx hb d_Tree_follow_127 rfl (lv_at hl 1 rfl) ?_
        refine va_iald hx hb hK hP 9 0 rfl rfl (zI.inn hx_243 (by decide)) d_Tree_follow_128 ?_
        refine lv_topi (fun v_277 ev_277 => ?_)
        refine lv_iload hx hb d_Tree_follow_129 (lv_at hl 0 rfl) ?_
        refine va_mmax hx hb (hml.trans hl.1.symm) hown (hts _ q594) (hts _ q595) (hts _ q20) (hts _ q596) (Nat.le_of_ble_eq_true rfl) (Nat.le_of_ble_eq_true rfl) (Nat.le_of_ble_eq_true rfl) (Nat.le_of_ble_eq_true rfl) d_Tree_follow_131 ?_
        refine lv_topi (fun v_278 ev_278 => ?_)
        have hv_278 := zI_max (l := (-2147483648)) (h := 2147483647) (zI_all v_277) (zI_all x_273) ev_278 (by decide)
        refine va_iast hx hb hK hP hD hS 9 0 rfl rfl (zI.inn hx_243 (by decide)) d_Tree_follow_134 (fun H locs hP hD hS => ?_)
        obtain ⟨f_279, gf_279, uf_279, hP, hD⟩ := z_newFu 9 hP hD rfl
        have hP : va_P G.1 classes [(b13, .inl (G.2 0, 260, .inl f_268)), (b25, .inl (G.2 0, 20, .inl b28)), (b26, .inl (G.2 0, 240, .inl b29)), (b0, .inr (3, [.int b3, .int b4, .int x_244, .ref b6, .ref b7, .ref b8, .ref b9, .ref b10, .ref b11, .ref b12, .ref b13])), (b6, .inl (G.2 0, 241, .inl f_245)), (b7, .inl (G.2 0, 241, .inl f_246)), (b8, .inl (G.2 0, 241, .inl f_271)), (b9, .inl (G.2 0, 241, .inl f_248)), (b10, .inl (G.2 0, 241, .inl f_276)), (b11, .inl (G.2 0, 241, .inl f_279)), (b12, .inl (G.2 0, 2410, .inl f_251)), (b1, .inr (2, [.int b22, .int b23, .int b24, .ref b25, .ref b26, .ref b27])), (b27, .inl (G.2 0, 240, .inl b30))] H := hP
        have hD := z_tie hP hD rfl
        obtain ⟨v_280, ev_280⟩ : ∃ z : Int32, z = y_215 + 1 := ⟨_, rfl⟩
        obtain ⟨qv_280, hv_280⟩ := zI_add (l := 1) (h := 12) hv_238 zc_1 ev_280 (by decide)
        rw [li_1] at qv_280
        refine lv_iinc (v := v_280) (lv' := [(5, .int v_280), (6, .int x_273), (3, .int x_243), (4, .int v_148), (0, .ref b0), (1, .ref b1), (2, .int b2)]) hx hb d_Tree_follow_135 hl (k := 2) rfl (by rw [ev_280]; rfl) (by decide) rfl (fun ls hl => ?_)
        refine lv_goto (tgt := 47) hx hb d_Tree_follow_138 (by decide) ?_
        exact ihk_214 (v_280) (x_243) (x_244) (f_276) (f_279) (f_251) (f_268) (f_245) (f_246) (f_271) (f_248) _ _ _ (zI.wk (l' := 0) (h' := 12) hv_280 (by decide)) hx_243 hx_244 hf_251 hf_268 hf_245 hf_246 (by omega) (by omega) (by omega) hfx_254 (by have _l0 := li_0; have _l1 := li_1; have _l2 := li_13; have p9 := z_pl hv_267 (by decide); intro t i h1 h2 h3; rw [uf_268, z_at]; split; omega; have := hli_230 t i h1 h2 h3; omega) (by have _l0 := li_0; have _l1 := li_1; have _l2 := li_13; have p9 := z_pl hv_267 (by decide); intro i hi; rw [uf_268, z_at]; split; omega; have := hli_231 i (by omega); omega) (zm_up qv_280 hmk_214 (by decide)) (hP.sub [0, 11, 1, 2, 12, 3, 4, 5, 6, 7, 8, 9, 10] rfl) (hD.sub [0, 11, 1, 2, 12, 3, 4, 5, 6, 7, 8, 9, 10] (by decide) rfl) hS (lv_sub hl [0, 3, 2, 4, 5, 6] rfl)
theorem d_Tree_grow_0 : decode prog_11_method_3_code 0 = .ok (.aload_n 0, 1) := by decide +kernel
theorem d_Tree_grow_1 : decode prog_11_method_3_code 1 = .ok (.iconst 1, 1) := by decide +kernel
theorem d_Tree_grow_2 : decode prog_11_method_3_code 2 = .ok (.putfield 36, 3) := by decide +kernel
theorem d_Tree_grow_5 : decode prog_11_method_3_code 5 = .ok (.aload_n 0, 1) := by decide +kernel
theorem d_Tree_grow_6 : decode prog_11_method_3_code 6 = .ok (.iload_n 2, 1) := by decide +kernel
theorem d_Tree_grow_7 : decode prog_11_method_3_code 7 = .ok (.putfield 40, 3) := by decide +kernel
theorem d_Tree_grow_10 : decode prog_11_method_3_code 10 = .ok (.aload_n 0, 1) := by decide +kernel
theorem d_Tree_grow_11 : decode prog_11_method_3_code 11 = .ok (.iconst 0, 1) := by decide +kernel
theorem d_Tree_grow_12 : decode prog_11_method_3_code 12 = .ok (.putfield 44, 3) := by decide +kernel
theorem d_Tree_grow_15 : decode prog_11_method_3_code 15 = .ok (.iconst 0, 1) := by decide +kernel
theorem d_Tree_grow_16 : decode prog_11_method_3_code 16 = .ok (.istore_n 3, 1) := by decide +kernel
theorem d_Tree_grow_17 : decode prog_11_method_3_code 17 = .ok (.iload_n 3, 1) := by decide +kernel
theorem d_Tree_grow_18 : decode prog_11_method_3_code 18 = .ok (.aload_n 1, 1) := by decide +kernel
theorem d_Tree_grow_19 : decode prog_11_method_3_code 19 = .ok (.getfield 47, 3) := by decide +kernel
theorem d_Tree_grow_22 : decode prog_11_method_3_code 22 = .ok (.if_icmp .ge 23, 3) := by decide +kernel
theorem d_Tree_grow_25 : decode prog_11_method_3_code 25 = .ok (.iload_n 3, 1) := by decide +kernel
theorem d_Tree_grow_26 : decode prog_11_method_3_code 26 = .ok (.aload_n 0, 1) := by decide +kernel
theorem d_Tree_grow_27 : decode prog_11_method_3_code 27 = .ok (.getfield 40, 3) := by decide +kernel
theorem d_Tree_grow_30 : decode prog_11_method_3_code 30 = .ok (.if_icmp .eq 9, 3) := by decide +kernel
theorem d_Tree_grow_33 : decode prog_11_method_3_code 33 = .ok (.aload_n 0, 1) := by decide +kernel
theorem d_Tree_grow_34 : decode prog_11_method_3_code 34 = .ok (.aload_n 1, 1) := by decide +kernel
theorem d_Tree_grow_35 : decode prog_11_method_3_code 35 = .ok (.iload_n 3, 1) := by decide +kernel
theorem d_Tree_grow_36 : decode prog_11_method_3_code 36 = .ok (.invokevirtual 52, 3) := by decide +kernel
theorem d_Tree_grow_39 : decode prog_11_method_3_code 39 = .ok (.iinc 3 1, 3) := by decide +kernel
theorem d_Tree_grow_42 : decode prog_11_method_3_code 42 = .ok (.goto (-25), 3) := by decide +kernel
theorem d_Tree_grow_45 : decode prog_11_method_3_code 45 = .ok (.return_, 1) := by decide +kernel
abbrev m_s1_Tree_grow : Room := { frames := 3, cells := 0, slots := 0, locals := 73 }
set_option maxHeartbeats 4000000 in
set_option maxRecDepth 100000 in
theorem s1_Tree_grow (l : Launch) (G : zG) (b0 : Nat) (b1 : Nat) (b2 : Int32) (b3 : Int32) (b4 : Int32) (b5 : Int32) (b6 : Nat) (b7 : Nat) (b8 : Nat) (b9 : Nat) (b10 : Nat) (b11 : Nat) (b12 : Nat) (b13 : Nat) (b14 : Nat → Int32) (b15 : Nat → Int32) (b16 : Nat → Int32) (b17 : Nat → Int32) (b18 : Nat → Int32) (b19 : Nat → Int32) (b20 : Nat → Int32) (b21 : Nat → Int32) (b22 : Int32) (b23 : Int32) (b24 : Int32) (b25 : Nat) (b26 : Nat) (b27 : Nat) (b28 : Nat → Int32) (b29 : Nat → Int32) (b30 : Nat → Int32) (hb2 : zI b2 (-1) 19) (hb3 : zI b3 0 1) (hb5 : zI b5 0 241) (hb22 : zI b22 0 20) (hb23 : zI b23 0 3) (hb24 : zI b24 0 20) (hb14 : zR1 b14 0 240) (hb15 : zR1 b15 0 9) (hb20 : zR b20 (-1) 240) (hb21 : zqa qP b21) (hb28 : zR b28 0 12) (hb29 : zR b29 0 9) : zM l G y_Tree_grow prog_11_method_3_code 4 (Option.none : Option Jvm.ClassFile.FieldType) m_s1_Tree_grow [.ref b0, .ref b1, .int b2] [(b0, .inr (3, [.int b3, .int b4, .int b5, .ref b6, .ref b7, .ref b8, .ref b9, .ref b10, .ref b11, .ref b12, .ref b13])), (b6, .inl (G.2 0, 241, .inl b14)), (b7, .inl (G.2 0, 241, .inl b15)), (b8, .inl (G.2 0, 241, .inl b16)), (b9, .inl (G.2 0, 241, .inl b17)), (b10, .inl (G.2 0, 241, .inl b18)), (b11, .inl (G.2 0, 241, .inl b19)), (b12, .inl (G.2 0, 2410, .inl b20)), (b13, .inl (G.2 0, 260, .inl b21)), (b1, .inr (2, [.int b22, .int b23, .int b24, .ref b25, .ref b26, .ref b27])), (b25, .inl (G.2 0, 20, .inl b28)), (b26, .inl (G.2 0, 240, .inl b29)), (b27, .inl (G.2 0, 240, .inl b30))] (fun v w => ∃ (e0 : Int32), ∃ (e1 : Nat → Int32), ∃ (e2 : Nat → Int32), ∃ (e3 : Nat → Int32), ∃ (e4 : Nat → Int32), ∃ (e5 : Nat → Int32), ∃ (e6 : Nat → Int32), ∃ (e7 : Nat → Int32), ∃ (e8 : Nat → Int32), v = none ∧ w = [(b0, .inr (3, [.int 1, .int b2, .int e0, .ref b6, .ref b7, .ref b8, .ref b9, .ref b10, .ref b11, .ref b12, .ref b13])), (b6, .inl (G.2 0, 241, .inl e1)), (b7, .inl (G.2 0, 241, .inl e2)), (b8, .inl (G.2 0, 241, .inl e3)), (b9, .inl (G.2 0, 241, .inl e4)), (b10, .inl (G.2 0, 241, .inl e5)), (b11, .inl (G.2 0, 241, .inl e6)), (b12, .inl (G.2 0, 2410, .inl e7)), (b13, .inl (G.2 0, 260, .inl e8)), (b1, .inr (2, [.int b22, .int b23, .int b24, .ref b25, .ref b26, .ref b27])), (b25, .inl (G.2 0, 20, .inl b28)), (b26, .inl (G.2 0, 240, .inl b29)), (b27, .inl (G.2 0, 240, .inl b30))] ∧ (zI e0 0 241) ∧ (zR1 e1 0 240) ∧ (zR1 e2 0 9) ∧ (zR e7 (-1) 240) ∧ (zqa qP e8) ∧ (zTr (b22 : Int32).toInt (b2 : Int32).toInt (e0 : Int32).toInt b28 e8)) := by
  refine z_start (by decide +kernel) (Nat.le_of_ble_eq_true rfl) ?_
  intro p e s m below meth c A Z hr hnm hA hP hD hS ls hl
  have Z : zC p s m _ meth c prog_11_method_3_code 4 "TraceMachines$Tree" G := Z
  obtain ⟨hx, hb, hml, hown, hts, hK, hN, hlocks⟩ := id Z
  have hl : lv_has ls 4 [(0, .ref b0), (1, .ref b1), (2, .int b2)] := hl
  refine lv_aload_n hx hb d_Tree_grow_0 rfl (lv_at hl 0 rfl) ?_
  refine lv_iconst (v := 1) hx hb d_Tree_grow_1 (by decide) ?_
  refine va_put (D := G.1) (ci := 3) (v := .int 1) (ty := .boolean) (C := R_Tree) (T := F_Tree) (N := 11) hx hb hts i_Tree t_Tree t_Tree_ok n_Tree hown hK hP hD hS 0 rfl rfl 0 (by decide) (hts _ q95) (fun _ h9 => h9) rfl (by decide +kernel) rfl rfl (Nat.le_of_ble_eq_true rfl) d_Tree_grow_2 (fun H locs hP hD hS => ?_)
  have hP : va_P G.1 classes [(b0, .inr (3, [.int 1, .int b4, .int b5, .ref b6, .ref b7, .ref b8, .ref b9, .ref b10, .ref b11, .ref b12, .ref b13])), (b6, .inl (G.2 0, 241, .inl b14)), (b7, .inl (G.2 0, 241, .inl b15)), (b8, .inl (G.2 0, 241, .inl b16)), (b9, .inl (G.2 0, 241, .inl b17)), (b10, .inl (G.2 0, 241, .inl b18)), (b11, .inl (G.2 0, 241, .inl b19)), (b12, .inl (G.2 0, 2410, .inl b20)), (b13, .inl (G.2 0, 260, .inl b21)), (b1, .inr (2, [.int b22, .int b23, .int b24, .ref b25, .ref b26, .ref b27])), (b25, .inl (G.2 0, 20, .inl b28)), (b26, .inl (G.2 0, 240, .inl b29)), (b27, .inl (G.2 0, 240, .inl b30))] H := hP
  have hD := z_tie hP hD rfl
  refine lv_aload_n hx hb d_Tree_grow_5 rfl (lv_at hl 0 rfl) ?_
  refine lv_iload_n hx hb d_Tree_grow_6 rfl (lv_at hl 2 rfl) ?_
  refine va_put (D := G.1) (ci := 3) (v := .int b2) (ty := .int) (C := R_Tree) (T := F_Tree) (N := 11) hx hb hts i_Tree t_Tree t_Tree_ok n_Tree hown hK hP hD hS 0 rfl rfl 1 (by decide) (hts _ q98) (fun _ h9 => h9) rfl (by decide +kernel) rfl rfl (Nat.le_of_ble_eq_true rfl) d_Tree_grow_7 (fun H locs hP hD hS => ?_)
  have hP : va_P G.1 classes [(b0, .inr (3, [.int 1, .int b2, .int b5, .ref b6, .ref b7, .ref b8, .ref b9, .ref b10, .ref b11, .ref b12, .ref b13])), (b6, .inl (G.2 0, 241, .inl b14)), (b7, .inl (G.2 0, 241, .inl b15)), (b8, .inl (G.2 0, 241, .inl b16)), (b9, .inl (G.2 0, 241, .inl b17)), (b10, .inl (G.2 0, 241, .inl b18)), (b11, .inl (G.2 0, 241, .inl b19)), (b12, .inl (G.2 0, 2410, .inl b20)), (b13, .inl (G.2 0, 260, .inl b21)), (b1, .inr (2, [.int b22, .int b23, .int b24, .ref b25, .ref b26, .ref b27])), (b25, .inl (G.2 0, 20, .inl b28)), (b26, .inl (G.2 0, 240, .inl b29)), (b27, .inl (G.2 0, 240, .inl b30))] H := hP
  have hD := z_tie hP hD rfl
  refine lv_aload_n hx hb d_Tree_grow_10 rfl (lv_at hl 0 rfl) ?_
  refine lv_iconst (v := 0) hx hb d_Tree_grow_11 (by decide) ?_
  refine va_put (D := G.1) (ci := 3) (v := .int 0) (ty := .int) (C := R_Tree) (T := F_Tree) (N := 11) hx hb hts i_Tree t_Tree t_Tree_ok n_Tree hown hK hP hD hS 0 rfl rfl 2 (by decide) (hts _ q100) (fun _ h9 => h9) rfl (by decide +kernel) rfl rfl (Nat.le_of_ble_eq_true rfl) d_Tree_grow_12 (fun H locs hP hD hS => ?_)
  have hP : va_P G.1 classes [(b0, .inr (3, [.int 1, .int b2, .int 0, .ref b6, .ref b7, .ref b8, .ref b9, .ref b10, .ref b11, .ref b12, .ref b13])), (b6, .inl (G.2 0, 241, .inl b14)), (b7, .inl (G.2 0, 241, .inl b15)), (b8, .inl (G.2 0, 241, .inl b16)), (b9, .inl (G.2 0, 241, .inl b17)), (b10, .inl (G.2 0, 241, .inl b18)), (b11, .inl (G.2 0, 241, .inl b19)), (b12, .inl (G.2 0, 2410, .inl b20)), (b13, .inl (G.2 0, 260, .inl b21)), (b1, .inr (2, [.int b22, .int b23, .int b24, .ref b25, .ref b26, .ref b27])), (b25, .inl (G.2 0, 20, .inl b28)), (b26, .inl (G.2 0, 240, .inl b29)), (b27, .inl (G.2 0, 240, .inl b30))] H := hP
  have hD := z_tie hP hD rfl
  refine lv_iconst (v := 0) hx hb d_Tree_grow_15 (by decide) ?_
  refine lv_istore_n (lv' := [(3, .int 0), (0, .ref b0), (1, .ref b1), (2, .int b2)]) hx hb d_Tree_grow_16 rfl hl (by decide) rfl (fun ls hl => ?_)
  suffices key : ∀ (k_44 : Nat) (y_45 : Int32) (y_46 : Int32) (y_47 : Nat → Int32) (y_48 : Nat → Int32) (y_49 : Nat → Int32) (y_50 : Nat → Int32) (y_51 : Nat → Int32) (y_52 : Nat → Int32) (y_53 : Nat → Int32) (y_54 : Nat → Int32) (H : Heap) (locs : List Loc) (ls : Array Slot), (zI y_45 0 20) → (zI y_46 0 241) → (zR y_49 (-1) 240) → (zqa qP y_50) → (zR1 y_51 0 240) → (zR1 y_52 0 9) → (y_46.toInt ≤ 12 * y_45.toInt + 1) → (zLo y_49 (10 * (y_46 : Int32).toInt) (y_46 : Int32).toInt) → (zTr ((y_45 : Int32).toInt) (b2 : Int32).toInt (y_46 : Int32).toInt b28 y_50) → (20 : Int) - y_45.toInt < (k_44 : Int) → va_P G.1 classes [(b0, .inr (3, [.int 1, .int b2, .int y_46, .ref b6, .ref b7, .ref b8, .ref b9, .ref b10, .ref b11, .ref b12, .ref b13])), (b6, .inl (G.2 0, 241, .inl y_51)), (b7, .inl (G.2 0, 241, .inl y_52)), (b8, .inl (G.2 0, 241, .inl y_53)), (b9, .inl (G.2 0, 241, .inl y_54)), (b10, .inl (G.2 0, 241, .inl y_47)), (b11, .inl (G.2 0, 241, .inl y_48)), (b12, .inl (G.2 0, 2410, .inl y_49)), (b13, .inl (G.2 0, 260, .inl y_50)), (b1, .inr (2, [.int b22, .int b23, .int b24, .ref b25, .ref b26, .ref b27])), (b25, .inl (G.2 0, 20, .inl b28)), (b26, .inl (G.2 0, 240, .inl b29)), (b27, .inl (G.2 0, 240, .inl b30))] H → va_D A [(b0, .inr (3, [.int 1, .int b2, .int y_46, .ref b6, .ref b7, .ref b8, .ref b9, .ref b10, .ref b11, .ref b12, .ref b13])), (b6, .inl (G.2 0, 241, .inl y_51)), (b7, .inl (G.2 0, 241, .inl y_52)), (b8, .inl (G.2 0, 241, .inl y_53)), (b9, .inl (G.2 0, 241, .inl y_54)), (b10, .inl (G.2 0, 241, .inl y_47)), (b11, .inl (G.2 0, 241, .inl y_48)), (b12, .inl (G.2 0, 2410, .inl y_49)), (b13, .inl (G.2 0, 260, .inl y_50)), (b1, .inr (2, [.int b22, .int b23, .int b24, .ref b25, .ref b26, .ref b27])), (b25, .inl (G.2 0, 20, .inl b28)), (b26, .inl (G.2 0, 240, .inl b29)), (b27, .inl (G.2 0, 240, .inl b30))] → va_S A s.heap H locs → lv_has ls 4 [(3, .int y_45), (0, .ref b0), (1, .ref b1), (2, .int b2)] → W p l e m_s1_Tree_grow s m ([.ref b0, .ref b1, .int b2] : List Value).toArray below meth c H locs 0 0 (MQ below (zQ G (fun v w => ∃ (e0 : Int32), ∃ (e1 : Nat → Int32), ∃ (e2 : Nat → Int32), ∃ (e3 : Nat → Int32), ∃ (e4 : Nat → Int32), ∃ (e5 : Nat → Int32), ∃ (e6 : Nat → Int32), ∃ (e7 : Nat → Int32), ∃ (e8 : Nat → Int32), v = none ∧ w = [(b0, .inr (3, [.int 1, .int b2, .int e0, .ref b6, .ref b7, .ref b8, .ref b9, .ref b10, .ref b11, .ref b12, .ref b13])), (b6, .inl (G.2 0, 241, .inl e1)), (b7, .inl (G.2 0, 241, .inl e2)), (b8, .inl (G.2 0, 241, .inl e3)), (b9, .inl (G.2 0, 241, .inl e4)), (b10, .inl (G.2 0, 241, .inl e5)), (b11, .inl (G.2 0, 241, .inl e6)), (b12, .inl (G.2 0, 2410, .inl e7)), (b13, .inl (G.2 0, 260, .inl e8)), (b1, .inr (2, [.int b22, .int b23, .int b24, .ref b25, .ref b26, .ref b27])), (b25, .inl (G.2 0, 20, .inl b28)), (b26, .inl (G.2 0, 240, .inl b29)), (b27, .inl (G.2 0, 240, .inl b30))] ∧ (zI e0 0 241) ∧ (zR1 e1 0 240) ∧ (zR1 e2 0 9) ∧ (zR e7 (-1) 240) ∧ (zqa qP e8) ∧ (zTr (b22 : Int32).toInt (b2 : Int32).toInt (e0 : Int32).toInt b28 e8)) A) ([.ref b0, .ref b1, .int b2] : List Value).toArray s m_s1_Tree_grow.cells m_s1_Tree_grow.slots A) (F0 m 17 ls []) by
    exact key 21 (0) (0) (b18) (b19) (b20) (b21) (b14) (b15) (b16) (b17) _ _ _ (zI.wk (l' := 0) (h' := 20) zc_0 (by decide)) (zI.wk (l' := 0) (h' := 241) zc_0 (by decide)) hb20 hb21 hb14 hb15 (by have _l0 := li_0; have _l1 := li_0; omega) (by have _l0 := li_0; intro q hq; omega) (by have _l0 := li_0; intro t i h1 h2 h3; omega) (zm_upi (zI.wk (l' := 0) (h' := 20) zc_0 (by decide)) (by decide)) hP hD hS (lv_sub hl [0, 1, 2, 3] rfl)
  intro k_44
  induction k_44 with
  | zero =>
    intro y_45 y_46 y_47 y_48 y_49 y_50 y_51 y_52 y_53 y_54 H locs ls hy_45 hy_46 hy_49 hy_50 hy_51 hy_52 hli_55 hli_56 hli_57 hmk_44 hP hD hS hl
    exact (zm_up0 hy_45 hmk_44).elim
  | succ k_44 ihk_44 =>
    intro y_45 y_46 y_47 y_48 y_49 y_50 y_51 y_52 y_53 y_54 H locs ls hy_45 hy_46 hy_49 hy_50 hy_51 hy_52 hli_55 hli_56 hli_57 hmk_44 hP hD hS hl
    refine lv_iload_n hx hb d_Tree_grow_17 rfl (lv_at hl 0 rfl) ?_
    refine lv_aload_n hx hb d_Tree_grow_18 rfl (lv_at hl 2 rfl) ?_
    refine va_get (D := G.1) (ci := 2) (v := .int b22) (C := R_Traces) (T := F_Traces) (N := 6) hx hb hts i_Traces hown hK hP 9 rfl rfl 0 (by decide) (hts _ q57) (fun _ h9 => h9) rfl d_Tree_grow_19 ?_
    refine lv_icmp_ge (tgt := 45) hx hb d_Tree_grow_22 (by decide) (fun hc_58 => ?_) (fun hc_58 => ?_)
    · have _nhc_58 := hc_58
      have ni_59 := (fa_le _ _).mp hc_58
      exact z_vret hx hb hr hlocks hP hD hS (Nat.le_of_ble_eq_true rfl) (Nat.le_of_ble_eq_true rfl) d_Tree_grow_45 ⟨y_46, y_51, y_52, y_53, y_54, y_47, y_48, y_49, y_50, rfl, rfl, hy_46, hy_51, hy_52, hy_49, hy_50, (by intro t i h1 h2 h3; exact hli_57 t i (by omega) h2 h3)⟩
    · have _nhc_58 := hc_58
      have ni_60 := (fa_lt _ _).mp (zi_nle hc_58)
      have hv_61 : zI y_45 0 19 := zI.lt_l hy_45 hb22 (zi_nle hc_58) (by decide)
      have hv_62 : zI b22 1 20 := zI.lt_r hy_45 hb22 (zi_nle hc_58) (by decide)
      refine lv_iload_n hx hb d_Tree_grow_25 rfl (lv_at hl 0 rfl) ?_
      refine lv_aload_n hx hb d_Tree_grow_26 rfl (lv_at hl 1 rfl) ?_
      refine va_get (D := G.1) (ci := 3) (v := .int b2) (C := R_Tree) (T := F_Tree) (N := 11) hx hb hts i_Tree hown hK hP 0 rfl rfl 1 (by decide) (hts _ q98) (fun _ h9 => h9) rfl d_Tree_grow_27 ?_
      refine lv_icmp_eq (tgt := 39) hx hb d_Tree_grow_30 (by decide) (fun hc_63 => ?_) (fun hc_63 => ?_)
      · have _nhc_63 := hc_63
        have ni_64 := (fa_eq _ _).mp hc_63
        have hv_65 : zI b2 0 19 := zI.eq_l hb2 hv_61 hc_63.symm
        obtain ⟨v_66, ev_66⟩ : ∃ z : Int32, z = y_45 + 1 := ⟨_, rfl⟩
        obtain ⟨qv_66, hv_66⟩ := zI_add (l := 1) (h := 20) hv_61 zc_1 ev_66 (by decide)
        rw [li_1] at qv_66
        refine lv_iinc (v := v_66) (lv' := [(3, .int v_66), (0, .ref b0), (1, .ref b1), (2, .int b2)]) hx hb d_Tree_grow_39 hl (k := 0) rfl (by rw [ev_66]; rfl) (by decide) rfl (fun ls hl => ?_)
        refine lv_goto (tgt := 17) hx hb d_Tree_grow_42 (by decide) ?_
        exact ihk_44 (v_66) (y_46) (y_47) (y_48) (y_49) (y_50) (y_51) (y_52) (y_53) (y_54) _ _ _ (zI.wk (l' := 0) (h' := 20) hv_66 (by decide)) hy_46 hy_49 hy_50 hy_51 hy_52 (by omega) hli_56 (by intro t i h1 h2 h3; exact hli_57 t i (by omega) h2 h3) (zm_up qv_66 hmk_44 (by decide)) hP hD hS (lv_sub hl [0, 1, 2, 3] rfl)
      · have _nhc_63 := hc_63
        have ni_67 : ¬ (y_45 : Int32).toInt = (b2 : Int32).toInt := fun z => hc_63 ((fa_eq _ _).mpr z)
        refine lv_aload_n hx hb d_Tree_grow_33 rfl (lv_at hl 1 rfl) ?_
        refine lv_aload_n hx hb d_Tree_grow_34 rfl (lv_at hl 2 rfl) ?_
        refine lv_iload_n hx hb d_Tree_grow_35 rfl (lv_at hl 0 rfl) ?_
        refine z_callV (index := 52) (As := [.ref b1, .int y_45]) (rest := []) (wr := []) Z (s1_Tree_follow l G (b0) (b1) (y_45) (1) (b2) (y_46) (b6) (b7) (b8) (b9) (b10) (b11) (b12) (b13) (y_51) (y_52) (y_53) (y_54) (y_47) (y_48) (y_49) (y_50) (b22) (b23) (b24) (b25) (b26) (b27) (b28) (b29) (b30) hv_61 (zI.wk (l' := 0) (h' := 1) zc_1 (by decide)) hy_46 (zI.wk (l' := 0) (h' := 20) hv_62 (by decide)) hb23 hb24 hy_51 hy_52 hy_49 hy_50 hb28 hb29 (by omega) hli_56 hli_57) hl.1 q571 q573 qs3 q4 q574 ⟨by decide, by decide, by show _ = some 2; decide +kernel⟩ ⟨Nat.le_of_ble_eq_true rfl, Nat.le_of_ble_eq_true rfl⟩ ⟨Nat.le_of_ble_eq_true rfl, Nat.le_of_ble_eq_true rfl⟩ rfl (Nat.le_of_ble_eq_true rfl) d_Tree_grow_36 hP hD hS hA 0 3 rfl rfl rfl [0, 1, 2, 3, 4, 5, 6, 7, 8, 9, 10, 11, 12] [] rfl rfl rfl rfl (by decide) (fun v w1 H locs hw_68 hP hD hS => ?_)
        refine Exists.elim hw_68 (fun x_69 hz_81 => Exists.elim hz_81 (fun f_70 hz_82 => Exists.elim hz_82 (fun f_71 hz_83 => Exists.elim hz_83 (fun f_72 hz_84 => Exists.elim hz_84 (fun f_73 hz_85 => Exists.elim hz_85 (fun f_74 hz_86 => Exists.elim hz_86 (fun f_75 hz_87 => Exists.elim hz_87 (fun f_76 hz_88 => Exists.elim hz_88 (fun f_77 hz_89 => ?_)))))))))
        clear hw_68 hz_81 hz_82 hz_83 hz_84 hz_85 hz_86 hz_87 hz_88
        obtain ⟨rfl, rfl, hx_69, hf_70, hf_71, hf_76, hf_77, hfx_78, hfx_79, hfx_80⟩ := hz_89
        have hP : va_P G.1 classes [(b0, .inr (3, [.int 1, .int b2, .int x_69, .ref b6, .ref b7, .ref b8, .ref b9, .ref b10, .ref b11, .ref b12, .ref b13])), (b6, .inl (G.2 0, 241, .inl f_70)), (b7, .inl (G.2 0, 241, .inl f_71)), (b8, .inl (G.2 0, 241, .inl f_72)), (b9, .inl (G.2 0, 241, .inl f_73)), (b10, .inl (G.2 0, 241, .inl f_74)), (b11, .inl (G.2 0, 241, .inl f_75)), (b12, .inl (G.2 0, 2410, .inl f_76)), (b13, .inl (G.2 0, 260, .inl f_77)), (b1, .inr (2, [.int b22, .int b23, .int b24, .ref b25, .ref b26, .ref b27])), (b25, .inl (G.2 0, 20, .inl b28)), (b26, .inl (G.2 0, 240, .inl b29)), (b27, .inl (G.2 0, 240, .inl b30))] H := hP
        have hD := z_tie hP hD rfl
        refine W.widen (k := 0) (n := 0) (Nat.le_of_ble_eq_true rfl) (Nat.le_of_ble_eq_true rfl) ?_
        obtain ⟨v_90, ev_90⟩ : ∃ z : Int32, z = y_45 + 1 := ⟨_, rfl⟩
        obtain ⟨qv_90, hv_90⟩ := zI_add (l := 1) (h := 20) hv_61 zc_1 ev_90 (by decide)
        rw [li_1] at qv_90
        refine lv_iinc (v := v_90) (lv' := [(3, .int v_90), (0, .ref b0), (1, .ref b1), (2, .int b2)]) hx hb d_Tree_grow_39 hl (k := 0) rfl (by rw [ev_90]; rfl) (by decide) rfl (fun ls hl => ?_)
        refine lv_goto (tgt := 17) hx hb d_Tree_grow_42 (by decide) ?_
        exact ihk_44 (v_90) (x_69) (f_74) (f_75) (f_76) (f_77) (f_70) (f_71) (f_72) (f_73) _ _ _ (zI.wk (l' := 0) (h' := 20) hv_90 (by decide)) hx_69 hf_76 hf_77 hf_70 hf_71 (by omega) hfx_79 (by intro t i h1 h2 h3; exact hfx_80 t i (by omega) h2 h3) (zm_up qv_90 hmk_44 (by decide)) hP hD hS (lv_sub hl [0, 1, 2, 3] rfl)
