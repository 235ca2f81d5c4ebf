theorem d_Traces_has_0 : decode prog_10_method_3_code 0 = .ok (.iload_n 1, 1) := by decide +kernel
theorem d_Traces_has_1 : decode prog_10_method_3_code 1 = .ok (.ifCond .lt 15, 3) := by decide +kernel
theorem d_Traces_has_4 : decode prog_10_method_3_code 4 = .ok (.iload_n 1, 1) := by decide +kernel
theorem d_Traces_has_5 : decode prog_10_method_3_code 5 = .ok (.aload_n 0, 1) := by decide +kernel
theorem d_Traces_has_6 : decode prog_10_method_3_code 6 = .ok (.getfield 25, 3) := by decide +kernel
theorem d_Traces_has_9 : decode prog_10_method_3_code 9 = .ok (.if_icmp .ge 7, 3) := by decide +kernel
theorem d_Traces_has_12 : decode prog_10_method_3_code 12 = .ok (.iconst 1, 1) := by decide +kernel
theorem d_Traces_has_13 : decode prog_10_method_3_code 13 = .ok (.goto 4, 3) := by decide +kernel
theorem d_Traces_has_16 : decode prog_10_method_3_code 16 = .ok (.iconst 0, 1) := by decide +kernel
theorem d_Traces_has_17 : decode prog_10_method_3_code 17 = .ok (.ireturn, 1) := by decide +kernel
theorem li_0 : (0 : Int32).toInt = 0 := by decide +kernel
theorem zc_0 : zI 0 0 0 := ⟨by decide +kernel, by decide +kernel⟩
abbrev m_s1_Traces_has : Room := { frames := 0, cells := 0, slots := 0, locals := 0 }
set_option maxHeartbeats 4000000 in
set_option maxRecDepth 100000 in
theorem s1_Traces_has (l : Launch) (G : zG) (b0 : Nat) (b1 : Int32) (b2 : Int32) (b3 : Int32) (b4 : Int32) (b5 : Nat) (b6 : Nat) (b7 : Nat) (hb2 : zI b2 0 20) (hb3 : zI b3 0 3) (hb4 : zI b4 0 20) : zM l G y_Traces_has prog_10_method_3_code 2 (Option.some Jvm.ClassFile.FieldType.boolean) m_s1_Traces_has [.ref b0, .int b1] [(b0, .inr (2, [.int b2, .int b3, .int b4, .ref b5, .ref b6, .ref b7]))] (fun v w => (v = some (.int 0) ∧ w = [(b0, .inr (2, [.int b2, .int b3, .int b4, .ref b5, .ref b6, .ref b7]))] ∧ b1.toInt < 0) ∨ (v = some (.int 0) ∧ w = [(b0, .inr (2, [.int b2, .int b3, .int b4, .ref b5, .ref b6, .ref b7]))] ∧ 0 ≤ b1.toInt ∧ b2.toInt ≤ b1.toInt) ∨ (v = some (.int 1) ∧ w = [(b0, .inr (2, [.int b2, .int b3, .int b4, .ref b5, .ref b6, .ref b7]))] ∧ 0 ≤ b1.toInt ∧ b1.toInt < b2.toInt)) := by
  refine z_start (by decide +kernel) (Nat.le_of_ble_eq_true rfl) ?_
  intro p e s m below meth c A Z hr hnm hA hP hD hS ls hl
  have Z : zC p s m _ meth c prog_10_method_3_code 2 "TraceMachines$Traces" G := Z
  obtain ⟨hx, hb, hml, hown, hts, hK, hN, hlocks⟩ := id Z
  have hl : lv_has ls 2 [(0, .ref b0), (1, .int b1)] := hl
  refine lv_iload_n hx hb d_Traces_has_0 rfl (lv_at hl 1 rfl) ?_
  refine lv_if_lt (tgt := 16) hx hb d_Traces_has_1 (by decide) (fun hc_1 => ?_) (fun hc_1 => ?_)
  · have _nhc_1 := hc_1
    have ni_2 := (fa_lt _ _).mp hc_1
    rw [li_0] at ni_2
    have hv_3 : zI b1 (-2147483648) (-1) := zI.lt_l (zI_all b1) zc_0 hc_1 (by decide)
    refine lv_iconst (v := 0) hx hb d_Traces_has_16 (by decide) ?_
    exact z_zret hx hb hr hlocks rfl hP hD hS (Nat.le_of_ble_eq_true rfl) (Nat.le_of_ble_eq_true rfl) d_Traces_has_17 (Or.inl ⟨rfl, rfl, by omega⟩)
  · have _nhc_1 := hc_1
    have ni_4 := (fa_le _ _).mp (zi_nlt hc_1)
    rw [li_0] at ni_4
    have hv_5 : zI b1 0 2147483647 := zI.le_r zc_0 (zI_all b1) (zi_nlt hc_1) (by decide)
    refine lv_iload_n hx hb d_Traces_has_4 rfl (lv_at hl 1 rfl) ?_
    refine lv_aload_n hx hb d_Traces_has_5 rfl (lv_at hl 0 rfl) ?_
    refine va_get (D := G.1) (ci := 2) (v := .int b2) (C := R_Traces) (T := F_Traces) (N := 6) hx hb hts i_Traces hown hK hP 0 rfl rfl 0 (by decide) (hts _ q52) (fun _ h9 => h9) rfl d_Traces_has_6 ?_
    refine lv_icmp_ge (tgt := 16) hx hb d_Traces_has_9 (by decide) (fun hc_6 => ?_) (fun hc_6 => ?_)
    · have _nhc_6 := hc_6
      have ni_7 := (fa_le _ _).mp hc_6
      refine lv_iconst (v := 0) hx hb d_Traces_has_16 (by decide) ?_
      exact z_zret hx hb hr hlocks rfl hP hD hS (Nat.le_of_ble_eq_true rfl) (Nat.le_of_ble_eq_true rfl) d_Traces_has_17 (Or.inr (Or.inl ⟨rfl, rfl, by omega, by omega⟩))
    · have _nhc_6 := hc_6
      have ni_8 := (fa_lt _ _).mp (zi_nle hc_6)
      have hv_9 : zI b1 0 19 := zI.lt_l hv_5 hb2 (zi_nle hc_6) (by decide)
      have hv_10 : zI b2 1 20 := zI.lt_r hv_5 hb2 (zi_nle hc_6) (by decide)
      refine lv_iconst (v := 1) hx hb d_Traces_has_12 (by decide) ?_
      refine lv_goto (tgt := 17) hx hb d_Traces_has_13 (by decide) ?_
      exact z_zret hx hb hr hlocks rfl hP hD hS (Nat.le_of_ble_eq_true rfl) (Nat.le_of_ble_eq_true rfl) d_Traces_has_17 (Or.inr (Or.inr (⟨rfl, rfl, by omega, by omega⟩)))
theorem d_Traces_letterAt_0 : decode prog_10_method_4_code 0 = .ok (.aload_n 0, 1) := by decide +kernel
theorem d_Traces_letterAt_1 : decode prog_10_method_4_code 1 = .ok (.getfield 19, 3) := by decide +kernel
theorem d_Traces_letterAt_4 : decode prog_10_method_4_code 4 = .ok (.iload_n 1, 1) := by decide +kernel
theorem d_Traces_letterAt_5 : decode prog_10_method_4_code 5 = .ok (.bipush 12, 2) := by decide +kernel
theorem d_Traces_letterAt_7 : decode prog_10_method_4_code 7 = .ok (.imul, 1) := by decide +kernel
theorem d_Traces_letterAt_8 : decode prog_10_method_4_code 8 = .ok (.iload_n 2, 1) := by decide +kernel
theorem d_Traces_letterAt_9 : decode prog_10_method_4_code 9 = .ok (.iadd, 1) := by decide +kernel
theorem d_Traces_letterAt_10 : decode prog_10_method_4_code 10 = .ok (.iaload, 1) := by decide +kernel
theorem d_Traces_letterAt_11 : decode prog_10_method_4_code 11 = .ok (.ireturn, 1) := by decide +kernel
theorem zc_12 : zI 12 12 12 := ⟨by decide +kernel, by decide +kernel⟩
theorem li_12 : (12 : Int32).toInt = 12 := by decide +kernel
abbrev m_s1_Traces_letterAt : Room := { frames := 0, cells := 0, slots := 0, locals := 0 }
set_option maxHeartbeats 4000000 in
set_option maxRecDepth 100000 in
theorem s1_Traces_letterAt (l : Launch) (G : zG) (b0 : Nat) (b1 : Int32) (b2 : Int32) (b3 : Int32) (b4 : Int32) (b5 : Int32) (b6 : Nat) (b7 : Nat) (b8 : Nat) (b9 : Nat → Int32) (hb1 : zI b1 0 19) (hb2 : zI b2 0 11) (hb3 : zI b3 0 20) (hb4 : zI b4 0 3) (hb5 : zI b5 0 20) (hb9 : zR b9 0 9) : zM l G y_Traces_letterAt prog_10_method_4_code 3 (Option.some Jvm.ClassFile.FieldType.int) m_s1_Traces_letterAt [.ref b0, .int b1, .int b2] [(b0, .inr (2, [.int b3, .int b4, .int b5, .ref b6, .ref b7, .ref b8])), (b7, .inl (G.2 0, 240, .inl b9))] (fun v w => ∃ (e0 : Int32), v = some (.int e0) ∧ w = [(b0, .inr (2, [.int b3, .int b4, .int b5, .ref b6, .ref b7, .ref b8])), (b7, .inl (G.2 0, 240, .inl b9))] ∧ (zI e0 0 9)) := by
  refine z_start (by decide +kernel) (Nat.le_of_ble_eq_true rfl) ?_
  intro p e s m below meth c A Z hr hnm hA hP hD hS ls hl
  have Z : zC p s m _ meth c prog_10_method_4_code 3 "TraceMachines$Traces" G := Z
  obtain ⟨hx, hb, hml, hown, hts, hK, hN, hlocks⟩ := id Z
  have hl : lv_has ls 3 [(0, .ref b0), (1, .int b1), (2, .int b2)] := hl
  refine lv_aload_n hx hb d_Traces_letterAt_0 rfl (lv_at hl 0 rfl) ?_
  refine va_get (D := G.1) (ci := 2) (v := .ref b7) (C := R_Traces) (T := F_Traces) (N := 6) hx hb hts i_Traces hown hK hP 0 rfl rfl 4 (by decide) (hts _ q72) (fun _ h9 => h9) rfl d_Traces_letterAt_1 ?_
  refine lv_iload_n hx hb d_Traces_letterAt_4 rfl (lv_at hl 1 rfl) ?_
  refine lv_bipush (v := 12) hx hb d_Traces_letterAt_5 (by decide) ?_
  refine lv_imul hx hb d_Traces_letterAt_7 ?_
  refine lv_topi (fun v_1 ev_1 => ?_)
  obtain ⟨qv_1, hv_1⟩ := zI_mul (l := 0) (h := 228) hb1 zc_12 ev_1 (by decide)
  rw [li_12] at qv_1
  refine lv_iload_n hx hb d_Traces_letterAt_8 rfl (lv_at hl 2 rfl) ?_
  refine lv_iadd hx hb d_Traces_letterAt_9 ?_
  refine lv_topi (fun v_2 ev_2 => ?_)
  obtain ⟨qv_2, hv_2⟩ := zI_add (l := 0) (h := 239) hv_1 hb2 ev_2 (by decide)
  refine va_iald hx hb hK hP 1 0 rfl rfl (zI.inn hv_2 (by decide)) d_Traces_letterAt_10 ?_
  refine lv_topi (fun v_3 ev_3 => ?_)
  have hv_3 : zI v_3 0 9 := (hb9 _).eq ev_3
  exact z_iret hx hb hr hlocks hP hD hS (Nat.le_of_ble_eq_true rfl) (Nat.le_of_ble_eq_true rfl) d_Traces_letterAt_11 ⟨v_3, rfl, rfl, hv_3⟩
theorem d_Traces_valueAt_0 : decode prog_10_method_5_code 0 = .ok (.aload_n 0, 1) := by decide +kernel
theorem d_Traces_valueAt_1 : decode prog_10_method_5_code 1 = .ok (.getfield 22, 3) := by decide +kernel
theorem d_Traces_valueAt_4 : decode prog_10_method_5_code 4 = .ok (.iload_n 1, 1) := by decide +kernel
theorem d_Traces_valueAt_5 : decode prog_10_method_5_code 5 = .ok (.bipush 12, 2) := by decide +kernel
theorem d_Traces_valueAt_7 : decode prog_10_method_5_code 7 = .ok (.imul, 1) := by decide +kernel
theorem d_Traces_valueAt_8 : decode prog_10_method_5_code 8 = .ok (.iload_n 2, 1) := by decide +kernel
theorem d_Traces_valueAt_9 : decode prog_10_method_5_code 9 = .ok (.iadd, 1) := by decide +kernel
theorem d_Traces_valueAt_10 : decode prog_10_method_5_code 10 = .ok (.iaload, 1) := by decide +kernel
theorem d_Traces_valueAt_11 : decode prog_10_method_5_code 11 = .ok (.ireturn, 1) := by decide +kernel
abbrev m_s1_Traces_valueAt : Room := { frames := 0, cells := 0, slots := 0, locals := 0 }
set_option maxHeartbeats 4000000 in
set_option maxRecDepth 100000 in
theorem s1_Traces_valueAt (l : Launch) (G : zG) (b0 : Nat) (b1 : Int32) (b2 : Int32) (b3 : Int32) (b4 : Int32) (b5 : Int32) (b6 : Nat) (b7 : Nat) (b8 : Nat) (b9 : Nat → Int32) (hb1 : zI b1 0 19) (hb2 : zI b2 0 11) (hb3 : zI b3 0 20) (hb4 : zI b4 0 3) (hb5 : zI b5 0 20) : zM l G y_Traces_valueAt prog_10_method_5_code 3 (Option.some Jvm.ClassFile.FieldType.int) m_s1_Traces_valueAt [.ref b0, .int b1, .int b2] [(b0, .inr (2, [.int b3, .int b4, .int b5, .ref b6, .ref b7, .ref b8])), (b8, .inl (G.2 0, 240, .inl b9))] (fun v w => ∃ (e0 : Int32), v = some (.int e0) ∧ w = [(b0, .inr (2, [.int b3, .int b4, .int b5, .ref b6, .ref b7, .ref b8])), (b8, .inl (G.2 0, 240, .inl b9))]) := by
  refine z_start (by decide +kernel) (Nat.le_of_ble_eq_true rfl) ?_
  intro p e s m below meth c A Z hr hnm hA hP hD hS ls hl
  have Z : zC p s m _ meth c prog_10_method_5_code 3 "TraceMachines$Traces" G := Z
  obtain ⟨hx, hb, hml, hown, hts, hK, hN, hlocks⟩ := id Z
  have hl : lv_has ls 3 [(0, .ref b0), (1, .int b1), (2, .int b2)] := hl
  refine lv_aload_n hx hb d_Traces_valueAt_0 rfl (lv_at hl 0 rfl) ?_
  refine va_get (D := G.1) (ci := 2) (v := .ref b8) (C := R_Traces) (T := F_Traces) (N := 6) hx hb hts i_Traces hown hK hP 0 rfl rfl 5 (by decide) (hts _ q73) (fun _ h9 => h9) rfl d_Traces_valueAt_1 ?_
  refine lv_iload_n hx hb d_Traces_valueAt_4 rfl (lv_at hl 1 rfl) ?_
  refine lv_bipush (v := 12) hx hb d_Traces_valueAt_5 (by decide) ?_
  refine lv_imul hx hb d_Traces_valueAt_7 ?_
  refine lv_topi (fun v_1 ev_1 => ?_)
  obtain ⟨qv_1, hv_1⟩ := zI_mul (l := 0) (h := 228) hb1 zc_12 ev_1 (by decide)
  rw [li_12] at qv_1
  refine lv_iload_n hx hb d_Traces_valueAt_8 rfl (lv_at hl 2 rfl) ?_
  refine lv_iadd hx hb d_Traces_valueAt_9 ?_
  refine lv_topi (fun v_2 ev_2 => ?_)
  obtain ⟨qv_2, hv_2⟩ := zI_add (l := 0) (h := 239) hv_1 hb2 ev_2 (by decide)
  refine va_iald hx hb hK hP 1 0 rfl rfl (zI.inn hv_2 (by decide)) d_Traces_valueAt_10 ?_
  refine lv_topi (fun v_3 ev_3 => ?_)
  exact z_iret hx hb hr hlocks hP hD hS (Nat.le_of_ble_eq_true rfl) (Nat.le_of_ble_eq_true rfl) d_Traces_valueAt_11 ⟨v_3, rfl, rfl⟩
theorem d_Traces_allCalls_0 : decode prog_10_method_6_code 0 = .ok (.iconst 0, 1) := by decide +kernel
theorem d_Traces_allCalls_1 : decode prog_10_method_6_code 1 = .ok (.istore_n 1, 1) := by decide +kernel
theorem d_Traces_allCalls_2 : decode prog_10_method_6_code 2 = .ok (.iconst 0, 1) := by decide +kernel
theorem d_Traces_allCalls_3 : decode prog_10_method_6_code 3 = .ok (.istore_n 2, 1) := by decide +kernel
theorem d_Traces_allCalls_4 : decode prog_10_method_6_code 4 = .ok (.iload_n 2, 1) := by decide +kernel
theorem d_Traces_allCalls_5 : decode prog_10_method_6_code 5 = .ok (.aload_n 0, 1) := by decide +kernel
theorem d_Traces_allCalls_6 : decode prog_10_method_6_code 6 = .ok (.getfield 25, 3) := by decide +kernel
theorem d_Traces_allCalls_9 : decode prog_10_method_6_code 9 = .ok (.if_icmp .ge 18, 3) := by decide +kernel
theorem d_Traces_allCalls_12 : decode prog_10_method_6_code 12 = .ok (.iload_n 1, 1) := by decide +kernel
theorem d_Traces_allCalls_13 : decode prog_10_method_6_code 13 = .ok (.aload_n 0, 1) := by decide +kernel
theorem d_Traces_allCalls_14 : decode prog_10_method_6_code 14 = .ok (.getfield 15, 3) := by decide +kernel
theorem d_Traces_allCalls_17 : decode prog_10_method_6_code 17 = .ok (.iload_n 2, 1) := by decide +kernel
theorem d_Traces_allCalls_18 : decode prog_10_method_6_code 18 = .ok (.iaload, 1) := by decide +kernel
theorem d_Traces_allCalls_19 : decode prog_10_method_6_code 19 = .ok (.iadd, 1) := by decide +kernel
theorem d_Traces_allCalls_20 : decode prog_10_method_6_code 20 = .ok (.istore_n 1, 1) := by decide +kernel
theorem d_Traces_allCalls_21 : decode prog_10_method_6_code 21 = .ok (.iinc 2 1, 3) := by decide +kernel
theorem d_Traces_allCalls_24 : decode prog_10_method_6_code 24 = .ok (.goto (-20), 3) := by decide +kernel
theorem d_Traces_allCalls_27 : decode prog_10_method_6_code 27 = .ok (.iload_n 1, 1) := by decide +kernel
theorem d_Traces_allCalls_28 : decode prog_10_method_6_code 28 = .ok (.ireturn, 1) := by decide +kernel
theorem zc_1 : zI 1 1 1 := ⟨by decide +kernel, by decide +kernel⟩
theorem li_1 : (1 : Int32).toInt = 1 := by decide +kernel
abbrev m_s1_Traces_allCalls : Room := { frames := 0, cells := 0, slots := 0, locals := 0 }
set_option maxHeartbeats 4000000 in
set_option maxRecDepth 100000 in
theorem s1_Traces_allCalls (l : Launch) (G : zG) (b0 : Nat) (b1 : Int32) (b2 : Int32) (b3 : Int32) (b4 : Nat) (b5 : Nat) (b6 : Nat) (b7 : Nat → Int32) (hb1 : zI b1 0 20) (hb2 : zI b2 0 3) (hb3 : zI b3 0 20) (hb7 : zR b7 0 12) : zM l G y_Traces_allCalls prog_10_method_6_code 3 (Option.some Jvm.ClassFile.FieldType.int) m_s1_Traces_allCalls [.ref b0] [(b0, .inr (2, [.int b1, .int b2, .int b3, .ref b4, .ref b5, .ref b6])), (b4, .inl (G.2 0, 20, .inl b7))] (fun v w => ∃ (e0 : Int32), v = some (.int e0) ∧ w = [(b0, .inr (2, [.int b1, .int b2, .int b3, .ref b4, .ref b5, .ref b6])), (b4, .inl (G.2 0, 20, .inl b7))]) := by
  refine z_start (by decide +kernel) (Nat.le_of_ble_eq_true rfl) ?_
  intro p e s m below meth c A Z hr hnm hA hP hD hS ls hl
  have Z : zC p s m _ meth c prog_10_method_6_code 3 "TraceMachines$Traces" G := Z
  obtain ⟨hx, hb, hml, hown, hts, hK, hN, hlocks⟩ := id Z
  have hl : lv_has ls 3 [(0, .ref b0)] := hl
  refine lv_iconst (v := 0) hx hb d_Traces_allCalls_0 (by decide) ?_
  refine lv_istore_n (lv' := [(1, .int 0), (0, .ref b0)]) hx hb d_Traces_allCalls_1 rfl hl (by decide) rfl (fun ls hl => ?_)
  refine lv_iconst (v := 0) hx hb d_Traces_allCalls_2 (by decide) ?_
  refine lv_istore_n (lv' := [(2, .int 0), (1, .int 0), (0, .ref b0)]) hx hb d_Traces_allCalls_3 rfl hl (by decide) rfl (fun ls hl => ?_)
  suffices key : ∀ (k_138 : Nat) (y_139 : Int32) (y_140 : Int32) (H : Heap) (locs : List Loc) (ls : Array Slot), (zI y_139 0 20) → (20 : Int) - y_139.toInt < (k_138 : Int) → va_P G.1 classes [(b0, .inr (2, [.int b1, .int b2, .int b3, .ref b4, .ref b5, .ref b6])), (b4, .inl (G.2 0, 20, .inl b7))] H → va_D A [(b0, .inr (2, [.int b1, .int b2, .int b3, .ref b4, .ref b5, .ref b6])), (b4, .inl (G.2 0, 20, .inl b7))] → va_S A s.heap H locs → lv_has ls 3 [(2, .int y_139), (1, .int y_140), (0, .ref b0)] → W p l e m_s1_Traces_allCalls s m ([.ref b0] : List Value).toArray below meth c H locs 0 0 (MQ below (zQ G (fun v w => ∃ (e0 : Int32), v = some (.int e0) ∧ w = [(b0, .inr (2, [.int b1, .int b2, .int b3, .ref b4, .ref b5, .ref b6])), (b4, .inl (G.2 0, 20, .inl b7))]) A) ([.ref b0] : List Value).toArray s m_s1_Traces_allCalls.cells m_s1_Traces_allCalls.slots A) (F0 m 4 ls []) by
    exact key 21 (0) (0) _ _ _ (zI.wk (l' := 0) (h' := 20) zc_0 (by decide)) (zm_upi (zI.wk (l' := 0) (h' := 20) zc_0 (by decide)) (by decide)) hP hD hS (lv_sub hl [0, 1, 2] rfl)
  intro k_138
  induction k_138 with
  | zero =>
    intro y_139 y_140 H locs ls hy_139 hmk_138 hP hD hS hl
    exact (zm_up0 hy_139 hmk_138).elim
  | succ k_138 ihk_138 =>
    intro y_139 y_140 H locs ls hy_139 hmk_138 hP hD hS hl
    refine lv_iload_n hx hb d_Traces_allCalls_4 rfl (lv_at hl 0 rfl) ?_
    refine lv_aload_n hx hb d_Traces_allCalls_5 rfl (lv_at hl 2 rfl) ?_
    refine va_get (D := G.1) (ci := 2) (v := .int b1) (C := R_Traces) (T := F_Traces) (N := 6) hx hb hts i_Traces hown hK hP 0 rfl rfl 0 (by decide) (hts _ q52) (fun _ h9 => h9) rfl d_Traces_allCalls_6 ?_
    refine lv_icmp_ge (tgt := 27) hx hb d_Traces_allCalls_9 (by decide) (fun hc_141 => ?_) (fun hc_141 => ?_)
    · have _nhc_141 := hc_141
      have ni_142 := (fa_le _ _).mp hc_141
      refine lv_iload_n hx hb d_Traces_allCalls_27 rfl (lv_at hl 1 rfl) ?_
      exact z_iret hx hb hr hlocks hP hD hS (Nat.le_of_ble_eq_true rfl) (Nat.le_of_ble_eq_true rfl) d_Traces_allCalls_28 ⟨y_140, rfl, rfl⟩
    · have _nhc_141 := hc_141
      have ni_143 := (fa_lt _ _).mp (zi_nle hc_141)
      have hv_144 : zI y_139 0 19 := zI.lt_l hy_139 hb1 (zi_nle hc_141) (by decide)
      have hv_145 : zI b1 1 20 := zI.lt_r hy_139 hb1 (zi_nle hc_141) (by decide)
      refine lv_iload_n hx hb d_Traces_allCalls_12 rfl (lv_at hl 1 rfl) ?_
      refine lv_aload_n hx hb d_Traces_allCalls_13 rfl (lv_at hl 2 rfl) ?_
      refine va_get (D := G.1) (ci := 2) (v := .ref b4) (C := R_Traces) (T := F_Traces) (N := 6) hx hb hts i_Traces hown hK hP 0 rfl rfl 3 (by decide) (hts _ q63) (fun _ h9 => h9) rfl d_Traces_allCalls_14 ?_
      refine lv_iload_n hx hb d_Traces_allCalls_17 rfl (lv_at hl 0 rfl) ?_
      refine va_iald hx hb hK hP 1 0 rfl rfl (zI.inn hv_144 (by decide)) d_Traces_allCalls_18 ?_
      refine lv_topi (fun v_146 ev_146 => ?_)
      have hv_146 : zI v_146 0 12 := (hb7 _).eq ev_146
      refine lv_iadd hx hb d_Traces_allCalls_19 ?_
      refine lv_topi (fun v_147 ev_147 => ?_)
      refine lv_istore_n (lv' := [(1, .int v_147), (2, .int y_139), (0, .ref b0)]) hx hb d_Traces_allCalls_20 rfl hl (by decide) rfl (fun ls hl => ?_)
      obtain ⟨v_148, ev_148⟩ : ∃ z : Int32, z = y_139 + 1 := ⟨_, rfl⟩
      obtain ⟨qv_148, hv_148⟩ := zI_add (l := 1) (h := 20) hv_144 zc_1 ev_148 (by decide)
      rw [li_1] at qv_148
      refine lv_iinc (v := v_148) (lv' := [(2, .int v_148), (1, .int v_147), (0, .ref b0)]) hx hb d_Traces_allCalls_21 hl (k := 1) rfl (by rw [ev_148]; rfl) (by decide) rfl (fun ls hl => ?_)
      refine lv_goto (tgt := 4) hx hb d_Traces_allCalls_24 (by decide) ?_
      exact ihk_138 (v_148) (v_147) _ _ _ (zI.wk (l' := 0) (h' := 20) hv_148 (by decide)) (zm_up qv_148 hmk_138 (by decide)) hP hD hS (lv_sub hl [0, 1, 2] rfl)
theorem d_Traces_open_0 : decode prog_10_method_7_code 0 = .ok (.aload_n 0, 1) := by decide +kernel
theorem d_Traces_open_1 : decode prog_10_method_7_code 1 = .ok (.getfield 25, 3) := by decide +kernel
theorem d_Traces_open_4 : decode prog_10_method_7_code 4 = .ok (.bipush 20, 2) := by decide +kernel
theorem d_Traces_open_6 : decode prog_10_method_7_code 6 = .ok (.if_icmp .ne 5, 3) := by decide +kernel
theorem d_Traces_open_9 : decode prog_10_method_7_code 9 = .ok (.iconst 0, 1) := by decide +kernel
theorem d_Traces_open_10 : decode prog_10_method_7_code 10 = .ok (.ireturn, 1) := by decide +kernel
theorem d_Traces_open_11 : decode prog_10_method_7_code 11 = .ok (.aload_n 0, 1) := by decide +kernel
theorem d_Traces_open_12 : decode prog_10_method_7_code 12 = .ok (.getfield 15, 3) := by decide +kernel
theorem d_Traces_open_15 : decode prog_10_method_7_code 15 = .ok (.aload_n 0, 1) := by decide +kernel
theorem d_Traces_open_16 : decode prog_10_method_7_code 16 = .ok (.getfield 25, 3) := by decide +kernel
theorem d_Traces_open_19 : decode prog_10_method_7_code 19 = .ok (.iconst 0, 1) := by decide +kernel
theorem d_Traces_open_20 : decode prog_10_method_7_code 20 = .ok (.iastore, 1) := by decide +kernel
theorem d_Traces_open_21 : decode prog_10_method_7_code 21 = .ok (.aload_n 0, 1) := by decide +kernel
theorem d_Traces_open_22 : decode prog_10_method_7_code 22 = .ok (.dup, 1) := by decide +kernel
theorem d_Traces_open_23 : decode prog_10_method_7_code 23 = .ok (.getfield 25, 3) := by decide +kernel
theorem d_Traces_open_26 : decode prog_10_method_7_code 26 = .ok (.iconst 1, 1) := by decide +kernel
theorem d_Traces_open_27 : decode prog_10_method_7_code 27 = .ok (.iadd, 1) := by decide +kernel
theorem d_Traces_open_28 : decode prog_10_method_7_code 28 = .ok (.putfield 25, 3) := by decide +kernel
theorem d_Traces_open_31 : decode prog_10_method_7_code 31 = .ok (.iconst 1, 1) := by decide +kernel
theorem d_Traces_open_32 : decode prog_10_method_7_code 32 = .ok (.ireturn, 1) := by decide +kernel
theorem zc_20 : zI 20 20 20 := ⟨by decide +kernel, by decide +kernel⟩
theorem li_20 : (20 : Int32).toInt = 20 := by decide +kernel
abbrev m_s1_Traces_open : Room := { frames := 0, cells := 0, slots := 0, locals := 0 }
set_option maxHeartbeats 4000000 in
set_option maxRecDepth 100000 in
theorem s1_Traces_open (l : Launch) (G : zG) (b0 : Nat) (b1 : Int32) (b2 : Int32) (b3 : Int32) (b4 : Nat) (b5 : Nat) (b6 : Nat) (b7 : Nat → Int32) (hb1 : zI b1 0 20) (hb2 : zI b2 0 3) (hb3 : zI b3 0 20) (hb7 : zR b7 0 12) : zM l G y_Traces_open prog_10_method_7_code 1 (Option.some Jvm.ClassFile.FieldType.boolean) m_s1_Traces_open [.ref b0] [(b0, .inr (2, [.int b1, .int b2, .int b3, .ref b4, .ref b5, .ref b6])), (b4, .inl (G.2 0, 20, .inl b7))] (fun v w => ∃ (e0 : Int32), ∃ (e1 : Int32), ∃ (e2 : Nat → Int32), v = some (.int e0) ∧ w = [(b0, .inr (2, [.int e1, .int b2, .int b3, .ref b4, .ref b5, .ref b6])), (b4, .inl (G.2 0, 20, .inl e2))] ∧ (zI e0 0 1) ∧ (zI e1 0 20) ∧ (zR e2 0 12)) := by
  refine z_start (by decide +kernel) (Nat.le_of_ble_eq_true rfl) ?_
  intro p e s m below meth c A Z hr hnm hA hP hD hS ls hl
  have Z : zC p s m _ meth c prog_10_method_7_code 1 "TraceMachines$Traces" G := Z
  obtain ⟨hx, hb, hml, hown, hts, hK, hN, hlocks⟩ := id Z
  have hl : lv_has ls 1 [(0, .ref b0)] := hl
  refine lv_aload_n hx hb d_Traces_open_0 rfl (lv_at hl 0 rfl) ?_
  refine va_get (D := G.1) (ci := 2) (v := .int b1) (C := R_Traces) (T := F_Traces) (N := 6) hx hb hts i_Traces hown hK hP 0 rfl rfl 0 (by decide) (hts _ q52) (fun _ h9 => h9) rfl d_Traces_open_1 ?_
  refine lv_bipush (v := 20) hx hb d_Traces_open_4 (by decide) ?_
  refine lv_icmp_ne (tgt := 11) hx hb d_Traces_open_6 (by decide) (fun hc_1 => ?_) (fun hc_1 => ?_)
  · have _nhc_1 := hc_1
    have ni_2 := fun z => hc_1 ((fa_eq _ _).mpr z)
    simp only [li_20] at ni_2
    have hv_3 : zI b1 0 19 := zI.ne_hi hb1 zc_20 hc_1 (by decide)
    refine lv_aload_n hx hb d_Traces_open_11 rfl (lv_at hl 0 rfl) ?_
    refine va_get (D := G.1) (ci := 2) (v := .ref b4) (C := R_Traces) (T := F_Traces) (N := 6) hx hb hts i_Traces hown hK hP 0 rfl rfl 3 (by decide) (hts _ q63) (fun _ h9 => h9) rfl d_Traces_open_12 ?_
    refine lv_aload_n hx hb d_Traces_open_15 rfl (lv_at hl 0 rfl) ?_
    refine va_get (D := G.1) (ci := 2) (v := .int b1) (C := R_Traces) (T := F_Traces) (N := 6) hx hb hts i_Traces hown hK hP 0 rfl rfl 0 (by decide) (hts _ q52) (fun _ h9 => h9) rfl d_Traces_open_16 ?_
    refine lv_iconst (v := 0) hx hb d_Traces_open_19 (by decide) ?_
    refine va_iast hx hb hK hP hD hS 1 0 rfl rfl (zI.inn hv_3 (by decide)) d_Traces_open_20 (fun H locs hP hD hS => ?_)
    obtain ⟨f_4, hf_4, gf_4, hP, hD⟩ := z_newfu 1 hP hD rfl hb7 (zI.wk (l' := 0) (h' := 12) zc_0 (by decide))
    have hP : va_P G.1 classes [(b0, .inr (2, [.int b1, .int b2, .int b3, .ref b4, .ref b5, .ref b6])), (b4, .inl (G.2 0, 20, .inl f_4))] H := hP
    have hD := z_tie hP hD rfl
    refine lv_aload_n hx hb d_Traces_open_21 rfl (lv_at hl 0 rfl) ?_
    refine lv_dup hx hb d_Traces_open_22 rfl ?_
    refine va_get (D := G.1) (ci := 2) (v := .int b1) (C := R_Traces) (T := F_Traces) (N := 6) hx hb hts i_Traces hown hK hP 0 rfl rfl 0 (by decide) (hts _ q52) (fun _ h9 => h9) rfl d_Traces_open_23 ?_
    refine lv_iconst (v := 1) hx hb d_Traces_open_26 (by decide) ?_
    refine lv_iadd hx hb d_Traces_open_27 ?_
    refine lv_topi (fun v_5 ev_5 => ?_)
    obtain ⟨qv_5, hv_5⟩ := zI_add (l := 1) (h := 20) hv_3 zc_1 ev_5 (by decide)
    rw [li_1] at qv_5
    refine va_put (D := G.1) (ci := 2) (v := .int v_5) (ty := .int) (C := R_Traces) (T := F_Traces) (N := 6) hx hb hts i_Traces t_Traces t_Traces_ok n_Traces hown hK hP hD hS 0 rfl rfl 0 (by decide) (hts _ q52) (fun _ h9 => h9) rfl (by decide +kernel) rfl rfl (Nat.le_of_ble_eq_true rfl) d_Traces_open_28 (fun H locs hP hD hS => ?_)
    have hP : va_P G.1 classes [(b0, .inr (2, [.int v_5, .int b2, .int b3, .ref b4, .ref b5, .ref b6])), (b4, .inl (G.2 0, 20, .inl f_4))] H := hP
    have hD := z_tie hP hD rfl
    refine lv_iconst (v := 1) hx hb d_Traces_open_31 (by decide) ?_
    exact z_zret hx hb hr hlocks rfl hP hD hS (Nat.le_of_ble_eq_true rfl) (Nat.le_of_ble_eq_true rfl) d_Traces_open_32 ⟨1, v_5, f_4, rfl, rfl, (zI.wk (l' := 0) (h' := 1) zc_1 (by decide)), (zI.wk (l' := 0) (h' := 20) hv_5 (by decide)), hf_4⟩
  · have _nhc_1 := hc_1
    have ni_6 := (fa_eq _ _).mp hc_1
    rw [li_20] at ni_6
    have hv_7 : zI b1 20 20 := zI.eq_l hb1 zc_20 hc_1
    refine lv_iconst (v := 0) hx hb d_Traces_open_9 (by decide) ?_
    exact z_zret hx hb hr hlocks rfl hP hD hS (Nat.le_of_ble_eq_true rfl) (Nat.le_of_ble_eq_true rfl) d_Traces_open_10 ⟨0, b1, b7, rfl, rfl, (zI.wk (l' := 0) (h' := 1) zc_0 (by decide)), (zI.wk (l' := 0) (h' := 20) hv_7 (by decide)), hb7⟩
theorem d_Traces_add_0 : decode prog_10_method_8_code 0 = .ok (.aload_n 0, 1) := by decide +kernel
theorem d_Traces_add_1 : decode prog_10_method_8_code 1 = .ok (.getfield 25, 3) := by decide +kernel
theorem d_Traces_add_4 : decode prog_10_method_8_code 4 = .ok (.iconst 1, 1) := by decide +kernel
theorem d_Traces_add_5 : decode prog_10_method_8_code 5 = .ok (.isub, 1) := by decide +kernel
theorem d_Traces_add_6 : decode prog_10_method_8_code 6 = .ok (.istore_n 2, 1) := by decide +kernel
theorem d_Traces_add_7 : decode prog_10_method_8_code 7 = .ok (.iload_n 2, 1) := by decide +kernel
theorem d_Traces_add_8 : decode prog_10_method_8_code 8 = .ok (.ifCond .lt 14, 3) := by decide +kernel
theorem d_Traces_add_11 : decode prog_10_method_8_code 11 = .ok (.aload_n 0, 1) := by decide +kernel
theorem d_Traces_add_12 : decode prog_10_method_8_code 12 = .ok (.getfield 15, 3) := by decide +kernel
theorem d_Traces_add_15 : decode prog_10_method_8_code 15 = .ok (.iload_n 2, 1) := by decide +kernel
theorem d_Traces_add_16 : decode prog_10_method_8_code 16 = .ok (.iaload, 1) := by decide +kernel
theorem d_Traces_add_17 : decode prog_10_method_8_code 17 = .ok (.bipush 12, 2) := by decide +kernel
theorem d_Traces_add_19 : decode prog_10_method_8_code 19 = .ok (.if_icmp .ne 5, 3) := by decide +kernel
theorem d_Traces_add_22 : decode prog_10_method_8_code 22 = .ok (.iconst 0, 1) := by decide +kernel
theorem d_Traces_add_23 : decode prog_10_method_8_code 23 = .ok (.ireturn, 1) := by decide +kernel
theorem d_Traces_add_24 : decode prog_10_method_8_code 24 = .ok (.iload_n 2, 1) := by decide +kernel
theorem d_Traces_add_25 : decode prog_10_method_8_code 25 = .ok (.bipush 12, 2) := by decide +kernel
theorem d_Traces_add_27 : decode prog_10_method_8_code 27 = .ok (.imul, 1) := by decide +kernel
theorem d_Traces_add_28 : decode prog_10_method_8_code 28 = .ok (.aload_n 0, 1) := by decide +kernel
theorem d_Traces_add_29 : decode prog_10_method_8_code 29 = .ok (.getfield 15, 3) := by decide +kernel
theorem d_Traces_add_32 : decode prog_10_method_8_code 32 = .ok (.iload_n 2, 1) := by decide +kernel
theorem d_Traces_add_33 : decode prog_10_method_8_code 33 = .ok (.iaload, 1) := by decide +kernel
theorem d_Traces_add_34 : decode prog_10_method_8_code 34 = .ok (.iadd, 1) := by decide +kernel
theorem d_Traces_add_35 : decode prog_10_method_8_code 35 = .ok (.istore_n 3, 1) := by decide +kernel
theorem d_Traces_add_36 : decode prog_10_method_8_code 36 = .ok (.aload_n 0, 1) := by decide +kernel
theorem d_Traces_add_37 : decode prog_10_method_8_code 37 = .ok (.getfield 19, 3) := by decide +kernel
theorem d_Traces_add_40 : decode prog_10_method_8_code 40 = .ok (.iload_n 3, 1) := by decide +kernel
theorem d_Traces_add_41 : decode prog_10_method_8_code 41 = .ok (.iload_n 1, 1) := by decide +kernel
theorem d_Traces_add_42 : decode prog_10_method_8_code 42 = .ok (.iastore, 1) := by decide +kernel
theorem d_Traces_add_43 : decode prog_10_method_8_code 43 = .ok (.aload_n 0, 1) := by decide +kernel
theorem d_Traces_add_44 : decode prog_10_method_8_code 44 = .ok (.getfield 22, 3) := by decide +kernel
theorem d_Traces_add_47 : decode prog_10_method_8_code 47 = .ok (.iload_n 3, 1) := by decide +kernel
theorem d_Traces_add_48 : decode prog_10_method_8_code 48 = .ok (.iconst 0, 1) := by decide +kernel
theorem d_Traces_add_49 : decode prog_10_method_8_code 49 = .ok (.iastore, 1) := by decide +kernel
theorem d_Traces_add_50 : decode prog_10_method_8_code 50 = .ok (.aload_n 0, 1) := by decide +kernel
theorem d_Traces_add_51 : decode prog_10_method_8_code 51 = .ok (.getfield 15, 3) := by decide +kernel
theorem d_Traces_add_54 : decode prog_10_method_8_code 54 = .ok (.iload_n 2, 1) := by decide +kernel
theorem d_Traces_add_55 : decode prog_10_method_8_code 55 = .ok (.dup2, 1) := by decide +kernel
theorem d_Traces_add_56 : decode prog_10_method_8_code 56 = .ok (.iaload, 1) := by decide +kernel
theorem d_Traces_add_57 : decode prog_10_method_8_code 57 = .ok (.iconst 1, 1) := by decide +kernel
theorem d_Traces_add_58 : decode prog_10_method_8_code 58 = .ok (.iadd, 1) := by decide +kernel
theorem d_Traces_add_59 : decode prog_10_method_8_code 59 = .ok (.iastore, 1) := by decide +kernel
theorem d_Traces_add_60 : decode prog_10_method_8_code 60 = .ok (.iconst 1, 1) := by decide +kernel
theorem d_Traces_add_61 : decode prog_10_method_8_code 61 = .ok (.ireturn, 1) := by decide +kernel
abbrev m_s1_Traces_add : Room := { frames := 0, cells := 0, slots := 0, locals := 0 }
set_option maxHeartbeats 4000000 in
set_option maxRecDepth 100000 in
theorem s1_Traces_add (l : Launch) (G : zG) (b0 : Nat) (b1 : Int32) (b2 : Int32) (b3 : Int32) (b4 : Int32) (b5 : Nat) (b6 : Nat) (b7 : Nat) (b8 : Nat → Int32) (b9 : Nat → Int32) (b10 : Nat → Int32) (hb1 : zI b1 0 9) (hb2 : zI b2 0 20) (hb3 : zI b3 0 3) (hb4 : zI b4 0 20) (hb8 : zR b8 0 12) (hb9 : zR b9 0 9) : zM l G y_Traces_add prog_10_method_8_code 4 (Option.some Jvm.ClassFile.FieldType.boolean) m_s1_Traces_add [.ref b0, .int b1] [(b0, .inr (2, [.int b2, .int b3, .int b4, .ref b5, .ref b6, .ref b7])), (b5, .inl (G.2 0, 20, .inl b8)), (b6, .inl (G.2 0, 240, .inl b9)), (b7, .inl (G.2 0, 240, .inl b10))] (fun v w => ∃ (e0 : Int32), ∃ (e1 : Nat → Int32), ∃ (e2 : Nat → Int32), ∃ (e3 : Nat → Int32), v = some (.int e0) ∧ w = [(b0, .inr (2, [.int b2, .int b3, .int b4, .ref b5, .ref b6, .ref b7])), (b5, .inl (G.2 0, 20, .inl e1)), (b6, .inl (G.2 0, 240, .inl e2)), (b7, .inl (G.2 0, 240, .inl e3))] ∧ (zI e0 0 1) ∧ (zR e1 0 12) ∧ (zR e2 0 9)) := by
  refine z_start (by decide +kernel) (Nat.le_of_ble_eq_true rfl) ?_
  intro p e s m below meth c A Z hr hnm hA hP hD hS ls hl
  have Z : zC p s m _ meth c prog_10_method_8_code 4 "TraceMachines$Traces" G := Z
  obtain ⟨hx, hb, hml, hown, hts, hK, hN, hlocks⟩ := id Z
  have hl : lv_has ls 4 [(0, .ref b0), (1, .int b1)] := hl
  refine lv_aload_n hx hb d_Traces_add_0 rfl (lv_at hl 0 rfl) ?_
  refine va_get (D := G.1) (ci := 2) (v := .int b2) (C := R_Traces) (T := F_Traces) (N := 6) hx hb hts i_Traces hown hK hP 0 rfl rfl 0 (by decide) (hts _ q52) (fun _ h9 => h9) rfl d_Traces_add_1 ?_
  refine lv_iconst (v := 1) hx hb d_Traces_add_4 (by decide) ?_
  refine lv_isub hx hb d_Traces_add_5 ?_
  refine lv_topi (fun v_1 ev_1 => ?_)
  obtain ⟨qv_1, hv_1⟩ := zI_sub (l := -1) (h := 19) hb2 zc_1 ev_1 (by decide)
  rw [li_1] at qv_1
  refine lv_istore_n (lv' := [(2, .int v_1), (0, .ref b0), (1, .int b1)]) hx hb d_Traces_add_6 rfl hl (by decide) rfl (fun ls hl => ?_)
  refine lv_iload_n hx hb d_Traces_add_7 rfl (lv_at hl 0 rfl) ?_
  refine lv_if_lt (tgt := 22) hx hb d_Traces_add_8 (by decide) (fun hc_2 => ?_) (fun hc_2 => ?_)
  · have _nhc_2 := hc_2
    have ni_3 := (fa_lt _ _).mp hc_2
    rw [li_0] at ni_3
    have hv_4 : zI v_1 (-1) (-1) := zI.lt_l hv_1 zc_0 hc_2 (by decide)
    refine lv_iconst (v := 0) hx hb d_Traces_add_22 (by decide) ?_
    exact z_zret hx hb hr hlocks rfl hP hD hS (Nat.le_of_ble_eq_true rfl) (Nat.le_of_ble_eq_true rfl) d_Traces_add_23 ⟨0, b8, b9, b10, rfl, rfl, (zI.wk (l' := 0) (h' := 1) zc_0 (by decide)), hb8, hb9⟩
  · have _nhc_2 := hc_2
    have ni_5 := (fa_le _ _).mp (zi_nlt hc_2)
    rw [li_0] at ni_5
    have hv_6 : zI v_1 0 19 := zI.le_r zc_0 hv_1 (zi_nlt hc_2) (by decide)
    refine lv_aload_n hx hb d_Traces_add_11 rfl (lv_at hl 1 rfl) ?_
    refine va_get (D := G.1) (ci := 2) (v := .ref b5) (C := R_Traces) (T := F_Traces) (N := 6) hx hb hts i_Traces hown hK hP 0 rfl rfl 3 (by decide) (hts _ q63) (fun _ h9 => h9) rfl d_Traces_add_12 ?_
    refine lv_iload_n hx hb d_Traces_add_15 rfl (lv_at hl 0 rfl) ?_
    refine va_iald hx hb hK hP 1 0 rfl rfl (zI.inn hv_6 (by decide)) d_Traces_add_16 ?_
    refine lv_topi (fun v_7 ev_7 => ?_)
    have hv_7 : zI v_7 0 12 := (hb8 _).eq ev_7
    refine lv_bipush (v := 12) hx hb d_Traces_add_17 (by decide) ?_
    refine lv_icmp_ne (tgt := 24) hx hb d_Traces_add_19 (by decide) (fun hc_8 => ?_) (fun hc_8 => ?_)
    · have _nhc_8 := hc_8
      have ni_9 := fun z => hc_8 ((fa_eq _ _).mpr z)
      simp only [li_12] at ni_9
      have hv_10 : zI v_7 0 11 := zI.ne_hi hv_7 zc_12 hc_8 (by decide)
      refine lv_iload_n hx hb d_Traces_add_24 rfl (lv_at hl 0 rfl) ?_
      refine lv_bipush (v := 12) hx hb d_Traces_add_25 (by decide) ?_
      refine lv_imul hx hb d_Traces_add_27 ?_
      refine lv_topi (fun v_11 ev_11 => ?_)
      obtain ⟨qv_11, hv_11⟩ := zI_mul (l := 0) (h := 228) hv_6 zc_12 ev_11 (by decide)
      rw [li_12] at qv_11
      refine lv_aload_n hx hb d_Traces_add_28 rfl (lv_at hl 1 rfl) ?_
      refine va_get (D := G.1) (ci := 2) (v := .ref b5) (C := R_Traces) (T := F_Traces) (N := 6) hx hb hts i_Traces hown hK hP 0 rfl rfl 3 (by decide) (hts _ q63) (fun _ h9 => h9) rfl d_Traces_add_29 ?_
      refine lv_iload_n hx hb d_Traces_add_32 rfl (lv_at hl 0 rfl) ?_
      refine va_iald hx hb hK hP 1 0 rfl rfl (zI.inn hv_6 (by decide)) d_Traces_add_33 ?_
      refine lv_topi (fun v_12 ev_12 => ?_)
      obtain rfl : v_7 = v_12 := ev_7.trans ev_12.symm
      refine lv_iadd hx hb d_Traces_add_34 ?_
      refine lv_topi (fun v_13 ev_13 => ?_)
      obtain ⟨qv_13, hv_13⟩ := zI_add (l := 0) (h := 239) hv_11 hv_10 ev_13 (by decide)
      refine lv_istore_n (lv' := [(3, .int v_13), (2, .int v_1), (0, .ref b0), (1, .int b1)]) hx hb d_Traces_add_35 rfl hl (by decide) rfl (fun ls hl => ?_)
      refine lv_aload_n hx hb d_Traces_add_36 rfl (lv_at hl 2 rfl) ?_
      refine va_get (D := G.1) (ci := 2) (v := .ref b6) (C := R_Traces) (T := F_Traces) (N := 6) hx hb hts i_Traces hown hK hP 0 rfl rfl 4 (by decide) (hts _ q72) (fun _ h9 => h9) rfl d_Traces_add_37 ?_
      refine lv_iload_n hx hb d_Traces_add_40 rfl (lv_at hl 0 rfl) ?_
      refine lv_iload_n hx hb d_Traces_add_41 rfl (lv_at hl 3 rfl) ?_
      refine va_iast hx hb hK hP hD hS 2 0 rfl rfl (zI.inn hv_13 (by decide)) d_Traces_add_42 (fun H locs hP hD hS => ?_)
      obtain ⟨f_14, hf_14, gf_14, hP, hD⟩ := z_newfu 2 hP hD rfl hb9 hb1
      have hP : va_P G.1 classes [(b0, .inr (2, [.int b2, .int b3, .int b4, .ref b5, .ref b6, .ref b7])), (b5, .inl (G.2 0, 20, .inl b8)), (b6, .inl (G.2 0, 240, .inl f_14)), (b7, .inl (G.2 0, 240, .inl b10))] H := hP
      have hD := z_tie hP hD rfl
      refine lv_aload_n hx hb d_Traces_add_43 rfl (lv_at hl 2 rfl) ?_
      refine va_get (D := G.1) (ci := 2) (v := .ref b7) (C := R_Traces) (T := F_Traces) (N := 6) hx hb hts i_Traces hown hK hP 0 rfl rfl 5 (by decide) (hts _ q73) (fun _ h9 => h9) rfl d_Traces_add_44 ?_
      refine lv_iload_n hx hb d_Traces_add_47 rfl (lv_at hl 0 rfl) ?_
      refine lv_iconst (v := 0) hx hb d_Traces_add_48 (by decide) ?_
      refine va_iast hx hb hK hP hD hS 3 0 rfl rfl (zI.inn hv_13 (by decide)) d_Traces_add_49 (fun H locs hP hD hS => ?_)
      obtain ⟨f_15, gf_15, hP, hD⟩ := z_newFu 3 hP hD rfl
      have hP : va_P G.1 classes [(b0, .inr (2, [.int b2, .int b3, .int b4, .ref b5, .ref b6, .ref b7])), (b5, .inl (G.2 0, 20, .inl b8)), (b6, .inl (G.2 0, 240, .inl f_14)), (b7, .inl (G.2 0, 240, .inl f_15))] H := hP
      have hD := z_tie hP hD rfl
      refine lv_aload_n hx hb d_Traces_add_50 rfl (lv_at hl 2 rfl) ?_
      refine va_get (D := G.1) (ci := 2) (v := .ref b5) (C := R_Traces) (T := F_Traces) (N := 6) hx hb hts i_Traces hown hK hP 0 rfl rfl 3 (by decide) (hts _ q63) (fun _ h9 => h9) rfl d_Traces_add_51 ?_
      refine lv_iload_n hx hb d_Traces_add_54 rfl (lv_at hl 1 rfl) ?_
      refine lv_dup2_11 hx hb d_Traces_add_55 rfl rfl ?_
      refine va_iald hx hb hK hP 1 0 rfl rfl (zI.inn hv_6 (by decide)) d_Traces_add_56 ?_
      refine lv_topi (fun v_16 ev_16 => ?_)
      obtain rfl : v_7 = v_16 := ev_7.trans ev_16.symm
      refine lv_iconst (v := 1) hx hb d_Traces_add_57 (by decide) ?_
      refine lv_iadd hx hb d_Traces_add_58 ?_
      refine lv_topi (fun v_17 ev_17 => ?_)
      obtain ⟨qv_17, hv_17⟩ := zI_add (l := 1) (h := 12) hv_10 zc_1 ev_17 (by decide)
      rw [li_1] at qv_17
      refine va_iast hx hb hK hP hD hS 1 0 rfl rfl (zI.inn hv_6 (by decide)) d_Traces_add_59 (fun H locs hP hD hS => ?_)
      obtain ⟨f_18, hf_18, gf_18, hP, hD⟩ := z_newfu 1 hP hD rfl hb8 (zI.wk (l' := 0) (h' := 12) hv_17 (by decide))
      have hP : va_P G.1 classes [(b0, .inr (2, [.int b2, .int b3, .int b4, .ref b5, .ref b6, .ref b7])), (b5, .inl (G.2 0, 20, .inl f_18)), (b6, .inl (G.2 0, 240, .inl f_14)), (b7, .inl (G.2 0, 240, .inl f_15))] H := hP
      have hD := z_tie hP hD rfl
      refine lv_iconst (v := 1) hx hb d_Traces_add_60 (by decide) ?_
      exact z_zret hx hb hr hlocks rfl hP hD hS (Nat.le_of_ble_eq_true rfl) (Nat.le_of_ble_eq_true rfl) d_Traces_add_61 ⟨1, f_18, f_14, f_15, rfl, rfl, (zI.wk (l' := 0) (h' := 1) zc_1 (by decide)), hf_18, hf_14⟩
    · have _nhc_8 := hc_8
      have ni_19 := (fa_eq _ _).mp hc_8
      rw [li_12] at ni_19
      have hv_20 : zI v_7 12 12 := zI.eq_l hv_7 zc_12 hc_8
      refine lv_iconst (v := 0) hx hb d_Traces_add_22 (by decide) ?_
      exact z_zret hx hb hr hlocks rfl hP hD hS (Nat.le_of_ble_eq_true rfl) (Nat.le_of_ble_eq_true rfl) d_Traces_add_23 ⟨0, b8, b9, b10, rfl, rfl, (zI.wk (l' := 0) (h' := 1) zc_0 (by decide)), hb8, hb9⟩
theorem d_Traces_addDigit_0 : decode prog_10_method_9_code 0 = .ok (.aload_n 0, 1) := by decide +kernel
theorem d_Traces_addDigit_1 : decode prog_10_method_9_code 1 = .ok (.getfield 25, 3) := by decide +kernel
theorem d_Traces_addDigit_4 : decode prog_10_method_9_code 4 = .ok (.iconst 1, 1) := by decide +kernel
theorem d_Traces_addDigit_5 : decode prog_10_method_9_code 5 = .ok (.isub, 1) := by decide +kernel
theorem d_Traces_addDigit_6 : decode prog_10_method_9_code 6 = .ok (.istore_n 2, 1) := by decide +kernel
theorem d_Traces_addDigit_7 : decode prog_10_method_9_code 7 = .ok (.iload_n 2, 1) := by decide +kernel
theorem d_Traces_addDigit_8 : decode prog_10_method_9_code 8 = .ok (.ifCond .lt 43, 3) := by decide +kernel
theorem d_Traces_addDigit_11 : decode prog_10_method_9_code 11 = .ok (.aload_n 0, 1) := by decide +kernel
theorem d_Traces_addDigit_12 : decode prog_10_method_9_code 12 = .ok (.getfield 15, 3) := by decide +kernel
theorem d_Traces_addDigit_15 : decode prog_10_method_9_code 15 = .ok (.iload_n 2, 1) := by decide +kernel
theorem d_Traces_addDigit_16 : decode prog_10_method_9_code 16 = .ok (.iaload, 1) := by decide +kernel
theorem d_Traces_addDigit_17 : decode prog_10_method_9_code 17 = .ok (.ifCond .le 34, 3) := by decide +kernel
theorem d_Traces_addDigit_20 : decode prog_10_method_9_code 20 = .ok (.iload_n 2, 1) := by decide +kernel
theorem d_Traces_addDigit_21 : decode prog_10_method_9_code 21 = .ok (.bipush 12, 2) := by decide +kernel
theorem d_Traces_addDigit_23 : decode prog_10_method_9_code 23 = .ok (.imul, 1) := by decide +kernel
theorem d_Traces_addDigit_24 : decode prog_10_method_9_code 24 = .ok (.aload_n 0, 1) := by decide +kernel
theorem d_Traces_addDigit_25 : decode prog_10_method_9_code 25 = .ok (.getfield 15, 3) := by decide +kernel
theorem d_Traces_addDigit_28 : decode prog_10_method_9_code 28 = .ok (.iload_n 2, 1) := by decide +kernel
theorem d_Traces_addDigit_29 : decode prog_10_method_9_code 29 = .ok (.iaload, 1) := by decide +kernel
theorem d_Traces_addDigit_30 : decode prog_10_method_9_code 30 = .ok (.iadd, 1) := by decide +kernel
theorem d_Traces_addDigit_31 : decode prog_10_method_9_code 31 = .ok (.iconst 1, 1) := by decide +kernel
theorem d_Traces_addDigit_32 : decode prog_10_method_9_code 32 = .ok (.isub, 1) := by decide +kernel
theorem d_Traces_addDigit_33 : decode prog_10_method_9_code 33 = .ok (.istore_n 3, 1) := by decide +kernel
theorem d_Traces_addDigit_34 : decode prog_10_method_9_code 34 = .ok (.aload_n 0, 1) := by decide +kernel
theorem d_Traces_addDigit_35 : decode prog_10_method_9_code 35 = .ok (.getfield 22, 3) := by decide +kernel
theorem d_Traces_addDigit_38 : decode prog_10_method_9_code 38 = .ok (.iload_n 3, 1) := by decide +kernel
theorem d_Traces_addDigit_39 : decode prog_10_method_9_code 39 = .ok (.bipush 10, 2) := by decide +kernel
theorem d_Traces_addDigit_41 : decode prog_10_method_9_code 41 = .ok (.aload_n 0, 1) := by decide +kernel
theorem d_Traces_addDigit_42 : decode prog_10_method_9_code 42 = .ok (.getfield 22, 3) := by decide +kernel
theorem d_Traces_addDigit_45 : decode prog_10_method_9_code 45 = .ok (.iload_n 3, 1) := by decide +kernel
theorem d_Traces_addDigit_46 : decode prog_10_method_9_code 46 = .ok (.iaload, 1) := by decide +kernel
theorem d_Traces_addDigit_47 : decode prog_10_method_9_code 47 = .ok (.imul, 1) := by decide +kernel
theorem d_Traces_addDigit_48 : decode prog_10_method_9_code 48 = .ok (.iload_n 1, 1) := by decide +kernel
theorem d_Traces_addDigit_49 : decode prog_10_method_9_code 49 = .ok (.iadd, 1) := by decide +kernel
theorem d_Traces_addDigit_50 : decode prog_10_method_9_code 50 = .ok (.iastore, 1) := by decide +kernel
theorem d_Traces_addDigit_51 : decode prog_10_method_9_code 51 = .ok (.return_, 1) := by decide +kernel
abbrev m_s1_Traces_addDigit : Room := { frames := 0, cells := 0, slots := 0, locals := 0 }
set_option maxHeartbeats 4000000 in
set_option maxRecDepth 100000 in
theorem s1_Traces_addDigit (l : Launch) (G : zG) (b0 : Nat) (b1 : Int32) (b2 : Int32) (b3 : Int32) (b4 : Int32) (b5 : Nat) (b6 : Nat) (b7 : Nat) (b8 : Nat → Int32) (b9 : Nat → Int32) (hb1 : zI b1 0 9) (hb2 : zI b2 0 20) (hb3 : zI b3 0 3) (hb4 : zI b4 0 20) (hb8 : zR b8 0 12) : zM l G y_Traces_addDigit prog_10_method_9_code 4 (Option.none : Option Jvm.ClassFile.FieldType) m_s1_Traces_addDigit [.ref b0, .int b1] [(b0, .inr (2, [.int b2, .int b3, .int b4, .ref b5, .ref b6, .ref b7])), (b5, .inl (G.2 0, 20, .inl b8)), (b7, .inl (G.2 0, 240, .inl b9))] (fun v w => ∃ (e0 : Nat → Int32), v = none ∧ w = [(b0, .inr (2, [.int b2, .int b3, .int b4, .ref b5, .ref b6, .ref b7])), (b5, .inl (G.2 0, 20, .inl b8)), (b7, .inl (G.2 0, 240, .inl e0))]) := by
  refine z_start (by decide +kernel) (Nat.le_of_ble_eq_true rfl) ?_
  intro p e s m below meth c A Z hr hnm hA hP hD hS ls hl
  have Z : zC p s m _ meth c prog_10_method_9_code 4 "TraceMachines$Traces" G := Z
  obtain ⟨hx, hb, hml, hown, hts, hK, hN, hlocks⟩ := id Z
  have hl : lv_has ls 4 [(0, .ref b0), (1, .int b1)] := hl
  refine lv_aload_n hx hb d_Traces_addDigit_0 rfl (lv_at hl 0 rfl) ?_
  refine va_get (D := G.1) (ci := 2) (v := .int b2) (C := R_Traces) (T := F_Traces) (N := 6) hx hb hts i_Traces hown hK hP 0 rfl rfl 0 (by decide) (hts _ q52) (fun _ h9 => h9) rfl d_Traces_addDigit_1 ?_
  refine lv_iconst (v := 1) hx hb d_Traces_addDigit_4 (by decide) ?_
  refine lv_isub hx hb d_Traces_addDigit_5 ?_
  refine lv_topi (fun v_1 ev_1 => ?_)
  obtain ⟨qv_1, hv_1⟩ := zI_sub (l := -1) (h := 19) hb2 zc_1 ev_1 (by decide)
  rw [li_1] at qv_1
  refine lv_istore_n (lv' := [(2, .int v_1), (0, .ref b0), (1, .int b1)]) hx hb d_Traces_addDigit_6 rfl hl (by decide) rfl (fun ls hl => ?_)
  refine lv_iload_n hx hb d_Traces_addDigit_7 rfl (lv_at hl 0 rfl) ?_
  refine lv_if_lt (tgt := 51) hx hb d_Traces_addDigit_8 (by decide) (fun hc_2 => ?_) (fun hc_2 => ?_)
  · have _nhc_2 := hc_2
    have ni_3 := (fa_lt _ _).mp hc_2
    rw [li_0] at ni_3
    have hv_4 : zI v_1 (-1) (-1) := zI.lt_l hv_1 zc_0 hc_2 (by decide)
    exact z_vret hx hb hr hlocks hP hD hS (Nat.le_of_ble_eq_true rfl) (Nat.le_of_ble_eq_true rfl) d_Traces_addDigit_51 ⟨b9, rfl, rfl⟩
  · have _nhc_2 := hc_2
    have ni_5 := (fa_le _ _).mp (zi_nlt hc_2)
    rw [li_0] at ni_5
    have hv_6 : zI v_1 0 19 := zI.le_r zc_0 hv_1 (zi_nlt hc_2) (by decide)
    refine lv_aload_n hx hb d_Traces_addDigit_11 rfl (lv_at hl 1 rfl) ?_
    refine va_get (D := G.1) (ci := 2) (v := .ref b5) (C := R_Traces) (T := F_Traces) (N := 6) hx hb hts i_Traces hown hK hP 0 rfl rfl 3 (by decide) (hts _ q63) (fun _ h9 => h9) rfl d_Traces_addDigit_12 ?_
    refine lv_iload_n hx hb d_Traces_addDigit_15 rfl (lv_at hl 0 rfl) ?_
    refine va_iald hx hb hK hP 1 0 rfl rfl (zI.inn hv_6 (by decide)) d_Traces_addDigit_16 ?_
    refine lv_topi (fun v_7 ev_7 => ?_)
    have hv_7 : zI v_7 0 12 := (hb8 _).eq ev_7
    refine lv_if_le (tgt := 51) hx hb d_Traces_addDigit_17 (by decide) (fun hc_8 => ?_) (fun hc_8 => ?_)
    · have _nhc_8 := hc_8
      have ni_9 := (fa_le _ _).mp hc_8
      rw [li_0] at ni_9
      have hv_10 : zI v_7 0 0 := zI.le_l hv_7 zc_0 hc_8 (by decide)
      exact z_vret hx hb hr hlocks hP hD hS (Nat.le_of_ble_eq_true rfl) (Nat.le_of_ble_eq_true rfl) d_Traces_addDigit_51 ⟨b9, rfl, rfl⟩
    · have _nhc_8 := hc_8
      have ni_11 := (fa_lt _ _).mp (zi_nle hc_8)
      rw [li_0] at ni_11
      have hv_12 : zI v_7 1 12 := zI.lt_r zc_0 hv_7 (zi_nle hc_8) (by decide)
      refine lv_iload_n hx hb d_Traces_addDigit_20 rfl (lv_at hl 0 rfl) ?_
      refine lv_bipush (v := 12) hx hb d_Traces_addDigit_21 (by decide) ?_
      refine lv_imul hx hb d_Traces_addDigit_23 ?_
      refine lv_topi (fun v_13 ev_13 => ?_)
      obtain ⟨qv_13, hv_13⟩ := zI_mul (l := 0) (h := 228) hv_6 zc_12 ev_13 (by decide)
      rw [li_12] at qv_13
      refine lv_aload_n hx hb d_Traces_addDigit_24 rfl (lv_at hl 1 rfl) ?_
      refine va_get (D := G.1) (ci := 2) (v := .ref b5) (C := R_Traces) (T := F_Traces) (N := 6) hx hb hts i_Traces hown hK hP 0 rfl rfl 3 (by decide) (hts _ q63) (fun _ h9 => h9) rfl d_Traces_addDigit_25 ?_
      refine lv_iload_n hx hb d_Traces_addDigit_28 rfl (lv_at hl 0 rfl) ?_
      refine va_iald hx hb hK hP 1 0 rfl rfl (zI.inn hv_6 (by decide)) d_Traces_addDigit_29 ?_
      refine lv_topi (fun v_14 ev_14 => ?_)
      obtain rfl : v_7 = v_14 := ev_7.trans ev_14.symm
      refine lv_iadd hx hb d_Traces_addDigit_30 ?_
      refine lv_topi (fun v_15 ev_15 => ?_)
      obtain ⟨qv_15, hv_15⟩ := zI_add (l := 1) (h := 240) hv_13 hv_12 ev_15 (by decide)
      refine lv_iconst (v := 1) hx hb d_Traces_addDigit_31 (by decide) ?_
      refine lv_isub hx hb d_Traces_addDigit_32 ?_
      refine lv_topi (fun v_16 ev_16 => ?_)
      obtain ⟨qv_16, hv_16⟩ := zI_sub (l := 0) (h := 239) hv_15 zc_1 ev_16 (by decide)
      rw [li_1] at qv_16
      refine lv_istore_n (lv' := [(3, .int v_16), (2, .int v_1), (0, .ref b0), (1, .int b1)]) hx hb d_Traces_addDigit_33 rfl hl (by decide) rfl (fun ls hl => ?_)
      refine lv_aload_n hx hb d_Traces_addDigit_34 rfl (lv_at hl 2 rfl) ?_
      refine va_get (D := G.1) (ci := 2) (v := .ref b7) (C := R_Traces) (T := F_Traces) (N := 6) hx hb hts i_Traces hown hK hP 0 rfl rfl 5 (by decide) (hts _ q73) (fun _ h9 => h9) rfl d_Traces_addDigit_35 ?_
      refine lv_iload_n hx hb d_Traces_addDigit_38 rfl (lv_at hl 0 rfl) ?_
      refine lv_bipush (v := 10) hx hb d_Traces_addDigit_39 (by decide) ?_
      refine lv_aload_n hx hb d_Traces_addDigit_41 rfl (lv_at hl 2 rfl) ?_
      refine va_get (D := G.1) (ci := 2) (v := .ref b7) (C := R_Traces) (T := F_Traces) (N := 6) hx hb hts i_Traces hown hK hP 0 rfl rfl 5 (by decide) (hts _ q73) (fun _ h9 => h9) rfl d_Traces_addDigit_42 ?_
      refine lv_iload_n hx hb d_Traces_addDigit_45 rfl (lv_at hl 0 rfl) ?_
      refine va_iald hx hb hK hP 2 0 rfl rfl (zI.inn hv_16 (by decide)) d_Traces_addDigit_46 ?_
      refine lv_topi (fun v_17 ev_17 => ?_)
      refine lv_imul hx hb d_Traces_addDigit_47 ?_
      refine lv_topi (fun v_18 ev_18 => ?_)
      refine lv_iload_n hx hb d_Traces_addDigit_48 rfl (lv_at hl 3 rfl) ?_
      refine lv_iadd hx hb d_Traces_addDigit_49 ?_
      refine lv_topi (fun v_19 ev_19 => ?_)
      refine va_iast hx hb hK hP hD hS 2 0 rfl rfl (zI.inn hv_16 (by decide)) d_Traces_addDigit_50 (fun H locs hP hD hS => ?_)
      obtain ⟨f_20, gf_20, hP, hD⟩ := z_newFu 2 hP hD rfl
      have hP : va_P G.1 classes [(b0, .inr (2, [.int b2, .int b3, .int b4, .ref b5, .ref b6, .ref b7])), (b5, .inl (G.2 0, 20, .inl b8)), (b7, .inl (G.2 0, 240, .inl f_20))] H := hP
      have hD := z_tie hP hD rfl
      exact z_vret hx hb hr hlocks hP hD hS (Nat.le_of_ble_eq_true rfl) (Nat.le_of_ble_eq_true rfl) d_Traces_addDigit_51 ⟨f_20, rfl, rfl⟩
theorem d_Traces_remove_0 : decode prog_10_method_10_code 0 = .ok (.aload_n 0, 1) := by decide +kernel
theorem d_Traces_remove_1 : decode prog_10_method_10_code 1 = .ok (.getfield 25, 3) := by decide +kernel
theorem d_Traces_remove_4 : decode prog_10_method_10_code 4 = .ok (.iload_n 1, 1) := by decide +kernel
theorem d_Traces_remove_5 : decode prog_10_method_10_code 5 = .ok (.isub, 1) := by decide +kernel
theorem d_Traces_remove_6 : decode prog_10_method_10_code 6 = .ok (.iconst 1, 1) := by decide +kernel
theorem d_Traces_remove_7 : decode prog_10_method_10_code 7 = .ok (.isub, 1) := by decide +kernel
theorem d_Traces_remove_8 : decode prog_10_method_10_code 8 = .ok (.istore_n 2, 1) := by decide +kernel
theorem d_Traces_remove_9 : decode prog_10_method_10_code 9 = .ok (.iload_n 1, 1) := by decide +kernel
theorem d_Traces_remove_10 : decode prog_10_method_10_code 10 = .ok (.bipush 12, 2) := by decide +kernel
theorem d_Traces_remove_12 : decode prog_10_method_10_code 12 = .ok (.imul, 1) := by decide +kernel
theorem d_Traces_remove_13 : decode prog_10_method_10_code 13 = .ok (.istore_n 3, 1) := by decide +kernel
theorem d_Traces_remove_14 : decode prog_10_method_10_code 14 = .ok (.aload_n 0, 1) := by decide +kernel
theorem d_Traces_remove_15 : decode prog_10_method_10_code 15 = .ok (.getfield 15, 3) := by decide +kernel
theorem d_Traces_remove_18 : decode prog_10_method_10_code 18 = .ok (.iload_n 1, 1) := by decide +kernel
theorem d_Traces_remove_19 : decode prog_10_method_10_code 19 = .ok (.iconst 1, 1) := by decide +kernel
theorem d_Traces_remove_20 : decode prog_10_method_10_code 20 = .ok (.iadd, 1) := by decide +kernel
theorem d_Traces_remove_21 : decode prog_10_method_10_code 21 = .ok (.aload_n 0, 1) := by decide +kernel
theorem d_Traces_remove_22 : decode prog_10_method_10_code 22 = .ok (.getfield 15, 3) := by decide +kernel
theorem d_Traces_remove_25 : decode prog_10_method_10_code 25 = .ok (.iload_n 1, 1) := by decide +kernel
theorem d_Traces_remove_26 : decode prog_10_method_10_code 26 = .ok (.iload_n 2, 1) := by decide +kernel
theorem d_Traces_remove_27 : decode prog_10_method_10_code 27 = .ok (.invokestatic 31, 3) := by decide +kernel
theorem d_Traces_remove_30 : decode prog_10_method_10_code 30 = .ok (.aload_n 0, 1) := by decide +kernel
theorem d_Traces_remove_31 : decode prog_10_method_10_code 31 = .ok (.getfield 19, 3) := by decide +kernel
theorem d_Traces_remove_34 : decode prog_10_method_10_code 34 = .ok (.iload_n 3, 1) := by decide +kernel
theorem d_Traces_remove_35 : decode prog_10_method_10_code 35 = .ok (.bipush 12, 2) := by decide +kernel
theorem d_Traces_remove_37 : decode prog_10_method_10_code 37 = .ok (.iadd, 1) := by decide +kernel
theorem d_Traces_remove_38 : decode prog_10_method_10_code 38 = .ok (.aload_n 0, 1) := by decide +kernel
theorem d_Traces_remove_39 : decode prog_10_method_10_code 39 = .ok (.getfield 19, 3) := by decide +kernel
theorem d_Traces_remove_42 : decode prog_10_method_10_code 42 = .ok (.iload_n 3, 1) := by decide +kernel
theorem d_Traces_remove_43 : decode prog_10_method_10_code 43 = .ok (.iload_n 2, 1) := by decide +kernel
theorem d_Traces_remove_44 : decode prog_10_method_10_code 44 = .ok (.bipush 12, 2) := by decide +kernel
theorem d_Traces_remove_46 : decode prog_10_method_10_code 46 = .ok (.imul, 1) := by decide +kernel
theorem d_Traces_remove_47 : decode prog_10_method_10_code 47 = .ok (.invokestatic 31, 3) := by decide +kernel
theorem d_Traces_remove_50 : decode prog_10_method_10_code 50 = .ok (.aload_n 0, 1) := by decide +kernel
theorem d_Traces_remove_51 : decode prog_10_method_10_code 51 = .ok (.getfield 22, 3) := by decide +kernel
theorem d_Traces_remove_54 : decode prog_10_method_10_code 54 = .ok (.iload_n 3, 1) := by decide +kernel
theorem d_Traces_remove_55 : decode prog_10_method_10_code 55 = .ok (.bipush 12, 2) := by decide +kernel
theorem d_Traces_remove_57 : decode prog_10_method_10_code 57 = .ok (.iadd, 1) := by decide +kernel
theorem d_Traces_remove_58 : decode prog_10_method_10_code 58 = .ok (.aload_n 0, 1) := by decide +kernel
theorem d_Traces_remove_59 : decode prog_10_method_10_code 59 = .ok (.getfield 22, 3) := by decide +kernel
theorem d_Traces_remove_62 : decode prog_10_method_10_code 62 = .ok (.iload_n 3, 1) := by decide +kernel
theorem d_Traces_remove_63 : decode prog_10_method_10_code 63 = .ok (.iload_n 2, 1) := by decide +kernel
theorem d_Traces_remove_64 : decode prog_10_method_10_code 64 = .ok (.bipush 12, 2) := by decide +kernel
theorem d_Traces_remove_66 : decode prog_10_method_10_code 66 = .ok (.imul, 1) := by decide +kernel
theorem d_Traces_remove_67 : decode prog_10_method_10_code 67 = .ok (.invokestatic 31, 3) := by decide +kernel
theorem d_Traces_remove_70 : decode prog_10_method_10_code 70 = .ok (.aload_n 0, 1) := by decide +kernel
theorem d_Traces_remove_71 : decode prog_10_method_10_code 71 = .ok (.dup, 1) := by decide +kernel
theorem d_Traces_remove_72 : decode prog_10_method_10_code 72 = .ok (.getfield 25, 3) := by decide +kernel
theorem d_Traces_remove_75 : decode prog_10_method_10_code 75 = .ok (.iconst 1, 1) := by decide +kernel
theorem d_Traces_remove_76 : decode prog_10_method_10_code 76 = .ok (.isub, 1) := by decide +kernel
theorem d_Traces_remove_77 : decode prog_10_method_10_code 77 = .ok (.putfield 25, 3) := by decide +kernel
theorem d_Traces_remove_80 : decode prog_10_method_10_code 80 = .ok (.return_, 1) := by decide +kernel
abbrev m_s1_Traces_remove : Room := { frames := 1, cells := 0, slots := 0, locals := 18 }
set_option maxHeartbeats 4000000 in
set_option maxRecDepth 100000 in
theorem s1_Traces_remove (l : Launch) (G : zG) (b0 : Nat) (b1 : Int32) (b2 : Int32) (b3 : Int32) (b4 : Int32) (b5 : Nat) (b6 : Nat) (b7 : Nat) (b8 : Nat → Int32) (b9 : Nat → Int32) (b10 : Nat → Int32) (hb1 : zI b1 0 19) (hb2 : zI b2 0 20) (hb3 : zI b3 0 3) (hb4 : zI b4 0 20) (hb8 : zR b8 0 12) (hb9 : zR b9 0 9) (hrm : b1.toInt < b2.toInt) : zM l G y_Traces_remove prog_10_method_10_code 4 (Option.none : Option Jvm.ClassFile.FieldType) m_s1_Traces_remove [.ref b0, .int b1] [(b0, .inr (2, [.int b2, .int b3, .int b4, .ref b5, .ref b6, .ref b7])), (b5, .inl (G.2 0, 20, .inl b8)), (b6, .inl (G.2 0, 240, .inl b9)), (b7, .inl (G.2 0, 240, .inl b10))] (fun v w => ∃ (e0 : Int32), ∃ (e1 : Nat → Int32), ∃ (e2 : Nat → Int32), ∃ (e3 : Nat → Int32), v = none ∧ w = [(b0, .inr (2, [.int e0, .int b3, .int b4, .ref b5, .ref b6, .ref b7])), (b5, .inl (G.2 0, 20, .inl e1)), (b6, .inl (G.2 0, 240, .inl e2)), (b7, .inl (G.2 0, 240, .inl e3))] ∧ (zI e0 0 20) ∧ (zR e1 0 12) ∧ (zR e2 0 9)) := by
  refine z_start (by decide +kernel) (Nat.le_of_ble_eq_true rfl) ?_
  intro p e s m below meth c A Z hr hnm hA hP hD hS ls hl
  have Z : zC p s m _ meth c prog_10_method_10_code 4 "TraceMachines$Traces" G := Z
  obtain ⟨hx, hb, hml, hown, hts, hK, hN, hlocks⟩ := id Z
  have hl : lv_has ls 4 [(0, .ref b0), (1, .int b1)] := hl
  have hv_1 : zI b2 1 20 := ⟨by omega, by omega⟩
  refine lv_aload_n hx hb d_Traces_remove_0 rfl (lv_at hl 0 rfl) ?_
  refine va_get (D := G.1) (ci := 2) (v := .int b2) (C := R_Traces) (T := F_Traces) (N := 6) hx hb hts i_Traces hown hK hP 0 rfl rfl 0 (by decide) (hts _ q52) (fun _ h9 => h9) rfl d_Traces_remove_1 ?_
  refine lv_iload_n hx hb d_Traces_remove_4 rfl (lv_at hl 1 rfl) ?_
  refine lv_isub hx hb d_Traces_remove_5 ?_
  refine lv_topi (fun v_2 ev_2 => ?_)
  obtain ⟨qv_2, hv_2⟩ := zI_sub (l := -18) (h := 20) hv_1 hb1 ev_2 (by decide)
  refine lv_iconst (v := 1) hx hb d_Traces_remove_6 (by decide) ?_
  refine lv_isub hx hb d_Traces_remove_7 ?_
  refine lv_topi (fun v_3 ev_3 => ?_)
  obtain ⟨qv_3, hv_3⟩ := zI_sub (l := -19) (h := 19) hv_2 zc_1 ev_3 (by decide)
  rw [li_1] at qv_3
  refine lv_istore_n (lv' := [(2, .int v_3), (0, .ref b0), (1, .int b1)]) hx hb d_Traces_remove_8 rfl hl (by decide) rfl (fun ls hl => ?_)
  refine lv_iload_n hx hb d_Traces_remove_9 rfl (lv_at hl 2 rfl) ?_
  refine lv_bipush (v := 12) hx hb d_Traces_remove_10 (by decide) ?_
  refine lv_imul hx hb d_Traces_remove_12 ?_
  refine lv_topi (fun v_4 ev_4 => ?_)
  obtain ⟨qv_4, hv_4⟩ := zI_mul (l := 0) (h := 228) hb1 zc_12 ev_4 (by decide)
  rw [li_12] at qv_4
  refine lv_istore_n (lv' := [(3, .int v_4), (2, .int v_3), (0, .ref b0), (1, .int b1)]) hx hb d_Traces_remove_13 rfl hl (by decide) rfl (fun ls hl => ?_)
  refine lv_aload_n hx hb d_Traces_remove_14 rfl (lv_at hl 2 rfl) ?_
  refine va_get (D := G.1) (ci := 2) (v := .ref b5) (C := R_Traces) (T := F_Traces) (N := 6) hx hb hts i_Traces hown hK hP 0 rfl rfl 3 (by decide) (hts _ q63) (fun _ h9 => h9) rfl d_Traces_remove_15 ?_
  refine lv_iload_n hx hb d_Traces_remove_18 rfl (lv_at hl 3 rfl) ?_
  refine lv_iconst (v := 1) hx hb d_Traces_remove_19 (by decide) ?_
  refine lv_iadd hx hb d_Traces_remove_20 ?_
  refine lv_topi (fun v_5 ev_5 => ?_)
  obtain ⟨qv_5, hv_5⟩ := zI_add (l := 1) (h := 20) hb1 zc_1 ev_5 (by decide)
  rw [li_1] at qv_5
  refine lv_aload_n hx hb d_Traces_remove_21 rfl (lv_at hl 2 rfl) ?_
  refine va_get (D := G.1) (ci := 2) (v := .ref b5) (C := R_Traces) (T := F_Traces) (N := 6) hx hb hts i_Traces hown hK hP 0 rfl rfl 3 (by decide) (hts _ q63) (fun _ h9 => h9) rfl d_Traces_remove_22 ?_
  refine lv_iload_n hx hb d_Traces_remove_25 rfl (lv_at hl 3 rfl) ?_
  refine lv_iload_n hx hb d_Traces_remove_26 rfl (lv_at hl 1 rfl) ?_
  have hv_6 : zI v_3 0 19 := ⟨by omega, by omega⟩
  refine va_copyi hx hb (hml.trans hl.1.symm) hown (hts _ q502) (hts _ q504) (hts _ q503) (hts _ q15) hK hP hD hS 1 1 0 0 rfl rfl rfl rfl rfl (zi_nn hv_5 (by decide)) (zi_nn hb1 (by decide)) (zi_nn hv_6 (by decide)) (zi_cpo hv_5 hv_6 (by decide) (by decide) (by have _u := hv_5; have _w := hv_6; omega)) (zi_cpo hb1 hv_6 (by decide) (by decide) (by have _u := hb1; have _w := hv_6; omega)) (fun _ _ => rfl) (Nat.le_of_ble_eq_true rfl) (Nat.le_of_ble_eq_true rfl) d_Traces_remove_27 (fun H locs hP hD hS => ?_)
  obtain ⟨f_7, hf_7, hP, hD⟩ := z_newf 1 hP hD rfl (zR.cpy hb8 hb8)
  have hP : va_P G.1 classes [(b0, .inr (2, [.int b2, .int b3, .int b4, .ref b5, .ref b6, .ref b7])), (b5, .inl (G.2 0, 20, .inl f_7)), (b6, .inl (G.2 0, 240, .inl b9)), (b7, .inl (G.2 0, 240, .inl b10))] H := hP
  have hD := z_tie hP hD rfl
  refine lv_aload_n hx hb d_Traces_remove_30 rfl (lv_at hl 2 rfl) ?_
  refine va_get (D := G.1) (ci := 2) (v := .ref b6) (C := R_Traces) (T := F_Traces) (N := 6) hx hb hts i_Traces hown hK hP 0 rfl rfl 4 (by decide) (hts _ q72) (fun _ h9 => h9) rfl d_Traces_remove_31 ?_
  refine lv_iload_n hx hb d_Traces_remove_34 rfl (lv_at hl 0 rfl) ?_
  refine lv_bipush (v := 12) hx hb d_Traces_remove_35 (by decide) ?_
  refine lv_iadd hx hb d_Traces_remove_37 ?_
  refine lv_topi (fun v_8 ev_8 => ?_)
  obtain ⟨qv_8, hv_8⟩ := zI_add (l := 12) (h := 240) hv_4 zc_12 ev_8 (by decide)
  rw [li_12] at qv_8
  refine lv_aload_n hx hb d_Traces_remove_38 rfl (lv_at hl 2 rfl) ?_
  refine va_get (D := G.1) (ci := 2) (v := .ref b6) (C := R_Traces) (T := F_Traces) (N := 6) hx hb hts i_Traces hown hK hP 0 rfl rfl 4 (by decide) (hts _ q72) (fun _ h9 => h9) rfl d_Traces_remove_39 ?_
  refine lv_iload_n hx hb d_Traces_remove_42 rfl (lv_at hl 0 rfl) ?_
  refine lv_iload_n hx hb d_Traces_remove_43 rfl (lv_at hl 1 rfl) ?_
  refine lv_bipush (v := 12) hx hb d_Traces_remove_44 (by decide) ?_
  refine lv_imul hx hb d_Traces_remove_46 ?_
  refine lv_topi (fun v_9 ev_9 => ?_)
  obtain ⟨qv_9, hv_9⟩ := zI_mul (l := 0) (h := 228) hv_6 zc_12 ev_9 (by decide)
  rw [li_12] at qv_9
  refine va_copyi hx hb (hml.trans hl.1.symm) hown (hts _ q502) (hts _ q504) (hts _ q503) (hts _ q15) hK hP hD hS 2 2 0 0 rfl rfl rfl rfl rfl (zi_nn hv_8 (by decide)) (zi_nn hv_4 (by decide)) (zi_nn hv_9 (by decide)) (zi_cpo hv_8 hv_9 (by decide) (by decide) (by have _u := hv_8; have _w := hv_9; omega)) (zi_cpo hv_4 hv_9 (by decide) (by decide) (by have _u := hv_4; have _w := hv_9; omega)) (fun _ _ => rfl) (Nat.le_of_ble_eq_true rfl) (Nat.le_of_ble_eq_true rfl) d_Traces_remove_47 (fun H locs hP hD hS => ?_)
  obtain ⟨f_10, hf_10, hP, hD⟩ := z_newf 2 hP hD rfl (zR.cpy hb9 hb9)
  have hP : va_P G.1 classes [(b0, .inr (2, [.int b2, .int b3, .int b4, .ref b5, .ref b6, .ref b7])), (b5, .inl (G.2 0, 20, .inl f_7)), (b6, .inl (G.2 0, 240, .inl f_10)), (b7, .inl (G.2 0, 240, .inl b10))] H := hP
  have hD := z_tie hP hD rfl
  refine lv_aload_n hx hb d_Traces_remove_50 rfl (lv_at hl 2 rfl) ?_
  refine va_get (D := G.1) (ci := 2) (v := .ref b7) (C := R_Traces) (T := F_Traces) (N := 6) hx hb hts i_Traces hown hK hP 0 rfl rfl 5 (by decide) (hts _ q73) (fun _ h9 => h9) rfl d_Traces_remove_51 ?_
  refine lv_iload_n hx hb d_Traces_remove_54 rfl (lv_at hl 0 rfl) ?_
  refine lv_bipush (v := 12) hx hb d_Traces_remove_55 (by decide) ?_
  refine lv_iadd hx hb d_Traces_remove_57 ?_
  refine lv_topi (fun v_11 ev_11 => ?_)
  obtain rfl : v_8 = v_11 := ev_8.trans ev_11.symm
  refine lv_aload_n hx hb d_Traces_remove_58 rfl (lv_at hl 2 rfl) ?_
  refine va_get (D := G.1) (ci := 2) (v := .ref b7) (C := R_Traces) (T := F_Traces) (N := 6) hx hb hts i_Traces hown hK hP 0 rfl rfl 5 (by decide) (hts _ q73) (fun _ h9 => h9) rfl d_Traces_remove_59 ?_
  refine lv_iload_n hx hb d_Traces_remove_62 rfl (lv_at hl 0 rfl) ?_
  refine lv_iload_n hx hb d_Traces_remove_63 rfl (lv_at hl 1 rfl) ?_
  refine lv_bipush (v := 12) hx hb d_Traces_remove_64 (by decide) ?_
  refine lv_imul hx hb d_Traces_remove_66 ?_
  refine lv_topi (fun v_12 ev_12 => ?_)
  obtain rfl : v_9 = v_12 := ev_9.trans ev_12.symm
  refine va_copyi hx hb (hml.trans hl.1.symm) hown (hts _ q502) (hts _ q504) (hts _ q503) (hts _ q15) hK hP hD hS 3 3 0 0 rfl rfl rfl rfl rfl (zi_nn hv_8 (by decide)) (zi_nn hv_4 (by decide)) (zi_nn hv_9 (by decide)) (zi_cpo hv_8 hv_9 (by decide) (by decide) (by have _u := hv_8; have _w := hv_9; omega)) (zi_cpo hv_4 hv_9 (by decide) (by decide) (by have _u := hv_4; have _w := hv_9; omega)) (fun _ _ => rfl) (Nat.le_of_ble_eq_true rfl) (Nat.le_of_ble_eq_true rfl) d_Traces_remove_67 (fun H locs hP hD hS => ?_)
  obtain ⟨f_13, hP, hD⟩ := z_newF 3 hP hD rfl
  have hP : va_P G.1 classes [(b0, .inr (2, [.int b2, .int b3, .int b4, .ref b5, .ref b6, .ref b7])), (b5, .inl (G.2 0, 20, .inl f_7)), (b6, .inl (G.2 0, 240, .inl f_10)), (b7, .inl (G.2 0, 240, .inl f_13))] H := hP
  have hD := z_tie hP hD rfl
  refine lv_aload_n hx hb d_Traces_remove_70 rfl (lv_at hl 2 rfl) ?_
  refine lv_dup hx hb d_Traces_remove_71 rfl ?_
  refine va_get (D := G.1) (ci := 2) (v := .int b2) (C := R_Traces) (T := F_Traces) (N := 6) hx hb hts i_Traces hown hK hP 0 rfl rfl 0 (by decide) (hts _ q52) (fun _ h9 => h9) rfl d_Traces_remove_72 ?_
  refine lv_iconst (v := 1) hx hb d_Traces_remove_75 (by decide) ?_
  refine lv_isub hx hb d_Traces_remove_76 ?_
  refine lv_topi (fun v_14 ev_14 => ?_)
  obtain ⟨qv_14, hv_14⟩ := zI_sub (l := 0) (h := 19) hv_1 zc_1 ev_14 (by decide)
  rw [li_1] at qv_14
  refine va_put (D := G.1) (ci := 2) (v := .int v_14) (ty := .int) (C := R_Traces) (T := F_Traces) (N := 6) hx hb hts i_Traces t_Traces t_Traces_ok n_Traces hown hK hP hD hS 0 rfl rfl 0 (by decide) (hts _ q52) (fun _ h9 => h9) rfl (by decide +kernel) rfl rfl (Nat.le_of_ble_eq_true rfl) d_Traces_remove_77 (fun H locs hP hD hS => ?_)
  have hP : va_P G.1 classes [(b0, .inr (2, [.int v_14, .int b3, .int b4, .ref b5, .ref b6, .ref b7])), (b5, .inl (G.2 0, 20, .inl f_7)), (b6, .inl (G.2 0, 240, .inl f_10)), (b7, .inl (G.2 0, 240, .inl f_13))] H := hP
  have hD := z_tie hP hD rfl
  exact z_vret hx hb hr hlocks hP hD hS (Nat.le_of_ble_eq_true rfl) (Nat.le_of_ble_eq_true rfl) d_Traces_remove_80 ⟨v_14, f_7, f_10, f_13, rfl, rfl, (zI.wk (l' := 0) (h' := 20) hv_14 (by decide)), hf_7, hf_10⟩
theorem d_Text_put_0 : decode prog_9_method_2_code 0 = .ok (.aload_n 0, 1) := by decide +kernel
theorem d_Text_put_1 : decode prog_9_method_2_code 1 = .ok (.getfield 15, 3) := by decide +kernel
theorem d_Text_put_4 : decode prog_9_method_2_code 4 = .ok (.iconst 4, 1) := by decide +kernel
theorem d_Text_put_5 : decode prog_9_method_2_code 5 = .ok (.iadd, 1) := by decide +kernel
theorem d_Text_put_6 : decode prog_9_method_2_code 6 = .ok (.sipush 240, 3) := by decide +kernel
theorem d_Text_put_9 : decode prog_9_method_2_code 9 = .ok (.if_icmp .le 5, 3) := by decide +kernel
theorem d_Text_put_12 : decode prog_9_method_2_code 12 = .ok (.iconst 0, 1) := by decide +kernel
theorem d_Text_put_13 : decode prog_9_method_2_code 13 = .ok (.ireturn, 1) := by decide +kernel
theorem d_Text_put_14 : decode prog_9_method_2_code 14 = .ok (.bipush 24, 2) := by decide +kernel
theorem d_Text_put_16 : decode prog_9_method_2_code 16 = .ok (.istore_n 2, 1) := by decide +kernel
theorem d_Text_put_17 : decode prog_9_method_2_code 17 = .ok (.iload_n 2, 1) := by decide +kernel
theorem d_Text_put_18 : decode prog_9_method_2_code 18 = .ok (.ifCond .lt 36, 3) := by decide +kernel
theorem d_Text_put_21 : decode prog_9_method_2_code 21 = .ok (.aload_n 0, 1) := by decide +kernel
theorem d_Text_put_22 : decode prog_9_method_2_code 22 = .ok (.getfield 9, 3) := by decide +kernel
theorem d_Text_put_25 : decode prog_9_method_2_code 25 = .ok (.aload_n 0, 1) := by decide +kernel
theorem d_Text_put_26 : decode prog_9_method_2_code 26 = .ok (.getfield 15, 3) := by decide +kernel
theorem d_Text_put_29 : decode prog_9_method_2_code 29 = .ok (.iload_n 1, 1) := by decide +kernel
theorem d_Text_put_30 : decode prog_9_method_2_code 30 = .ok (.iload_n 2, 1) := by decide +kernel
theorem d_Text_put_31 : decode prog_9_method_2_code 31 = .ok (.iushr, 1) := by decide +kernel
theorem d_Text_put_32 : decode prog_9_method_2_code 32 = .ok (.sipush 255, 3) := by decide +kernel
theorem d_Text_put_35 : decode prog_9_method_2_code 35 = .ok (.iand, 1) := by decide +kernel
theorem d_Text_put_36 : decode prog_9_method_2_code 36 = .ok (.i2c, 1) := by decide +kernel
theorem d_Text_put_37 : decode prog_9_method_2_code 37 = .ok (.castore, 1) := by decide +kernel
theorem d_Text_put_38 : decode prog_9_method_2_code 38 = .ok (.aload_n 0, 1) := by decide +kernel
theorem d_Text_put_39 : decode prog_9_method_2_code 39 = .ok (.dup, 1) := by decide +kernel
theorem d_Text_put_40 : decode prog_9_method_2_code 40 = .ok (.getfield 15, 3) := by decide +kernel
theorem d_Text_put_43 : decode prog_9_method_2_code 43 = .ok (.iconst 1, 1) := by decide +kernel
theorem d_Text_put_44 : decode prog_9_method_2_code 44 = .ok (.iadd, 1) := by decide +kernel
theorem d_Text_put_45 : decode prog_9_method_2_code 45 = .ok (.putfield 15, 3) := by decide +kernel
theorem d_Text_put_48 : decode prog_9_method_2_code 48 = .ok (.iinc 2 (-8), 3) := by decide +kernel
theorem d_Text_put_51 : decode prog_9_method_2_code 51 = .ok (.goto (-34), 3) := by decide +kernel
theorem d_Text_put_54 : decode prog_9_method_2_code 54 = .ok (.iconst 1, 1) := by decide +kernel
theorem d_Text_put_55 : decode prog_9_method_2_code 55 = .ok (.ireturn, 1) := by decide +kernel
theorem zc_4 : zI 4 4 4 := ⟨by decide +kernel, by decide +kernel⟩
theorem li_4 : (4 : Int32).toInt = 4 := by decide +kernel
theorem zc_240 : zI 240 240 240 := ⟨by decide +kernel, by decide +kernel⟩
theorem li_240 : (240 : Int32).toInt = 240 := by decide +kernel
abbrev m_s1_Text_put : Room := { frames := 0, cells := 0, slots := 0, locals := 0 }
set_option maxHeartbeats 4000000 in
set_option maxRecDepth 100000 in
theorem s1_Text_put (l : Launch) (G : zG) (b0 : Nat) (b1 : Int32) (b2 : Int32) (b3 : Nat) (b4 : Nat → Int32) (hb2 : zI b2 0 240) : zM l G y_Text_put prog_9_method_2_code 3 (Option.some Jvm.ClassFile.FieldType.boolean) m_s1_Text_put [.ref b0, .int b1] [(b0, .inr (1, [.int b2, .ref b3])), (b3, .inl (G.2 2, 240, .inl b4))] (fun v w => ∃ (e0 : Int32), ∃ (e1 : Int32), ∃ (e2 : Nat → Int32), v = some (.int e0) ∧ w = [(b0, .inr (1, [.int e1, .ref b3])), (b3, .inl (G.2 2, 240, .inl e2))] ∧ (zI e0 0 1) ∧ (zI e1 0 240)) := by
  refine z_start (by decide +kernel) (Nat.le_of_ble_eq_true rfl) ?_
  intro p e s m below meth c A Z hr hnm hA hP hD hS ls hl
  have Z : zC p s m _ meth c prog_9_method_2_code 3 "TraceMachines$Text" G := Z
  obtain ⟨hx, hb, hml, hown, hts, hK, hN, hlocks⟩ := id Z
  have hl : lv_has ls 3 [(0, .ref b0), (1, .int b1)] := hl
  refine lv_aload_n hx hb d_Text_put_0 rfl (lv_at hl 0 rfl) ?_
  refine va_get (D := G.1) (ci := 1) (v := .int b2) (C := R_Text) (T := F_Text) (N := 2) hx hb hts i_Text hown hK hP 0 rfl rfl 0 (by decide) (hts _ q37) (fun _ h9 => h9) rfl d_Text_put_1 ?_
  refine lv_iconst (v := 4) hx hb d_Text_put_4 (by decide) ?_
  refine lv_iadd hx hb d_Text_put_5 ?_
  refine lv_topi (fun v_1 ev_1 => ?_)
  obtain ⟨qv_1, hv_1⟩ := zI_add (l := 4) (h := 244) hb2 zc_4 ev_1 (by decide)
  rw [li_4] at qv_1
  refine lv_sipush (v := 240) hx hb d_Text_put_6 (by decide) ?_
  refine lv_icmp_le (tgt := 14) hx hb d_Text_put_9 (by decide) (fun hc_2 => ?_) (fun hc_2 => ?_)
  · have _nhc_2 := hc_2
    have ni_3 := (fa_le _ _).mp hc_2
    rw [li_240] at ni_3
    have hv_4 : zI v_1 4 240 := zI.le_l hv_1 zc_240 hc_2 (by decide)
    have hv_5 : zI b2 0 236 := by have _a := hv_4; have _b := qv_1; have _c := zc_4; have _d := hb2; exact ⟨by omega, by omega⟩
    refine lv_bipush (v := 24) hx hb d_Text_put_14 (by decide) ?_
    refine lv_istore_n (lv' := [(2, .int 24), (0, .ref b0), (1, .int b1)]) hx hb d_Text_put_16 rfl hl (by decide) rfl (fun ls hl => ?_)
    refine lv_iload_n hx hb d_Text_put_17 rfl (lv_at hl 0 rfl) ?_
    refine lv_if_lt (tgt := 54) hx hb d_Text_put_18 (by decide) (fun hc => absurd hc (by decide +kernel)) (fun _ => ?_)
    refine lv_aload_n hx hb d_Text_put_21 rfl (lv_at hl 1 rfl) ?_
    refine va_get (D := G.1) (ci := 1) (v := .ref b3) (C := R_Text) (T := F_Text) (N := 2) hx hb hts i_Text hown hK hP 0 rfl rfl 1 (by decide) (hts _ q39) (fun _ h9 => h9) rfl d_Text_put_22 ?_
    refine lv_aload_n hx hb d_Text_put_25 rfl (lv_at hl 1 rfl) ?_
    refine va_get (D := G.1) (ci := 1) (v := .int b2) (C := R_Text) (T := F_Text) (N := 2) hx hb hts i_Text hown hK hP 0 rfl rfl 0 (by decide) (hts _ q37) (fun _ h9 => h9) rfl d_Text_put_26 ?_
    refine lv_iload_n hx hb d_Text_put_29 rfl (lv_at hl 2 rfl) ?_
    refine lv_iload_n hx hb d_Text_put_30 rfl (lv_at hl 0 rfl) ?_
    obtain ⟨v_6, ev_6⟩ : ∃ z : Int32, z = ((b1).toUInt32 >>> ((24 : Int32).toUInt32 &&& Int32.toUInt32 31)).toInt32 := ⟨_, rfl⟩
    refine lv_iushr (v := v_6) hx hb d_Text_put_31 ev_6.symm ?_
    refine lv_sipush (v := 255) hx hb d_Text_put_32 (by decide) ?_
    refine lv_iand hx hb d_Text_put_35 ?_
    refine lv_topi (fun v_7 ev_7 => ?_)
    have hv_7 := zI_and (k := 8) (h := 255) (by decide +kernel) ev_7 (by decide)
    obtain ⟨v_8, ev_8⟩ : ∃ z : Int32, z = ((v_7).toUInt32 % 65536).toInt32 := ⟨_, rfl⟩
    refine lv_i2c (v := v_8) hx hb d_Text_put_36 ev_8.symm ?_
    refine va_cast hx hb hK hP hD hS 1 2 rfl rfl (zI.inn hv_5 (by decide)) d_Text_put_37 (fun H locs hP hD hS => ?_)
    obtain ⟨f_9, hP, hD⟩ := z_newF 1 hP hD rfl
    have hP : va_P G.1 classes [(b0, .inr (1, [.int b2, .ref b3])), (b3, .inl (G.2 2, 240, .inl f_9))] H := hP
    have hD := z_tie hP hD rfl
    refine lv_aload_n hx hb d_Text_put_38 rfl (lv_at hl 1 rfl) ?_
    refine lv_dup hx hb d_Text_put_39 rfl ?_
    refine va_get (D := G.1) (ci := 1) (v := .int b2) (C := R_Text) (T := F_Text) (N := 2) hx hb hts i_Text hown hK hP 0 rfl rfl 0 (by decide) (hts _ q37) (fun _ h9 => h9) rfl d_Text_put_40 ?_
    refine lv_iconst (v := 1) hx hb d_Text_put_43 (by decide) ?_
    refine lv_iadd hx hb d_Text_put_44 ?_
    refine lv_topi (fun v_10 ev_10 => ?_)
    obtain ⟨qv_10, hv_10⟩ := zI_add (l := 1) (h := 237) hv_5 zc_1 ev_10 (by decide)
    rw [li_1] at qv_10
    refine va_put (D := G.1) (ci := 1) (v := .int v_10) (ty := .int) (C := R_Text) (T := F_Text) (N := 2) hx hb hts i_Text t_Text t_Text_ok n_Text hown hK hP hD hS 0 rfl rfl 0 (by decide) (hts _ q37) (fun _ h9 => h9) rfl (by decide +kernel) rfl rfl (Nat.le_of_ble_eq_true rfl) d_Text_put_45 (fun H locs hP hD hS => ?_)
    have hP : va_P G.1 classes [(b0, .inr (1, [.int v_10, .ref b3])), (b3, .inl (G.2 2, 240, .inl f_9))] H := hP
    have hD := z_tie hP hD rfl
    refine lv_iinc (v := 16) (lv' := [(2, .int 16), (0, .ref b0), (1, .int b1)]) hx hb d_Text_put_48 hl (k := 0) rfl (by decide +kernel) (by decide) rfl (fun ls hl => ?_)
    refine lv_goto (tgt := 17) hx hb d_Text_put_51 (by decide) ?_
    refine lv_iload_n hx hb d_Text_put_17 rfl (lv_at hl 0 rfl) ?_
    refine lv_if_lt (tgt := 54) hx hb d_Text_put_18 (by decide) (fun hc => absurd hc (by decide +kernel)) (fun _ => ?_)
    refine lv_aload_n hx hb d_Text_put_21 rfl (lv_at hl 1 rfl) ?_
    refine va_get (D := G.1) (ci := 1) (v := .ref b3) (C := R_Text) (T := F_Text) (N := 2) hx hb hts i_Text hown hK hP 0 rfl rfl 1 (by decide) (hts _ q39) (fun _ h9 => h9) rfl d_Text_put_22 ?_
    refine lv_aload_n hx hb d_Text_put_25 rfl (lv_at hl 1 rfl) ?_
    refine va_get (D := G.1) (ci := 1) (v := .int v_10) (C := R_Text) (T := F_Text) (N := 2) hx hb hts i_Text hown hK hP 0 rfl rfl 0 (by decide) (hts _ q37) (fun _ h9 => h9) rfl d_Text_put_26 ?_
    refine lv_iload_n hx hb d_Text_put_29 rfl (lv_at hl 2 rfl) ?_
    refine lv_iload_n hx hb d_Text_put_30 rfl (lv_at hl 0 rfl) ?_
    obtain ⟨v_11, ev_11⟩ : ∃ z : Int32, z = ((b1).toUInt32 >>> ((16 : Int32).toUInt32 &&& Int32.toUInt32 31)).toInt32 := ⟨_, rfl⟩
    refine lv_iushr (v := v_11) hx hb d_Text_put_31 ev_11.symm ?_
    refine lv_sipush (v := 255) hx hb d_Text_put_32 (by decide) ?_
    refine lv_iand hx hb d_Text_put_35 ?_
    refine lv_topi (fun v_12 ev_12 => ?_)
    have hv_12 := zI_and (k := 8) (h := 255) (by decide +kernel) ev_12 (by decide)
    obtain ⟨v_13, ev_13⟩ : ∃ z : Int32, z = ((v_12).toUInt32 % 65536).toInt32 := ⟨_, rfl⟩
    refine lv_i2c (v := v_13) hx hb d_Text_put_36 ev_13.symm ?_
    refine va_cast hx hb hK hP hD hS 1 2 rfl rfl (zI.inn hv_10 (by decide)) d_Text_put_37 (fun H locs hP hD hS => ?_)
    obtain ⟨f_14, hP, hD⟩ := z_newF 1 hP hD rfl
    have hP : va_P G.1 classes [(b0, .inr (1, [.int v_10, .ref b3])), (b3, .inl (G.2 2, 240, .inl f_14))] H := hP
    have hD := z_tie hP hD rfl
    refine lv_aload_n hx hb d_Text_put_38 rfl (lv_at hl 1 rfl) ?_
    refine lv_dup hx hb d_Text_put_39 rfl ?_
    refine va_get (D := G.1) (ci := 1) (v := .int v_10) (C := R_Text) (T := F_Text) (N := 2) hx hb hts i_Text hown hK hP 0 rfl rfl 0 (by decide) (hts _ q37) (fun _ h9 => h9) rfl d_Text_put_40 ?_
    refine lv_iconst (v := 1) hx hb d_Text_put_43 (by decide) ?_
    refine lv_iadd hx hb d_Text_put_44 ?_
    refine lv_topi (fun v_15 ev_15 => ?_)
    obtain ⟨qv_15, hv_15⟩ := zI_add (l := 2) (h := 238) hv_10 zc_1 ev_15 (by decide)
    rw [li_1] at qv_15
    refine va_put (D := G.1) (ci := 1) (v := .int v_15) (ty := .int) (C := R_Text) (T := F_Text) (N := 2) hx hb hts i_Text t_Text t_Text_ok n_Text hown hK hP hD hS 0 rfl rfl 0 (by decide) (hts _ q37) (fun _ h9 => h9) rfl (by decide +kernel) rfl rfl (Nat.le_of_ble_eq_true rfl) d_Text_put_45 (fun H locs hP hD hS => ?_)
    have hP : va_P G.1 classes [(b0, .inr (1, [.int v_15, .ref b3])), (b3, .inl (G.2 2, 240, .inl f_14))] H := hP
    have hD := z_tie hP hD rfl
    refine lv_iinc (v := 8) (lv' := [(2, .int 8), (0, .ref b0), (1, .int b1)]) hx hb d_Text_put_48 hl (k := 0) rfl (by decide +kernel) (by decide) rfl (fun ls hl => ?_)
    refine lv_goto (tgt := 17) hx hb d_Text_put_51 (by decide) ?_
    refine lv_iload_n hx hb d_Text_put_17 rfl (lv_at hl 0 rfl) ?_
    refine lv_if_lt (tgt := 54) hx hb d_Text_put_18 (by decide) (fun hc => absurd hc (by decide +kernel)) (fun _ => ?_)
    refine lv_aload_n hx hb d_Text_put_21 rfl (lv_at hl 1 rfl) ?_
    refine va_get (D := G.1) (ci := 1) (v := .ref b3) (C := R_Text) (T := F_Text) (N := 2) hx hb hts i_Text hown hK hP 0 rfl rfl 1 (by decide) (hts _ q39) (fun _ h9 => h9) rfl d_Text_put_22 ?_
    refine lv_aload_n hx hb d_Text_put_25 rfl (lv_at hl 1 rfl) ?_
    refine va_get (D := G.1) (ci := 1) (v := .int v_15) (C := R_Text) (T := F_Text) (N := 2) hx hb hts i_Text hown hK hP 0 rfl rfl 0 (by decide) (hts _ q37) (fun _ h9 => h9) rfl d_Text_put_26 ?_
    refine lv_iload_n hx hb d_Text_put_29 rfl (lv_at hl 2 rfl) ?_
    refine lv_iload_n hx hb d_Text_put_30 rfl (lv_at hl 0 rfl) ?_
    obtain ⟨v_16, ev_16⟩ : ∃ z : Int32, z = ((b1).toUInt32 >>> ((8 : Int32).toUInt32 &&& Int32.toUInt32 31)).toInt32 := ⟨_, rfl⟩
    refine lv_iushr (v := v_16) hx hb d_Text_put_31 ev_16.symm ?_
    refine lv_sipush (v := 255) hx hb d_Text_put_32 (by decide) ?_
    refine lv_iand hx hb d_Text_put_35 ?_
    refine lv_topi (fun v_17 ev_17 => ?_)
    have hv_17 := zI_and (k := 8) (h := 255) (by decide +kernel) ev_17 (by decide)
    obtain ⟨v_18, ev_18⟩ : ∃ z : Int32, z = ((v_17).toUInt32 % 65536).toInt32 := ⟨_, rfl⟩
    refine lv_i2c (v := v_18) hx hb d_Text_put_36 ev_18.symm ?_
    refine va_cast hx hb hK hP hD hS 1 2 rfl rfl (zI.inn hv_15 (by decide)) d_Text_put_37 (fun H locs hP hD hS => ?_)
    obtain ⟨f_19, hP, hD⟩ := z_newF 1 hP hD rfl
    have hP : va_P G.1 classes [(b0, .inr (1, [.int v_15, .ref b3])), (b3, .inl (G.2 2, 240, .inl f_19))] H := hP
    have hD := z_tie hP hD rfl
    refine lv_aload_n hx hb d_Text_put_38 rfl (lv_at hl 1 rfl) ?_
    refine lv_dup hx hb d_Text_put_39 rfl ?_
    refine va_get (D := G.1) (ci := 1) (v := .int v_15) (C := R_Text) (T := F_Text) (N := 2) hx hb hts i_Text hown hK hP 0 rfl rfl 0 (by decide) (hts _ q37) (fun _ h9 => h9) rfl d_Text_put_40 ?_
    refine lv_iconst (v := 1) hx hb d_Text_put_43 (by decide) ?_
    refine lv_iadd hx hb d_Text_put_44 ?_
    refine lv_topi (fun v_20 ev_20 => ?_)
    obtain ⟨qv_20, hv_20⟩ := zI_add (l := 3) (h := 239) hv_15 zc_1 ev_20 (by decide)
    rw [li_1] at qv_20
    refine va_put (D := G.1) (ci := 1) (v := .int v_20) (ty := .int) (C := R_Text) (T := F_Text) (N := 2) hx hb hts i_Text t_Text t_Text_ok n_Text hown hK hP hD hS 0 rfl rfl 0 (by decide) (hts _ q37) (fun _ h9 => h9) rfl (by decide +kernel) rfl rfl (Nat.le_of_ble_eq_true rfl) d_Text_put_45 (fun H locs hP hD hS => ?_)
    have hP : va_P G.1 classes [(b0, .inr (1, [.int v_20, .ref b3])), (b3, .inl (G.2 2, 240, .inl f_19))] H := hP
    have hD := z_tie hP hD rfl
    refine lv_iinc (v := 0) (lv' := [(2, .int 0), (0, .ref b0), (1, .int b1)]) hx hb d_Text_put_48 hl (k := 0) rfl (by decide +kernel) (by decide) rfl (fun ls hl => ?_)
    refine lv_goto (tgt := 17) hx hb d_Text_put_51 (by decide) ?_
    refine lv_iload_n hx hb d_Text_put_17 rfl (lv_at hl 0 rfl) ?_
    refine lv_if_lt (tgt := 54) hx hb d_Text_put_18 (by decide) (fun hc => absurd hc (by decide +kernel)) (fun _ => ?_)
    refine lv_aload_n hx hb d_Text_put_21 rfl (lv_at hl 1 rfl) ?_
    refine va_get (D := G.1) (ci := 1) (v := .ref b3) (C := R_Text) (T := F_Text) (N := 2) hx hb hts i_Text hown hK hP 0 rfl rfl 1 (by decide) (hts _ q39) (fun _ h9 => h9) rfl d_Text_put_22 ?_
    refine lv_aload_n hx hb d_Text_put_25 rfl (lv_at hl 1 rfl) ?_
    refine va_get (D := G.1) (ci := 1) (v := .int v_20) (C := R_Text) (T := F_Text) (N := 2) hx hb hts i_Text hown hK hP 0 rfl rfl 0 (by decide) (hts _ q37) (fun _ h9 => h9) rfl d_Text_put_26 ?_
    refine lv_iload_n hx hb d_Text_put_29 rfl (lv_at hl 2 rfl) ?_
    refine lv_iload_n hx hb d_Text_put_30 rfl (lv_at hl 0 rfl) ?_
    obtain ⟨v_21, ev_21⟩ : ∃ z : Int32, z = ((b1).toUInt32 >>> ((0 : Int32).toUInt32 &&& Int32.toUInt32 31)).toInt32 := ⟨_, rfl⟩
    refine lv_iushr (v := v_21) hx hb d_Text_put_31 ev_21.symm ?_
    refine lv_sipush (v := 255) hx hb d_Text_put_32 (by decide) ?_
    refine lv_iand hx hb d_Text_put_35 ?_
    refine lv_topi (fun v_22 ev_22 => ?_)
    have hv_22 := zI_and (k := 8) (h := 255) (by decide +kernel) ev_22 (by decide)
    obtain ⟨v_23, ev_23⟩ : ∃ z : Int32, z = ((v_22).toUInt32 % 65536).toInt32 := ⟨_, rfl⟩
    refine lv_i2c (v := v_23) hx hb d_Text_put_36 ev_23.symm ?_
    refine va_cast hx hb hK hP hD hS 1 2 rfl rfl (zI.inn hv_20 (by decide)) d_Text_put_37 (fun H locs hP hD hS => ?_)
    obtain ⟨f_24, hP, hD⟩ := z_newF 1 hP hD rfl
    have hP : va_P G.1 classes [(b0, .inr (1, [.int v_20, .ref b3])), (b3, .inl (G.2 2, 240, .inl f_24))] H := hP
    have hD := z_tie hP hD rfl
    refine lv_aload_n hx hb d_Text_put_38 rfl (lv_at hl 1 rfl) ?_
    refine lv_dup hx hb d_Text_put_39 rfl ?_
    refine va_get (D := G.1) (ci := 1) (v := .int v_20) (C := R_Text) (T := F_Text) (N := 2) hx hb hts i_Text hown hK hP 0 rfl rfl 0 (by decide) (hts _ q37) (fun _ h9 => h9) rfl d_Text_put_40 ?_
    refine lv_iconst (v := 1) hx hb d_Text_put_43 (by decide) ?_
    refine lv_iadd hx hb d_Text_put_44 ?_
    refine lv_topi (fun v_25 ev_25 => ?_)
    obtain ⟨qv_25, hv_25⟩ := zI_add (l := 4) (h := 240) hv_20 zc_1 ev_25 (by decide)
    rw [li_1] at qv_25
    refine va_put (D := G.1) (ci := 1) (v := .int v_25) (ty := .int) (C := R_Text) (T := F_Text) (N := 2) hx hb hts i_Text t_Text t_Text_ok n_Text hown hK hP hD hS 0 rfl rfl 0 (by decide) (hts _ q37) (fun _ h9 => h9) rfl (by decide +kernel) rfl rfl (Nat.le_of_ble_eq_true rfl) d_Text_put_45 (fun H locs hP hD hS => ?_)
    have hP : va_P G.1 classes [(b0, .inr (1, [.int v_25, .ref b3])), (b3, .inl (G.2 2, 240, .inl f_24))] H := hP
    have hD := z_tie hP hD rfl
    refine lv_iinc (v := (-8)) (lv' := [(2, .int (-8)), (0, .ref b0), (1, .int b1)]) hx hb d_Text_put_48 hl (k := 0) rfl (by decide +kernel) (by decide) rfl (fun ls hl => ?_)
    refine lv_goto (tgt := 17) hx hb d_Text_put_51 (by decide) ?_
    refine lv_iload_n hx hb d_Text_put_17 rfl (lv_at hl 0 rfl) ?_
    refine lv_if_lt (tgt := 54) hx hb d_Text_put_18 (by decide) (fun _ => ?_) (fun hc => absurd hc (by decide +kernel))
    refine lv_iconst (v := 1) hx hb d_Text_put_54 (by decide) ?_
    exact z_zret hx hb hr hlocks rfl hP hD hS (Nat.le_of_ble_eq_true rfl) (Nat.le_of_ble_eq_true rfl) d_Text_put_55 ⟨1, v_25, f_24, rfl, rfl, (zI.wk (l' := 0) (h' := 1) zc_1 (by decide)), (zI.wk (l' := 0) (h' := 240) hv_25 (by decide))⟩
  · have _nhc_2 := hc_2
    have ni_26 := (fa_lt _ _).mp (zi_nle hc_2)
    rw [li_240] at ni_26
    have hv_27 : zI v_1 241 244 := zI.lt_r zc_240 hv_1 (zi_nle hc_2) (by decide)
    have hv_28 : zI b2 237 240 := by have _a := hv_27; have _b := qv_1; have _c := zc_4; have _d := hb2; exact ⟨by omega, by omega⟩
    refine lv_iconst (v := 0) hx hb d_Text_put_12 (by decide) ?_
    exact z_zret hx hb hr hlocks rfl hP hD hS (Nat.le_of_ble_eq_true rfl) (Nat.le_of_ble_eq_true rfl) d_Text_put_13 ⟨0, b2, b4, rfl, rfl, (zI.wk (l' := 0) (h' := 1) zc_0 (by decide)), (zI.wk (l' := 0) (h' := 240) hv_28 (by decide))⟩
theorem d_Text_cut_0 : decode prog_9_method_3_code 0 = .ok (.iload_n 1, 1) := by decide +kernel
theorem d_Text_cut_1 : decode prog_9_method_3_code 1 = .ok (.ifCond .lt 11, 3) := by decide +kernel
theorem d_Text_cut_4 : decode prog_9_method_3_code 4 = .ok (.iload_n 1, 1) := by decide +kernel
theorem d_Text_cut_5 : decode prog_9_method_3_code 5 = .ok (.aload_n 0, 1) := by decide +kernel
theorem d_Text_cut_6 : decode prog_9_method_3_code 6 = .ok (.getfield 15, 3) := by decide +kernel
theorem d_Text_cut_9 : decode prog_9_method_3_code 9 = .ok (.if_icmp .le 5, 3) := by decide +kernel
theorem d_Text_cut_12 : decode prog_9_method_3_code 12 = .ok (.iconst 0, 1) := by decide +kernel
theorem d_Text_cut_13 : decode prog_9_method_3_code 13 = .ok (.ireturn, 1) := by decide +kernel
theorem d_Text_cut_14 : decode prog_9_method_3_code 14 = .ok (.aload_n 0, 1) := by decide +kernel
theorem d_Text_cut_15 : decode prog_9_method_3_code 15 = .ok (.iload_n 1, 1) := by decide +kernel
theorem d_Text_cut_16 : decode prog_9_method_3_code 16 = .ok (.putfield 15, 3) := by decide +kernel
theorem d_Text_cut_19 : decode prog_9_method_3_code 19 = .ok (.iconst 1, 1) := by decide +kernel
theorem d_Text_cut_20 : decode prog_9_method_3_code 20 = .ok (.ireturn, 1) := by decide +kernel
abbrev m_s1_Text_cut : Room := { frames := 0, cells := 0, slots := 0, locals := 0 }
set_option maxHeartbeats 4000000 in
set_option maxRecDepth 100000 in
theorem s1_Text_cut (l : Launch) (G : zG) (b0 : Nat) (b1 : Int32) (b2 : Int32) (b3 : Nat) (hb2 : zI b2 0 240) : zM l G y_Text_cut prog_9_method_3_code 2 (Option.some Jvm.ClassFile.FieldType.boolean) m_s1_Text_cut [.ref b0, .int b1] [(b0, .inr (1, [.int b2, .ref b3]))] (fun v w => ∃ (e0 : Int32), ∃ (e1 : Int32), v = some (.int e0) ∧ w = [(b0, .inr (1, [.int e1, .ref b3]))] ∧ (zI e0 0 1) ∧ (zI e1 0 240)) := by
  refine z_start (by decide +kernel) (Nat.le_of_ble_eq_true rfl) ?_
  intro p e s m below meth c A Z hr hnm hA hP hD hS ls hl
  have Z : zC p s m _ meth c prog_9_method_3_code 2 "TraceMachines$Text" G := Z
  obtain ⟨hx, hb, hml, hown, hts, hK, hN, hlocks⟩ := id Z
  have hl : lv_has ls 2 [(0, .ref b0), (1, .int b1)] := hl
  refine lv_iload_n hx hb d_Text_cut_0 rfl (lv_at hl 1 rfl) ?_
  refine lv_if_lt (tgt := 12) hx hb d_Text_cut_1 (by decide) (fun hc_1 => ?_) (fun hc_1 => ?_)
  · have _nhc_1 := hc_1
    have ni_2 := (fa_lt _ _).mp hc_1
    rw [li_0] at ni_2
    have hv_3 : zI b1 (-2147483648) (-1) := zI.lt_l (zI_all b1) zc_0 hc_1 (by decide)
    refine lv_iconst (v := 0) hx hb d_Text_cut_12 (by decide) ?_
    exact z_zret hx hb hr hlocks rfl hP hD hS (Nat.le_of_ble_eq_true rfl) (Nat.le_of_ble_eq_true rfl) d_Text_cut_13 ⟨0, b2, rfl, rfl, (zI.wk (l' := 0) (h' := 1) zc_0 (by decide)), hb2⟩
  · have _nhc_1 := hc_1
    have ni_4 := (fa_le _ _).mp (zi_nlt hc_1)
    rw [li_0] at ni_4
    have hv_5 : zI b1 0 2147483647 := zI.le_r zc_0 (zI_all b1) (zi_nlt hc_1) (by decide)
    refine lv_iload_n hx hb d_Text_cut_4 rfl (lv_at hl 1 rfl) ?_
    refine lv_aload_n hx hb d_Text_cut_5 rfl (lv_at hl 0 rfl) ?_
    refine va_get (D := G.1) (ci := 1) (v := .int b2) (C := R_Text) (T := F_Text) (N := 2) hx hb hts i_Text hown hK hP 0 rfl rfl 0 (by decide) (hts _ q37) (fun _ h9 => h9) rfl d_Text_cut_6 ?_
    refine lv_icmp_le (tgt := 14) hx hb d_Text_cut_9 (by decide) (fun hc_6 => ?_) (fun hc_6 => ?_)
    · have _nhc_6 := hc_6
      have ni_7 := (fa_le _ _).mp hc_6
      have hv_8 : zI b1 0 240 := zI.le_l hv_5 hb2 hc_6 (by decide)
      refine lv_aload_n hx hb d_Text_cut_14 rfl (lv_at hl 0 rfl) ?_
      refine lv_iload_n hx hb d_Text_cut_15 rfl (lv_at hl 1 rfl) ?_
      refine va_put (D := G.1) (ci := 1) (v := .int b1) (ty := .int) (C := R_Text) (T := F_Text) (N := 2) hx hb hts i_Text t_Text t_Text_ok n_Text hown hK hP hD hS 0 rfl rfl 0 (by decide) (hts _ q37) (fun _ h9 => h9) rfl (by decide +kernel) rfl rfl (Nat.le_of_ble_eq_true rfl) d_Text_cut_16 (fun H locs hP hD hS => ?_)
      have hP : va_P G.1 classes [(b0, .inr (1, [.int b1, .ref b3]))] H := hP
      have hD := z_tie hP hD rfl
      refine lv_iconst (v := 1) hx hb d_Text_cut_19 (by decide) ?_
      exact z_zret hx hb hr hlocks rfl hP hD hS (Nat.le_of_ble_eq_true rfl) (Nat.le_of_ble_eq_true rfl) d_Text_cut_20 ⟨1, b1, rfl, rfl, (zI.wk (l' := 0) (h' := 1) zc_1 (by decide)), hv_8⟩
    · have _nhc_6 := hc_6
      have ni_9 := (fa_lt _ _).mp (zi_nle hc_6)
      have hv_10 : zI b1 1 2147483647 := zI.lt_r hb2 hv_5 (zi_nle hc_6) (by decide)
      refine lv_iconst (v := 0) hx hb d_Text_cut_12 (by decide) ?_
      exact z_zret hx hb hr hlocks rfl hP hD hS (Nat.le_of_ble_eq_true rfl) (Nat.le_of_ble_eq_true rfl) d_Text_cut_13 ⟨0, b2, rfl, rfl, (zI.wk (l' := 0) (h' := 1) zc_0 (by decide)), hb2⟩
theorem d_Odds_placeOf_0 : decode prog_5_method_4_code 0 = .ok (.iconst 0, 1) := by decide +kernel
theorem d_Odds_placeOf_1 : decode prog_5_method_4_code 1 = .ok (.istore_n 2, 1) := by decide +kernel
theorem d_Odds_placeOf_2 : decode prog_5_method_4_code 2 = .ok (.iconst 0, 1) := by decide +kernel
theorem d_Odds_placeOf_3 : decode prog_5_method_4_code 3 = .ok (.istore_n 3, 1) := by decide +kernel
theorem d_Odds_placeOf_4 : decode prog_5_method_4_code 4 = .ok (.iload_n 3, 1) := by decide +kernel
theorem d_Odds_placeOf_5 : decode prog_5_method_4_code 5 = .ok (.aload_n 0, 1) := by decide +kernel
theorem d_Odds_placeOf_6 : decode prog_5_method_4_code 6 = .ok (.getfield 24, 3) := by decide +kernel
theorem d_Odds_placeOf_9 : decode prog_5_method_4_code 9 = .ok (.if_icmp .ge 21, 3) := by decide +kernel
theorem d_Odds_placeOf_12 : decode prog_5_method_4_code 12 = .ok (.aload_n 0, 1) := by decide +kernel
theorem d_Odds_placeOf_13 : decode prog_5_method_4_code 13 = .ok (.iload_n 3, 1) := by decide +kernel
theorem d_Odds_placeOf_14 : decode prog_5_method_4_code 14 = .ok (.iload_n 1, 1) := by decide +kernel
theorem d_Odds_placeOf_15 : decode prog_5_method_4_code 15 = .ok (.invokevirtual 46, 3) := by decide +kernel
theorem d_Odds_placeOf_18 : decode prog_5_method_4_code 18 = .ok (.ifCond .eq 6, 3) := by decide +kernel
theorem d_Odds_placeOf_21 : decode prog_5_method_4_code 21 = .ok (.iinc 2 1, 3) := by decide +kernel
theorem d_Odds_placeOf_24 : decode prog_5_method_4_code 24 = .ok (.iinc 3 1, 3) := by decide +kernel
theorem d_Odds_placeOf_27 : decode prog_5_method_4_code 27 = .ok (.goto (-23), 3) := by decide +kernel
theorem d_Odds_placeOf_30 : decode prog_5_method_4_code 30 = .ok (.iload_n 2, 1) := by decide +kernel
theorem d_Odds_placeOf_31 : decode prog_5_method_4_code 31 = .ok (.ireturn, 1) := by decide +kernel
theorem d_Odds_isOdder_0 : decode prog_5_method_5_code 0 = .ok (.aload_n 0, 1) := by decide +kernel
theorem d_Odds_isOdder_1 : decode prog_5_method_5_code 1 = .ok (.getfield 9, 3) := by decide +kernel
theorem d_Odds_isOdder_4 : decode prog_5_method_5_code 4 = .ok (.iload_n 1, 1) := by decide +kernel
theorem d_Odds_isOdder_5 : decode prog_5_method_5_code 5 = .ok (.iaload, 1) := by decide +kernel
theorem d_Odds_isOdder_6 : decode prog_5_method_5_code 6 = .ok (.aload_n 0, 1) := by decide +kernel
theorem d_Odds_isOdder_7 : decode prog_5_method_5_code 7 = .ok (.getfield 9, 3) := by decide +kernel
theorem d_Odds_isOdder_10 : decode prog_5_method_5_code 10 = .ok (.iload_n 2, 1) := by decide +kernel
theorem d_Odds_isOdder_11 : decode prog_5_method_5_code 11 = .ok (.iaload, 1) := by decide +kernel
theorem d_Odds_isOdder_12 : decode prog_5_method_5_code 12 = .ok (.if_icmp .eq 24, 3) := by decide +kernel
theorem d_Odds_isOdder_15 : decode prog_5_method_5_code 15 = .ok (.aload_n 0, 1) := by decide +kernel
theorem d_Odds_isOdder_16 : decode prog_5_method_5_code 16 = .ok (.getfield 9, 3) := by decide +kernel
theorem d_Odds_isOdder_19 : decode prog_5_method_5_code 19 = .ok (.iload_n 1, 1) := by decide +kernel
theorem d_Odds_isOdder_20 : decode prog_5_method_5_code 20 = .ok (.iaload, 1) := by decide +kernel
theorem d_Odds_isOdder_21 : decode prog_5_method_5_code 21 = .ok (.aload_n 0, 1) := by decide +kernel
theorem d_Odds_isOdder_22 : decode prog_5_method_5_code 22 = .ok (.getfield 9, 3) := by decide +kernel
theorem d_Odds_isOdder_25 : decode prog_5_method_5_code 25 = .ok (.iload_n 2, 1) := by decide +kernel
theorem d_Odds_isOdder_26 : decode prog_5_method_5_code 26 = .ok (.iaload, 1) := by decide +kernel
theorem d_Odds_isOdder_27 : decode prog_5_method_5_code 27 = .ok (.if_icmp .ge 7, 3) := by decide +kernel
theorem d_Odds_isOdder_30 : decode prog_5_method_5_code 30 = .ok (.iconst 1, 1) := by decide +kernel
theorem d_Odds_isOdder_31 : decode prog_5_method_5_code 31 = .ok (.goto 4, 3) := by decide +kernel
theorem d_Odds_isOdder_34 : decode prog_5_method_5_code 34 = .ok (.iconst 0, 1) := by decide +kernel
theorem d_Odds_isOdder_35 : decode prog_5_method_5_code 35 = .ok (.ireturn, 1) := by decide +kernel
theorem d_Odds_isOdder_36 : decode prog_5_method_5_code 36 = .ok (.aload_n 0, 1) := by decide +kernel
theorem d_Odds_isOdder_37 : decode prog_5_method_5_code 37 = .ok (.getfield 15, 3) := by decide +kernel
theorem d_Odds_isOdder_40 : decode prog_5_method_5_code 40 = .ok (.iload_n 1, 1) := by decide +kernel
theorem d_Odds_isOdder_41 : decode prog_5_method_5_code 41 = .ok (.iaload, 1) := by decide +kernel
theorem d_Odds_isOdder_42 : decode prog_5_method_5_code 42 = .ok (.aload_n 0, 1) := by decide +kernel
theorem d_Odds_isOdder_43 : decode prog_5_method_5_code 43 = .ok (.getfield 15, 3) := by decide +kernel
theorem d_Odds_isOdder_46 : decode prog_5_method_5_code 46 = .ok (.iload_n 2, 1) := by decide +kernel
theorem d_Odds_isOdder_47 : decode prog_5_method_5_code 47 = .ok (.iaload, 1) := by decide +kernel
theorem d_Odds_isOdder_48 : decode prog_5_method_5_code 48 = .ok (.if_icmp .eq 24, 3) := by decide +kernel
theorem d_Odds_isOdder_51 : decode prog_5_method_5_code 51 = .ok (.aload_n 0, 1) := by decide +kernel
theorem d_Odds_isOdder_52 : decode prog_5_method_5_code 52 = .ok (.getfield 15, 3) := by decide +kernel
theorem d_Odds_isOdder_55 : decode prog_5_method_5_code 55 = .ok (.iload_n 1, 1) := by decide +kernel
theorem d_Odds_isOdder_56 : decode prog_5_method_5_code 56 = .ok (.iaload, 1) := by decide +kernel
theorem d_Odds_isOdder_57 : decode prog_5_method_5_code 57 = .ok (.aload_n 0, 1) := by decide +kernel
theorem d_Odds_isOdder_58 : decode prog_5_method_5_code 58 = .ok (.getfield 15, 3) := by decide +kernel
theorem d_Odds_isOdder_61 : decode prog_5_method_5_code 61 = .ok (.iload_n 2, 1) := by decide +kernel
theorem d_Odds_isOdder_62 : decode prog_5_method_5_code 62 = .ok (.iaload, 1) := by decide +kernel
theorem d_Odds_isOdder_63 : decode prog_5_method_5_code 63 = .ok (.if_icmp .le 7, 3) := by decide +kernel
theorem d_Odds_isOdder_66 : decode prog_5_method_5_code 66 = .ok (.iconst 1, 1) := by decide +kernel
theorem d_Odds_isOdder_67 : decode prog_5_method_5_code 67 = .ok (.goto 4, 3) := by decide +kernel
theorem d_Odds_isOdder_70 : decode prog_5_method_5_code 70 = .ok (.iconst 0, 1) := by decide +kernel
theorem d_Odds_isOdder_71 : decode prog_5_method_5_code 71 = .ok (.ireturn, 1) := by decide +kernel
theorem d_Odds_isOdder_72 : decode prog_5_method_5_code 72 = .ok (.iload_n 1, 1) := by decide +kernel
theorem d_Odds_isOdder_73 : decode prog_5_method_5_code 73 = .ok (.iload_n 2, 1) := by decide +kernel
theorem d_Odds_isOdder_74 : decode prog_5_method_5_code 74 = .ok (.if_icmp .ge 7, 3) := by decide +kernel
theorem d_Odds_isOdder_77 : decode prog_5_method_5_code 77 = .ok (.iconst 1, 1) := by decide +kernel
theorem d_Odds_isOdder_78 : decode prog_5_method_5_code 78 = .ok (.goto 4, 3) := by decide +kernel
theorem d_Odds_isOdder_81 : decode prog_5_method_5_code 81 = .ok (.iconst 0, 1) := by decide +kernel
theorem d_Odds_isOdder_82 : decode prog_5_method_5_code 82 = .ok (.ireturn, 1) := by decide +kernel
abbrev m_s7_Odds_isOdder : Room := { frames := 0, cells := 0, slots := 0, locals := 0 }
set_option maxHeartbeats 4000000 in
set_option maxRecDepth 100000 in
theorem s7_Odds_isOdder (l : Launch) (G : zG) (b0 : Nat) (b1 : Int32) (b2 : Int32) (b3 : Nat) (b4 : Nat) (b5 : Int32) (b6 : Nat → Int32) (b7 : Nat → Int32) (hb1 : zI b1 0 19) (hb2 : zI b2 0 19) (hb5 : zI b5 0 20) : zM l G y_Odds_isOdder prog_5_method_5_code 3 (Option.some Jvm.ClassFile.FieldType.boolean) m_s7_Odds_isOdder [.ref b0, .int b1, .int b2] [(b0, .inr (11, [.ref b3, .ref b4, .int b5])), (b3, .inl (G.2 0, 20, .inl b6)), (b4, .inl (G.2 0, 20, .inl b7))] (fun v w => ∃ (e0 : Int32), v = some (.int e0) ∧ w = [(b0, .inr (11, [.ref b3, .ref b4, .int b5])), (b3, .inl (G.2 0, 20, .inl b6)), (b4, .inl (G.2 0, 20, .inl b7))] ∧ (zI e0 0 1)) := by
  refine z_start (by decide +kernel) (Nat.le_of_ble_eq_true rfl) ?_
  intro p e s m below meth c A Z hr hnm hA hP hD hS ls hl
  have Z : zC p s m _ meth c prog_5_method_5_code 3 "TraceMachines$Odds" G := Z
  obtain ⟨hx, hb, hml, hown, hts, hK, hN, hlocks⟩ := id Z
  have hl : lv_has ls 3 [(0, .ref b0), (1, .int b1), (2, .int b2)] := hl
  refine lv_aload_n hx hb d_Odds_isOdder_0 rfl (lv_at hl 0 rfl) ?_
  refine va_get (D := G.1) (ci := 11) (v := .ref b3) (C := R_Odds) (T := F_Odds) (N := 3) hx hb hts i_Odds hown hK hP 0 rfl rfl 0 (by decide) (hts _ q402) (fun _ h9 => h9) rfl d_Odds_isOdder_1 ?_
  refine lv_iload_n hx hb d_Odds_isOdder_4 rfl (lv_at hl 1 rfl) ?_
  refine va_iald hx hb hK hP 1 0 rfl rfl (zI.inn hb1 (by decide)) d_Odds_isOdder_5 ?_
  refine lv_topi (fun v_1 ev_1 => ?_)
  refine lv_aload_n hx hb d_Odds_isOdder_6 rfl (lv_at hl 0 rfl) ?_
  refine va_get (D := G.1) (ci := 11) (v := .ref b3) (C := R_Odds) (T := F_Odds) (N := 3) hx hb hts i_Odds hown hK hP 0 rfl rfl 0 (by decide) (hts _ q402) (fun _ h9 => h9) rfl d_Odds_isOdder_7 ?_
  refine lv_iload_n hx hb d_Odds_isOdder_10 rfl (lv_at hl 2 rfl) ?_
  refine va_iald hx hb hK hP 1 0 rfl rfl (zI.inn hb2 (by decide)) d_Odds_isOdder_11 ?_
  refine lv_topi (fun v_2 ev_2 => ?_)
  refine lv_icmp_eq (tgt := 36) hx hb d_Odds_isOdder_12 (by decide) (fun hc_3 => ?_) (fun hc_3 => ?_)
  · have _nhc_3 := hc_3
    have ni_4 := (fa_eq _ _).mp hc_3
    refine lv_aload_n hx hb d_Odds_isOdder_36 rfl (lv_at hl 0 rfl) ?_
    refine va_get (D := G.1) (ci := 11) (v := .ref b4) (C := R_Odds) (T := F_Odds) (N := 3) hx hb hts i_Odds hown hK hP 0 rfl rfl 1 (by decide) (hts _ q404) (fun _ h9 => h9) rfl d_Odds_isOdder_37 ?_
    refine lv_iload_n hx hb d_Odds_isOdder_40 rfl (lv_at hl 1 rfl) ?_
    refine va_iald hx hb hK hP 2 0 rfl rfl (zI.inn hb1 (by decide)) d_Odds_isOdder_41 ?_
    refine lv_topi (fun v_5 ev_5 => ?_)
    refine lv_aload_n hx hb d_Odds_isOdder_42 rfl (lv_at hl 0 rfl) ?_
    refine va_get (D := G.1) (ci := 11) (v := .ref b4) (C := R_Odds) (T := F_Odds) (N := 3) hx hb hts i_Odds hown hK hP 0 rfl rfl 1 (by decide) (hts _ q404) (fun _ h9 => h9) rfl d_Odds_isOdder_43 ?_
    refine lv_iload_n hx hb d_Odds_isOdder_46 rfl (lv_at hl 2 rfl) ?_
    refine va_iald hx hb hK hP 2 0 rfl rfl (zI.inn hb2 (by decide)) d_Odds_isOdder_47 ?_
    refine lv_topi (fun v_6 ev_6 => ?_)
    refine lv_icmp_eq (tgt := 72) hx hb d_Odds_isOdder_48 (by decide) (fun hc_7 => ?_) (fun hc_7 => ?_)
    · have _nhc_7 := hc_7
      have ni_8 := (fa_eq _ _).mp hc_7
      refine lv_iload_n hx hb d_Odds_isOdder_72 rfl (lv_at hl 1 rfl) ?_
      refine lv_iload_n hx hb d_Odds_isOdder_73 rfl (lv_at hl 2 rfl) ?_
      refine lv_icmp_ge (tgt := 81) hx hb d_Odds_isOdder_74 (by decide) (fun hc_9 => ?_) (fun hc_9 => ?_)
      · have _nhc_9 := hc_9
        have ni_10 := (fa_le _ _).mp hc_9
        refine lv_iconst (v := 0) hx hb d_Odds_isOdder_81 (by decide) ?_
        exact z_zret hx hb hr hlocks rfl hP hD hS (Nat.le_of_ble_eq_true rfl) (Nat.le_of_ble_eq_true rfl) d_Odds_isOdder_82 ⟨0, rfl, rfl, (zI.wk (l' := 0) (h' := 1) zc_0 (by decide))⟩
      · have _nhc_9 := hc_9
        have ni_11 := (fa_lt _ _).mp (zi_nle hc_9)
        have hv_12 : zI b1 0 18 := zI.lt_l hb1 hb2 (zi_nle hc_9) (by decide)
        have hv_13 : zI b2 1 19 := zI.lt_r hb1 hb2 (zi_nle hc_9) (by decide)
        refine lv_iconst (v := 1) hx hb d_Odds_isOdder_77 (by decide) ?_
        refine lv_goto (tgt := 82) hx hb d_Odds_isOdder_78 (by decide) ?_
        exact z_zret hx hb hr hlocks rfl hP hD hS (Nat.le_of_ble_eq_true rfl) (Nat.le_of_ble_eq_true rfl) d_Odds_isOdder_82 ⟨1, rfl, rfl, (zI.wk (l' := 0) (h' := 1) zc_1 (by decide))⟩
    · have _nhc_7 := hc_7
      have ni_14 := fun z => hc_7 ((fa_eq _ _).mpr z)
      refine lv_aload_n hx hb d_Odds_isOdder_51 rfl (lv_at hl 0 rfl) ?_
      refine va_get (D := G.1) (ci := 11) (v := .ref b4) (C := R_Odds) (T := F_Odds) (N := 3) hx hb hts i_Odds hown hK hP 0 rfl rfl 1 (by decide) (hts _ q404) (fun _ h9 => h9) rfl d_Odds_isOdder_52 ?_
      refine lv_iload_n hx hb d_Odds_isOdder_55 rfl (lv_at hl 1 rfl) ?_
      refine va_iald hx hb hK hP 2 0 rfl rfl (zI.inn hb1 (by decide)) d_Odds_isOdder_56 ?_
      refine lv_topi (fun v_15 ev_15 => ?_)
      obtain rfl : v_5 = v_15 := ev_5.trans ev_15.symm
      refine lv_aload_n hx hb d_Odds_isOdder_57 rfl (lv_at hl 0 rfl) ?_
      refine va_get (D := G.1) (ci := 11) (v := .ref b4) (C := R_Odds) (T := F_Odds) (N := 3) hx hb hts i_Odds hown hK hP 0 rfl rfl 1 (by decide) (hts _ q404) (fun _ h9 => h9) rfl d_Odds_isOdder_58 ?_
      refine lv_iload_n hx hb d_Odds_isOdder_61 rfl (lv_at hl 2 rfl) ?_
      refine va_iald hx hb hK hP 2 0 rfl rfl (zI.inn hb2 (by decide)) d_Odds_isOdder_62 ?_
      refine lv_topi (fun v_16 ev_16 => ?_)
      obtain rfl : v_6 = v_16 := ev_6.trans ev_16.symm
      refine lv_icmp_le (tgt := 70) hx hb d_Odds_isOdder_63 (by decide) (fun hc_17 => ?_) (fun hc_17 => ?_)
      · have _nhc_17 := hc_17
        have ni_18 := (fa_le _ _).mp hc_17
        refine lv_iconst (v := 0) hx hb d_Odds_isOdder_70 (by decide) ?_
        exact z_zret hx hb hr hlocks rfl hP hD hS (Nat.le_of_ble_eq_true rfl) (Nat.le_of_ble_eq_true rfl) d_Odds_isOdder_71 ⟨0, rfl, rfl, (zI.wk (l' := 0) (h' := 1) zc_0 (by decide))⟩
      · have _nhc_17 := hc_17
        have ni_19 := (fa_lt _ _).mp (zi_nle hc_17)
        have hv_20 : zI v_6 (-2147483648) 2147483646 := zI.lt_l (zI_all v_6) (zI_all v_5) (zi_nle hc_17) (by decide)
        have hv_21 : zI v_5 (-2147483647) 2147483647 := zI.lt_r (zI_all v_6) (zI_all v_5) (zi_nle hc_17) (by decide)
        refine lv_iconst (v := 1) hx hb d_Odds_isOdder_66 (by decide) ?_
        refine lv_goto (tgt := 71) hx hb d_Odds_isOdder_67 (by decide) ?_
        exact z_zret hx hb hr hlocks rfl hP hD hS (Nat.le_of_ble_eq_true rfl) (Nat.le_of_ble_eq_true rfl) d_Odds_isOdder_71 ⟨1, rfl, rfl, (zI.wk (l' := 0) (h' := 1) zc_1 (by decide))⟩
  · have _nhc_3 := hc_3
    have ni_22 := fun z => hc_3 ((fa_eq _ _).mpr z)
    refine lv_aload_n hx hb d_Odds_isOdder_15 rfl (lv_at hl 0 rfl) ?_
    refine va_get (D := G.1) (ci := 11) (v := .ref b3) (C := R_Odds) (T := F_Odds) (N := 3) hx hb hts i_Odds hown hK hP 0 rfl rfl 0 (by decide) (hts _ q402) (fun _ h9 => h9) rfl d_Odds_isOdder_16 ?_
    refine lv_iload_n hx hb d_Odds_isOdder_19 rfl (lv_at hl 1 rfl) ?_
    refine va_iald hx hb hK hP 1 0 rfl rfl (zI.inn hb1 (by decide)) d_Odds_isOdder_20 ?_
    refine lv_topi (fun v_23 ev_23 => ?_)
    obtain rfl : v_1 = v_23 := ev_1.trans ev_23.symm
    refine lv_aload_n hx hb d_Odds_isOdder_21 rfl (lv_at hl 0 rfl) ?_
    refine va_get (D := G.1) (ci := 11) (v := .ref b3) (C := R_Odds) (T := F_Odds) (N := 3) hx hb hts i_Odds hown hK hP 0 rfl rfl 0 (by decide) (hts _ q402) (fun _ h9 => h9) rfl d_Odds_isOdder_22 ?_
    refine lv_iload_n hx hb d_Odds_isOdder_25 rfl (lv_at hl 2 rfl) ?_
    refine va_iald hx hb hK hP 1 0 rfl rfl (zI.inn hb2 (by decide)) d_Odds_isOdder_26 ?_
    refine lv_topi (fun v_24 ev_24 => ?_)
    obtain rfl : v_2 = v_24 := ev_2.trans ev_24.symm
    refine lv_icmp_ge (tgt := 34) hx hb d_Odds_isOdder_27 (by decide) (fun hc_25 => ?_) (fun hc_25 => ?_)
    · have _nhc_25 := hc_25
      have ni_26 := (fa_le _ _).mp hc_25
      refine lv_iconst (v := 0) hx hb d_Odds_isOdder_34 (by decide) ?_
      exact z_zret hx hb hr hlocks rfl hP hD hS (Nat.le_of_ble_eq_true rfl) (Nat.le_of_ble_eq_true rfl) d_Odds_isOdder_35 ⟨0, rfl, rfl, (zI.wk (l' := 0) (h' := 1) zc_0 (by decide))⟩
    · have _nhc_25 := hc_25
      have ni_27 := (fa_lt _ _).mp (zi_nle hc_25)
      have hv_28 : zI v_1 (-2147483648) 2147483646 := zI.lt_l (zI_all v_1) (zI_all v_2) (zi_nle hc_25) (by decide)
      have hv_29 : zI v_2 (-2147483647) 2147483647 := zI.lt_r (zI_all v_1) (zI_all v_2) (zi_nle hc_25) (by decide)
      refine lv_iconst (v := 1) hx hb d_Odds_isOdder_30 (by decide) ?_
      refine lv_goto (tgt := 35) hx hb d_Odds_isOdder_31 (by decide) ?_
      exact z_zret hx hb hr hlocks rfl hP hD hS (Nat.le_of_ble_eq_true rfl) (Nat.le_of_ble_eq_true rfl) d_Odds_isOdder_35 ⟨1, rfl, rfl, (zI.wk (l' := 0) (h' := 1) zc_1 (by decide))⟩
abbrev m_s1_Odds_placeOf : Room := { frames := 1, cells := 0, slots := 0, locals := 22 }
set_option maxHeartbeats 4000000 in
set_option maxRecDepth 100000 in
theorem s1_Odds_placeOf (l : Launch) (G : zG) (b0 : Nat) (b1 : Int32) (b2 : Nat) (b3 : Nat) (b4 : Int32) (b5 : Nat → Int32) (b6 : Nat → Int32) (hb1 : zI b1 0 19) (hb4 : zI b4 0 20) : zM l G y_Odds_placeOf prog_5_method_4_code 4 (Option.some Jvm.ClassFile.FieldType.int) m_s1_Odds_placeOf [.ref b0, .int b1] [(b0, .inr (11, [.ref b2, .ref b3, .int b4])), (b2, .inl (G.2 0, 20, .inl b5)), (b3, .inl (G.2 0, 20, .inl b6))] (fun v w => ∃ (e0 : Int32), v = some (.int e0) ∧ w = [(b0, .inr (11, [.ref b2, .ref b3, .int b4])), (b2, .inl (G.2 0, 20, .inl b5)), (b3, .inl (G.2 0, 20, .inl b6))]) := by
  refine z_start (by decide +kernel) (Nat.le_of_ble_eq_true rfl) ?_
  intro p e s m below meth c A Z hr hnm hA hP hD hS ls hl
  have Z : zC p s m _ meth c prog_5_method_4_code 4 "TraceMachines$Odds" G := Z
  obtain ⟨hx, hb, hml, hown, hts, hK, hN, hlocks⟩ := id Z
  have hl : lv_has ls 4 [(0, .ref b0), (1, .int b1)] := hl
  refine lv_iconst (v := 0) hx hb d_Odds_placeOf_0 (by decide) ?_
  refine lv_istore_n (lv' := [(2, .int 0), (0, .ref b0), (1, .int b1)]) hx hb d_Odds_placeOf_1 rfl hl (by decide) rfl (fun ls hl => ?_)
  refine lv_iconst (v := 0) hx hb d_Odds_placeOf_2 (by decide) ?_
  refine lv_istore_n (lv' := [(3, .int 0), (2, .int 0), (0, .ref b0), (1, .int b1)]) hx hb d_Odds_placeOf_3 rfl hl (by decide) rfl (fun ls hl => ?_)
  suffices key : ∀ (k_285 : Nat) (y_286 : Int32) (y_287 : Int32) (H : Heap) (locs : List Loc) (ls : Array Slot), (zI y_286 0 20) → (20 : Int) - y_286.toInt < (k_285 : Int) → va_P G.1 classes [(b0, .inr (11, [.ref b2, .ref b3, .int b4])), (b2, .inl (G.2 0, 20, .inl b5)), (b3, .inl (G.2 0, 20, .inl b6))] H → va_D A [(b0, .inr (11, [.ref b2, .ref b3, .int b4])), (b2, .inl (G.2 0, 20, .inl b5)), (b3, .inl (G.2 0, 20, .inl b6))] → va_S A s.heap H locs → lv_has ls 4 [(3, .int y_286), (2, .int y_287), (0, .ref b0), (1, .int b1)] → W p l e m_s1_Odds_placeOf s m ([.ref b0, .int b1] : List Value).toArray below meth c H locs 0 0 (MQ below (zQ G (fun v w => ∃ (e0 : Int32), v = some (.int e0) ∧ w = [(b0, .inr (11, [.ref b2, .ref b3, .int b4])), (b2, .inl (G.2 0, 20, .inl b5)), (b3, .inl (G.2 0, 20, .inl b6))]) A) ([.ref b0, .int b1] : List Value).toArray s m_s1_Odds_placeOf.cells m_s1_Odds_placeOf.slots A) (F0 m 4 ls []) by
    exact key 21 (0) (0) _ _ _ (zI.wk (l' := 0) (h' := 20) zc_0 (by decide)) (zm_upi (zI.wk (l' := 0) (h' := 20) zc_0 (by decide)) (by decide)) hP hD hS (lv_sub hl [0, 1, 2, 3] rfl)
  intro k_285
  induction k_285 with
  | zero =>
    intro y_286 y_287 H locs ls hy_286 hmk_285 hP hD hS hl
    exact (zm_up0 hy_286 hmk_285).elim
  | succ k_285 ihk_285 =>
    intro y_286 y_287 H locs ls hy_286 hmk_285 hP hD hS hl
    refine lv_iload_n hx hb d_Odds_placeOf_4 rfl (lv_at hl 0 rfl) ?_
    refine lv_aload_n hx hb d_Odds_placeOf_5 rfl (lv_at hl 2 rfl) ?_
    refine va_get (D := G.1) (ci := 11) (v := .int b4) (C := R_Odds) (T := F_Odds) (N := 3) hx hb hts i_Odds hown hK hP 0 rfl rfl 2 (by decide) (hts _ q406) (fun _ h9 => h9) rfl d_Odds_placeOf_6 ?_
    refine lv_icmp_ge (tgt := 30) hx hb d_Odds_placeOf_9 (by decide) (fun hc_288 => ?_) (fun hc_288 => ?_)
    · have _nhc_288 := hc_288
      have ni_289 := (fa_le _ _).mp hc_288
      refine lv_iload_n hx hb d_Odds_placeOf_30 rfl (lv_at hl 1 rfl) ?_
      exact z_iret hx hb hr hlocks hP hD hS (Nat.le_of_ble_eq_true rfl) (Nat.le_of_ble_eq_true rfl) d_Odds_placeOf_31 ⟨y_287, rfl, rfl⟩
    · have _nhc_288 := hc_288
      have ni_290 := (fa_lt _ _).mp (zi_nle hc_288)
      have hv_291 : zI y_286 0 19 := zI.lt_l hy_286 hb4 (zi_nle hc_288) (by decide)
      have hv_292 : zI b4 1 20 := zI.lt_r hy_286 hb4 (zi_nle hc_288) (by decide)
      refine lv_aload_n hx hb d_Odds_placeOf_12 rfl (lv_at hl 2 rfl) ?_
      refine lv_iload_n hx hb d_Odds_placeOf_13 rfl (lv_at hl 0 rfl) ?_
      refine lv_iload_n hx hb d_Odds_placeOf_14 rfl (lv_at hl 3 rfl) ?_
      refine z_callV (index := 46) (As := [.int y_286, .int b1]) (rest := []) (wr := []) Z (s7_Odds_isOdder l G (b0) (y_286) (b1) (b2) (b3) (b4) (b5) (b6) hv_291 hb1 (zI.wk (l' := 0) (h' := 20) hv_292 (by decide))) hl.1 q974 q976 qs39 q12 q977 ⟨by decide, by decide, by show _ = some 2; decide +kernel⟩ ⟨Nat.le_of_ble_eq_true rfl, Nat.le_of_ble_eq_true rfl⟩ ⟨Nat.le_of_ble_eq_true rfl, Nat.le_of_ble_eq_true rfl⟩ rfl (Nat.le_of_ble_eq_true rfl) d_Odds_placeOf_15 hP hD hS hA 0 11 rfl rfl rfl [0, 1, 2] [] rfl rfl rfl rfl (by decide) (fun v w1 H locs hw_293 hP hD hS => ?_)
      obtain ⟨x_294, rfl, rfl, hx_294⟩ := hw_293
      have hP : va_P G.1 classes [(b0, .inr (11, [.ref b2, .ref b3, .int b4])), (b2, .inl (G.2 0, 20, .inl b5)), (b3, .inl (G.2 0, 20, .inl b6))] H := hP
      have hD := z_tie hP hD rfl
      refine W.widen (k := 0) (n := 0) (Nat.le_of_ble_eq_true rfl) (Nat.le_of_ble_eq_true rfl) ?_
      refine lv_if_eq (tgt := 24) hx hb d_Odds_placeOf_18 (by decide) (fun hc_295 => ?_) (fun hc_295 => ?_)
      · have _nhc_295 := hc_295
        have ni_296 := (fa_eq _ _).mp hc_295
        rw [li_0] at ni_296
        have hv_297 : zI x_294 0 0 := zI.eq_l hx_294 zc_0 hc_295
        obtain ⟨v_298, ev_298⟩ : ∃ z : Int32, z = y_286 + 1 := ⟨_, rfl⟩
        obtain ⟨qv_298, hv_298⟩ := zI_add (l := 1) (h := 20) hv_291 zc_1 ev_298 (by decide)
        rw [li_1] at qv_298
        refine lv_iinc (v := v_298) (lv' := [(3, .int v_298), (2, .int y_287), (0, .ref b0), (1, .int b1)]) hx hb d_Odds_placeOf_24 hl (k := 0) rfl (by rw [ev_298]; rfl) (by decide) rfl (fun ls hl => ?_)
        refine lv_goto (tgt := 4) hx hb d_Odds_placeOf_27 (by decide) ?_
        exact ihk_285 (v_298) (y_287) _ _ _ (zI.wk (l' := 0) (h' := 20) hv_298 (by decide)) (zm_up qv_298 hmk_285 (by decide)) hP hD hS (lv_sub hl [0, 1, 2, 3] rfl)
      · have _nhc_295 := hc_295
        have ni_299 := fun z => hc_295 ((fa_eq _ _).mpr z)
        simp only [li_0] at ni_299
        have hv_300 : zI x_294 1 1 := zI.ne_lo hx_294 zc_0 hc_295 (by decide)
        obtain ⟨v_301, ev_301⟩ : ∃ z : Int32, z = y_287 + 1 := ⟨_, rfl⟩
        refine lv_iinc (v := v_301) (lv' := [(2, .int v_301), (3, .int y_286), (0, .ref b0), (1, .int b1)]) hx hb d_Odds_placeOf_21 hl (k := 1) rfl (by rw [ev_301]; rfl) (by decide) rfl (fun ls hl => ?_)
        obtain ⟨v_302, ev_302⟩ : ∃ z : Int32, z = y_286 + 1 := ⟨_, rfl⟩
        obtain ⟨qv_302, hv_302⟩ := zI_add (l := 1) (h := 20) hv_291 zc_1 ev_302 (by decide)
        rw [li_1] at qv_302
        refine lv_iinc (v := v_302) (lv' := [(3, .int v_302), (2, .int v_301), (0, .ref b0), (1, .int b1)]) hx hb d_Odds_placeOf_24 hl (k := 1) rfl (by rw [ev_302]; rfl) (by decide) rfl (fun ls hl => ?_)
        refine lv_goto (tgt := 4) hx hb d_Odds_placeOf_27 (by decide) ?_
        exact ihk_285 (v_302) (v_301) _ _ _ (zI.wk (l' := 0) (h' := 20) hv_302 (by decide)) (zm_up qv_302 hmk_285 (by decide)) hP hD hS (lv_sub hl [0, 1, 2, 3] rfl)
theorem d_Tree_prefixAt_0 : decode prog_11_method_2_code 0 = .ok (.aload_n 0, 1) := by decide +kernel
theorem d_Tree_prefixAt_1 : decode prog_11_method_2_code 1 = .ok (.getfield 33, 3) := by decide +kernel
theorem d_Tree_prefixAt_4 : decode prog_11_method_2_code 4 = .ok (.iload_n 1, 1) := by decide +kernel
theorem d_Tree_prefixAt_5 : decode prog_11_method_2_code 5 = .ok (.bipush 13, 2) := by decide +kernel
theorem d_Tree_prefixAt_7 : decode prog_11_method_2_code 7 = .ok (.imul, 1) := by decide +kernel
theorem d_Tree_prefixAt_8 : decode prog_11_method_2_code 8 = .ok (.iload_n 2, 1) := by decide +kernel
theorem d_Tree_prefixAt_9 : decode prog_11_method_2_code 9 = .ok (.iadd, 1) := by decide +kernel
theorem d_Tree_prefixAt_10 : decode prog_11_method_2_code 10 = .ok (.iaload, 1) := by decide +kernel
theorem d_Tree_prefixAt_11 : decode prog_11_method_2_code 11 = .ok (.ireturn, 1) := by decide +kernel
theorem zc_13 : zI 13 13 13 := ⟨by decide +kernel, by decide +kernel⟩
theorem li_13 : (13 : Int32).toInt = 13 := by decide +kernel
abbrev m_s1_Tree_prefixAt : Room := { frames := 0, cells := 0, slots := 0, locals := 0 }
set_option maxHeartbeats 4000000 in
set_option maxRecDepth 100000 in
theorem s1_Tree_prefixAt (l : Launch) (G : zG) (b0 : Nat) (b1 : Int32) (b2 : Int32) (b3 : Int32) (b4 : Int32) (b5 : Int32) (b6 : Nat) (b7 : Nat) (b8 : Nat) (b9 : Nat) (b10 : Nat) (b11 : Nat) (b12 : Nat) (b13 : Nat) (b14 : Nat → Int32) (hb1 : zI b1 0 19) (hb2 : zI b2 0 12) (hb3 : zI b3 0 1) (hb5 : zI b5 0 241) (hb14 : zR b14 0 240) : zM l G y_Tree_prefixAt prog_11_method_2_code 3 (Option.some Jvm.ClassFile.FieldType.int) m_s1_Tree_prefixAt [.ref b0, .int b1, .int b2] [(b0, .inr (3, [.int b3, .int b4, .int b5, .ref b6, .ref b7, .ref b8, .ref b9, .ref b10, .ref b11, .ref b12, .ref b13])), (b13, .inl (G.2 0, 260, .inl b14))] (fun v w => ∃ (e0 : Int32), v = some (.int e0) ∧ w = [(b0, .inr (3, [.int b3, .int b4, .int b5, .ref b6, .ref b7, .ref b8, .ref b9, .ref b10, .ref b11, .ref b12, .ref b13])), (b13, .inl (G.2 0, 260, .inl b14))] ∧ (zI e0 0 240)) := by
  refine z_start (by decide +kernel) (Nat.le_of_ble_eq_true rfl) ?_
  intro p e s m below meth c A Z hr hnm hA hP hD hS ls hl
  have Z : zC p s m _ meth c prog_11_method_2_code 3 "TraceMachines$Tree" G := Z
  obtain ⟨hx, hb, hml, hown, hts, hK, hN, hlocks⟩ := id Z
  have hl : lv_has ls 3 [(0, .ref b0), (1, .int b1), (2, .int b2)] := hl
  refine lv_aload_n hx hb d_Tree_prefixAt_0 rfl (lv_at hl 0 rfl) ?_
  refine va_get (D := G.1) (ci := 3) (v := .ref b13) (C := R_Tree) (T := F_Tree) (N := 11) hx hb hts i_Tree hown hK hP 0 rfl rfl 10 (by decide) (hts _ q116) (fun _ h9 => h9) rfl d_Tree_prefixAt_1 ?_
  refine lv_iload_n hx hb d_Tree_prefixAt_4 rfl (lv_at hl 1 rfl) ?_
  refine lv_bipush (v := 13) hx hb d_Tree_prefixAt_5 (by decide) ?_
  refine lv_imul hx hb d_Tree_prefixAt_7 ?_
  refine lv_topi (fun v_1 ev_1 => ?_)
  obtain ⟨qv_1, hv_1⟩ := zI_mul (l := 0) (h := 247) hb1 zc_13 ev_1 (by decide)
  rw [li_13] at qv_1
  refine lv_iload_n hx hb d_Tree_prefixAt_8 rfl (lv_at hl 2 rfl) ?_
  refine lv_iadd hx hb d_Tree_prefixAt_9 ?_
  refine lv_topi (fun v_2 ev_2 => ?_)
  obtain ⟨qv_2, hv_2⟩ := zI_add (l := 0) (h := 259) hv_1 hb2 ev_2 (by decide)
  refine va_iald hx hb hK hP 1 0 rfl rfl (zI.inn hv_2 (by decide)) d_Tree_prefixAt_10 ?_
  refine lv_topi (fun v_3 ev_3 => ?_)
  have hv_3 : zI v_3 0 240 := (hb14 _).eq ev_3
  exact z_iret hx hb hr hlocks hP hD hS (Nat.le_of_ble_eq_true rfl) (Nat.le_of_ble_eq_true rfl) d_Tree_prefixAt_11 ⟨v_3, rfl, rfl, hv_3⟩
theorem d_Tree_stepFrom_0 : decode prog_11_method_5_code 0 = .ok (.iload_n 1, 1) := by decide +kernel
theorem d_Tree_stepFrom_1 : decode prog_11_method_5_code 1 = .ok (.bipush 10, 2) := by decide +kernel
theorem d_Tree_stepFrom_3 : decode prog_11_method_5_code 3 = .ok (.imul, 1) := by decide +kernel
theorem d_Tree_stepFrom_4 : decode prog_11_method_5_code 4 = .ok (.iload_n 2, 1) := by decide +kernel
theorem d_Tree_stepFrom_5 : decode prog_11_method_5_code 5 = .ok (.iadd, 1) := by decide +kernel
theorem d_Tree_stepFrom_6 : decode prog_11_method_5_code 6 = .ok (.istore_n 3, 1) := by decide +kernel
theorem d_Tree_stepFrom_7 : decode prog_11_method_5_code 7 = .ok (.aload_n 0, 1) := by decide +kernel
theorem d_Tree_stepFrom_8 : decode prog_11_method_5_code 8 = .ok (.getfield 30, 3) := by decide +kernel
theorem d_Tree_stepFrom_11 : decode prog_11_method_5_code 11 = .ok (.iload_n 3, 1) := by decide +kernel
theorem d_Tree_stepFrom_12 : decode prog_11_method_5_code 12 = .ok (.iaload, 1) := by decide +kernel
theorem d_Tree_stepFrom_13 : decode prog_11_method_5_code 13 = .ok (.iconst (-1), 1) := by decide +kernel
theorem d_Tree_stepFrom_14 : decode prog_11_method_5_code 14 = .ok (.if_icmp .ne 15, 3) := by decide +kernel
theorem d_Tree_stepFrom_17 : decode prog_11_method_5_code 17 = .ok (.aload_n 0, 1) := by decide +kernel
theorem d_Tree_stepFrom_18 : decode prog_11_method_5_code 18 = .ok (.getfield 30, 3) := by decide +kernel
theorem d_Tree_stepFrom_21 : decode prog_11_method_5_code 21 = .ok (.iload_n 3, 1) := by decide +kernel
theorem d_Tree_stepFrom_22 : decode prog_11_method_5_code 22 = .ok (.aload_n 0, 1) := by decide +kernel
theorem d_Tree_stepFrom_23 : decode prog_11_method_5_code 23 = .ok (.iload_n 1, 1) := by decide +kernel
theorem d_Tree_stepFrom_24 : decode prog_11_method_5_code 24 = .ok (.iload_n 2, 1) := by decide +kernel
theorem d_Tree_stepFrom_25 : decode prog_11_method_5_code 25 = .ok (.invokevirtual 56, 3) := by decide +kernel
theorem d_Tree_stepFrom_28 : decode prog_11_method_5_code 28 = .ok (.iastore, 1) := by decide +kernel
theorem d_Tree_stepFrom_29 : decode prog_11_method_5_code 29 = .ok (.aload_n 0, 1) := by decide +kernel
theorem d_Tree_stepFrom_30 : decode prog_11_method_5_code 30 = .ok (.getfield 30, 3) := by decide +kernel
theorem d_Tree_stepFrom_33 : decode prog_11_method_5_code 33 = .ok (.iload_n 3, 1) := by decide +kernel
theorem d_Tree_stepFrom_34 : decode prog_11_method_5_code 34 = .ok (.iaload, 1) := by decide +kernel
theorem d_Tree_stepFrom_35 : decode prog_11_method_5_code 35 = .ok (.ireturn, 1) := by decide +kernel
theorem d_Tree_addPrefix_0 : decode prog_11_method_6_code 0 = .ok (.aload_n 0, 1) := by decide +kernel
theorem d_Tree_addPrefix_1 : decode prog_11_method_6_code 1 = .ok (.getfield 44, 3) := by decide +kernel
theorem d_Tree_addPrefix_4 : decode prog_11_method_6_code 4 = .ok (.istore_n 3, 1) := by decide +kernel
theorem d_Tree_addPrefix_5 : decode prog_11_method_6_code 5 = .ok (.aload_n 0, 1) := by decide +kernel
theorem d_Tree_addPrefix_6 : decode prog_11_method_6_code 6 = .ok (.dup, 1) := by decide +kernel
theorem d_Tree_addPrefix_7 : decode prog_11_method_6_code 7 = .ok (.getfield 44, 3) := by decide +kernel
theorem d_Tree_addPrefix_10 : decode prog_11_method_6_code 10 = .ok (.iconst 1, 1) := by decide +kernel
theorem d_Tree_addPrefix_11 : decode prog_11_method_6_code 11 = .ok (.iadd, 1) := by decide +kernel
theorem d_Tree_addPrefix_12 : decode prog_11_method_6_code 12 = .ok (.putfield 44, 3) := by decide +kernel
theorem d_Tree_addPrefix_15 : decode prog_11_method_6_code 15 = .ok (.aload_n 0, 1) := by decide +kernel
theorem d_Tree_addPrefix_16 : decode prog_11_method_6_code 16 = .ok (.getfield 9, 3) := by decide +kernel
theorem d_Tree_addPrefix_19 : decode prog_11_method_6_code 19 = .ok (.iload_n 3, 1) := by decide +kernel
theorem d_Tree_addPrefix_20 : decode prog_11_method_6_code 20 = .ok (.iload_n 1, 1) := by decide +kernel
theorem d_Tree_addPrefix_21 : decode prog_11_method_6_code 21 = .ok (.iastore, 1) := by decide +kernel
theorem d_Tree_addPrefix_22 : decode prog_11_method_6_code 22 = .ok (.aload_n 0, 1) := by decide +kernel
theorem d_Tree_addPrefix_23 : decode prog_11_method_6_code 23 = .ok (.getfield 15, 3) := by decide +kernel
theorem d_Tree_addPrefix_26 : decode prog_11_method_6_code 26 = .ok (.iload_n 3, 1) := by decide +kernel
theorem d_Tree_addPrefix_27 : decode prog_11_method_6_code 27 = .ok (.iload_n 2, 1) := by decide +kernel
theorem d_Tree_addPrefix_28 : decode prog_11_method_6_code 28 = .ok (.iastore, 1) := by decide +kernel
theorem d_Tree_addPrefix_29 : decode prog_11_method_6_code 29 = .ok (.aload_n 0, 1) := by decide +kernel
theorem d_Tree_addPrefix_30 : decode prog_11_method_6_code 30 = .ok (.getfield 18, 3) := by decide +kernel
theorem d_Tree_addPrefix_33 : decode prog_11_method_6_code 33 = .ok (.iload_n 3, 1) := by decide +kernel
theorem d_Tree_addPrefix_34 : decode prog_11_method_6_code 34 = .ok (.iconst 0, 1) := by decide +kernel
theorem d_Tree_addPrefix_35 : decode prog_11_method_6_code 35 = .ok (.iastore, 1) := by decide +kernel
theorem d_Tree_addPrefix_36 : decode prog_11_method_6_code 36 = .ok (.aload_n 0, 1) := by decide +kernel
theorem d_Tree_addPrefix_37 : decode prog_11_method_6_code 37 = .ok (.getfield 21, 3) := by decide +kernel
theorem d_Tree_addPrefix_40 : decode prog_11_method_6_code 40 = .ok (.iload_n 3, 1) := by decide +kernel
theorem d_Tree_addPrefix_41 : decode prog_11_method_6_code 41 = .ok (.iconst 0, 1) := by decide +kernel
theorem d_Tree_addPrefix_42 : decode prog_11_method_6_code 42 = .ok (.iastore, 1) := by decide +kernel
theorem d_Tree_addPrefix_43 : decode prog_11_method_6_code 43 = .ok (.aload_n 0, 1) := by decide +kernel
theorem d_Tree_addPrefix_44 : decode prog_11_method_6_code 44 = .ok (.getfield 24, 3) := by decide +kernel
theorem d_Tree_addPrefix_47 : decode prog_11_method_6_code 47 = .ok (.iload_n 3, 1) := by decide +kernel
theorem d_Tree_addPrefix_48 : decode prog_11_method_6_code 48 = .ok (.bipush 99, 2) := by decide +kernel
theorem d_Tree_addPrefix_50 : decode prog_11_method_6_code 50 = .ok (.iastore, 1) := by decide +kernel
theorem d_Tree_addPrefix_51 : decode prog_11_method_6_code 51 = .ok (.aload_n 0, 1) := by decide +kernel
theorem d_Tree_addPrefix_52 : decode prog_11_method_6_code 52 = .ok (.getfield 27, 3) := by decide +kernel
theorem d_Tree_addPrefix_55 : decode prog_11_method_6_code 55 = .ok (.iload_n 3, 1) := by decide +kernel
theorem d_Tree_addPrefix_56 : decode prog_11_method_6_code 56 = .ok (.iconst 0, 1) := by decide +kernel
theorem d_Tree_addPrefix_57 : decode prog_11_method_6_code 57 = .ok (.iastore, 1) := by decide +kernel
theorem d_Tree_addPrefix_58 : decode prog_11_method_6_code 58 = .ok (.iconst 0, 1) := by decide +kernel
theorem d_Tree_addPrefix_59 : decode prog_11_method_6_code 59 = .ok (.istore 4, 2) := by decide +kernel
theorem d_Tree_addPrefix_61 : decode prog_11_method_6_code 61 = .ok (.iload 4, 2) := by decide +kernel
theorem d_Tree_addPrefix_63 : decode prog_11_method_6_code 63 = .ok (.bipush 10, 2) := by decide +kernel
theorem d_Tree_addPrefix_65 : decode prog_11_method_6_code 65 = .ok (.if_icmp .ge 22, 3) := by decide +kernel
theorem d_Tree_addPrefix_68 : decode prog_11_method_6_code 68 = .ok (.aload_n 0, 1) := by decide +kernel
theorem d_Tree_addPrefix_69 : decode prog_11_method_6_code 69 = .ok (.getfield 30, 3) := by decide +kernel
theorem d_Tree_addPrefix_72 : decode prog_11_method_6_code 72 = .ok (.iload_n 3, 1) := by decide +kernel
theorem d_Tree_addPrefix_73 : decode prog_11_method_6_code 73 = .ok (.bipush 10, 2) := by decide +kernel
theorem d_Tree_addPrefix_75 : decode prog_11_method_6_code 75 = .ok (.imul, 1) := by decide +kernel
theorem d_Tree_addPrefix_76 : decode prog_11_method_6_code 76 = .ok (.iload 4, 2) := by decide +kernel
theorem d_Tree_addPrefix_78 : decode prog_11_method_6_code 78 = .ok (.iadd, 1) := by decide +kernel
theorem d_Tree_addPrefix_79 : decode prog_11_method_6_code 79 = .ok (.iconst (-1), 1) := by decide +kernel
theorem d_Tree_addPrefix_80 : decode prog_11_method_6_code 80 = .ok (.iastore, 1) := by decide +kernel
theorem d_Tree_addPrefix_81 : decode prog_11_method_6_code 81 = .ok (.iinc 4 1, 3) := by decide +kernel
theorem d_Tree_addPrefix_84 : decode prog_11_method_6_code 84 = .ok (.goto (-23), 3) := by decide +kernel
theorem d_Tree_addPrefix_87 : decode prog_11_method_6_code 87 = .ok (.iload_n 3, 1) := by decide +kernel
theorem d_Tree_addPrefix_88 : decode prog_11_method_6_code 88 = .ok (.ireturn, 1) := by decide +kernel
theorem zc_10 : zI 10 10 10 := ⟨by decide +kernel, by decide +kernel⟩
theorem li_10 : (10 : Int32).toInt = 10 := by decide +kernel
theorem zc_m1 : zI (-1) (-1) (-1) := ⟨by decide +kernel, by decide +kernel⟩
theorem li_m1 : ((-1) : Int32).toInt = (-1) := by decide +kernel
abbrev m_s2_Tree_addPrefix : Room := { frames := 0, cells := 0, slots := 0, locals := 0 }
set_option maxHeartbeats 4000000 in
set_option maxRecDepth 100000 in
theorem s2_Tree_addPrefix (l : Launch) (G : zG) (b0 : Nat) (b1 : Int32) (b2 : Int32) (b3 : Int32) (b4 : Int32) (b5 : Int32) (b6 : Nat) (b7 : Nat) (b8 : Nat) (b9 : Nat) (b10 : Nat) (b11 : Nat) (b12 : Nat) (b13 : Nat) (b14 : Nat → Int32) (b15 : Nat → Int32) (b16 : Nat → Int32) (b17 : Nat → Int32) (b18 : Nat → Int32) (b19 : Nat → Int32) (b20 : Nat → Int32) (hb1 : zI b1 0 240) (hb2 : zI b2 0 9) (hb3 : zI b3 0 1) (hb5 : zI b5 0 241) (hb14 : zR1 b14 0 240) (hb15 : zR1 b15 0 9) (hb20 : zR b20 (-1) 240) (hap : 1 ≤ b5.toInt ∧ b5.toInt ≤ 240) : zM l G y_Tree_addPrefix prog_11_method_6_code 5 (Option.some Jvm.ClassFile.FieldType.int) m_s2_Tree_addPrefix [.ref b0, .int b1, .int b2] [(b0, .inr (3, [.int b3, .int b4, .int b5, .ref b6, .ref b7, .ref b8, .ref b9, .ref b10, .ref b11, .ref b12, .ref b13])), (b6, .inl (G.2 0, 241, .inl b14)), (b7, .inl (G.2 0, 241, .inl b15)), (b8, .inl (G.2 0, 241, .inl b16)), (b9, .inl (G.2 0, 241, .inl b17)), (b10, .inl (G.2 0, 241, .inl b18)), (b11, .inl (G.2 0, 241, .inl b19)), (b12, .inl (G.2 0, 2410, .inl b20))] (fun v w => ∃ (e0 : Int32), ∃ (e1 : Nat → Int32), ∃ (e2 : Nat → Int32), ∃ (e3 : Nat → Int32), ∃ (e4 : Nat → Int32), ∃ (e5 : Nat → Int32), ∃ (e6 : Nat → Int32), ∃ (e7 : Nat → Int32), v = some (.int b5) ∧ w = [(b0, .inr (3, [.int b3, .int b4, .int e0, .ref b6, .ref b7, .ref b8, .ref b9, .ref b10, .ref b11, .ref b12, .ref b13])), (b6, .inl (G.2 0, 241, .inl e1)), (b7, .inl (G.2 0, 241, .inl e2)), (b8, .inl (G.2 0, 241, .inl e3)), (b9, .inl (G.2 0, 241, .inl e4)), (b10, .inl (G.2 0, 241, .inl e5)), (b11, .inl (G.2 0, 241, .inl e6)), (b12, .inl (G.2 0, 2410, .inl e7))] ∧ (zI e0 0 241) ∧ (zR1 e1 0 240) ∧ (zR1 e2 0 9) ∧ (zR e7 (-1) 240) ∧ (e0.toInt = b5.toInt + 1)) := by
  refine z_start (by decide +kernel) (Nat.le_of_ble_eq_true rfl) ?_
  intro p e s m below meth c A Z hr hnm hA hP hD hS ls hl
  have Z : zC p s m _ meth c prog_11_method_6_code 5 "TraceMachines$Tree" G := Z
  obtain ⟨hx, hb, hml, hown, hts, hK, hN, hlocks⟩ := id Z
  have hl : lv_has ls 5 [(0, .ref b0), (1, .int b1), (2, .int b2)] := hl
  have hv_1 : zI b5 1 240 := ⟨by omega, by omega⟩
  refine lv_aload_n hx hb d_Tree_addPrefix_0 rfl (lv_at hl 0 rfl) ?_
  refine va_get (D := G.1) (ci := 3) (v := .int b5) (C := R_Tree) (T := F_Tree) (N := 11) hx hb hts i_Tree hown hK hP 0 rfl rfl 2 (by decide) (hts _ q100) (fun _ h9 => h9) rfl d_Tree_addPrefix_1 ?_
  refine lv_istore_n (lv' := [(3, .int b5), (0, .ref b0), (1, .int b1), (2, .int b2)]) hx hb d_Tree_addPrefix_4 rfl hl (by decide) rfl (fun ls hl => ?_)
  refine lv_aload_n hx hb d_Tree_addPrefix_5 rfl (lv_at hl 1 rfl) ?_
  refine lv_dup hx hb d_Tree_addPrefix_6 rfl ?_
  refine va_get (D := G.1) (ci := 3) (v := .int b5) (C := R_Tree) (T := F_Tree) (N := 11) hx hb hts i_Tree hown hK hP 0 rfl rfl 2 (by decide) (hts _ q100) (fun _ h9 => h9) rfl d_Tree_addPrefix_7 ?_
  refine lv_iconst (v := 1) hx hb d_Tree_addPrefix_10 (by decide) ?_
  refine lv_iadd hx hb d_Tree_addPrefix_11 ?_
  refine lv_topi (fun v_2 ev_2 => ?_)
  obtain ⟨qv_2, hv_2⟩ := zI_add (l := 2) (h := 241) hv_1 zc_1 ev_2 (by decide)
  rw [li_1] at qv_2
  refine va_put (D := G.1) (ci := 3) (v := .int v_2) (ty := .int) (C := R_Tree) (T := F_Tree) (N := 11) hx hb hts i_Tree t_Tree t_Tree_ok n_Tree hown hK hP hD hS 0 rfl rfl 2 (by decide) (hts _ q100) (fun _ h9 => h9) rfl (by decide +kernel) rfl rfl (Nat.le_of_ble_eq_true rfl) d_Tree_addPrefix_12 (fun H locs hP hD hS => ?_)
  have hP : va_P G.1 classes [(b0, .inr (3, [.int b3, .int b4, .int v_2, .ref b6, .ref b7, .ref b8, .ref b9, .ref b10, .ref b11, .ref b12, .ref b13])), (b6, .inl (G.2 0, 241, .inl b14)), (b7, .inl (G.2 0, 241, .inl b15)), (b8, .inl (G.2 0, 241, .inl b16)), (b9, .inl (G.2 0, 241, .inl b17)), (b10, .inl (G.2 0, 241, .inl b18)), (b11, .inl (G.2 0, 241, .inl b19)), (b12, .inl (G.2 0, 2410, .inl b20))] H := hP
  have hD := z_tie hP hD rfl
  refine lv_aload_n hx hb d_Tree_addPrefix_15 rfl (lv_at hl 1 rfl) ?_
  refine va_get (D := G.1) (ci := 3) (v := .ref b6) (C := R_Tree) (T := F_Tree) (N := 11) hx hb hts i_Tree hown hK hP 0 rfl rfl 3 (by decide) (hts _ q103) (fun _ h9 => h9) rfl d_Tree_addPrefix_16 ?_
  refine lv_iload_n hx hb d_Tree_addPrefix_19 rfl (lv_at hl 0 rfl) ?_
  refine lv_iload_n hx hb d_Tree_addPrefix_20 rfl (lv_at hl 2 rfl) ?_
  refine va_iast hx hb hK hP hD hS 1 0 rfl rfl (zI.inn hv_1 (by decide)) d_Tree_addPrefix_21 (fun H locs hP hD hS => ?_)
  obtain ⟨f_3, hf_3, gf_3, hP, hD⟩ := z_newfo 1 hP hD rfl hb14 (Or.inr hb1)
  have hP : va_P G.1 classes [(b0, .inr (3, [.int b3, .int b4, .int v_2, .ref b6, .ref b7, .ref b8, .ref b9, .ref b10, .ref b11, .ref b12, .ref b13])), (b6, .inl (G.2 0, 241, .inl f_3)), (b7, .inl (G.2 0, 241, .inl b15)), (b8, .inl (G.2 0, 241, .inl b16)), (b9, .inl (G.2 0, 241, .inl b17)), (b10, .inl (G.2 0, 241, .inl b18)), (b11, .inl (G.2 0, 241, .inl b19)), (b12, .inl (G.2 0, 2410, .inl b20))] H := hP
  have hD := z_tie hP hD rfl
  refine lv_aload_n hx hb d_Tree_addPrefix_22 rfl (lv_at hl 1 rfl) ?_
  refine va_get (D := G.1) (ci := 3) (v := .ref b7) (C := R_Tree) (T := F_Tree) (N := 11) hx hb hts i_Tree hown hK hP 0 rfl rfl 4 (by decide) (hts _ q105) (fun _ h9 => h9) rfl d_Tree_addPrefix_23 ?_
  refine lv_iload_n hx hb d_Tree_addPrefix_26 rfl (lv_at hl 0 rfl) ?_
  refine lv_iload_n hx hb d_Tree_addPrefix_27 rfl (lv_at hl 3 rfl) ?_
  refine va_iast hx hb hK hP hD hS 2 0 rfl rfl (zI.inn hv_1 (by decide)) d_Tree_addPrefix_28 (fun H locs hP hD hS => ?_)
  obtain ⟨f_4, hf_4, gf_4, hP, hD⟩ := z_newfo 2 hP hD rfl hb15 (Or.inr hb2)
  have hP : va_P G.1 classes [(b0, .inr (3, [.int b3, .int b4, .int v_2, .ref b6, .ref b7, .ref b8, .ref b9, .ref b10, .ref b11, .ref b12, .ref b13])), (b6, .inl (G.2 0, 241, .inl f_3)), (b7, .inl (G.2 0, 241, .inl f_4)), (b8, .inl (G.2 0, 241, .inl b16)), (b9, .inl (G.2 0, 241, .inl b17)), (b10, .inl (G.2 0, 241, .inl b18)), (b11, .inl (G.2 0, 241, .inl b19)), (b12, .inl (G.2 0, 2410, .inl b20))] H := hP
  have hD := z_tie hP hD rfl
  refine lv_aload_n hx hb d_Tree_addPrefix_29 rfl (lv_at hl 1 rfl) ?_
  refine va_get (D := G.1) (ci := 3) (v := .ref b8) (C := R_Tree) (T := F_Tree) (N := 11) hx hb hts i_Tree hown hK hP 0 rfl rfl 5 (by decide) (hts _ q107) (fun _ h9 => h9) rfl d_Tree_addPrefix_30 ?_
  refine lv_iload_n hx hb d_Tree_addPrefix_33 rfl (lv_at hl 0 rfl) ?_
  refine lv_iconst (v := 0) hx hb d_Tree_addPrefix_34 (by decide) ?_
  refine va_iast hx hb hK hP hD hS 3 0 rfl rfl (zI.inn hv_1 (by decide)) d_Tree_addPrefix_35 (fun H locs hP hD hS => ?_)
  obtain ⟨f_5, gf_5, hP, hD⟩ := z_newFu 3 hP hD rfl
  have hP : va_P G.1 classes [(b0, .inr (3, [.int b3, .int b4, .int v_2, .ref b6, .ref b7, .ref b8, .ref b9, .ref b10, .ref b11, .ref b12, .ref b13])), (b6, .inl (G.2 0, 241, .inl f_3)), (b7, .inl (G.2 0, 241, .inl f_4)), (b8, .inl (G.2 0, 241, .inl f_5)), (b9, .inl (G.2 0, 241, .inl b17)), (b10, .inl (G.2 0, 241, .inl b18)), (b11, .inl (G.2 0, 241, .inl b19)), (b12, .inl (G.2 0, 2410, .inl b20))] H := hP
  have hD := z_tie hP hD rfl
  refine lv_aload_n hx hb d_Tree_addPrefix_36 rfl (lv_at hl 1 rfl) ?_
  refine va_get (D := G.1) (ci := 3) (v := .ref b9) (C := R_Tree) (T := F_Tree) (N := 11) hx hb hts i_Tree hown hK hP 0 rfl rfl 6 (by decide) (hts _ q109) (fun _ h9 => h9) rfl d_Tree_addPrefix_37 ?_
  refine lv_iload_n hx hb d_Tree_addPrefix_40 rfl (lv_at hl 0 rfl) ?_
  refine lv_iconst (v := 0) hx hb d_Tree_addPrefix_41 (by decide) ?_
  refine va_iast hx hb hK hP hD hS 4 0 rfl rfl (zI.inn hv_1 (by decide)) d_Tree_addPrefix_42 (fun H locs hP hD hS => ?_)
  obtain ⟨f_6, gf_6, hP, hD⟩ := z_newFu 4 hP hD rfl
  have hP : va_P G.1 classes [(b0, .inr (3, [.int b3, .int b4, .int v_2, .ref b6, .ref b7, .ref b8, .ref b9, .ref b10, .ref b11, .ref b12, .ref b13])), (b6, .inl (G.2 0, 241, .inl f_3)), (b7, .inl (G.2 0, 241, .inl f_4)), (b8, .inl (G.2 0, 241, .inl f_5)), (b9, .inl (G.2 0, 241, .inl f_6)), (b10, .inl (G.2 0, 241, .inl b18)), (b11, .inl (G.2 0, 241, .inl b19)), (b12, .inl (G.2 0, 2410, .inl b20))] H := hP
  have hD := z_tie hP hD rfl
  refine lv_aload_n hx hb d_Tree_addPrefix_43 rfl (lv_at hl 1 rfl) ?_
  refine va_get (D := G.1) (ci := 3) (v := .ref b10) (C := R_Tree) (T := F_Tree) (N := 11) hx hb hts i_Tree hown hK hP 0 rfl rfl 7 (by decide) (hts _ q111) (fun _ h9 => h9) rfl d_Tree_addPrefix_44 ?_
  refine lv_iload_n hx hb d_Tree_addPrefix_47 rfl (lv_at hl 0 rfl) ?_
  refine lv_bipush (v := 99) hx hb d_Tree_addPrefix_48 (by decide) ?_
  refine va_iast hx hb hK hP hD hS 5 0 rfl rfl (zI.inn hv_1 (by decide)) d_Tree_addPrefix_50 (fun H locs hP hD hS => ?_)
  obtain ⟨f_7, gf_7, hP, hD⟩ := z_newFu 5 hP hD rfl
  have hP : va_P G.1 classes [(b0, .inr (3, [.int b3, .int b4, .int v_2, .ref b6, .ref b7, .ref b8, .ref b9, .ref b10, .ref b11, .ref b12, .ref b13])), (b6, .inl (G.2 0, 241, .inl f_3)), (b7, .inl (G.2 0, 241, .inl f_4)), (b8, .inl (G.2 0, 241, .inl f_5)), (b9, .inl (G.2 0, 241, .inl f_6)), (b10, .inl (G.2 0, 241, .inl f_7)), (b11, .inl (G.2 0, 241, .inl b19)), (b12, .inl (G.2 0, 2410, .inl b20))] H := hP
  have hD := z_tie hP hD rfl
  refine lv_aload_n hx hb d_Tree_addPrefix_51 rfl (lv_at hl 1 rfl) ?_
  refine va_get (D := G.1) (ci := 3) (v := .ref b11) (C := R_Tree) (T := F_Tree) (N := 11) hx hb hts i_Tree hown hK hP 0 rfl rfl 8 (by decide) (hts _ q113) (fun _ h9 => h9) rfl d_Tree_addPrefix_52 ?_
  refine lv_iload_n hx hb d_Tree_addPrefix_55 rfl (lv_at hl 0 rfl) ?_
  refine lv_iconst (v := 0) hx hb d_Tree_addPrefix_56 (by decide) ?_
  refine va_iast hx hb hK hP hD hS 6 0 rfl rfl (zI.inn hv_1 (by decide)) d_Tree_addPrefix_57 (fun H locs hP hD hS => ?_)
  obtain ⟨f_8, gf_8, hP, hD⟩ := z_newFu 6 hP hD rfl
  have hP : va_P G.1 classes [(b0, .inr (3, [.int b3, .int b4, .int v_2, .ref b6, .ref b7, .ref b8, .ref b9, .ref b10, .ref b11, .ref b12, .ref b13])), (b6, .inl (G.2 0, 241, .inl f_3)), (b7, .inl (G.2 0, 241, .inl f_4)), (b8, .inl (G.2 0, 241, .inl f_5)), (b9, .inl (G.2 0, 241, .inl f_6)), (b10, .inl (G.2 0, 241, .inl f_7)), (b11, .inl (G.2 0, 241, .inl f_8)), (b12, .inl (G.2 0, 2410, .inl b20))] H := hP
  have hD := z_tie hP hD rfl
  refine lv_iconst (v := 0) hx hb d_Tree_addPrefix_58 (by decide) ?_
  refine lv_istore (lv' := [(4, .int 0), (3, .int b5), (0, .ref b0), (1, .int b1), (2, .int b2)]) hx hb d_Tree_addPrefix_59 hl (by decide) rfl (fun ls hl => ?_)
  suffices key : ∀ (k_52 : Nat) (y_53 : Int32) (y_54 : Nat → Int32) (H : Heap) (locs : List Loc) (ls : Array Slot), (zI y_53 0 10) → (zR y_54 (-1) 240) → (10 : Int) - y_53.toInt < (k_52 : Int) → va_P G.1 classes [(b0, .inr (3, [.int b3, .int b4, .int v_2, .ref b6, .ref b7, .ref b8, .ref b9, .ref b10, .ref b11, .ref b12, .ref b13])), (b6, .inl (G.2 0, 241, .inl f_3)), (b7, .inl (G.2 0, 241, .inl f_4)), (b8, .inl (G.2 0, 241, .inl f_5)), (b9, .inl (G.2 0, 241, .inl f_6)), (b10, .inl (G.2 0, 241, .inl f_7)), (b11, .inl (G.2 0, 241, .inl f_8)), (b12, .inl (G.2 0, 2410, .inl y_54))] H → va_D A [(b0, .inr (3, [.int b3, .int b4, .int v_2, .ref b6, .ref b7, .ref b8, .ref b9, .ref b10, .ref b11, .ref b12, .ref b13])), (b6, .inl (G.2 0, 241, .inl f_3)), (b7, .inl (G.2 0, 241, .inl f_4)), (b8, .inl (G.2 0, 241, .inl f_5)), (b9, .inl (G.2 0, 241, .inl f_6)), (b10, .inl (G.2 0, 241, .inl f_7)), (b11, .inl (G.2 0, 241, .inl f_8)), (b12, .inl (G.2 0, 2410, .inl y_54))] → va_S A s.heap H locs → lv_has ls 5 [(4, .int y_53), (3, .int b5), (0, .ref b0), (1, .int b1), (2, .int b2)] → W p l e m_s2_Tree_addPrefix s m ([.ref b0, .int b1, .int b2] : List Value).toArray below meth c H locs 0 0 (MQ below (zQ G (fun v w => ∃ (e0 : Int32), ∃ (e1 : Nat → Int32), ∃ (e2 : Nat → Int32), ∃ (e3 : Nat → Int32), ∃ (e4 : Nat → Int32), ∃ (e5 : Nat → Int32), ∃ (e6 : Nat → Int32), ∃ (e7 : Nat → Int32), v = some (.int b5) ∧ w = [(b0, .inr (3, [.int b3, .int b4, .int e0, .ref b6, .ref b7, .ref b8, .ref b9, .ref b10, .ref b11, .ref b12, .ref b13])), (b6, .inl (G.2 0, 241, .inl e1)), (b7, .inl (G.2 0, 241, .inl e2)), (b8, .inl (G.2 0, 241, .inl e3)), (b9, .inl (G.2 0, 241, .inl e4)), (b10, .inl (G.2 0, 241, .inl e5)), (b11, .inl (G.2 0, 241, .inl e6)), (b12, .inl (G.2 0, 2410, .inl e7))] ∧ (zI e0 0 241) ∧ (zR1 e1 0 240) ∧ (zR1 e2 0 9) ∧ (zR e7 (-1) 240) ∧ (e0.toInt = b5.toInt + 1)) A) ([.ref b0, .int b1, .int b2] : List Value).toArray s m_s2_Tree_addPrefix.cells m_s2_Tree_addPrefix.slots A) (F0 m 61 ls []) by
    exact key 11 (0) (b20) _ _ _ (zI.wk (l' := 0) (h' := 10) zc_0 (by decide)) hb20 (zm_upi (zI.wk (l' := 0) (h' := 10) zc_0 (by decide)) (by decide)) hP hD hS (lv_sub hl [0, 1, 2, 3, 4] rfl)
  intro k_52
  induction k_52 with
  | zero =>
    intro y_53 y_54 H locs ls hy_53 hy_54 hmk_52 hP hD hS hl
    exact (zm_up0 hy_53 hmk_52).elim
  | succ k_52 ihk_52 =>
    intro y_53 y_54 H locs ls hy_53 hy_54 hmk_52 hP hD hS hl
    refine lv_iload hx hb d_Tree_addPrefix_61 (lv_at hl 0 rfl) ?_
    refine lv_bipush (v := 10) hx hb d_Tree_addPrefix_63 (by decide) ?_
    refine lv_icmp_ge (tgt := 87) hx hb d_Tree_addPrefix_65 (by decide) (fun hc_55 => ?_) (fun hc_55 => ?_)
    · have _nhc_55 := hc_55
      have ni_56 := (fa_le _ _).mp hc_55
      rw [li_10] at ni_56
      have hv_57 : zI y_53 10 10 := zI.le_r zc_10 hy_53 hc_55 (by decide)
      refine lv_iload_n hx hb d_Tree_addPrefix_87 rfl (lv_at hl 1 rfl) ?_
      exact z_iret hx hb hr hlocks hP hD hS (Nat.le_of_ble_eq_true rfl) (Nat.le_of_ble_eq_true rfl) d_Tree_addPrefix_88 ⟨v_2, f_3, f_4, f_5, f_6, f_7, f_8, y_54, rfl, rfl, (zI.wk (l' := 0) (h' := 241) hv_2 (by decide)), hf_3, hf_4, hy_54, (by omega)⟩
    · have _nhc_55 := hc_55
      have ni_58 := (fa_lt _ _).mp (zi_nle hc_55)
      rw [li_10] at ni_58
      have hv_59 : zI y_53 0 9 := zI.lt_l hy_53 zc_10 (zi_nle hc_55) (by decide)
      refine lv_aload_n hx hb d_Tree_addPrefix_68 rfl (lv_at hl 2 rfl) ?_
      refine va_get (D := G.1) (ci := 3) (v := .ref b12) (C := R_Tree) (T := F_Tree) (N := 11) hx hb hts i_Tree hown hK hP 0 rfl rfl 9 (by decide) (hts _ q115) (fun _ h9 => h9) rfl d_Tree_addPrefix_69 ?_
      refine lv_iload_n hx hb d_Tree_addPrefix_72 rfl (lv_at hl 1 rfl) ?_
      refine lv_bipush (v := 10) hx hb d_Tree_addPrefix_73 (by decide) ?_
      refine lv_imul hx hb d_Tree_addPrefix_75 ?_
      refine lv_topi (fun v_60 ev_60 => ?_)
      obtain ⟨qv_60, hv_60⟩ := zI_mul (l := 10) (h := 2400) hv_1 zc_10 ev_60 (by decide)
      rw [li_10] at qv_60
      refine lv_iload hx hb d_Tree_addPrefix_76 (lv_at hl 0 rfl) ?_
      refine lv_iadd hx hb d_Tree_addPrefix_78 ?_
      refine lv_topi (fun v_61 ev_61 => ?_)
      obtain ⟨qv_61, hv_61⟩ := zI_add (l := 10) (h := 2409) hv_60 hv_59 ev_61 (by decide)
      refine lv_iconst (v := (-1)) hx hb d_Tree_addPrefix_79 (by decide) ?_
      refine va_iast hx hb hK hP hD hS 7 0 rfl rfl (zI.inn hv_61 (by decide)) d_Tree_addPrefix_80 (fun H locs hP hD hS => ?_)
      obtain ⟨f_62, hf_62, gf_62, hP, hD⟩ := z_newfu 7 hP hD rfl hy_54 (zI.wk (l' := (-1)) (h' := 240) zc_m1 (by decide))
      have hP : va_P G.1 classes [(b0, .inr (3, [.int b3, .int b4, .int v_2, .ref b6, .ref b7, .ref b8, .ref b9, .ref b10, .ref b11, .ref b12, .ref b13])), (b6, .inl (G.2 0, 241, .inl f_3)), (b7, .inl (G.2 0, 241, .inl f_4)), (b8, .inl (G.2 0, 241, .inl f_5)), (b9, .inl (G.2 0, 241, .inl f_6)), (b10, .inl (G.2 0, 241, .inl f_7)), (b11, .inl (G.2 0, 241, .inl f_8)), (b12, .inl (G.2 0, 2410, .inl f_62))] H := hP
      have hD := z_tie hP hD rfl
      obtain ⟨v_63, ev_63⟩ : ∃ z : Int32, z = y_53 + 1 := ⟨_, rfl⟩
      obtain ⟨qv_63, hv_63⟩ := zI_add (l := 1) (h := 10) hv_59 zc_1 ev_63 (by decide)
      rw [li_1] at qv_63
      refine lv_iinc (v := v_63) (lv' := [(4, .int v_63), (3, .int b5), (0, .ref b0), (1, .int b1), (2, .int b2)]) hx hb d_Tree_addPrefix_81 hl (k := 0) rfl (by rw [ev_63]; rfl) (by decide) rfl (fun ls hl => ?_)
      refine lv_goto (tgt := 61) hx hb d_Tree_addPrefix_84 (by decide) ?_
      exact ihk_52 (v_63) (f_62) _ _ _ (zI.wk (l' := 0) (h' := 10) hv_63 (by decide)) hf_62 (zm_up qv_63 hmk_52 (by decide)) hP hD hS (lv_sub hl [0, 1, 2, 3, 4] rfl)
abbrev m_s1_Tree_stepFrom : Room := { frames := 1, cells := 0, slots := 0, locals := 24 }
set_option maxHeartbeats 4000000 in
set_option maxRecDepth 100000 in
theorem s1_Tree_stepFrom (l : Launch) (G : zG) (b0 : Nat) (b1 : Int32) (b2 : Int32) (b3 : Int32) (b4 : Int32) (b5 : Int32) (b6 : Nat) (b7 : Nat) (b8 : Nat) (b9 : Nat) (b10 : Nat) (b11 : Nat) (b12 : Nat) (b13 : Nat) (b14 : Nat → Int32) (b15 : Nat → Int32) (b16 : Nat → Int32) (b17 : Nat → Int32) (b18 : Nat → Int32) (b19 : Nat → Int32) (b20 : Nat → Int32) (hb1 : zI b1 0 240) (hb2 : zI b2 0 9) (hb3 : zI b3 0 1) (hb5 : zI b5 0 241) (hb14 : zR1 b14 0 240) (hb15 : zR1 b15 0 9) (hb20 : zR b20 (-1) 240) (hsf : 1 ≤ b5.toInt ∧ b5.toInt ≤ 240) : zM l G y_Tree_stepFrom prog_11_method_5_code 4 (Option.some Jvm.ClassFile.FieldType.int) m_s1_Tree_stepFrom [.ref b0, .int b1, .int b2] [(b0, .inr (3, [.int b3, .int b4, .int b5, .ref b6, .ref b7, .ref b8, .ref b9, .ref b10, .ref b11, .ref b12, .ref b13])), (b6, .inl (G.2 0, 241, .inl b14)), (b7, .inl (G.2 0, 241, .inl b15)), (b8, .inl (G.2 0, 241, .inl b16)), (b9, .inl (G.2 0, 241, .inl b17)), (b10, .inl (G.2 0, 241, .inl b18)), (b11, .inl (G.2 0, 241, .inl b19)), (b12, .inl (G.2 0, 2410, .inl b20))] (fun v w => ∃ (e0 : Int32), ∃ (e1 : Int32), ∃ (e2 : Nat → Int32), ∃ (e3 : Nat → Int32), ∃ (e4 : Nat → Int32), ∃ (e5 : Nat → Int32), ∃ (e6 : Nat → Int32), ∃ (e7 : Nat → Int32), ∃ (e8 : Nat → Int32), v = some (.int e0) ∧ w = [(b0, .inr (3, [.int b3, .int b4, .int e1, .ref b6, .ref b7, .ref b8, .ref b9, .ref b10, .ref b11, .ref b12, .ref b13])), (b6, .inl (G.2 0, 241, .inl e2)), (b7, .inl (G.2 0, 241, .inl e3)), (b8, .inl (G.2 0, 241, .inl e4)), (b9, .inl (G.2 0, 241, .inl e5)), (b10, .inl (G.2 0, 241, .inl e6)), (b11, .inl (G.2 0, 241, .inl e7)), (b12, .inl (G.2 0, 2410, .inl e8))] ∧ (zI e0 0 240) ∧ (zI e1 0 241) ∧ (zR1 e2 0 240) ∧ (zR1 e3 0 9) ∧ (zR e8 (-1) 240) ∧ (e1.toInt ≤ b5.toInt + 1) ∧ (b5.toInt ≤ e1.toInt)) := by
  refine z_start (by decide +kernel) (Nat.le_of_ble_eq_true rfl) ?_
  intro p e s m below meth c A Z hr hnm hA hP hD hS ls hl
  have Z : zC p s m _ meth c prog_11_method_5_code 4 "TraceMachines$Tree" G := Z
  obtain ⟨hx, hb, hml, hown, hts, hK, hN, hlocks⟩ := id Z
  have hl : lv_has ls 4 [(0, .ref b0), (1, .int b1), (2, .int b2)] := hl
  have hv_1 : zI b5 1 240 := ⟨by omega, by omega⟩
  refine lv_iload_n hx hb d_Tree_stepFrom_0 rfl (lv_at hl 1 rfl) ?_
  refine lv_bipush (v := 10) hx hb d_Tree_stepFrom_1 (by decide) ?_
  refine lv_imul hx hb d_Tree_stepFrom_3 ?_
  refine lv_topi (fun v_2 ev_2 => ?_)
  obtain ⟨qv_2, hv_2⟩ := zI_mul (l := 0) (h := 2400) hb1 zc_10 ev_2 (by decide)
  rw [li_10] at qv_2
  refine lv_iload_n hx hb d_Tree_stepFrom_4 rfl (lv_at hl 2 rfl) ?_
  refine lv_iadd hx hb d_Tree_stepFrom_5 ?_
  refine lv_topi (fun v_3 ev_3 => ?_)
  obtain ⟨qv_3, hv_3⟩ := zI_add (l := 0) (h := 2409) hv_2 hb2 ev_3 (by decide)
  refine lv_istore_n (lv' := [(3, .int v_3), (0, .ref b0), (1, .int b1), (2, .int b2)]) hx hb d_Tree_stepFrom_6 rfl hl (by decide) rfl (fun ls hl => ?_)
  refine lv_aload_n hx hb d_Tree_stepFrom_7 rfl (lv_at hl 1 rfl) ?_
  refine va_get (D := G.1) (ci := 3) (v := .ref b12) (C := R_Tree) (T := F_Tree) (N := 11) hx hb hts i_Tree hown hK hP 0 rfl rfl 9 (by decide) (hts _ q115) (fun _ h9 => h9) rfl d_Tree_stepFrom_8 ?_
  refine lv_iload_n hx hb d_Tree_stepFrom_11 rfl (lv_at hl 0 rfl) ?_
  refine va_iald hx hb hK hP 7 0 rfl rfl (zI.inn hv_3 (by decide)) d_Tree_stepFrom_12 ?_
  refine lv_topi (fun v_4 ev_4 => ?_)
  have hv_4 : zI v_4 (-1) 240 := (hb20 _).eq ev_4
  refine lv_iconst (v := (-1)) hx hb d_Tree_stepFrom_13 (by decide) ?_
  refine lv_icmp_ne (tgt := 29) hx hb d_Tree_stepFrom_14 (by decide) (fun hc_5 => ?_) (fun hc_5 => ?_)
  · have _nhc_5 := hc_5
    have ni_6 := fun z => hc_5 ((fa_eq _ _).mpr z)
    simp only [li_m1] at ni_6
    have hv_7 : zI v_4 0 240 := zI.ne_lo hv_4 zc_m1 hc_5 (by decide)
    refine lv_aload_n hx hb d_Tree_stepFrom_29 rfl (lv_at hl 1 rfl) ?_
    refine va_get (D := G.1) (ci := 3) (v := .ref b12) (C := R_Tree) (T := F_Tree) (N := 11) hx hb hts i_Tree hown hK hP 0 rfl rfl 9 (by decide) (hts _ q115) (fun _ h9 => h9) rfl d_Tree_stepFrom_30 ?_
    refine lv_iload_n hx hb d_Tree_stepFrom_33 rfl (lv_at hl 0 rfl) ?_
    refine va_iald hx hb hK hP 7 0 rfl rfl (zI.inn hv_3 (by decide)) d_Tree_stepFrom_34 ?_
    refine lv_topi (fun v_8 ev_8 => ?_)
    obtain rfl : v_4 = v_8 := ev_4.trans ev_8.symm
    exact z_iret hx hb hr hlocks hP hD hS (Nat.le_of_ble_eq_true rfl) (Nat.le_of_ble_eq_true rfl) d_Tree_stepFrom_35 ⟨v_4, b5, b14, b15, b16, b17, b18, b19, b20, rfl, rfl, hv_7, (zI.wk (l' := 0) (h' := 241) hv_1 (by decide)), hb14, hb15, hb20, (by omega), (by omega)⟩
  · have _nhc_5 := hc_5
    have ni_9 := (fa_eq _ _).mp hc_5
    rw [li_m1] at ni_9
    have hv_10 : zI v_4 (-1) (-1) := zI.eq_l hv_4 zc_m1 hc_5
    refine lv_aload_n hx hb d_Tree_stepFrom_17 rfl (lv_at hl 1 rfl) ?_
    refine va_get (D := G.1) (ci := 3) (v := .ref b12) (C := R_Tree) (T := F_Tree) (N := 11) hx hb hts i_Tree hown hK hP 0 rfl rfl 9 (by decide) (hts _ q115) (fun _ h9 => h9) rfl d_Tree_stepFrom_18 ?_
    refine lv_iload_n hx hb d_Tree_stepFrom_21 rfl (lv_at hl 0 rfl) ?_
    refine lv_aload_n hx hb d_Tree_stepFrom_22 rfl (lv_at hl 1 rfl) ?_
    refine lv_iload_n hx hb d_Tree_stepFrom_23 rfl (lv_at hl 2 rfl) ?_
    refine lv_iload_n hx hb d_Tree_stepFrom_24 rfl (lv_at hl 3 rfl) ?_
    refine z_callV (index := 56) (As := [.int b1, .int b2]) (rest := [.int v_3, .ref b12]) (wr := []) Z (s2_Tree_addPrefix l G (b0) (b1) (b2) (b3) (b4) (b5) (b6) (b7) (b8) (b9) (b10) (b11) (b12) (b13) (b14) (b15) (b16) (b17) (b18) (b19) (b20) hb1 hb2 hb3 (zI.wk (l' := 0) (h' := 241) hv_1 (by decide)) hb14 hb15 hb20 (by omega)) hl.1 q575 q577 qs4 q4 q578 ⟨by decide, by decide, by show _ = some 2; decide +kernel⟩ ⟨Nat.le_of_ble_eq_true rfl, Nat.le_of_ble_eq_true rfl⟩ ⟨Nat.le_of_ble_eq_true rfl, Nat.le_of_ble_eq_true rfl⟩ rfl (Nat.le_of_ble_eq_true rfl) d_Tree_stepFrom_25 hP hD hS hA 0 3 rfl rfl rfl [0, 1, 2, 3, 4, 5, 6, 7] [] rfl rfl rfl rfl (by decide) (fun v w1 H locs hw_11 hP hD hS => ?_)
    obtain ⟨x_12, f_13, f_14, f_15, f_16, f_17, f_18, f_19, rfl, rfl, hx_12, hf_13, hf_14, hf_19, hfx_20⟩ := hw_11
    have hP : va_P G.1 classes [(b0, .inr (3, [.int b3, .int b4, .int x_12, .ref b6, .ref b7, .ref b8, .ref b9, .ref b10, .ref b11, .ref b12, .ref b13])), (b6, .inl (G.2 0, 241, .inl f_13)), (b7, .inl (G.2 0, 241, .inl f_14)), (b8, .inl (G.2 0, 241, .inl f_15)), (b9, .inl (G.2 0, 241, .inl f_16)), (b10, .inl (G.2 0, 241, .inl f_17)), (b11, .inl (G.2 0, 241, .inl f_18)), (b12, .inl (G.2 0, 2410, .inl f_19))] H := hP
    have hD := z_tie hP hD rfl
    refine W.widen (k := 0) (n := 0) (Nat.le_of_ble_eq_true rfl) (Nat.le_of_ble_eq_true rfl) ?_
    refine va_iast hx hb hK hP hD hS 7 0 rfl rfl (zI.inn hv_3 (by decide)) d_Tree_stepFrom_28 (fun H locs hP hD hS => ?_)
    obtain ⟨f_21, hf_21, gf_21, hP, hD⟩ := z_newfu 7 hP hD rfl hf_19 (zI.wk (l' := (-1)) (h' := 240) hv_1 (by decide))
    have hP : va_P G.1 classes [(b0, .inr (3, [.int b3, .int b4, .int x_12, .ref b6, .ref b7, .ref b8, .ref b9, .ref b10, .ref b11, .ref b12, .ref b13])), (b6, .inl (G.2 0, 241, .inl f_13)), (b7, .inl (G.2 0, 241, .inl f_14)), (b8, .inl (G.2 0, 241, .inl f_15)), (b9, .inl (G.2 0, 241, .inl f_16)), (b10, .inl (G.2 0, 241, .inl f_17)), (b11, .inl (G.2 0, 241, .inl f_18)), (b12, .inl (G.2 0, 2410, .inl f_21))] H := hP
    have hD := z_tie hP hD rfl
    refine lv_aload_n hx hb d_Tree_stepFrom_29 rfl (lv_at hl 1 rfl) ?_
    refine va_get (D := G.1) (ci := 3) (v := .ref b12) (C := R_Tree) (T := F_Tree) (N := 11) hx hb hts i_Tree hown hK hP 0 rfl rfl 9 (by decide) (hts _ q115) (fun _ h9 => h9) rfl d_Tree_stepFrom_30 ?_
    refine lv_iload_n hx hb d_Tree_stepFrom_33 rfl (lv_at hl 0 rfl) ?_
    refine va_iald hx hb hK hP 7 0 rfl rfl (zI.inn hv_3 (by decide)) d_Tree_stepFrom_34 ?_
    refine lv_topi (fun v_22 ev_22 => ?_)
    obtain rfl : b5 = v_22 := gf_21.symm.trans ev_22.symm
    exact z_iret hx hb hr hlocks hP hD hS (Nat.le_of_ble_eq_true rfl) (Nat.le_of_ble_eq_true rfl) d_Tree_stepFrom_35 ⟨b5, x_12, f_13, f_14, f_15, f_16, f_17, f_18, f_21, rfl, rfl, (zI.wk (l' := 0) (h' := 240) hv_1 (by decide)), hx_12, hf_13, hf_14, hf_21, (by omega), (by omega)⟩
theorem d_Tree_follow_0 : decode prog_11_method_4_code 0 = .ok (.aload_n 0, 1) := by decide +kernel
theorem d_Tree_follow_1 : decode prog_11_method_4_code 1 = .ok (.getfield 44, 3) := by decide +kernel
theorem d_Tree_follow_4 : decode prog_11_method_4_code 4 = .ok (.ifCond .ne 10, 3) := by decide +kernel
theorem d_Tree_follow_7 : decode prog_11_method_4_code 7 = .ok (.aload_n 0, 1) := by decide +kernel
theorem d_Tree_follow_8 : decode prog_11_method_4_code 8 = .ok (.iconst (-1), 1) := by decide +kernel
theorem d_Tree_follow_9 : decode prog_11_method_4_code 9 = .ok (.iconst (-1), 1) := by decide +kernel
theorem d_Tree_follow_10 : decode prog_11_method_4_code 10 = .ok (.invokevirtual 56, 3) := by decide +kernel
theorem d_Tree_follow_13 : decode prog_11_method_4_code 13 = .ok (.pop, 1) := by decide +kernel
theorem d_Tree_follow_14 : decode prog_11_method_4_code 14 = .ok (.iconst 0, 1) := by decide +kernel
theorem d_Tree_follow_15 : decode prog_11_method_4_code 15 = .ok (.istore_n 3, 1) := by decide +kernel
theorem d_Tree_follow_16 : decode prog_11_method_4_code 16 = .ok (.aload_n 1, 1) := by decide +kernel
theorem d_Tree_follow_17 : decode prog_11_method_4_code 17 = .ok (.getfield 60, 3) := by decide +kernel
theorem d_Tree_follow_20 : decode prog_11_method_4_code 20 = .ok (.iload_n 2, 1) := by decide +kernel
theorem d_Tree_follow_21 : decode prog_11_method_4_code 21 = .ok (.iaload, 1) := by decide +kernel
theorem d_Tree_follow_22 : decode prog_11_method_4_code 22 = .ok (.istore 4, 2) := by decide +kernel
theorem d_Tree_follow_24 : decode prog_11_method_4_code 24 = .ok (.aload_n 0, 1) := by decide +kernel
theorem d_Tree_follow_25 : decode prog_11_method_4_code 25 = .ok (.getfield 33, 3) := by decide +kernel
theorem d_Tree_follow_28 : decode prog_11_method_4_code 28 = .ok (.iload_n 2, 1) := by decide +kernel
theorem d_Tree_follow_29 : decode prog_11_method_4_code 29 = .ok (.bipush 13, 2) := by decide +kernel
theorem d_Tree_follow_31 : decode prog_11_method_4_code 31 = .ok (.imul, 1) := by decide +kernel
theorem d_Tree_follow_32 : decode prog_11_method_4_code 32 = .ok (.iload_n 3, 1) := by decide +kernel
theorem d_Tree_follow_33 : decode prog_11_method_4_code 33 = .ok (.iastore, 1) := by decide +kernel
theorem d_Tree_follow_34 : decode prog_11_method_4_code 34 = .ok (.aload_n 0, 1) := by decide +kernel
theorem d_Tree_follow_35 : decode prog_11_method_4_code 35 = .ok (.getfield 18, 3) := by decide +kernel
theorem d_Tree_follow_38 : decode prog_11_method_4_code 38 = .ok (.iload_n 3, 1) := by decide +kernel
theorem d_Tree_follow_39 : decode prog_11_method_4_code 39 = .ok (.dup2, 1) := by decide +kernel
theorem d_Tree_follow_40 : decode prog_11_method_4_code 40 = .ok (.iaload, 1) := by decide +kernel
theorem d_Tree_follow_41 : decode prog_11_method_4_code 41 = .ok (.iconst 1, 1) := by decide +kernel
theorem d_Tree_follow_42 : decode prog_11_method_4_code 42 = .ok (.iadd, 1) := by decide +kernel
theorem d_Tree_follow_43 : decode prog_11_method_4_code 43 = .ok (.iastore, 1) := by decide +kernel
theorem d_Tree_follow_44 : decode prog_11_method_4_code 44 = .ok (.iconst 0, 1) := by decide +kernel
theorem d_Tree_follow_45 : decode prog_11_method_4_code 45 = .ok (.istore 5, 2) := by decide +kernel
theorem d_Tree_follow_47 : decode prog_11_method_4_code 47 = .ok (.iload 5, 2) := by decide +kernel
theorem d_Tree_follow_49 : decode prog_11_method_4_code 49 = .ok (.iload 4, 2) := by decide +kernel
theorem d_Tree_follow_51 : decode prog_11_method_4_code 51 = .ok (.if_icmp .ge 90, 3) := by decide +kernel
theorem d_Tree_follow_54 : decode prog_11_method_4_code 54 = .ok (.aload_n 0, 1) := by decide +kernel
theorem d_Tree_follow_55 : decode prog_11_method_4_code 55 = .ok (.iload_n 3, 1) := by decide +kernel
theorem d_Tree_follow_56 : decode prog_11_method_4_code 56 = .ok (.aload_n 1, 1) := by decide +kernel
theorem d_Tree_follow_57 : decode prog_11_method_4_code 57 = .ok (.iload_n 2, 1) := by decide +kernel
theorem d_Tree_follow_58 : decode prog_11_method_4_code 58 = .ok (.iload 5, 2) := by decide +kernel
theorem d_Tree_follow_60 : decode prog_11_method_4_code 60 = .ok (.invokevirtual 63, 3) := by decide +kernel
theorem d_Tree_follow_63 : decode prog_11_method_4_code 63 = .ok (.invokevirtual 66, 3) := by decide +kernel
theorem d_Tree_follow_66 : decode prog_11_method_4_code 66 = .ok (.istore_n 3, 1) := by decide +kernel
theorem d_Tree_follow_67 : decode prog_11_method_4_code 67 = .ok (.aload_n 0, 1) := by decide +kernel
theorem d_Tree_follow_68 : decode prog_11_method_4_code 68 = .ok (.getfield 33, 3) := by decide +kernel
theorem d_Tree_follow_71 : decode prog_11_method_4_code 71 = .ok (.iload_n 2, 1) := by decide +kernel
theorem d_Tree_follow_72 : decode prog_11_method_4_code 72 = .ok (.bipush 13, 2) := by decide +kernel
theorem d_Tree_follow_74 : decode prog_11_method_4_code 74 = .ok (.imul, 1) := by decide +kernel
theorem d_Tree_follow_75 : decode prog_11_method_4_code 75 = .ok (.iload 5, 2) := by decide +kernel
theorem d_Tree_follow_77 : decode prog_11_method_4_code 77 = .ok (.iadd, 1) := by decide +kernel
theorem d_Tree_follow_78 : decode prog_11_method_4_code 78 = .ok (.iconst 1, 1) := by decide +kernel
theorem d_Tree_follow_79 : decode prog_11_method_4_code 79 = .ok (.iadd, 1) := by decide +kernel
theorem d_Tree_follow_80 : decode prog_11_method_4_code 80 = .ok (.iload_n 3, 1) := by decide +kernel
theorem d_Tree_follow_81 : decode prog_11_method_4_code 81 = .ok (.iastore, 1) := by decide +kernel
theorem d_Tree_follow_82 : decode prog_11_method_4_code 82 = .ok (.aload_n 0, 1) := by decide +kernel
theorem d_Tree_follow_83 : decode prog_11_method_4_code 83 = .ok (.getfield 18, 3) := by decide +kernel
theorem d_Tree_follow_86 : decode prog_11_method_4_code 86 = .ok (.iload_n 3, 1) := by decide +kernel
theorem d_Tree_follow_87 : decode prog_11_method_4_code 87 = .ok (.dup2, 1) := by decide +kernel
theorem d_Tree_follow_88 : decode prog_11_method_4_code 88 = .ok (.iaload, 1) := by decide +kernel
theorem d_Tree_follow_89 : decode prog_11_method_4_code 89 = .ok (.iconst 1, 1) := by decide +kernel
theorem d_Tree_follow_90 : decode prog_11_method_4_code 90 = .ok (.iadd, 1) := by decide +kernel
theorem d_Tree_follow_91 : decode prog_11_method_4_code 91 = .ok (.iastore, 1) := by decide +kernel
theorem d_Tree_follow_92 : decode prog_11_method_4_code 92 = .ok (.aload_n 1, 1) := by decide +kernel
theorem d_Tree_follow_93 : decode prog_11_method_4_code 93 = .ok (.iload_n 2, 1) := by decide +kernel
theorem d_Tree_follow_94 : decode prog_11_method_4_code 94 = .ok (.iload 5, 2) := by decide +kernel
theorem d_Tree_follow_96 : decode prog_11_method_4_code 96 = .ok (.invokevirtual 69, 3) := by decide +kernel
theorem d_Tree_follow_99 : decode prog_11_method_4_code 99 = .ok (.istore 6, 2) := by decide +kernel
theorem d_Tree_follow_101 : decode prog_11_method_4_code 101 = .ok (.aload_n 0, 1) := by decide +kernel
theorem d_Tree_follow_102 : decode prog_11_method_4_code 102 = .ok (.getfield 24, 3) := by decide +kernel
theorem d_Tree_follow_105 : decode prog_11_method_4_code 105 = .ok (.iload_n 3, 1) := by decide +kernel
theorem d_Tree_follow_106 : decode prog_11_method_4_code 106 = .ok (.aload_n 0, 1) := by decide +kernel
theorem d_Tree_follow_107 : decode prog_11_method_4_code 107 = .ok (.getfield 24, 3) := by decide +kernel
theorem d_Tree_follow_110 : decode prog_11_method_4_code 110 = .ok (.iload_n 3, 1) := by decide +kernel
theorem d_Tree_follow_111 : decode prog_11_method_4_code 111 = .ok (.iaload, 1) := by decide +kernel
theorem d_Tree_follow_112 : decode prog_11_method_4_code 112 = .ok (.iload 6, 2) := by decide +kernel
theorem d_Tree_follow_114 : decode prog_11_method_4_code 114 = .ok (.invokestatic 72, 3) := by decide +kernel
theorem d_Tree_follow_117 : decode prog_11_method_4_code 117 = .ok (.iastore, 1) := by decide +kernel
theorem d_Tree_follow_118 : decode prog_11_method_4_code 118 = .ok (.aload_n 0, 1) := by decide +kernel
theorem d_Tree_follow_119 : decode prog_11_method_4_code 119 = .ok (.getfield 27, 3) := by decide +kernel
theorem d_Tree_follow_122 : decode prog_11_method_4_code 122 = .ok (.iload_n 3, 1) := by decide +kernel
theorem d_Tree_follow_123 : decode prog_11_method_4_code 123 = .ok (.aload_n 0, 1) := by decide +kernel
theorem d_Tree_follow_124 : decode prog_11_method_4_code 124 = .ok (.getfield 27, 3) := by decide +kernel
theorem d_Tree_follow_127 : decode prog_11_method_4_code 127 = .ok (.iload_n 3, 1) := by decide +kernel
theorem d_Tree_follow_128 : decode prog_11_method_4_code 128 = .ok (.iaload, 1) := by decide +kernel
theorem d_Tree_follow_129 : decode prog_11_method_4_code 129 = .ok (.iload 6, 2) := by decide +kernel
theorem d_Tree_follow_131 : decode prog_11_method_4_code 131 = .ok (.invokestatic 77, 3) := by decide +kernel
theorem d_Tree_follow_134 : decode prog_11_method_4_code 134 = .ok (.iastore, 1) := by decide +kernel
theorem d_Tree_follow_135 : decode prog_11_method_4_code 135 = .ok (.iinc 5 1, 3) := by decide +kernel
theorem d_Tree_follow_138 : decode prog_11_method_4_code 138 = .ok (.goto (-91), 3) := by decide +kernel
theorem d_Tree_follow_141 : decode prog_11_method_4_code 141 = .ok (.aload_n 0, 1) := by decide +kernel
theorem d_Tree_follow_142 : decode prog_11_method_4_code 142 = .ok (.getfield 21, 3) := by decide +kernel
theorem d_Tree_follow_145 : decode prog_11_method_4_code 145 = .ok (.iload_n 3, 1) := by decide +kernel
theorem d_Tree_follow_146 : decode prog_11_method_4_code 146 = .ok (.dup2, 1) := by decide +kernel
theorem d_Tree_follow_147 : decode prog_11_method_4_code 147 = .ok (.iaload, 1) := by decide +kernel
theorem d_Tree_follow_148 : decode prog_11_method_4_code 148 = .ok (.iconst 1, 1) := by decide +kernel
theorem d_Tree_follow_149 : decode prog_11_method_4_code 149 = .ok (.iadd, 1) := by decide +kernel
theorem d_Tree_follow_150 : decode prog_11_method_4_code 150 = .ok (.iastore, 1) := by decide +kernel
theorem d_Tree_follow_151 : decode prog_11_method_4_code 151 = .ok (.return_, 1) := by decide +kernel
abbrev m_s4_Tree_addPrefix : Room := { frames := 0, cells := 0, slots := 0, locals := 0 }
set_option maxHeartbeats 4000000 in
set_option maxRecDepth 100000 in
theorem s4_Tree_addPrefix (l : Launch) (G : zG) (b0 : Nat) (b1 : Int32) (b2 : Int32) (b3 : Int32) (b4 : Nat) (b5 : Nat) (b6 : Nat) (b7 : Nat) (b8 : Nat) (b9 : Nat) (b10 : Nat) (b11 : Nat) (b12 : Nat → Int32) (b13 : Nat → Int32) (b14 : Nat → Int32) (b15 : Nat → Int32) (b16 : Nat → Int32) (b17 : Nat → Int32) (b18 : Nat → Int32) (hb1 : zI b1 0 1) (hb3 : zI b3 0 241) (hb12 : zR1 b12 0 240) (hb13 : zR1 b13 0 9) (hb18 : zR b18 (-1) 240) (hap : b3.toInt = 0) : zM l G y_Tree_addPrefix prog_11_method_6_code 5 (Option.some Jvm.ClassFile.FieldType.int) m_s4_Tree_addPrefix [.ref b0, .int (-1), .int (-1)] [(b0, .inr (3, [.int b1, .int b2, .int b3, .ref b4, .ref b5, .ref b6, .ref b7, .ref b8, .ref b9, .ref b10, .ref b11])), (b4, .inl (G.2 0, 241, .inl b12)), (b5, .inl (G.2 0, 241, .inl b13)), (b6, .inl (G.2 0, 241, .inl b14)), (b7, .inl (G.2 0, 241, .inl b15)), (b8, .inl (G.2 0, 241, .inl b16)), (b9, .inl (G.2 0, 241, .inl b17)), (b10, .inl (G.2 0, 2410, .inl b18))] (fun v w => ∃ (e0 : Nat → Int32), ∃ (e1 : Nat → Int32), ∃ (e2 : Nat → Int32), ∃ (e3 : Nat → Int32), ∃ (e4 : Nat → Int32), ∃ (e5 : Nat → Int32), ∃ (e6 : Nat → Int32), v = some (.int 0) ∧ w = [(b0, .inr (3, [.int b1, .int b2, .int 1, .ref b4, .ref b5, .ref b6, .ref b7, .ref b8, .ref b9, .ref b10, .ref b11])), (b4, .inl (G.2 0, 241, .inl e0)), (b5, .inl (G.2 0, 241, .inl e1)), (b6, .inl (G.2 0, 241, .inl e2)), (b7, .inl (G.2 0, 241, .inl e3)), (b8, .inl (G.2 0, 241, .inl e4)), (b9, .inl (G.2 0, 241, .inl e5)), (b10, .inl (G.2 0, 2410, .inl e6))] ∧ (zR1 e0 0 240) ∧ (zR1 e1 0 9) ∧ (zR e6 (-1) 240)) := by
  refine z_start (by decide +kernel) (Nat.le_of_ble_eq_true rfl) ?_
  intro p e s m below meth c A Z hr hnm hA hP hD hS ls hl
  have Z : zC p s m _ meth c prog_11_method_6_code 5 "TraceMachines$Tree" G := Z
  obtain ⟨hx, hb, hml, hown, hts, hK, hN, hlocks⟩ := id Z
  have hl : lv_has ls 5 [(0, .ref b0), (1, .int (-1)), (2, .int (-1))] := hl
  obtain rfl : b3 = 0 := by rw [fa_eq, li_0]; omega
  refine lv_aload_n hx hb d_Tree_addPrefix_0 rfl (lv_at hl 0 rfl) ?_
  refine va_get (D := G.1) (ci := 3) (v := .int 0) (C := R_Tree) (T := F_Tree) (N := 11) hx hb hts i_Tree hown hK hP 0 rfl rfl 2 (by decide) (hts _ q100) (fun _ h9 => h9) rfl d_Tree_addPrefix_1 ?_
  refine lv_istore_n (lv' := [(3, .int 0), (0, .ref b0), (1, .int (-1)), (2, .int (-1))]) hx hb d_Tree_addPrefix_4 rfl hl (by decide) rfl (fun ls hl => ?_)
  refine lv_aload_n hx hb d_Tree_addPrefix_5 rfl (lv_at hl 1 rfl) ?_
  refine lv_dup hx hb d_Tree_addPrefix_6 rfl ?_
  refine va_get (D := G.1) (ci := 3) (v := .int 0) (C := R_Tree) (T := F_Tree) (N := 11) hx hb hts i_Tree hown hK hP 0 rfl rfl 2 (by decide) (hts _ q100) (fun _ h9 => h9) rfl d_Tree_addPrefix_7 ?_
  refine lv_iconst (v := 1) hx hb d_Tree_addPrefix_10 (by decide) ?_
  refine lv_iadd hx hb d_Tree_addPrefix_11 ?_
  refine z_topi (y := 1) (by decide +kernel) ?_
  refine va_put (D := G.1) (ci := 3) (v := .int 1) (ty := .int) (C := R_Tree) (T := F_Tree) (N := 11) hx hb hts i_Tree t_Tree t_Tree_ok n_Tree hown hK hP hD hS 0 rfl rfl 2 (by decide) (hts _ q100) (fun _ h9 => h9) rfl (by decide +kernel) rfl rfl (Nat.le_of_ble_eq_true rfl) d_Tree_addPrefix_12 (fun H locs hP hD hS => ?_)
  have hP : va_P G.1 classes [(b0, .inr (3, [.int b1, .int b2, .int 1, .ref b4, .ref b5, .ref b6, .ref b7, .ref b8, .ref b9, .ref b10, .ref b11])), (b4, .inl (G.2 0, 241, .inl b12)), (b5, .inl (G.2 0, 241, .inl b13)), (b6, .inl (G.2 0, 241, .inl b14)), (b7, .inl (G.2 0, 241, .inl b15)), (b8, .inl (G.2 0, 241, .inl b16)), (b9, .inl (G.2 0, 241, .inl b17)), (b10, .inl (G.2 0, 2410, .inl b18))] H := hP
  have hD := z_tie hP hD rfl
  refine lv_aload_n hx hb d_Tree_addPrefix_15 rfl (lv_at hl 1 rfl) ?_
  refine va_get (D := G.1) (ci := 3) (v := .ref b4) (C := R_Tree) (T := F_Tree) (N := 11) hx hb hts i_Tree hown hK hP 0 rfl rfl 3 (by decide) (hts _ q103) (fun _ h9 => h9) rfl d_Tree_addPrefix_16 ?_
  refine lv_iload_n hx hb d_Tree_addPrefix_19 rfl (lv_at hl 0 rfl) ?_
  refine lv_iload_n hx hb d_Tree_addPrefix_20 rfl (lv_at hl 2 rfl) ?_
  refine va_iast hx hb hK hP hD hS 1 0 rfl rfl (i := 0) (z_in rfl) d_Tree_addPrefix_21 (fun H locs hP hD hS => ?_)
  obtain ⟨f_1, hf_1, gf_1, hP, hD⟩ := z_newfo 1 hP hD rfl hb12 (Or.inl (by decide))
  have hP : va_P G.1 classes [(b0, .inr (3, [.int b1, .int b2, .int 1, .ref b4, .ref b5, .ref b6, .ref b7, .ref b8, .ref b9, .ref b10, .ref b11])), (b4, .inl (G.2 0, 241, .inl f_1)), (b5, .inl (G.2 0, 241, .inl b13)), (b6, .inl (G.2 0, 241, .inl b14)), (b7, .inl (G.2 0, 241, .inl b15)), (b8, .inl (G.2 0, 241, .inl b16)), (b9, .inl (G.2 0, 241, .inl b17)), (b10, .inl (G.2 0, 2410, .inl b18))] H := hP
  have hD := z_tie hP hD rfl
  refine lv_aload_n hx hb d_Tree_addPrefix_22 rfl (lv_at hl 1 rfl) ?_
  refine va_get (D := G.1) (ci := 3) (v := .ref b5) (C := R_Tree) (T := F_Tree) (N := 11) hx hb hts i_Tree hown hK hP 0 rfl rfl 4 (by decide) (hts _ q105) (fun _ h9 => h9) rfl d_Tree_addPrefix_23 ?_
  refine lv_iload_n hx hb d_Tree_addPrefix_26 rfl (lv_at hl 0 rfl) ?_
  refine lv_iload_n hx hb d_Tree_addPrefix_27 rfl (lv_at hl 3 rfl) ?_
  refine va_iast hx hb hK hP hD hS 2 0 rfl rfl (i := 0) (z_in rfl) d_Tree_addPrefix_28 (fun H locs hP hD hS => ?_)
  obtain ⟨f_2, hf_2, gf_2, hP, hD⟩ := z_newfo 2 hP hD rfl hb13 (Or.inl (by decide))
  have hP : va_P G.1 classes [(b0, .inr (3, [.int b1, .int b2, .int 1, .ref b4, .ref b5, .ref b6, .ref b7, .ref b8, .ref b9, .ref b10, .ref b11])), (b4, .inl (G.2 0, 241, .inl f_1)), (b5, .inl (G.2 0, 241, .inl f_2)), (b6, .inl (G.2 0, 241, .inl b14)), (b7, .inl (G.2 0, 241, .inl b15)), (b8, .inl (G.2 0, 241, .inl b16)), (b9, .inl (G.2 0, 241, .inl b17)), (b10, .inl (G.2 0, 2410, .inl b18))] H := hP
  have hD := z_tie hP hD rfl
  refine lv_aload_n hx hb d_Tree_addPrefix_29 rfl (lv_at hl 1 rfl) ?_
  refine va_get (D := G.1) (ci := 3) (v := .ref b6) (C := R_Tree) (T := F_Tree) (N := 11) hx hb hts i_Tree hown hK hP 0 rfl rfl 5 (by decide) (hts _ q107) (fun _ h9 => h9) rfl d_Tree_addPrefix_30 ?_
  refine lv_iload_n hx hb d_Tree_addPrefix_33 rfl (lv_at hl 0 rfl) ?_
  refine lv_iconst (v := 0) hx hb d_Tree_addPrefix_34 (by decide) ?_
  refine va_iast hx hb hK hP hD hS 3 0 rfl rfl (i := 0) (z_in rfl) d_Tree_addPrefix_35 (fun H locs hP hD hS => ?_)
  obtain ⟨f_3, gf_3, hP, hD⟩ := z_newFu 3 hP hD rfl
  have hP : va_P G.1 classes [(b0, .inr (3, [.int b1, .int b2, .int 1, .ref b4, .ref b5, .ref b6, .ref b7, .ref b8, .ref b9, .ref b10, .ref b11])), (b4, .inl (G.2 0, 241, .inl f_1)), (b5, .inl (G.2 0, 241, .inl f_2)), (b6, .inl (G.2 0, 241, .inl f_3)), (b7, .inl (G.2 0, 241, .inl b15)), (b8, .inl (G.2 0, 241, .inl b16)), (b9, .inl (G.2 0, 241, .inl b17)), (b10, .inl (G.2 0, 2410, .inl b18))] H := hP
  have hD := z_tie hP hD rfl
  refine lv_aload_n hx hb d_Tree_addPrefix_36 rfl (lv_at hl 1 rfl) ?_
  refine va_get (D := G.1) (ci := 3) (v := .ref b7) (C := R_Tree) (T := F_Tree) (N := 11) hx hb hts i_Tree hown hK hP 0 rfl rfl 6 (by decide) (hts _ q109) (fun _ h9 => h9) rfl d_Tree_addPrefix_37 ?_
  refine lv_iload_n hx hb d_Tree_addPrefix_40 rfl (lv_at hl 0 rfl) ?_
  refine lv_iconst (v := 0) hx hb d_Tree_addPrefix_41 (by decide) ?_
  refine va_iast hx hb hK hP hD hS 4 0 rfl rfl (i := 0) (z_in rfl) d_Tree_addPrefix_42 (fun H locs hP hD hS => ?_)
  obtain ⟨f_4, gf_4, hP, hD⟩ := z_newFu 4 hP hD rfl
  have hP : va_P G.1 classes [(b0, .inr (3, [.int b1, .int b2, .int 1, .ref b4, .ref b5, .ref b6, .ref b7, .ref b8, .ref b9, .ref b10, .ref b11])), (b4, .inl (G.2 0, 241, .inl f_1)), (b5, .inl (G.2 0, 241, .inl f_2)), (b6, .inl (G.2 0, 241, .inl f_3)), (b7, .inl (G.2 0, 241, .inl f_4)), (b8, .inl (G.2 0, 241, .inl b16)), (b9, .inl (G.2 0, 241, .inl b17)), (b10, .inl (G.2 0, 2410, .inl b18))] H := hP
  have hD := z_tie hP hD rfl
  refine lv_aload_n hx hb d_Tree_addPrefix_43 rfl (lv_at hl 1 rfl) ?_
  refine va_get (D := G.1) (ci := 3) (v := .ref b8) (C := R_Tree) (T := F_Tree) (N := 11) hx hb hts i_Tree hown hK hP 0 rfl rfl 7 (by decide) (hts _ q111) (fun _ h9 => h9) rfl d_Tree_addPrefix_44 ?_
  refine lv_iload_n hx hb d_Tree_addPrefix_47 rfl (lv_at hl 0 rfl) ?_
  refine lv_bipush (v := 99) hx hb d_Tree_addPrefix_48 (by decide) ?_
  refine va_iast hx hb hK hP hD hS 5 0 rfl rfl (i := 0) (z_in rfl) d_Tree_addPrefix_50 (fun H locs hP hD hS => ?_)
  obtain ⟨f_5, gf_5, hP, hD⟩ := z_newFu 5 hP hD rfl
  have hP : va_P G.1 classes [(b0, .inr (3, [.int b1, .int b2, .int 1, .ref b4, .ref b5, .ref b6, .ref b7, .ref b8, .ref b9, .ref b10, .ref b11])), (b4, .inl (G.2 0, 241, .inl f_1)), (b5, .inl (G.2 0, 241, .inl f_2)), (b6, .inl (G.2 0, 241, .inl f_3)), (b7, .inl (G.2 0, 241, .inl f_4)), (b8, .inl (G.2 0, 241, .inl f_5)), (b9, .inl (G.2 0, 241, .inl b17)), (b10, .inl (G.2 0, 2410, .inl b18))] H := hP
  have hD := z_tie hP hD rfl
  refine lv_aload_n hx hb d_Tree_addPrefix_51 rfl (lv_at hl 1 rfl) ?_
  refine va_get (D := G.1) (ci := 3) (v := .ref b9) (C := R_Tree) (T := F_Tree) (N := 11) hx hb hts i_Tree hown hK hP 0 rfl rfl 8 (by decide) (hts _ q113) (fun _ h9 => h9) rfl d_Tree_addPrefix_52 ?_
  refine lv_iload_n hx hb d_Tree_addPrefix_55 rfl (lv_at hl 0 rfl) ?_
  refine lv_iconst (v := 0) hx hb d_Tree_addPrefix_56 (by decide) ?_
  refine va_iast hx hb hK hP hD hS 6 0 rfl rfl (i := 0) (z_in rfl) d_Tree_addPrefix_57 (fun H locs hP hD hS => ?_)
  obtain ⟨f_6, gf_6, hP, hD⟩ := z_newFu 6 hP hD rfl
  have hP : va_P G.1 classes [(b0, .inr (3, [.int b1, .int b2, .int 1, .ref b4, .ref b5, .ref b6, .ref b7, .ref b8, .ref b9, .ref b10, .ref b11])), (b4, .inl (G.2 0, 241, .inl f_1)), (b5, .inl (G.2 0, 241, .inl f_2)), (b6, .inl (G.2 0, 241, .inl f_3)), (b7, .inl (G.2 0, 241, .inl f_4)), (b8, .inl (G.2 0, 241, .inl f_5)), (b9, .inl (G.2 0, 241, .inl f_6)), (b10, .inl (G.2 0, 2410, .inl b18))] H := hP
  have hD := z_tie hP hD rfl
  refine lv_iconst (v := 0) hx hb d_Tree_addPrefix_58 (by decide) ?_
  refine lv_istore (lv' := [(4, .int 0), (3, .int 0), (0, .ref b0), (1, .int (-1)), (2, .int (-1))]) hx hb d_Tree_addPrefix_59 hl (by decide) rfl (fun ls hl => ?_)
  suffices key : ∀ (k_43 : Nat) (y_44 : Int32) (y_45 : Nat → Int32) (H : Heap) (locs : List Loc) (ls : Array Slot), (zI y_44 0 10) → (zR y_45 (-1) 240) → (10 : Int) - y_44.toInt < (k_43 : Int) → va_P G.1 classes [(b0, .inr (3, [.int b1, .int b2, .int 1, .ref b4, .ref b5, .ref b6, .ref b7, .ref b8, .ref b9, .ref b10, .ref b11])), (b4, .inl (G.2 0, 241, .inl f_1)), (b5, .inl (G.2 0, 241, .inl f_2)), (b6, .inl (G.2 0, 241, .inl f_3)), (b7, .inl (G.2 0, 241, .inl f_4)), (b8, .inl (G.2 0, 241, .inl f_5)), (b9, .inl (G.2 0, 241, .inl f_6)), (b10, .inl (G.2 0, 2410, .inl y_45))] H → va_D A [(b0, .inr (3, [.int b1, .int b2, .int 1, .ref b4, .ref b5, .ref b6, .ref b7, .ref b8, .ref b9, .ref b10, .ref b11])), (b4, .inl (G.2 0, 241, .inl f_1)), (b5, .inl (G.2 0, 241, .inl f_2)), (b6, .inl (G.2 0, 241, .inl f_3)), (b7, .inl (G.2 0, 241, .inl f_4)), (b8, .inl (G.2 0, 241, .inl f_5)), (b9, .inl (G.2 0, 241, .inl f_6)), (b10, .inl (G.2 0, 2410, .inl y_45))] → va_S A s.heap H locs → lv_has ls 5 [(4, .int y_44), (3, .int 0), (0, .ref b0), (1, .int (-1)), (2, .int (-1))] → W p l e m_s4_Tree_addPrefix s m ([.ref b0, .int (-1), .int (-1)] : List Value).toArray below meth c H locs 0 0 (MQ below (zQ G (fun v w => ∃ (e0 : Nat → Int32), ∃ (e1 : Nat → Int32), ∃ (e2 : Nat → Int32), ∃ (e3 : Nat → Int32), ∃ (e4 : Nat → Int32), ∃ (e5 : Nat → Int32), ∃ (e6 : Nat → Int32), v = some (.int 0) ∧ w = [(b0, .inr (3, [.int b1, .int b2, .int 1, .ref b4, .ref b5, .ref b6, .ref b7, .ref b8, .ref b9, .ref b10, .ref b11])), (b4, .inl (G.2 0, 241, .inl e0)), (b5, .inl (G.2 0, 241, .inl e1)), (b6, .inl (G.2 0, 241, .inl e2)), (b7, .inl (G.2 0, 241, .inl e3)), (b8, .inl (G.2 0, 241, .inl e4)), (b9, .inl (G.2 0, 241, .inl e5)), (b10, .inl (G.2 0, 2410, .inl e6))] ∧ (zR1 e0 0 240) ∧ (zR1 e1 0 9) ∧ (zR e6 (-1) 240)) A) ([.ref b0, .int (-1), .int (-1)] : List Value).toArray s m_s4_Tree_addPrefix.cells m_s4_Tree_addPrefix.slots A) (F0 m 61 ls []) by
    exact key 11 (0) (b18) _ _ _ (zI.wk (l' := 0) (h' := 10) zc_0 (by decide)) hb18 (zm_upi (zI.wk (l' := 0) (h' := 10) zc_0 (by decide)) (by decide)) hP hD hS (lv_sub hl [0, 1, 2, 3, 4] rfl)
  intro k_43
  induction k_43 with
  | zero =>
    intro y_44 y_45 H locs ls hy_44 hy_45 hmk_43 hP hD hS hl
    exact (zm_up0 hy_44 hmk_43).elim
  | succ k_43 ihk_43 =>
    intro y_44 y_45 H locs ls hy_44 hy_45 hmk_43 hP hD hS hl
    refine lv_iload hx hb d_Tree_addPrefix_61 (lv_at hl 0 rfl) ?_
    refine lv_bipush (v := 10) hx hb d_Tree_addPrefix_63 (by decide) ?_
    refine lv_icmp_ge (tgt := 87) hx hb d_Tree_addPrefix_65 (by decide) (fun hc_46 => ?_) (fun hc_46 => ?_)
    · have _nhc_46 := hc_46
      have ni_47 := (fa_le _ _).mp hc_46
      rw [li_10] at ni_47
      have hv_48 : zI y_44 10 10 := zI.le_r zc_10 hy_44 hc_46 (by decide)
      refine lv_iload_n hx hb d_Tree_addPrefix_87 rfl (lv_at hl 1 rfl) ?_
      exact z_iret hx hb hr hlocks hP hD hS (Nat.le_of_ble_eq_true rfl) (Nat.le_of_ble_eq_true rfl) d_Tree_addPrefix_88 ⟨f_1, f_2, f_3, f_4, f_5, f_6, y_45, rfl, rfl, hf_1, hf_2, hy_45⟩
    · have _nhc_46 := hc_46
      have ni_49 := (fa_lt _ _).mp (zi_nle hc_46)
      rw [li_10] at ni_49
      have hv_50 : zI y_44 0 9 := zI.lt_l hy_44 zc_10 (zi_nle hc_46) (by decide)
      refine lv_aload_n hx hb d_Tree_addPrefix_68 rfl (lv_at hl 2 rfl) ?_
      refine va_get (D := G.1) (ci := 3) (v := .ref b10) (C := R_Tree) (T := F_Tree) (N := 11) hx hb hts i_Tree hown hK hP 0 rfl rfl 9 (by decide) (hts _ q115) (fun _ h9 => h9) rfl d_Tree_addPrefix_69 ?_
      refine lv_iload_n hx hb d_Tree_addPrefix_72 rfl (lv_at hl 1 rfl) ?_
      refine lv_bipush (v := 10) hx hb d_Tree_addPrefix_73 (by decide) ?_
      refine lv_imul hx hb d_Tree_addPrefix_75 ?_
      refine z_topi (y := 0) (by decide +kernel) ?_
      refine lv_iload hx hb d_Tree_addPrefix_76 (lv_at hl 0 rfl) ?_
      refine lv_iadd hx hb d_Tree_addPrefix_78 ?_
      refine lv_topi (fun v_51 ev_51 => ?_)
      obtain ⟨qv_51, hv_51⟩ := zI_add (l := 0) (h := 9) zc_0 hv_50 ev_51 (by decide)
      rw [li_0] at qv_51
      refine lv_iconst (v := (-1)) hx hb d_Tree_addPrefix_79 (by decide) ?_
      refine va_iast hx hb hK hP hD hS 7 0 rfl rfl (zI.inn hv_51 (by decide)) d_Tree_addPrefix_80 (fun H locs hP hD hS => ?_)
      obtain ⟨f_52, hf_52, gf_52, hP, hD⟩ := z_newfu 7 hP hD rfl hy_45 (zI.wk (l' := (-1)) (h' := 240) zc_m1 (by decide))
      have hP : va_P G.1 classes [(b0, .inr (3, [.int b1, .int b2, .int 1, .ref b4, .ref b5, .ref b6, .ref b7, .ref b8, .ref b9, .ref b10, .ref b11])), (b4, .inl (G.2 0, 241, .inl f_1)), (b5, .inl (G.2 0, 241, .inl f_2)), (b6, .inl (G.2 0, 241, .inl f_3)), (b7, .inl (G.2 0, 241, .inl f_4)), (b8, .inl (G.2 0, 241, .inl f_5)), (b9, .inl (G.2 0, 241, .inl f_6)), (b10, .inl (G.2 0, 2410, .inl f_52))] H := hP
      have hD := z_tie hP hD rfl
      obtain ⟨v_53, ev_53⟩ : ∃ z : Int32, z = y_44 + 1 := ⟨_, rfl⟩
      obtain ⟨qv_53, hv_53⟩ := zI_add (l := 1) (h := 10) hv_50 zc_1 ev_53 (by decide)
      rw [li_1] at qv_53
      refine lv_iinc (v := v_53) (lv' := [(4, .int v_53), (3, .int 0), (0, .ref b0), (1, .int (-1)), (2, .int (-1))]) hx hb d_Tree_addPrefix_81 hl (k := 0) rfl (by rw [ev_53]; rfl) (by decide) rfl (fun ls hl => ?_)
      refine lv_goto (tgt := 61) hx hb d_Tree_addPrefix_84 (by decide) ?_
      exact ihk_43 (v_53) (f_52) _ _ _ (zI.wk (l' := 0) (h' := 10) hv_53 (by decide)) hf_52 (zm_up qv_53 hmk_43 (by decide)) hP hD hS (lv_sub hl [0, 1, 2, 3, 4] rfl)
abbrev m_s1_Tree_follow : Room := { frames := 2, cells := 0, slots := 0, locals := 47 }
set_option maxHeartbeats 4000000 in
set_option maxRecDepth 100000 in
theorem s1_Tree_follow (l : Launch) (G : zG) (b0 : Nat) (b1 : Nat) (b2 : Int32) (b3 : Int32) (b4 : Int32) (b5 : Int32) (b6 : Nat) (b7 : Nat) (b8 : Nat) (b9 : Nat) (b10 : Nat) (b11 : Nat) (b12 : Nat) (b13 : Nat) (b14 : Nat → Int32) (b15 : Nat → Int32) (b16 : Nat → Int32) (b17 : Nat → Int32) (b18 : Nat → Int32) (b19 : Nat → Int32) (b20 : Nat → Int32) (b21 : Nat → Int32) (b22 : Int32) (b23 : Int32) (b24 : Int32) (b25 : Nat) (b26 : Nat) (b27 : Nat) (b28 : Nat → Int32) (b29 : Nat → Int32) (b30 : Nat → Int32) (hb2 : zI b2 0 19) (hb3 : zI b3 0 1) (hb5 : zI b5 0 241) (hb22 : zI b22 0 20) (hb23 : zI b23 0 3) (hb24 : zI b24 0 20) (hb14 : zR1 b14 0 240) (hb15 : zR1 b15 0 9) (hb20 : zR b20 (-1) 240) (hb21 : zR b21 0 240) (hb28 : zR b28 0 12) (hb29 : zR b29 0 9) (hfo : b5.toInt ≤ 12 * b2.toInt + 1) : zM l G y_Tree_follow prog_11_method_4_code 7 (Option.none : Option Jvm.ClassFile.FieldType) m_s1_Tree_follow [.ref b0, .ref b1, .int b2] [(b0, .inr (3, [.int b3, .int b4, .int b5, .ref b6, .ref b7, .ref b8, .ref b9, .ref b10, .ref b11, .ref b12, .ref b13])), (b6, .inl (G.2 0, 241, .inl b14)), (b7, .inl (G.2 0, 241, .inl b15)), (b8, .inl (G.2 0, 241, .inl b16)), (b9, .inl (G.2 0, 241, .inl b17)), (b10, .inl (G.2 0, 241, .inl b18)), (b11, .inl (G.2 0, 241, .inl b19)), (b12, .inl (G.2 0, 2410, .inl b20)), (b13, .inl (G.2 0, 260, .inl b21)), (b1, .inr (2, [.int b22, .int b23, .int b24, .ref b25, .ref b26, .ref b27])), (b25, .inl (G.2 0, 20, .inl b28)), (b26, .inl (G.2 0, 240, .inl b29)), (b27, .inl (G.2 0, 240, .inl b30))] (fun v w => ∃ (e0 : Int32), ∃ (e1 : Nat → Int32), ∃ (e2 : Nat → Int32), ∃ (e3 : Nat → Int32), ∃ (e4 : Nat → Int32), ∃ (e5 : Nat → Int32), ∃ (e6 : Nat → Int32), ∃ (e7 : Nat → Int32), ∃ (e8 : Nat → Int32), v = none ∧ w = [(b0, .inr (3, [.int b3, .int b4, .int e0, .ref b6, .ref b7, .ref b8, .ref b9, .ref b10, .ref b11, .ref b12, .ref b13])), (b6, .inl (G.2 0, 241, .inl e1)), (b7, .inl (G.2 0, 241, .inl e2)), (b8, .inl (G.2 0, 241, .inl e3)), (b9, .inl (G.2 0, 241, .inl e4)), (b10, .inl (G.2 0, 241, .inl e5)), (b11, .inl (G.2 0, 241, .inl e6)), (b12, .inl (G.2 0, 2410, .inl e7)), (b13, .inl (G.2 0, 260, .inl e8)), (b1, .inr (2, [.int b22, .int b23, .int b24, .ref b25, .ref b26, .ref b27])), (b25, .inl (G.2 0, 20, .inl b28)), (b26, .inl (G.2 0, 240, .inl b29)), (b27, .inl (G.2 0, 240, .inl b30))] ∧ (zI e0 0 241) ∧ (zR1 e1 0 240) ∧ (zR1 e2 0 9) ∧ (zR e7 (-1) 240) ∧ (zR e8 0 240) ∧ (e0.toInt ≤ 12 * b2.toInt + 13)) := by
  refine z_start (by decide +kernel) (Nat.le_of_ble_eq_true rfl) ?_
  intro p e s m below meth c A Z hr hnm hA hP hD hS ls hl
  have Z : zC p s m _ meth c prog_11_method_4_code 7 "TraceMachines$Tree" G := Z
  obtain ⟨hx, hb, hml, hown, hts, hK, hN, hlocks⟩ := id Z
  have hl : lv_has ls 7 [(0, .ref b0), (1, .ref b1), (2, .int b2)] := hl
  refine lv_aload_n hx hb d_Tree_follow_0 rfl (lv_at hl 0 rfl) ?_
  refine va_get (D := G.1) (ci := 3) (v := .int b5) (C := R_Tree) (T := F_Tree) (N := 11) hx hb hts i_Tree hown hK hP 0 rfl rfl 2 (by decide) (hts _ q100) (fun _ h9 => h9) rfl d_Tree_follow_1 ?_
  refine lv_if_ne (tgt := 14) hx hb d_Tree_follow_4 (by decide) (fun hc_1 => ?_) (fun hc_1 => ?_)
  · have _nhc_1 := hc_1
    have ni_2 := fun z => hc_1 ((fa_eq _ _).mpr z)
    simp only [li_0] at ni_2
    have hv_3 : zI b5 1 241 := zI.ne_lo hb5 zc_0 hc_1 (by decide)
    refine lv_iconst (v := 0) hx hb d_Tree_follow_14 (by decide) ?_
    refine lv_istore_n (lv' := [(3, .int 0), (0, .ref b0), (1, .ref b1), (2, .int b2)]) hx hb d_Tree_follow_15 rfl hl (by decide) rfl (fun ls hl => ?_)
    refine lv_aload_n hx hb d_Tree_follow_16 rfl (lv_at hl 2 rfl) ?_
    refine va_get (D := G.1) (ci := 2) (v := .ref b25) (C := R_Traces) (T := F_Traces) (N := 6) hx hb hts i_Traces hown hK hP 9 rfl rfl 3 (by decide) (hts _ q68) (fun _ h9 => h9) rfl d_Tree_follow_17 ?_
    refine lv_iload_n hx hb d_Tree_follow_20 rfl (lv_at hl 3 rfl) ?_
    refine va_iald hx hb hK hP 10 0 rfl rfl (zI.inn hb2 (by decide)) d_Tree_follow_21 ?_
    refine lv_topi (fun v_4 ev_4 => ?_)
    have hv_4 : zI v_4 0 12 := (hb28 _).eq ev_4
    refine lv_istore (lv' := [(4, .int v_4), (3, .int 0), (0, .ref b0), (1, .ref b1), (2, .int b2)]) hx hb d_Tree_follow_22 hl (by decide) rfl (fun ls hl => ?_)
    refine lv_aload_n hx hb d_Tree_follow_24 rfl (lv_at hl 2 rfl) ?_
    refine va_get (D := G.1) (ci := 3) (v := .ref b13) (C := R_Tree) (T := F_Tree) (N := 11) hx hb hts i_Tree hown hK hP 0 rfl rfl 10 (by decide) (hts _ q116) (fun _ h9 => h9) rfl d_Tree_follow_25 ?_
    refine lv_iload_n hx hb d_Tree_follow_28 rfl (lv_at hl 4 rfl) ?_
    refine lv_bipush (v := 13) hx hb d_Tree_follow_29 (by decide) ?_
    refine lv_imul hx hb d_Tree_follow_31 ?_
    refine lv_topi (fun v_5 ev_5 => ?_)
    obtain ⟨qv_5, hv_5⟩ := zI_mul (l := 0) (h := 247) hb2 zc_13 ev_5 (by decide)
    rw [li_13] at qv_5
    refine lv_iload_n hx hb d_Tree_follow_32 rfl (lv_at hl 1 rfl) ?_
    refine va_iast hx hb hK hP hD hS 8 0 rfl rfl (zI.inn hv_5 (by decide)) d_Tree_follow_33 (fun H locs hP hD hS => ?_)
    obtain ⟨f_6, hf_6, gf_6, hP, hD⟩ := z_newfu 8 hP hD rfl hb21 (zI.wk (l' := 0) (h' := 240) zc_0 (by decide))
    have hP : va_P G.1 classes [(b0, .inr (3, [.int b3, .int b4, .int b5, .ref b6, .ref b7, .ref b8, .ref b9, .ref b10, .ref b11, .ref b12, .ref b13])), (b6, .inl (G.2 0, 241, .inl b14)), (b7, .inl (G.2 0, 241, .inl b15)), (b8, .inl (G.2 0, 241, .inl b16)), (b9, .inl (G.2 0, 241, .inl b17)), (b10, .inl (G.2 0, 241, .inl b18)), (b11, .inl (G.2 0, 241, .inl b19)), (b12, .inl (G.2 0, 2410, .inl b20)), (b13, .inl (G.2 0, 260, .inl f_6)), (b1, .inr (2, [.int b22, .int b23, .int b24, .ref b25, .ref b26, .ref b27])), (b25, .inl (G.2 0, 20, .inl b28)), (b26, .inl (G.2 0, 240, .inl b29)), (b27, .inl (G.2 0, 240, .inl b30))] H := hP
    have hD := z_tie hP hD rfl
    refine lv_aload_n hx hb d_Tree_follow_34 rfl (lv_at hl 2 rfl) ?_
    refine va_get (D := G.1) (ci := 3) (v := .ref b8) (C := R_Tree) (T := F_Tree) (N := 11) hx hb hts i_Tree hown hK hP 0 rfl rfl 5 (by decide) (hts _ q107) (fun _ h9 => h9) rfl d_Tree_follow_35 ?_
    refine lv_iload_n hx hb d_Tree_follow_38 rfl (lv_at hl 1 rfl) ?_
    refine lv_dup2_11 hx hb d_Tree_follow_39 rfl rfl ?_
    refine va_iald hx hb hK hP 3 0 rfl rfl (i := 0) (z_in rfl) d_Tree_follow_40 ?_
    refine lv_topi (fun v_7 ev_7 => ?_)
    refine lv_iconst (v := 1) hx hb d_Tree_follow_41 (by decide) ?_
    refine lv_iadd hx hb d_Tree_follow_42 ?_
    refine lv_topi (fun v_8 ev_8 => ?_)
    refine va_iast hx hb hK hP hD hS 3 0 rfl rfl (i := 0) (z_in rfl) d_Tree_follow_43 (fun H locs hP hD hS => ?_)
    obtain ⟨f_9, gf_9, hP, hD⟩ := z_newFu 3 hP hD rfl
    have hP : va_P G.1 classes [(b0, .inr (3, [.int b3, .int b4, .int b5, .ref b6, .ref b7, .ref b8, .ref b9, .ref b10, .ref b11, .ref b12, .ref b13])), (b6, .inl (G.2 0, 241, .inl b14)), (b7, .inl (G.2 0, 241, .inl b15)), (b8, .inl (G.2 0, 241, .inl f_9)), (b9, .inl (G.2 0, 241, .inl b17)), (b10, .inl (G.2 0, 241, .inl b18)), (b11, .inl (G.2 0, 241, .inl b19)), (b12, .inl (G.2 0, 2410, .inl b20)), (b13, .inl (G.2 0, 260, .inl f_6)), (b1, .inr (2, [.int b22, .int b23, .int b24, .ref b25, .ref b26, .ref b27])), (b25, .inl (G.2 0, 20, .inl b28)), (b26, .inl (G.2 0, 240, .inl b29)), (b27, .inl (G.2 0, 240, .inl b30))] H := hP
    have hD := z_tie hP hD rfl
    refine lv_iconst (v := 0) hx hb d_Tree_follow_44 (by decide) ?_
    refine lv_istore (lv' := [(5, .int 0), (4, .int v_4), (3, .int 0), (0, .ref b0), (1, .ref b1), (2, .int b2)]) hx hb d_Tree_follow_45 hl (by decide) rfl (fun ls hl => ?_)
    suffices key : ∀ (k_243 : Nat) (y_244 : Int32) (y_245 : Int32) (y_246 : Int32) (y_247 : Nat → Int32) (y_248 : Nat → Int32) (y_249 : Nat → Int32) (y_250 : Nat → Int32) (y_251 : Nat → Int32) (y_252 : Nat → Int32) (y_253 : Nat → Int32) (y_254 : Nat → Int32) (H : Heap) (locs : List Loc) (ls : Array Slot), (zI y_244 0 12) → (zI y_245 0 240) → (zI y_246 0 241) → (zR y_249 (-1) 240) → (zR y_250 0 240) → (zR1 y_251 0 240) → (zR1 y_252 0 9) → (y_246.toInt ≤ 12 * b2.toInt + 1 + y_244.toInt) → (1 ≤ y_246.toInt) → (12 : Int) - y_244.toInt < (k_243 : Int) → va_P G.1 classes [(b0, .inr (3, [.int b3, .int b4, .int y_246, .ref b6, .ref b7, .ref b8, .ref b9, .ref b10, .ref b11, .ref b12, .ref b13])), (b6, .inl (G.2 0, 241, .inl y_251)), (b7, .inl (G.2 0, 241, .inl y_252)), (b8, .inl (G.2 0, 241, .inl y_253)), (b9, .inl (G.2 0, 241, .inl y_254)), (b10, .inl (G.2 0, 241, .inl y_247)), (b11, .inl (G.2 0, 241, .inl y_248)), (b12, .inl (G.2 0, 2410, .inl y_249)), (b13, .inl (G.2 0, 260, .inl y_250)), (b1, .inr (2, [.int b22, .int b23, .int b24, .ref b25, .ref b26, .ref b27])), (b25, .inl (G.2 0, 20, .inl b28)), (b26, .inl (G.2 0, 240, .inl b29)), (b27, .inl (G.2 0, 240, .inl b30))] H → va_D A [(b0, .inr (3, [.int b3, .int b4, .int y_246, .ref b6, .ref b7, .ref b8, .ref b9, .ref b10, .ref b11, .ref b12, .ref b13])), (b6, .inl (G.2 0, 241, .inl y_251)), (b7, .inl (G.2 0, 241, .inl y_252)), (b8, .inl (G.2 0, 241, .inl y_253)), (b9, .inl (G.2 0, 241, .inl y_254)), (b10, .inl (G.2 0, 241, .inl y_247)), (b11, .inl (G.2 0, 241, .inl y_248)), (b12, .inl (G.2 0, 2410, .inl y_249)), (b13, .inl (G.2 0, 260, .inl y_250)), (b1, .inr (2, [.int b22, .int b23, .int b24, .ref b25, .ref b26, .ref b27])), (b25, .inl (G.2 0, 20, .inl b28)), (b26, .inl (G.2 0, 240, .inl b29)), (b27, .inl (G.2 0, 240, .inl b30))] → va_S A s.heap H locs → lv_has ls 7 [(5, .int y_244), (4, .int v_4), (3, .int y_245), (0, .ref b0), (1, .ref b1), (2, .int b2)] → W p l e m_s1_Tree_follow s m ([.ref b0, .ref b1, .int b2] : List Value).toArray below meth c H locs 0 0 (MQ below (zQ G (fun v w => ∃ (e0 : Int32), ∃ (e1 : Nat → Int32), ∃ (e2 : Nat → Int32), ∃ (e3 : Nat → Int32), ∃ (e4 : Nat → Int32), ∃ (e5 : Nat → Int32), ∃ (e6 : Nat → Int32), ∃ (e7 : Nat → Int32), ∃ (e8 : Nat → Int32), v = none ∧ w = [(b0, .inr (3, [.int b3, .int b4, .int e0, .ref b6, .ref b7, .ref b8, .ref b9, .ref b10, .ref b11, .ref b12, .ref b13])), (b6, .inl (G.2 0, 241, .inl e1)), (b7, .inl (G.2 0, 241, .inl e2)), (b8, .inl (G.2 0, 241, .inl e3)), (b9, .inl (G.2 0, 241, .inl e4)), (b10, .inl (G.2 0, 241, .inl e5)), (b11, .inl (G.2 0, 241, .inl e6)), (b12, .inl (G.2 0, 2410, .inl e7)), (b13, .inl (G.2 0, 260, .inl e8)), (b1, .inr (2, [.int b22, .int b23, .int b24, .ref b25, .ref b26, .ref b27])), (b25, .inl (G.2 0, 20, .inl b28)), (b26, .inl (G.2 0, 240, .inl b29)), (b27, .inl (G.2 0, 240, .inl b30))] ∧ (zI e0 0 241) ∧ (zR1 e1 0 240) ∧ (zR1 e2 0 9) ∧ (zR e7 (-1) 240) ∧ (zR e8 0 240) ∧ (e0.toInt ≤ 12 * b2.toInt + 13)) A) ([.ref b0, .ref b1, .int b2] : List Value).toArray s m_s1_Tree_follow.cells m_s1_Tree_follow.slots A) (F0 m 47 ls []) by
      exact key 13 (0) (0) (b5) (b18) (b19) (b20) (f_6) (b14) (b15) (f_9) (b17) _ _ _ (zI.wk (l' := 0) (h' := 12) zc_0 (by decide)) (zI.wk (l' := 0) (h' := 240) zc_0 (by decide)) (zI.wk (l' := 0) (h' := 241) hv_3 (by decide)) hb20 hf_6 hb14 hb15 (by have _l2 := li_0; omega) (by omega) (zm_upi (zI.wk (l' := 0) (h' := 12) zc_0 (by decide)) (by decide)) hP hD hS (lv_sub hl [0, 1, 2, 3, 4, 5] rfl)
    intro k_243
    induction k_243 with
    | zero =>
      intro y_244 y_245 y_246 y_247 y_248 y_249 y_250 y_251 y_252 y_253 y_254 H locs ls hy_244 hy_245 hy_246 hy_249 hy_250 hy_251 hy_252 hli_255 hli_256 hmk_243 hP hD hS hl
      exact (zm_up0 hy_244 hmk_243).elim
    | succ k_243 ihk_243 =>
      intro y_244 y_245 y_246 y_247 y_248 y_249 y_250 y_251 y_252 y_253 y_254 H locs ls hy_244 hy_245 hy_246 hy_249 hy_250 hy_251 hy_252 hli_255 hli_256 hmk_243 hP hD hS hl
      refine lv_iload hx hb d_Tree_follow_47 (lv_at hl 0 rfl) ?_
      refine lv_iload hx hb d_Tree_follow_49 (lv_at hl 1 rfl) ?_
      refine lv_icmp_ge (tgt := 141) hx hb d_Tree_follow_51 (by decide) (fun hc_257 => ?_) (fun hc_257 => ?_)
      · have _nhc_257 := hc_257
        have ni_258 := (fa_le _ _).mp hc_257
        refine lv_aload_n hx hb d_Tree_follow_141 rfl (lv_at hl 3 rfl) ?_
        refine va_get (D := G.1) (ci := 3) (v := .ref b9) (C := R_Tree) (T := F_Tree) (N := 11) hx hb hts i_Tree hown hK hP 0 rfl rfl 6 (by decide) (hts _ q109) (fun _ h9 => h9) rfl d_Tree_follow_142 ?_
        refine lv_iload_n hx hb d_Tree_follow_145 rfl (lv_at hl 2 rfl) ?_
        refine lv_dup2_11 hx hb d_Tree_follow_146 rfl rfl ?_
        refine va_iald hx hb hK hP 4 0 rfl rfl (zI.inn hy_245 (by decide)) d_Tree_follow_147 ?_
        refine lv_topi (fun v_259 ev_259 => ?_)
        refine lv_iconst (v := 1) hx hb d_Tree_follow_148 (by decide) ?_
        refine lv_iadd hx hb d_Tree_follow_149 ?_
        refine lv_topi (fun v_260 ev_260 => ?_)
        refine va_iast hx hb hK hP hD hS 4 0 rfl rfl (zI.inn hy_245 (by decide)) d_Tree_follow_150 (fun H locs hP hD hS => ?_)
        obtain ⟨f_261, gf_261, hP, hD⟩ := z_newFu 4 hP hD rfl
        have hP : va_P G.1 classes [(b0, .inr (3, [.int b3, .int b4, .int y_246, .ref b6, .ref b7, .ref b8, .ref b9, .ref b10, .ref b11, .ref b12, .ref b13])), (b6, .inl (G.2 0, 241, .inl y_251)), (b7, .inl (G.2 0, 241, .inl y_252)), (b8, .inl (G.2 0, 241, .inl y_253)), (b9, .inl (G.2 0, 241, .inl f_261)), (b10, .inl (G.2 0, 241, .inl y_247)), (b11, .inl (G.2 0, 241, .inl y_248)), (b12, .inl (G.2 0, 2410, .inl y_249)), (b13, .inl (G.2 0, 260, .inl y_250)), (b1, .inr (2, [.int b22, .int b23, .int b24, .ref b25, .ref b26, .ref b27])), (b25, .inl (G.2 0, 20, .inl b28)), (b26, .inl (G.2 0, 240, .inl b29)), (b27, .inl (G.2 0, 240, .inl b30))] H := hP
        have hD := z_tie hP hD rfl
        exact z_vret hx hb hr hlocks hP hD hS (Nat.le_of_ble_eq_true rfl) (Nat.le_of_ble_eq_true rfl) d_Tree_follow_151 ⟨y_246, y_251, y_252, y_253, f_261, y_247, y_248, y_249, y_250, rfl, rfl, hy_246, hy_251, hy_252, hy_249, hy_250, (by omega)⟩
      · have _nhc_257 := hc_257
        have ni_262 := (fa_lt _ _).mp (zi_nle hc_257)
        have hv_263 : zI y_244 0 11 := zI.lt_l hy_244 hv_4 (zi_nle hc_257) (by decide)
        have hv_264 : zI v_4 1 12 := zI.lt_r hy_244 hv_4 (zi_nle hc_257) (by decide)
        refine lv_aload_n hx hb d_Tree_follow_54 rfl (lv_at hl 3 rfl) ?_
        refine lv_iload_n hx hb d_Tree_follow_55 rfl (lv_at hl 2 rfl) ?_
        refine lv_aload_n hx hb d_Tree_follow_56 rfl (lv_at hl 4 rfl) ?_
        refine lv_iload_n hx hb d_Tree_follow_57 rfl (lv_at hl 5 rfl) ?_
        refine lv_iload hx hb d_Tree_follow_58 (lv_at hl 0 rfl) ?_
        refine z_callV (index := 63) (As := [.int b2, .int y_244]) (rest := [.int y_245, .ref b0]) (wr := [(b0, .inr (3, [.int b3, .int b4, .int y_246, .ref b6, .ref b7, .ref b8, .ref b9, .ref b10, .ref b11, .ref b12, .ref b13])), (b6, .inl (G.2 0, 241, .inl y_251)), (b7, .inl (G.2 0, 241, .inl y_252)), (b8, .inl (G.2 0, 241, .inl y_253)), (b9, .inl (G.2 0, 241, .inl y_254)), (b10, .inl (G.2 0, 241, .inl y_247)), (b11, .inl (G.2 0, 241, .inl y_248)), (b12, .inl (G.2 0, 2410, .inl y_249)), (b13, .inl (G.2 0, 260, .inl y_250)), (b25, .inl (G.2 0, 20, .inl b28)), (b27, .inl (G.2 0, 240, .inl b30))]) Z (s1_Traces_letterAt l G (b1) (b2) (y_244) (b22) (b23) (b24) (b25) (b26) (b27) (b29) hb2 hv_263 hb22 hb23 hb24 hb29) hl.1 q579 q580 q581 q3 q582 ⟨by decide, by decide, by show _ = some 2; decide +kernel⟩ ⟨Nat.le_of_ble_eq_true rfl, Nat.le_of_ble_eq_true rfl⟩ ⟨Nat.le_of_ble_eq_true rfl, Nat.le_of_ble_eq_true rfl⟩ rfl (Nat.le_of_ble_eq_true rfl) d_Tree_follow_60 hP hD hS hA 9 2 rfl rfl rfl [9, 11] [0, 1, 2, 3, 4, 5, 6, 7, 8, 10, 12] rfl rfl rfl rfl (by decide) (fun v w1 H locs hw_265 hP hD hS => ?_)
        obtain ⟨x_266, rfl, rfl, hx_266⟩ := hw_265
        have hP : va_P G.1 classes [(b0, .inr (3, [.int b3, .int b4, .int y_246, .ref b6, .ref b7, .ref b8, .ref b9, .ref b10, .ref b11, .ref b12, .ref b13])), (b6, .inl (G.2 0, 241, .inl y_251)), (b7, .inl (G.2 0, 241, .inl y_252)), (b8, .inl (G.2 0, 241, .inl y_253)), (b9, .inl (G.2 0, 241, .inl y_254)), (b10, .inl (G.2 0, 241, .inl y_247)), (b11, .inl (G.2 0, 241, .inl y_248)), (b12, .inl (G.2 0, 2410, .inl y_249)), (b13, .inl (G.2 0, 260, .inl y_250)), (b25, .inl (G.2 0, 20, .inl b28)), (b27, .inl (G.2 0, 240, .inl b30)), (b1, .inr (2, [.int b22, .int b23, .int b24, .ref b25, .ref b26, .ref b27])), (b26, .inl (G.2 0, 240, .inl b29))] H := hP
        have hD := z_tie hP hD rfl
        refine W.widen (k := 0) (n := 0) (Nat.le_of_ble_eq_true rfl) (Nat.le_of_ble_eq_true rfl) ?_
        refine z_callV (index := 66) (As := [.int y_245, .int x_266]) (rest := []) (wr := [(b13, .inl (G.2 0, 260, .inl y_250)), (b25, .inl (G.2 0, 20, .inl b28)), (b27, .inl (G.2 0, 240, .inl b30)), (b1, .inr (2, [.int b22, .int b23, .int b24, .ref b25, .ref b26, .ref b27])), (b26, .inl (G.2 0, 240, .inl b29))]) Z (s1_Tree_stepFrom l G (b0) (y_245) (x_266) (b3) (b4) (y_246) (b6) (b7) (b8) (b9) (b10) (b11) (b12) (b13) (y_251) (y_252) (y_253) (y_254) (y_247) (y_248) (y_249) hy_245 hx_266 hb3 hy_246 hy_251 hy_252 hy_249 (by omega)) hl.1 q583 q585 qs5 q4 q586 ⟨by decide, by decide, by show _ = some 2; decide +kernel⟩ ⟨Nat.le_of_ble_eq_true rfl, Nat.le_of_ble_eq_true rfl⟩ ⟨Nat.le_of_ble_eq_true rfl, Nat.le_of_ble_eq_true rfl⟩ rfl (Nat.le_of_ble_eq_true rfl) d_Tree_follow_63 hP hD hS hA 0 3 rfl rfl rfl [0, 1, 2, 3, 4, 5, 6, 7] [8, 9, 10, 11, 12] rfl rfl rfl rfl (by decide) (fun v w1 H locs hw_267 hP hD hS => ?_)
        obtain ⟨x_268, x_269, f_270, f_271, f_272, f_273, f_274, f_275, f_276, rfl, rfl, hx_268, hx_269, hf_270, hf_271, hf_276, hfx_277, hfx_278⟩ := hw_267
        have hP : va_P G.1 classes [(b13, .inl (G.2 0, 260, .inl y_250)), (b25, .inl (G.2 0, 20, .inl b28)), (b27, .inl (G.2 0, 240, .inl b30)), (b1, .inr (2, [.int b22, .int b23, .int b24, .ref b25, .ref b26, .ref b27])), (b26, .inl (G.2 0, 240, .inl b29)), (b0, .inr (3, [.int b3, .int b4, .int x_269, .ref b6, .ref b7, .ref b8, .ref b9, .ref b10, .ref b11, .ref b12, .ref b13])), (b6, .inl (G.2 0, 241, .inl f_270)), (b7, .inl (G.2 0, 241, .inl f_271)), (b8, .inl (G.2 0, 241, .inl f_272)), (b9, .inl (G.2 0, 241, .inl f_273)), (b10, .inl (G.2 0, 241, .inl f_274)), (b11, .inl (G.2 0, 241, .inl f_275)), (b12, .inl (G.2 0, 2410, .inl f_276))] H := hP
        have hD := z_tie hP hD rfl
        refine W.widen (k := 0) (n := 0) (Nat.le_of_ble_eq_true rfl) (Nat.le_of_ble_eq_true rfl) ?_
        refine lv_istore_n (lv' := [(3, .int x_268), (5, .int y_244), (4, .int v_4), (0, .ref b0), (1, .ref b1), (2, .int b2)]) hx hb d_Tree_follow_66 rfl hl (by decide) rfl (fun ls hl => ?_)
        refine lv_aload_n hx hb d_Tree_follow_67 rfl (lv_at hl 3 rfl) ?_
        refine va_get (D := G.1) (ci := 3) (v := .ref b13) (C := R_Tree) (T := F_Tree) (N := 11) hx hb hts i_Tree hown hK hP 5 rfl rfl 10 (by decide) (hts _ q116) (fun _ h9 => h9) rfl d_Tree_follow_68 ?_
        refine lv_iload_n hx hb d_Tree_follow_71 rfl (lv_at hl 5 rfl) ?_
        refine lv_bipush (v := 13) hx hb d_Tree_follow_72 (by decide) ?_
        refine lv_imul hx hb d_Tree_follow_74 ?_
        refine lv_topi (fun v_279 ev_279 => ?_)
        obtain ⟨qv_279, hv_279⟩ := zI_mul (l := 0) (h := 247) hb2 zc_13 ev_279 (by decide)
        rw [li_13] at qv_279
        refine lv_iload hx hb d_Tree_follow_75 (lv_at hl 1 rfl) ?_
        refine lv_iadd hx hb d_Tree_follow_77 ?_
        refine lv_topi (fun v_280 ev_280 => ?_)
        obtain ⟨qv_280, hv_280⟩ := zI_add (l := 0) (h := 258) hv_279 hv_263 ev_280 (by decide)
        refine lv_iconst (v := 1) hx hb d_Tree_follow_78 (by decide) ?_
        refine lv_iadd hx hb d_Tree_follow_79 ?_
        refine lv_topi (fun v_281 ev_281 => ?_)
        obtain ⟨qv_281, hv_281⟩ := zI_add (l := 1) (h := 259) hv_280 zc_1 ev_281 (by decide)
        rw [li_1] at qv_281
        refine lv_iload_n hx hb d_Tree_follow_80 rfl (lv_at hl 0 rfl) ?_
        refine va_iast hx hb hK hP hD hS 0 0 rfl rfl (zI.inn hv_281 (by decide)) d_Tree_follow_81 (fun H locs hP hD hS => ?_)
        obtain ⟨f_282, hf_282, gf_282, hP, hD⟩ := z_newfu 0 hP hD rfl hy_250 hx_268
        have hP : va_P G.1 classes [(b13, .inl (G.2 0, 260, .inl f_282)), (b25, .inl (G.2 0, 20, .inl b28)), (b27, .inl (G.2 0, 240, .inl b30)), (b1, .inr (2, [.int b22, .int b23, .int b24, .ref b25, .ref b26, .ref b27])), (b26, .inl (G.2 0, 240, .inl b29)), (b0, .inr (3, [.int b3, .int b4, .int x_269, .ref b6, .ref b7, .ref b8, .ref b9, .ref b10, .ref b11, .ref b12, .ref b13])), (b6, .inl (G.2 0, 241, .inl f_270)), (b7, .inl (G.2 0, 241, .inl f_271)), (b8, .inl (G.2 0, 241, .inl f_272)), (b9, .inl (G.2 0, 241, .inl f_273)), (b10, .inl (G.2 0, 241, .inl f_274)), (b11, .inl (G.2 0, 241, .inl f_275)), (b12, .inl (G.2 0, 2410, .inl f_276))] H := hP
        have hD := z_tie hP hD rfl
        refine lv_aload_n hx hb d_Tree_follow_82 rfl (lv_at hl 3 rfl) ?_
        refine va_get (D := G.1) (ci := 3) (v := .ref b8) (C := R_Tree) (T := F_Tree) (N := 11) hx hb hts i_Tree hown hK hP 5 rfl rfl 5 (by decide) (hts _ q107) (fun _ h9 => h9) rfl d_Tree_follow_83 ?_
        refine lv_iload_n hx hb d_Tree_follow_86 rfl (lv_at hl 0 rfl) ?_
        refine lv_dup2_11 hx hb d_Tree_follow_87 rfl rfl ?_
        refine va_iald hx hb hK hP 8 0 rfl rfl (zI.inn hx_268 (by decide)) d_Tree_follow_88 ?_
        refine lv_topi (fun v_283 ev_283 => ?_)
        refine lv_iconst (v := 1) hx hb d_Tree_follow_89 (by decide) ?_
        refine lv_iadd hx hb d_Tree_follow_90 ?_
        refine lv_topi (fun v_284 ev_284 => ?_)
        refine va_iast hx hb hK hP hD hS 8 0 rfl rfl (zI.inn hx_268 (by decide)) d_Tree_follow_91 (fun H locs hP hD hS => ?_)
        obtain ⟨f_285, gf_285, hP, hD⟩ := z_newFu 8 hP hD rfl
        have hP : va_P G.1 classes [(b13, .inl (G.2 0, 260, .inl f_282)), (b25, .inl (G.2 0, 20, .inl b28)), (b27, .inl (G.2 0, 240, .inl b30)), (b1, .inr (2, [.int b22, .int b23, .int b24, .ref b25, .ref b26, .ref b27])), (b26, .inl (G.2 0, 240, .inl b29)), (b0, .inr (3, [.int b3, .int b4, .int x_269, .ref b6, .ref b7, .ref b8, .ref b9, .ref b10, .ref b11, .ref b12, .ref b13])), (b6, .inl (G.2 0, 241, .inl f_270)), (b7, .inl (G.2 0, 241, .inl f_271)), (b8, .inl (G.2 0, 241, .inl f_285)), (b9, .inl (G.2 0, 241, .inl f_273)), (b10, .inl (G.2 0, 241, .inl f_274)), (b11, .inl (G.2 0, 241, .inl f_275)), (b12, .inl (G.2 0, 2410, .inl f_276))] H := hP
        have hD := z_tie hP hD rfl
        refine lv_aload_n hx hb d_Tree_follow_92 rfl (lv_at hl 4 rfl) ?_
        refine lv_iload_n hx hb d_Tree_follow_93 rfl (lv_at hl 5 rfl) ?_
        refine lv_iload hx hb d_Tree_follow_94 (lv_at hl 1 rfl) ?_
        refine z_callV (index := 69) (As := [.int b2, .int y_244]) (rest := []) (wr := [(b13, .inl (G.2 0, 260, .inl f_282)), (b25, .inl (G.2 0, 20, .inl b28)), (b26, .inl (G.2 0, 240, .inl b29)), (b0, .inr (3, [.int b3, .int b4, .int x_269, .ref b6, .ref b7, .ref b8, .ref b9, .ref b10, .ref b11, .ref b12, .ref b13])), (b6, .inl (G.2 0, 241, .inl f_270)), (b7, .inl (G.2 0, 241, .inl f_271)), (b8, .inl (G.2 0, 241, .inl f_285)), (b9, .inl (G.2 0, 241, .inl f_273)), (b10, .inl (G.2 0, 241, .inl f_274)), (b11, .inl (G.2 0, 241, .inl f_275)), (b12, .inl (G.2 0, 2410, .inl f_276))]) Z (s1_Traces_valueAt l G (b1) (b2) (y_244) (b22) (b23) (b24) (b25) (b26) (b27) (b30) hb2 hv_263 hb22 hb23 hb24) hl.1 q587 q588 q589 q3 q590 ⟨by decide, by decide, by show _ = some 2; decide +kernel⟩ ⟨Nat.le_of_ble_eq_true rfl, Nat.le_of_ble_eq_true rfl⟩ ⟨Nat.le_of_ble_eq_true rfl, Nat.le_of_ble_eq_true rfl⟩ rfl (Nat.le_of_ble_eq_true rfl) d_Tree_follow_96 hP hD hS hA 3 2 rfl rfl rfl [3, 2] [0, 1, 4, 5, 6, 7, 8, 9, 10, 11, 12] rfl rfl rfl rfl (by decide) (fun v w1 H locs hw_286 hP hD hS => ?_)
        obtain ⟨x_287, rfl, rfl⟩ := hw_286
        have hP : va_P G.1 classes [(b13, .inl (G.2 0, 260, .inl f_282)), (b25, .inl (G.2 0, 20, .inl b28)), (b26, .inl (G.2 0, 240, .inl b29)), (b0, .inr (3, [.int b3, .int b4, .int x_269, .ref b6, .ref b7, .ref b8, .ref b9, .ref b10, .ref b11, .ref b12, .ref b13])), (b6, .inl (G.2 0, 241, .inl f_270)), (b7, .inl (G.2 0, 241, .inl f_271)), (b8, .inl (G.2 0, 241, .inl f_285)), (b9, .inl (G.2 0, 241, .inl f_273)), (b10, .inl (G.2 0, 241, .inl f_274)), (b11, .inl (G.2 0, 241, .inl f_275)), (b12, .inl (G.2 0, 2410, .inl f_276)), (b1, .inr (2, [.int b22, .int b23, .int b24, .ref b25, .ref b26, .ref b27])), (b27, .inl (G.2 0, 240, .inl b30))] H := hP
        have hD := z_tie hP hD rfl
        refine W.widen (k := 0) (n := 0) (Nat.le_of_ble_eq_true rfl) (Nat.le_of_ble_eq_true rfl) ?_
        refine lv_istore (lv' := [(6, .int x_287), (3, .int x_268), (5, .int y_244), (4, .int v_4), (0, .ref b0), (1, .ref b1), (2, .int b2)]) hx hb d_Tree_follow_99 hl (by decide) rfl (fun ls hl => ?_)
        refine lv_aload_n hx hb d_Tree_follow_101 rfl (lv_at hl 4 rfl) ?_
        refine va_get (D := G.1) (ci := 3) (v := .ref b10) (C := R_Tree) (T := F_Tree) (N := 11) hx hb hts i_Tree hown hK hP 3 rfl rfl 7 (by decide) (hts _ q111) (fun _ h9 => h9) rfl d_Tree_follow_102 ?_
        refine lv_iload_n hx hb d_Tree_follow_105 rfl (lv_at hl 1 rfl) ?_
        refine lv_aload_n hx hb d_Tree_follow_106 rfl (lv_at hl 4 rfl) ?_
        refine va_get (D := G.1) (ci := 3) (v := .ref b10) (C := R_Tree) (T := F_Tree) (N := 11) hx hb hts i_Tree hown hK hP 3 rfl rfl 7 (by decide) (hts _ q111) (fun _ h9 => h9) rfl d_Tree_follow_107 ?_
        refine lv_iload_n hx hb d_Tree_follow_110 rfl (lv_at hl 1 rfl) ?_
        refine va_iald hx hb hK hP 8 0 rfl rfl (zI.inn hx_268 (by decide)) d_Tree_follow_111 ?_
        refine lv_topi (fun v_288 ev_288 => ?_)
        refine lv_iload hx hb d_Tree_follow_112 (lv_at hl 0 rfl) ?_
        refine va_mmin hx hb (hml.trans hl.1.symm) hown (hts _ q591) (hts _ q592) (hts _ q20) (hts _ q593) (Nat.le_of_ble_eq_true rfl) (Nat.le_of_ble_eq_true rfl) (Nat.le_of_ble_eq_true rfl) (Nat.le_of_ble_eq_true rfl) d_Tree_follow_114 ?_
        refine lv_topi (fun v_289 ev_289 => ?_)
        have hv_289 := zI_min (l := (-2147483648)) (h := 2147483647) (zI_all v_288) (zI_all x_287) ev_289 (by decide)
        refine va_iast hx hb hK hP hD hS 8 0 rfl rfl (zI.inn hx_268 (by decide)) d_Tree_follow_117 (fun H locs hP hD hS => ?_)
        obtain ⟨f_290, gf_290, hP, hD⟩ := z_newFu 8 hP hD rfl
        have hP : va_P G.1 classes [(b13, .inl (G.2 0, 260, .inl f_282)), (b25, .inl (G.2 0, 20, .inl b28)), (b26, .inl (G.2 0, 240, .inl b29)), (b0, .inr (3, [.int b3, .int b4, .int x_269, .ref b6, .ref b7, .ref b8, .ref b9, .ref b10, .ref b11, .ref b12, .ref b13])), (b6, .inl (G.2 0, 241, .inl f_270)), (b7, .inl (G.2 0, 241, .inl f_271)), (b8, .inl (G.2 0, 241, .inl f_285)), (b9, .inl (G.2 0, 241, .inl f_273)), (b10, .inl (G.2 0, 241, .inl f_290)), (b11, .inl (G.2 0, 241, .inl f_275)), (b12, .inl (G.2 0, 2410, .inl f_276)), (b1, .inr (2, [.int b22, .int b23, .int b24, .ref b25, .ref b26, .ref b27])), (b27, .inl (G.2 0, 240, .inl b30))] H := hP
        have hD := z_tie hP hD rfl
        refine lv_aload_n hx hb d_Tree_follow_118 rfl (lv_at hl 4 rfl) ?_
        refine va_get (D := G.1) (ci := 3) (v := .ref b11) (C := R_Tree) (T := F_Tree) (N := 11) hx hb hts i_Tree hown hK hP 3 rfl rfl 8 (by decide) (hts _ q113) (fun _ h9 => h9) rfl d_Tree_follow_119 ?_
        refine lv_iload_n hx hb d_Tree_follow_122 rfl (lv_at hl 1 rfl) ?_
        refine lv_aload_n hx hb d_Tree_follow_123 rfl (lv_at hl 4 rfl) ?_
        refine va_get (D := G.1) (ci := 3) (v := .ref b11) (C := R_Tree) (T := F_Tree) (N := 11) hx hb hts i_Tree hown hK hP 3 rfl rfl 8 (by decide) (hts _ q113) (fun _ h9 => h9) rfl d_Tree_follow_124 ?_
        refine lv_iload_n hx hb d_Tree_follow_127 rfl (lv_at hl 1 rfl) ?_
        refine va_iald hx hb hK hP 9 0 rfl rfl (zI.inn hx_268 (by decide)) d_Tree_follow_128 ?_
        refine lv_topi (fun v_291 ev_291 => ?_)
        refine lv_iload hx hb d_Tree_follow_129 (lv_at hl 0 rfl) ?_
        refine va_mmax hx hb (hml.trans hl.1.symm) hown (hts _ q594) (hts _ q595) (hts _ q20) (hts _ q596) (Nat.le_of_ble_eq_true rfl) (Nat.le_of_ble_eq_true rfl) (Nat.le_of_ble_eq_true rfl) (Nat.le_of_ble_eq_true rfl) d_Tree_follow_131 ?_
        refine lv_topi (fun v_292 ev_292 => ?_)
        have hv_292 := zI_max (l := (-2147483648)) (h := 2147483647) (zI_all v_291) (zI_all x_287) ev_292 (by decide)
        refine va_iast hx hb hK hP hD hS 9 0 rfl rfl (zI.inn hx_268 (by decide)) d_Tree_follow_134 (fun H locs hP hD hS => ?_)
        obtain ⟨f_293, gf_293, hP, hD⟩ := z_newFu 9 hP hD rfl
        have hP : va_P G.1 classes [(b13, .inl (G.2 0, 260, .inl f_282)), (b25, .inl (G.2 0, 20, .inl b28)), (b26, .inl (G.2 0, 240, .inl b29)), (b0, .inr (3, [.int b3, .int b4, .int x_269, .ref b6, .ref b7, .ref b8, .ref b9, .ref b10, .ref b11, .ref b12, .ref b13])), (b6, .inl (G.2 0, 241, .inl f_270)), (b7, .inl (G.2 0, 241, .inl f_271)), (b8, .inl (G.2 0, 241, .inl f_285)), (b9, .inl (G.2 0, 241, .inl f_273)), (b10, .inl (G.2 0, 241, .inl f_290)), (b11, .inl (G.2 0, 241, .inl f_293)), (b12, .inl (G.2 0, 2410, .inl f_276)), (b1, .inr (2, [.int b22, .int b23, .int b24, .ref b25, .ref b26, .ref b27])), (b27, .inl (G.2 0, 240, .inl b30))] H := hP
        have hD := z_tie hP hD rfl
        obtain ⟨v_294, ev_294⟩ : ∃ z : Int32, z = y_244 + 1 := ⟨_, rfl⟩
        obtain ⟨qv_294, hv_294⟩ := zI_add (l := 1) (h := 12) hv_263 zc_1 ev_294 (by decide)
        rw [li_1] at qv_294
        refine lv_iinc (v := v_294) (lv' := [(5, .int v_294), (6, .int x_287), (3, .int x_268), (4, .int v_4), (0, .ref b0), (1, .ref b1), (2, .int b2)]) hx hb d_Tree_follow_135 hl (k := 2) rfl (by rw [ev_294]; rfl) (by decide) rfl (fun ls hl => ?_)
        refine lv_goto (tgt := 47) hx hb d_Tree_follow_138 (by decide) ?_
        exact ihk_243 (v_294) (x_268) (x_269) (f_290) (f_293) (f_276) (f_282) (f_270) (f_271) (f_285) (f_273) _ _ _ (zI.wk (l' := 0) (h' := 12) hv_294 (by decide)) hx_268 hx_269 hf_276 hf_282 hf_270 hf_271 (by omega) (by omega) (zm_up qv_294 hmk_243 (by decide)) (hP.sub [3, 4, 5, 6, 7, 8, 9, 10, 0, 11, 1, 2, 12] rfl) (hD.sub [3, 4, 5, 6, 7, 8, 9, 10, 0, 11, 1, 2, 12] (by decide) rfl) hS (lv_sub hl [0, 3, 2, 4, 5, 6] rfl)
  · have _nhc_1 := hc_1
    have ni_295 := (fa_eq _ _).mp hc_1
    rw [li_0] at ni_295
    have hv_296 : zI b5 0 0 := zI.eq_l hb5 zc_0 hc_1
    refine lv_aload_n hx hb d_Tree_follow_7 rfl (lv_at hl 0 rfl) ?_
    refine lv_iconst (v := (-1)) hx hb d_Tree_follow_8 (by decide) ?_
    refine lv_iconst (v := (-1)) hx hb d_Tree_follow_9 (by decide) ?_
    refine z_callV (index := 56) (As := [.int (-1), .int (-1)]) (rest := []) (wr := [(b13, .inl (G.2 0, 260, .inl b21)), (b1, .inr (2, [.int b22, .int b23, .int b24, .ref b25, .ref b26, .ref b27])), (b25, .inl (G.2 0, 20, .inl b28)), (b26, .inl (G.2 0, 240, .inl b29)), (b27, .inl (G.2 0, 240, .inl b30))]) Z (s4_Tree_addPrefix l G (b0) (b3) (b4) (b5) (b6) (b7) (b8) (b9) (b10) (b11) (b12) (b13) (b14) (b15) (b16) (b17) (b18) (b19) (b20) hb3 (zI.wk (l' := 0) (h' := 241) hv_296 (by decide)) hb14 hb15 hb20 (by omega)) hl.1 q575 q577 qs4 q4 q578 ⟨by decide, by decide, by show _ = some 2; decide +kernel⟩ ⟨Nat.le_of_ble_eq_true rfl, Nat.le_of_ble_eq_true rfl⟩ ⟨Nat.le_of_ble_eq_true rfl, Nat.le_of_ble_eq_true rfl⟩ rfl (Nat.le_of_ble_eq_true rfl) d_Tree_follow_10 hP hD hS hA 0 3 rfl rfl rfl [0, 1, 2, 3, 4, 5, 6, 7] [8, 9, 10, 11, 12] rfl rfl rfl rfl (by decide) (fun v w1 H locs hw_297 hP hD hS => ?_)
    obtain ⟨f_298, f_299, f_300, f_301, f_302, f_303, f_304, rfl, rfl, hf_298, hf_299, hf_304⟩ := hw_297
    have hP : va_P G.1 classes [(b13, .inl (G.2 0, 260, .inl b21)), (b1, .inr (2, [.int b22, .int b23, .int b24, .ref b25, .ref b26, .ref b27])), (b25, .inl (G.2 0, 20, .inl b28)), (b26, .inl (G.2 0, 240, .inl b29)), (b27, .inl (G.2 0, 240, .inl b30)), (b0, .inr (3, [.int b3, .int b4, .int 1, .ref b6, .ref b7, .ref b8, .ref b9, .ref b10, .ref b11, .ref b12, .ref b13])), (b6, .inl (G.2 0, 241, .inl f_298)), (b7, .inl (G.2 0, 241, .inl f_299)), (b8, .inl (G.2 0, 241, .inl f_300)), (b9, .inl (G.2 0, 241, .inl f_301)), (b10, .inl (G.2 0, 241, .inl f_302)), (b11, .inl (G.2 0, 241, .inl f_303)), (b12, .inl (G.2 0, 2410, .inl f_304))] H := hP
    have hD := z_tie hP hD rfl
    refine W.widen (k := 0) (n := 0) (Nat.le_of_ble_eq_true rfl) (Nat.le_of_ble_eq_true rfl) ?_
    refine lv_pop hx hb d_Tree_follow_13 rfl ?_
    refine lv_iconst (v := 0) hx hb d_Tree_follow_14 (by decide) ?_
    refine lv_istore_n (lv' := [(3, .int 0), (0, .ref b0), (1, .ref b1), (2, .int b2)]) hx hb d_Tree_follow_15 rfl hl (by decide) rfl (fun ls hl => ?_)
    refine lv_aload_n hx hb d_Tree_follow_16 rfl (lv_at hl 2 rfl) ?_
    refine va_get (D := G.1) (ci := 2) (v := .ref b25) (C := R_Traces) (T := F_Traces) (N := 6) hx hb hts i_Traces hown hK hP 1 rfl rfl 3 (by decide) (hts _ q68) (fun _ h9 => h9) rfl d_Tree_follow_17 ?_
    refine lv_iload_n hx hb d_Tree_follow_20 rfl (lv_at hl 3 rfl) ?_
    refine va_iald hx hb hK hP 2 0 rfl rfl (zI.inn hb2 (by decide)) d_Tree_follow_21 ?_
    refine lv_topi (fun v_305 ev_305 => ?_)
    have hv_305 : zI v_305 0 12 := (hb28 _).eq ev_305
    refine lv_istore (lv' := [(4, .int v_305), (3, .int 0), (0, .ref b0), (1, .ref b1), (2, .int b2)]) hx hb d_Tree_follow_22 hl (by decide) rfl (fun ls hl => ?_)
    refine lv_aload_n hx hb d_Tree_follow_24 rfl (lv_at hl 2 rfl) ?_
    refine va_get (D := G.1) (ci := 3) (v := .ref b13) (C := R_Tree) (T := F_Tree) (N := 11) hx hb hts i_Tree hown hK hP 5 rfl rfl 10 (by decide) (hts _ q116) (fun _ h9 => h9) rfl d_Tree_follow_25 ?_
    refine lv_iload_n hx hb d_Tree_follow_28 rfl (lv_at hl 4 rfl) ?_
    refine lv_bipush (v := 13) hx hb d_Tree_follow_29 (by decide) ?_
    refine lv_imul hx hb d_Tree_follow_31 ?_
    refine lv_topi (fun v_306 ev_306 => ?_)
    obtain ⟨qv_306, hv_306⟩ := zI_mul (l := 0) (h := 247) hb2 zc_13 ev_306 (by decide)
    rw [li_13] at qv_306
    refine lv_iload_n hx hb d_Tree_follow_32 rfl (lv_at hl 1 rfl) ?_
    refine va_iast hx hb hK hP hD hS 0 0 rfl rfl (zI.inn hv_306 (by decide)) d_Tree_follow_33 (fun H locs hP hD hS => ?_)
    obtain ⟨f_307, hf_307, gf_307, hP, hD⟩ := z_newfu 0 hP hD rfl hb21 (zI.wk (l' := 0) (h' := 240) zc_0 (by decide))
    have hP : va_P G.1 classes [(b13, .inl (G.2 0, 260, .inl f_307)), (b1, .inr (2, [.int b22, .int b23, .int b24, .ref b25, .ref b26, .ref b27])), (b25, .inl (G.2 0, 20, .inl b28)), (b26, .inl (G.2 0, 240, .inl b29)), (b27, .inl (G.2 0, 240, .inl b30)), (b0, .inr (3, [.int b3, .int b4, .int 1, .ref b6, .ref b7, .ref b8, .ref b9, .ref b10, .ref b11, .ref b12, .ref b13])), (b6, .inl (G.2 0, 241, .inl f_298)), (b7, .inl (G.2 0, 241, .inl f_299)), (b8, .inl (G.2 0, 241, .inl f_300)), (b9, .inl (G.2 0, 241, .inl f_301)), (b10, .inl (G.2 0, 241, .inl f_302)), (b11, .inl (G.2 0, 241, .inl f_303)), (b12, .inl (G.2 0, 2410, .inl f_304))] H := hP
    have hD := z_tie hP hD rfl
    refine lv_aload_n hx hb d_Tree_follow_34 rfl (lv_at hl 2 rfl) ?_
    refine va_get (D := G.1) (ci := 3) (v := .ref b8) (C := R_Tree) (T := F_Tree) (N := 11) hx hb hts i_Tree hown hK hP 5 rfl rfl 5 (by decide) (hts _ q107) (fun _ h9 => h9) rfl d_Tree_follow_35 ?_
    refine lv_iload_n hx hb d_Tree_follow_38 rfl (lv_at hl 1 rfl) ?_
    refine lv_dup2_11 hx hb d_Tree_follow_39 rfl rfl ?_
    refine va_iald hx hb hK hP 8 0 rfl rfl (i := 0) (z_in rfl) d_Tree_follow_40 ?_
    refine lv_topi (fun v_308 ev_308 => ?_)
    refine lv_iconst (v := 1) hx hb d_Tree_follow_41 (by decide) ?_
    refine lv_iadd hx hb d_Tree_follow_42 ?_
    refine lv_topi (fun v_309 ev_309 => ?_)
    refine va_iast hx hb hK hP hD hS 8 0 rfl rfl (i := 0) (z_in rfl) d_Tree_follow_43 (fun H locs hP hD hS => ?_)
    obtain ⟨f_310, gf_310, hP, hD⟩ := z_newFu 8 hP hD rfl
    have hP : va_P G.1 classes [(b13, .inl (G.2 0, 260, .inl f_307)), (b1, .inr (2, [.int b22, .int b23, .int b24, .ref b25, .ref b26, .ref b27])), (b25, .inl (G.2 0, 20, .inl b28)), (b26, .inl (G.2 0, 240, .inl b29)), (b27, .inl (G.2 0, 240, .inl b30)), (b0, .inr (3, [.int b3, .int b4, .int 1, .ref b6, .ref b7, .ref b8, .ref b9, .ref b10, .ref b11, .ref b12, .ref b13])), (b6, .inl (G.2 0, 241, .inl f_298)), (b7, .inl (G.2 0, 241, .inl f_299)), (b8, .inl (G.2 0, 241, .inl f_310)), (b9, .inl (G.2 0, 241, .inl f_301)), (b10, .inl (G.2 0, 241, .inl f_302)), (b11, .inl (G.2 0, 241, .inl f_303)), (b12, .inl (G.2 0, 2410, .inl f_304))] H := hP
    have hD := z_tie hP hD rfl
    refine lv_iconst (v := 0) hx hb d_Tree_follow_44 (by decide) ?_
    refine lv_istore (lv' := [(5, .int 0), (4, .int v_305), (3, .int 0), (0, .ref b0), (1, .ref b1), (2, .int b2)]) hx hb d_Tree_follow_45 hl (by decide) rfl (fun ls hl => ?_)
    suffices key : ∀ (k_544 : Nat) (y_545 : Int32) (y_546 : Int32) (y_547 : Int32) (y_548 : Nat → Int32) (y_549 : Nat → Int32) (y_550 : Nat → Int32) (y_551 : Nat → Int32) (y_552 : Nat → Int32) (y_553 : Nat → Int32) (y_554 : Nat → Int32) (y_555 : Nat → Int32) (H : Heap) (locs : List Loc) (ls : Array Slot), (zI y_545 0 12) → (zI y_546 0 240) → (zI y_547 0 241) → (zR y_550 (-1) 240) → (zR y_551 0 240) → (zR1 y_552 0 240) → (zR1 y_553 0 9) → (y_547.toInt ≤ 12 * b2.toInt + 1 + y_545.toInt) → (1 ≤ y_547.toInt) → (12 : Int) - y_545.toInt < (k_544 : Int) → va_P G.1 classes [(b13, .inl (G.2 0, 260, .inl y_551)), (b1, .inr (2, [.int b22, .int b23, .int b24, .ref b25, .ref b26, .ref b27])), (b25, .inl (G.2 0, 20, .inl b28)), (b26, .inl (G.2 0, 240, .inl b29)), (b27, .inl (G.2 0, 240, .inl b30)), (b0, .inr (3, [.int b3, .int b4, .int y_547, .ref b6, .ref b7, .ref b8, .ref b9, .ref b10, .ref b11, .ref b12, .ref b13])), (b6, .inl (G.2 0, 241, .inl y_552)), (b7, .inl (G.2 0, 241, .inl y_553)), (b8, .inl (G.2 0, 241, .inl y_554)), (b9, .inl (G.2 0, 241, .inl y_555)), (b10, .inl (G.2 0, 241, .inl y_548)), (b11, .inl (G.2 0, 241, .inl y_549)), (b12, .inl (G.2 0, 2410, .inl y_550))] H → va_D A [(b13, .inl (G.2 0, 260, .inl y_551)), (b1, .inr (2, [.int b22, .int b23, .int b24, .ref b25, .ref b26, .ref b27])), (b25, .inl (G.2 0, 20, .inl b28)), (b26, .inl (G.2 0, 240, .inl b29)), (b27, .inl (G.2 0, 240, .inl b30)), (b0, .inr (3, [.int b3, .int b4, .int y_547, .ref b6, .ref b7, .ref b8, .ref b9, .ref b10, .ref b11, .ref b12, .ref b13])), (b6, .inl (G.2 0, 241, .inl y_552)), (b7, .inl (G.2 0, 241, .inl y_553)), (b8, .inl (G.2 0, 241, .inl y_554)), (b9, .inl (G.2 0, 241, .inl y_555)), (b10, .inl (G.2 0, 241, .inl y_548)), (b11, .inl (G.2 0, 241, .inl y_549)), (b12, .inl (G.2 0, 2410, .inl y_550))] → va_S A s.heap H locs → lv_has ls 7 [(5, .int y_545), (4, .int v_305), (3, .int y_546), (0, .ref b0), (1, .ref b1), (2, .int b2)] → W p l e m_s1_Tree_follow s m ([.ref b0, .ref b1, .int b2] : List Value).toArray below meth c H locs 0 0 (MQ below (zQ G (fun v w => ∃ (e0 : Int32), ∃ (e1 : Nat → Int32), ∃ (e2 : Nat → Int32), ∃ (e3 : Nat → Int32), ∃ (e4 : Nat → Int32), ∃ (e5 : Nat → Int32), ∃ (e6 : Nat → Int32), ∃ (e7 : Nat → Int32), ∃ (e8 : Nat → Int32), v = none ∧ w = [(b0, .inr (3, [.int b3, .int b4, .int e0, .ref b6, .ref b7, .ref b8, .ref b9, .ref b10, .ref b11, .ref b12, .ref b13])), (b6, .inl (G.2 0, 241, .inl e1)), (b7, .inl (G.2 0, 241, .inl e2)), (b8, .inl (G.2 0, 241, .inl e3)), (b9, .inl (G.2 0, 241, .inl e4)), (b10, .inl (G.2 0, 241, .inl e5)), (b11, .inl (G.2 0, 241, .inl e6)), (b12, .inl (G.2 0, 2410, .inl e7)), (b13, .inl (G.2 0, 260, .inl e8)), (b1, .inr (2, [.int b22, .int b23, .int b24, .ref b25, .ref b26, .ref b27])), (b25, .inl (G.2 0, 20, .inl b28)), (b26, .inl (G.2 0, 240, .inl b29)), (b27, .inl (G.2 0, 240, .inl b30))] ∧ (zI e0 0 241) ∧ (zR1 e1 0 240) ∧ (zR1 e2 0 9) ∧ (zR e7 (-1) 240) ∧ (zR e8 0 240) ∧ (e0.toInt ≤ 12 * b2.toInt + 13)) A) ([.ref b0, .ref b1, .int b2] : List Value).toArray s m_s1_Tree_follow.cells m_s1_Tree_follow.slots A) (F0 m 47 ls []) by
      exact key 13 (0) (0) (1) (f_302) (f_303) (f_304) (f_307) (f_298) (f_299) (f_310) (f_301) _ _ _ (zI.wk (l' := 0) (h' := 12) zc_0 (by decide)) (zI.wk (l' := 0) (h' := 240) zc_0 (by decide)) (zI.wk (l' := 0) (h' := 241) zc_1 (by decide)) hf_304 hf_307 hf_298 hf_299 (by have _l0 := li_1; have _l2 := li_0; omega) (by have _l0 := li_1; omega) (zm_upi (zI.wk (l' := 0) (h' := 12) zc_0 (by decide)) (by decide)) hP hD hS (lv_sub hl [0, 1, 2, 3, 4, 5] rfl)
    intro k_544
    induction k_544 with
    | zero =>
      intro y_545 y_546 y_547 y_548 y_549 y_550 y_551 y_552 y_553 y_554 y_555 H locs ls hy_545 hy_546 hy_547 hy_550 hy_551 hy_552 hy_553 hli_556 hli_557 hmk_544 hP hD hS hl
      exact (zm_up0 hy_545 hmk_544).elim
    | succ k_544 ihk_544 =>
      intro y_545 y_546 y_547 y_548 y_549 y_550 y_551 y_552 y_553 y_554 y_555 H locs ls hy_545 hy_546 hy_547 hy_550 hy_551 hy_552 hy_553 hli_556 hli_557 hmk_544 hP hD hS hl
      refine lv_iload hx hb d_Tree_follow_47 (lv_at hl 0 rfl) ?_
      refine lv_iload hx hb d_Tree_follow_49 (lv_at hl 1 rfl) ?_
      refine lv_icmp_ge (tgt := 141) hx hb d_Tree_follow_51 (by decide) (fun hc_558 => ?_) (fun hc_558 => ?_)
      · have _nhc_558 := hc_558
        have ni_559 := (fa_le _ _).mp hc_558
        refine lv_aload_n hx hb d_Tree_follow_141 rfl (lv_at hl 3 rfl) ?_
        refine va_get (D := G.1) (ci := 3) (v := .ref b9) (C := R_Tree) (T := F_Tree) (N := 11) hx hb hts i_Tree hown hK hP 5 rfl rfl 6 (by decide) (hts _ q109) (fun _ h9 => h9) rfl d_Tree_follow_142 ?_
        refine lv_iload_n hx hb d_Tree_follow_145 rfl (lv_at hl 2 rfl) ?_
        refine lv_dup2_11 hx hb d_Tree_follow_146 rfl rfl ?_
        refine va_iald hx hb hK hP 9 0 rfl rfl (zI.inn hy_546 (by decide)) d_Tree_follow_147 ?_
        refine lv_topi (fun v_560 ev_560 => ?_)
        refine lv_iconst (v := 1) hx hb d_Tree_follow_148 (by decide) ?_
        refine lv_iadd hx hb d_Tree_follow_149 ?_
        refine lv_topi (fun v_561 ev_561 => ?_)
        refine va_iast hx hb hK hP hD hS 9 0 rfl rfl (zI.inn hy_546 (by decide)) d_Tree_follow_150 (fun H locs hP hD hS => ?_)
        obtain ⟨f_562, gf_562, hP, hD⟩ := z_newFu 9 hP hD rfl
        have hP : va_P G.1 classes [(b13, .inl (G.2 0, 260, .inl y_551)), (b1, .inr (2, [.int b22, .int b23, .int b24, .ref b25, .ref b26, .ref b27])), (b25, .inl (G.2 0, 20, .inl b28)), (b26, .inl (G.2 0, 240, .inl b29)), (b27, .inl (G.2 0, 240, .inl b30)), (b0, .inr (3, [.int b3, .int b4, .int y_547, .ref b6, .ref b7, .ref b8, .ref b9, .ref b10, .ref b11, .ref b12, .ref b13])), (b6, .inl (G.2 0, 241, .inl y_552)), (b7, .inl (G.2 0, 241, .inl y_553)), (b8, .inl (G.2 0, 241, .inl y_554)), (b9, .inl (G.2 0, 241, .inl f_562)), (b10, .inl (G.2 0, 241, .inl y_548)), (b11, .inl (G.2 0, 241, .inl y_549)), (b12, .inl (G.2 0, 2410, .inl y_550))] H := hP
        have hD := z_tie hP hD rfl
        exact z_vret hx hb hr hlocks (hP.sub [5, 6, 7, 8, 9, 10, 11, 12, 0, 1, 2, 3, 4] rfl) (hD.sub [5, 6, 7, 8, 9, 10, 11, 12, 0, 1, 2, 3, 4] (by decide) rfl) hS (Nat.le_of_ble_eq_true rfl) (Nat.le_of_ble_eq_true rfl) d_Tree_follow_151 ⟨y_547, y_552, y_553, y_554, f_562, y_548, y_549, y_550, y_551, rfl, rfl, hy_547, hy_552, hy_553, hy_550, hy_551, (by omega)⟩
      · have _nhc_558 := hc_558
        have ni_563 := (fa_lt _ _).mp (zi_nle hc_558)
        have hv_564 : zI y_545 0 11 := zI.lt_l hy_545 hv_305 (zi_nle hc_558) (by decide)
        have hv_565 : zI v_305 1 12 := zI.lt_r hy_545 hv_305 (zi_nle hc_558) (by decide)
        refine lv_aload_n hx hb d_Tree_follow_54 rfl (lv_at hl 3 rfl) ?_
        refine lv_iload_n hx hb d_Tree_follow_55 rfl (lv_at hl 2 rfl) ?_
        refine lv_aload_n hx hb d_Tree_follow_56 rfl (lv_at hl 4 rfl) ?_
        refine lv_iload_n hx hb d_Tree_follow_57 rfl (lv_at hl 5 rfl) ?_
        refine lv_iload hx hb d_Tree_follow_58 (lv_at hl 0 rfl) ?_
        refine z_callV (index := 63) (As := [.int b2, .int y_545]) (rest := [.int y_546, .ref b0]) (wr := [(b13, .inl (G.2 0, 260, .inl y_551)), (b25, .inl (G.2 0, 20, .inl b28)), (b27, .inl (G.2 0, 240, .inl b30)), (b0, .inr (3, [.int b3, .int b4, .int y_547, .ref b6, .ref b7, .ref b8, .ref b9, .ref b10, .ref b11, .ref b12, .ref b13])), (b6, .inl (G.2 0, 241, .inl y_552)), (b7, .inl (G.2 0, 241, .inl y_553)), (b8, .inl (G.2 0, 241, .inl y_554)), (b9, .inl (G.2 0, 241, .inl y_555)), (b10, .inl (G.2 0, 241, .inl y_548)), (b11, .inl (G.2 0, 241, .inl y_549)), (b12, .inl (G.2 0, 2410, .inl y_550))]) Z (s1_Traces_letterAt l G (b1) (b2) (y_545) (b22) (b23) (b24) (b25) (b26) (b27) (b29) hb2 hv_564 hb22 hb23 hb24 hb29) hl.1 q579 q580 q581 q3 q582 ⟨by decide, by decide, by show _ = some 2; decide +kernel⟩ ⟨Nat.le_of_ble_eq_true rfl, Nat.le_of_ble_eq_true rfl⟩ ⟨Nat.le_of_ble_eq_true rfl, Nat.le_of_ble_eq_true rfl⟩ rfl (Nat.le_of_ble_eq_true rfl) d_Tree_follow_60 hP hD hS hA 1 2 rfl rfl rfl [1, 3] [0, 2, 4, 5, 6, 7, 8, 9, 10, 11, 12] rfl rfl rfl rfl (by decide) (fun v w1 H locs hw_566 hP hD hS => ?_)
        obtain ⟨x_567, rfl, rfl, hx_567⟩ := hw_566
        have hP : va_P G.1 classes [(b13, .inl (G.2 0, 260, .inl y_551)), (b25, .inl (G.2 0, 20, .inl b28)), (b27, .inl (G.2 0, 240, .inl b30)), (b0, .inr (3, [.int b3, .int b4, .int y_547, .ref b6, .ref b7, .ref b8, .ref b9, .ref b10, .ref b11, .ref b12, .ref b13])), (b6, .inl (G.2 0, 241, .inl y_552)), (b7, .inl (G.2 0, 241, .inl y_553)), (b8, .inl (G.2 0, 241, .inl y_554)), (b9, .inl (G.2 0, 241, .inl y_555)), (b10, .inl (G.2 0, 241, .inl y_548)), (b11, .inl (G.2 0, 241, .inl y_549)), (b12, .inl (G.2 0, 2410, .inl y_550)), (b1, .inr (2, [.int b22, .int b23, .int b24, .ref b25, .ref b26, .ref b27])), (b26, .inl (G.2 0, 240, .inl b29))] H := hP
        have hD := z_tie hP hD rfl
        refine W.widen (k := 0) (n := 0) (Nat.le_of_ble_eq_true rfl) (Nat.le_of_ble_eq_true rfl) ?_
        refine z_callV (index := 66) (As := [.int y_546, .int x_567]) (rest := []) (wr := [(b13, .inl (G.2 0, 260, .inl y_551)), (b25, .inl (G.2 0, 20, .inl b28)), (b27, .inl (G.2 0, 240, .inl b30)), (b1, .inr (2, [.int b22, .int b23, .int b24, .ref b25, .ref b26, .ref b27])), (b26, .inl (G.2 0, 240, .inl b29))]) Z (s1_Tree_stepFrom l G (b0) (y_546) (x_567) (b3) (b4) (y_547) (b6) (b7) (b8) (b9) (b10) (b11) (b12) (b13) (y_552) (y_553) (y_554) (y_555) (y_548) (y_549) (y_550) hy_546 hx_567 hb3 hy_547 hy_552 hy_553 hy_550 (by omega)) hl.1 q583 q585 qs5 q4 q586 ⟨by decide, by decide, by show _ = some 2; decide +kernel⟩ ⟨Nat.le_of_ble_eq_true rfl, Nat.le_of_ble_eq_true rfl⟩ ⟨Nat.le_of_ble_eq_true rfl, Nat.le_of_ble_eq_true rfl⟩ rfl (Nat.le_of_ble_eq_true rfl) d_Tree_follow_63 hP hD hS hA 3 3 rfl rfl rfl [3, 4, 5, 6, 7, 8, 9, 10] [0, 1, 2, 11, 12] rfl rfl rfl rfl (by decide) (fun v w1 H locs hw_568 hP hD hS => ?_)
        obtain ⟨x_569, x_570, f_571, f_572, f_573, f_574, f_575, f_576, f_577, rfl, rfl, hx_569, hx_570, hf_571, hf_572, hf_577, hfx_578, hfx_579⟩ := hw_568
        have hP : va_P G.1 classes [(b13, .inl (G.2 0, 260, .inl y_551)), (b25, .inl (G.2 0, 20, .inl b28)), (b27, .inl (G.2 0, 240, .inl b30)), (b1, .inr (2, [.int b22, .int b23, .int b24, .ref b25, .ref b26, .ref b27])), (b26, .inl (G.2 0, 240, .inl b29)), (b0, .inr (3, [.int b3, .int b4, .int x_570, .ref b6, .ref b7, .ref b8, .ref b9, .ref b10, .ref b11, .ref b12, .ref b13])), (b6, .inl (G.2 0, 241, .inl f_571)), (b7, .inl (G.2 0, 241, .inl f_572)), (b8, .inl (G.2 0, 241, .inl f_573)), (b9, .inl (G.2 0, 241, .inl f_574)), (b10, .inl (G.2 0, 241, .inl f_575)), (b11, .inl (G.2 0, 241, .inl f_576)), (b12, .inl (G.2 0, 2410, .inl f_577))] H := hP
        have hD := z_tie hP hD rfl
        refine W.widen (k := 0) (n := 0) (Nat.le_of_ble_eq_true rfl) (Nat.le_of_ble_eq_true rfl) ?_
        refine lv_istore_n (lv' := [(3, .int x_569), (5, .int y_545), (4, .int v_305), (0, .ref b0), (1, .ref b1), (2, .int b2)]) hx hb d_Tree_follow_66 rfl hl (by decide) rfl (fun ls hl => ?_)
        refine lv_aload_n hx hb d_Tree_follow_67 rfl (lv_at hl 3 rfl) ?_
        refine va_get (D := G.1) (ci := 3) (v := .ref b13) (C := R_Tree) (T := F_Tree) (N := 11) hx hb hts i_Tree hown hK hP 5 rfl rfl 10 (by decide) (hts _ q116) (fun _ h9 => h9) rfl d_Tree_follow_68 ?_
        refine lv_iload_n hx hb d_Tree_follow_71 rfl (lv_at hl 5 rfl) ?_
        refine lv_bipush (v := 13) hx hb d_Tree_follow_72 (by decide) ?_
        refine lv_imul hx hb d_Tree_follow_74 ?_
        refine lv_topi (fun v_580 ev_580 => ?_)
        obtain ⟨qv_580, hv_580⟩ := zI_mul (l := 0) (h := 247) hb2 zc_13 ev_580 (by decide)
        rw [li_13] at qv_580
        refine lv_iload hx hb d_Tree_follow_75 (lv_at hl 1 rfl) ?_
        refine lv_iadd hx hb d_Tree_follow_77 ?_
        refine lv_topi (fun v_581 ev_581 => ?_)
        obtain ⟨qv_581, hv_581⟩ := zI_add (l := 0) (h := 258) hv_580 hv_564 ev_581 (by decide)
        refine lv_iconst (v := 1) hx hb d_Tree_follow_78 (by decide) ?_
        refine lv_iadd hx hb d_Tree_follow_79 ?_
        refine lv_topi (fun v_582 ev_582 => ?_)
        obtain ⟨qv_582, hv_582⟩ := zI_add (l := 1) (h := 259) hv_581 zc_1 ev_582 (by decide)
        rw [li_1] at qv_582
        refine lv_iload_n hx hb d_Tree_follow_80 rfl (lv_at hl 0 rfl) ?_
        refine va_iast hx hb hK hP hD hS 0 0 rfl rfl (zI.inn hv_582 (by decide)) d_Tree_follow_81 (fun H locs hP hD hS => ?_)
        obtain ⟨f_583, hf_583, gf_583, hP, hD⟩ := z_newfu 0 hP hD rfl hy_551 hx_569
        have hP : va_P G.1 classes [(b13, .inl (G.2 0, 260, .inl f_583)), (b25, .inl (G.2 0, 20, .inl b28)), (b27, .inl (G.2 0, 240, .inl b30)), (b1, .inr (2, [.int b22, .int b23, .int b24, .ref b25, .ref b26, .ref b27])), (b26, .inl (G.2 0, 240, .inl b29)), (b0, .inr (3, [.int b3, .int b4, .int x_570, .ref b6, .ref b7, .ref b8, .ref b9, .ref b10, .ref b11, .ref b12, .ref b13])), (b6, .inl (G.2 0, 241, .inl f_571)), (b7, .inl (G.2 0, 241, .inl f_572)), (b8, .inl (G.2 0, 241, .inl f_573)), (b9, .inl (G.2 0, 241, .inl f_574)), (b10, .inl (G.2 0, 241, .inl f_575)), (b11, .inl (G.2 0, 241, .inl f_576)), (b12, .inl (G.2 0, 2410, .inl f_577))] H := hP
        have hD := z_tie hP hD rfl
        refine lv_aload_n hx hb d_Tree_follow_82 rfl (lv_at hl 3 rfl) ?_
        refine va_get (D := G.1) (ci := 3) (v := .ref b8) (C := R_Tree) (T := F_Tree) (N := 11) hx hb hts i_Tree hown hK hP 5 rfl rfl 5 (by decide) (hts _ q107) (fun _ h9 => h9) rfl d_Tree_follow_83 ?_
        refine lv_iload_n hx hb d_Tree_follow_86 rfl (lv_at hl 0 rfl) ?_
        refine lv_dup2_11 hx hb d_Tree_follow_87 rfl rfl ?_
        refine va_iald hx hb hK hP 8 0 rfl rfl (zI.inn hx_569 (by decide)) d_Tree_follow_88 ?_
        refine lv_topi (fun v_584 ev_584 => ?_)
        refine lv_iconst (v := 1) hx hb d_Tree_follow_89 (by decide) ?_
        refine lv_iadd hx hb d_Tree_follow_90 ?_
        refine lv_topi (fun v_585 ev_585 => ?_)
        refine va_iast hx hb hK hP hD hS 8 0 rfl rfl (zI.inn hx_569 (by decide)) d_Tree_follow_91 (fun H locs hP hD hS => ?_)
        obtain ⟨f_586, gf_586, hP, hD⟩ := z_newFu 8 hP hD rfl
        have hP : va_P G.1 classes [(b13, .inl (G.2 0, 260, .inl f_583)), (b25, .inl (G.2 0, 20, .inl b28)), (b27, .inl (G.2 0, 240, .inl b30)), (b1, .inr (2, [.int b22, .int b23, .int b24, .ref b25, .ref b26, .ref b27])), (b26, .inl (G.2 0, 240, .inl b29)), (b0, .inr (3, [.int b3, .int b4, .int x_570, .ref b6, .ref b7, .ref b8, .ref b9, .ref b10, .ref b11, .ref b12, .ref b13])), (b6, .inl (G.2 0, 241, .inl f_571)), (b7, .inl (G.2 0, 241, .inl f_572)), (b8, .inl (G.2 0, 241, .inl f_586)), (b9, .inl (G.2 0, 241, .inl f_574)), (b10, .inl (G.2 0, 241, .inl f_575)), (b11, .inl (G.2 0, 241, .inl f_576)), (b12, .inl (G.2 0, 2410, .inl f_577))] H := hP
        have hD := z_tie hP hD rfl
        refine lv_aload_n hx hb d_Tree_follow_92 rfl (lv_at hl 4 rfl) ?_
        refine lv_iload_n hx hb d_Tree_follow_93 rfl (lv_at hl 5 rfl) ?_
        refine lv_iload hx hb d_Tree_follow_94 (lv_at hl 1 rfl) ?_
        refine z_callV (index := 69) (As := [.int b2, .int y_545]) (rest := []) (wr := [(b13, .inl (G.2 0, 260, .inl f_583)), (b25, .inl (G.2 0, 20, .inl b28)), (b26, .inl (G.2 0, 240, .inl b29)), (b0, .inr (3, [.int b3, .int b4, .int x_570, .ref b6, .ref b7, .ref b8, .ref b9, .ref b10, .ref b11, .ref b12, .ref b13])), (b6, .inl (G.2 0, 241, .inl f_571)), (b7, .inl (G.2 0, 241, .inl f_572)), (b8, .inl (G.2 0, 241, .inl f_586)), (b9, .inl (G.2 0, 241, .inl f_574)), (b10, .inl (G.2 0, 241, .inl f_575)), (b11, .inl (G.2 0, 241, .inl f_576)), (b12, .inl (G.2 0, 2410, .inl f_577))]) Z (s1_Traces_valueAt l G (b1) (b2) (y_545) (b22) (b23) (b24) (b25) (b26) (b27) (b30) hb2 hv_564 hb22 hb23 hb24) hl.1 q587 q588 q589 q3 q590 ⟨by decide, by decide, by show _ = some 2; decide +kernel⟩ ⟨Nat.le_of_ble_eq_true rfl, Nat.le_of_ble_eq_true rfl⟩ ⟨Nat.le_of_ble_eq_true rfl, Nat.le_of_ble_eq_true rfl⟩ rfl (Nat.le_of_ble_eq_true rfl) d_Tree_follow_96 hP hD hS hA 3 2 rfl rfl rfl [3, 2] [0, 1, 4, 5, 6, 7, 8, 9, 10, 11, 12] rfl rfl rfl rfl (by decide) (fun v w1 H locs hw_587 hP hD hS => ?_)
        obtain ⟨x_588, rfl, rfl⟩ := hw_587
        have hP : va_P G.1 classes [(b13, .inl (G.2 0, 260, .inl f_583)), (b25, .inl (G.2 0, 20, .inl b28)), (b26, .inl (G.2 0, 240, .inl b29)), (b0, .inr (3, [.int b3, .int b4, .int x_570, .ref b6, .ref b7, .ref b8, .ref b9, .ref b10, .ref b11, .ref b12, .ref b13])), (b6, .inl (G.2 0, 241, .inl f_571)), (b7, .inl (G.2 0, 241, .inl f_572)), (b8, .inl (G.2 0, 241, .inl f_586)), (b9, .inl (G.2 0, 241, .inl f_574)), (b10, .inl (G.2 0, 241, .inl f_575)), (b11, .inl (G.2 0, 241, .inl f_576)), (b12, .inl (G.2 0, 2410, .inl f_577)), (b1, .inr (2, [.int b22, .int b23, .int b24, .ref b25, .ref b26, .ref b27])), (b27, .inl (G.2 0, 240, .inl b30))] H := hP
        have hD := z_tie hP hD rfl
        refine W.widen (k := 0) (n := 0) (Nat.le_of_ble_eq_true rfl) (Nat.le_of_ble_eq_true rfl) ?_
        refine lv_istore (lv' := [(6, .int x_588), (3, .int x_569), (5, .int y_545), (4, .int v_305), (0, .ref b0), (1, .ref b1), (2, .int b2)]) hx hb d_Tree_follow_99 hl (by decide) rfl (fun ls hl => ?_)
        refine lv_aload_n hx hb d_Tree_follow_101 rfl (lv_at hl 4 rfl) ?_
        refine va_get (D := G.1) (ci := 3) (v := .ref b10) (C := R_Tree) (T := F_Tree) (N := 11) hx hb hts i_Tree hown hK hP 3 rfl rfl 7 (by decide) (hts _ q111) (fun _ h9 => h9) rfl d_Tree_follow_102 ?_
        refine lv_iload_n hx hb d_Tree_follow_105 rfl (lv_at hl 1 rfl) ?_
        refine lv_aload_n hx hb d_Tree_follow_106 rfl (lv_at hl 4 rfl) ?_
        refine va_get (D := G.1) (ci := 3) (v := .ref b10) (C := R_Tree) (T := F_Tree) (N := 11) hx hb hts i_Tree hown hK hP 3 rfl rfl 7 (by decide) (hts _ q111) (fun _ h9 => h9) rfl d_Tree_follow_107 ?_
        refine lv_iload_n hx hb d_Tree_follow_110 rfl (lv_at hl 1 rfl) ?_
        refine va_iald hx hb hK hP 8 0 rfl rfl (zI.inn hx_569 (by decide)) d_Tree_follow_111 ?_
        refine lv_topi (fun v_589 ev_589 => ?_)
        refine lv_iload hx hb d_Tree_follow_112 (lv_at hl 0 rfl) ?_
        refine va_mmin hx hb (hml.trans hl.1.symm) hown (hts _ q591) (hts _ q592) (hts _ q20) (hts _ q593) (Nat.le_of_ble_eq_true rfl) (Nat.le_of_ble_eq_true rfl) (Nat.le_of_ble_eq_true rfl) (Nat.le_of_ble_eq_true rfl) d_Tree_follow_114 ?_
        refine lv_topi (fun v_590 ev_590 => ?_)
        have hv_590 := zI_min (l := (-2147483648)) (h := 2147483647) (zI_all v_589) (zI_all x_588) ev_590 (by decide)
        refine va_iast hx hb hK hP hD hS 8 0 rfl rfl (zI.inn hx_569 (by decide)) d_Tree_follow_117 (fun H locs hP hD hS => ?_)
        obtain ⟨f_591, gf_591, hP, hD⟩ := z_newFu 8 hP hD rfl
        have hP : va_P G.1 classes [(b13, .inl (G.2 0, 260, .inl f_583)), (b25, .inl (G.2 0, 20, .inl b28)), (b26, .inl (G.2 0, 240, .inl b29)), (b0, .inr (3, [.int b3, .int b4, .int x_570, .ref b6, .ref b7, .ref b8, .ref b9, .ref b10, .ref b11, .ref b12, .ref b13])), (b6, .inl (G.2 0, 241, .inl f_571)), (b7, .inl (G.2 0, 241, .inl f_572)), (b8, .inl (G.2 0, 241, .inl f_586)), (b9, .inl (G.2 0, 241, .inl f_574)), (b10, .inl (G.2 0, 241, .inl f_591)), (b11, .inl (G.2 0, 241, .inl f_576)), (b12, .inl (G.2 0, 2410, .inl f_577)), (b1, .inr (2, [.int b22, .int b23, .int b24, .ref b25, .ref b26, .ref b27])), (b27, .inl (G.2 0, 240, .inl b30))] H := hP
        have hD := z_tie hP hD rfl
        refine lv_aload_n hx hb d_Tree_follow_118 rfl (lv_at hl 4 rfl) ?_
        refine va_get (D := G.1) (ci := 3) (v := .ref b11) (C := R_Tree) (T := F_Tree) (N := 11) hx hb hts i_Tree hown hK hP 3 rfl rfl 8 (by decide) (hts _ q113) (fun _ h9 => h9) rfl d_Tree_follow_119 ?_
        refine lv_iload_n hx hb d_Tree_follow_122 rfl (lv_at hl 1 rfl) ?_
        refine lv_aload_n hx hb d_Tree_follow_123 rfl (lv_at hl 4 rfl) ?_
        refine va_get (D := G.1) (ci := 3) (v := .ref b11) (C := R_Tree) (T := F_Tree) (N := 11) hx hb hts i_Tree hown hK hP 3 rfl rfl 8 (by decide) (hts _ q113) (fun _ h9 => h9) rfl d_Tree_follow_124 ?_
        refine lv_iload_n hx hb d_Tree_follow_127 rfl (lv_at hl 1 rfl) ?_
        refine va_iald hx hb hK hP 9 0 rfl rfl (zI.inn hx_569 (by decide)) d_Tree_follow_128 ?_
        refine lv_topi (fun v_592 ev_592 => ?_)
        refine lv_iload hx hb d_Tree_follow_129 (lv_at hl 0 rfl) ?_
        refine va_mmax hx hb (hml.trans hl.1.symm) hown (hts _ q594) (hts _ q595) (hts _ q20) (hts _ q596) (Nat.le_of_ble_eq_true rfl) (Nat.le_of_ble_eq_true rfl) (Nat.le_of_ble_eq_true rfl) (Nat.le_of_ble_eq_true rfl) d_Tree_follow_131 ?_
        refine lv_topi (fun v_593 ev_593 => ?_)
        have hv_593 := zI_max (l := (-2147483648)) (h := 2147483647) (zI_all v_592) (zI_all x_588) ev_593 (by decide)
        refine va_iast hx hb hK hP hD hS 9 0 rfl rfl (zI.inn hx_569 (by decide)) d_Tree_follow_134 (fun H locs hP hD hS => ?_)
        obtain ⟨f_594, gf_594, hP, hD⟩ := z_newFu 9 hP hD rfl
        have hP : va_P G.1 classes [(b13, .inl (G.2 0, 260, .inl f_583)), (b25, .inl (G.2 0, 20, .inl b28)), (b26, .inl (G.2 0, 240, .inl b29)), (b0, .inr (3, [.int b3, .int b4, .int x_570, .ref b6, .ref b7, .ref b8, .ref b9, .ref b10, .ref b11, .ref b12, .ref b13])), (b6, .inl (G.2 0, 241, .inl f_571)), (b7, .inl (G.2 0, 241, .inl f_572)), (b8, .inl (G.2 0, 241, .inl f_586)), (b9, .inl (G.2 0, 241, .inl f_574)), (b10, .inl (G.2 0, 241, .inl f_591)), (b11, .inl (G.2 0, 241, .inl f_594)), (b12, .inl (G.2 0, 2410, .inl f_577)), (b1, .inr (2, [.int b22, .int b23, .int b24, .ref b25, .ref b26, .ref b27])), (b27, .inl (G.2 0, 240, .inl b30))] H := hP
        have hD := z_tie hP hD rfl
        obtain ⟨v_595, ev_595⟩ : ∃ z : Int32, z = y_545 + 1 := ⟨_, rfl⟩
        obtain ⟨qv_595, hv_595⟩ := zI_add (l := 1) (h := 12) hv_564 zc_1 ev_595 (by decide)
        rw [li_1] at qv_595
        refine lv_iinc (v := v_595) (lv' := [(5, .int v_595), (6, .int x_588), (3, .int x_569), (4, .int v_305), (0, .ref b0), (1, .ref b1), (2, .int b2)]) hx hb d_Tree_follow_135 hl (k := 2) rfl (by rw [ev_595]; rfl) (by decide) rfl (fun ls hl => ?_)
        refine lv_goto (tgt := 47) hx hb d_Tree_follow_138 (by decide) ?_
        exact ihk_544 (v_595) (x_569) (x_570) (f_591) (f_594) (f_577) (f_583) (f_571) (f_572) (f_586) (f_574) _ _ _ (zI.wk (l' := 0) (h' := 12) hv_595 (by decide)) hx_569 hx_570 hf_577 hf_583 hf_571 hf_572 (by omega) (by omega) (zm_up qv_595 hmk_544 (by decide)) (hP.sub [0, 11, 1, 2, 12, 3, 4, 5, 6, 7, 8, 9, 10] rfl) (hD.sub [0, 11, 1, 2, 12, 3, 4, 5, 6, 7, 8, 9, 10] (by decide) rfl) hS (lv_sub hl [0, 3, 2, 4, 5, 6] rfl)
theorem d_Tree_grow_0 : decode prog_11_method_3_code 0 = .ok (.aload_n 0, 1) := by decide +kernel
theorem d_Tree_grow_1 : decode prog_11_method_3_code 1 = .ok (.iconst 1, 1) := by decide +kernel
theorem d_Tree_grow_2 : decode prog_11_method_3_code 2 = .ok (.putfield 36, 3) := by decide +kernel
theorem d_Tree_grow_5 : decode prog_11_method_3_code 5 = .ok (.aload_n 0, 1) := by decide +kernel
theorem d_Tree_grow_6 : decode prog_11_method_3_code 6 = .ok (.iload_n 2, 1) := by decide +kernel
theorem d_Tree_grow_7 : decode prog_11_method_3_code 7 = .ok (.putfield 40, 3) := by decide +kernel
theorem d_Tree_grow_10 : decode prog_11_method_3_code 10 = .ok (.aload_n 0, 1) := by decide +kernel
theorem d_Tree_grow_11 : decode prog_11_method_3_code 11 = .ok (.iconst 0, 1) := by decide +kernel
theorem d_Tree_grow_12 : decode prog_11_method_3_code 12 = .ok (.putfield 44, 3) := by decide +kernel
theorem d_Tree_grow_15 : decode prog_11_method_3_code 15 = .ok (.iconst 0, 1) := by decide +kernel
theorem d_Tree_grow_16 : decode prog_11_method_3_code 16 = .ok (.istore_n 3, 1) := by decide +kernel
theorem d_Tree_grow_17 : decode prog_11_method_3_code 17 = .ok (.iload_n 3, 1) := by decide +kernel
theorem d_Tree_grow_18 : decode prog_11_method_3_code 18 = .ok (.aload_n 1, 1) := by decide +kernel
theorem d_Tree_grow_19 : decode prog_11_method_3_code 19 = .ok (.getfield 47, 3) := by decide +kernel
theorem d_Tree_grow_22 : decode prog_11_method_3_code 22 = .ok (.if_icmp .ge 23, 3) := by decide +kernel
theorem d_Tree_grow_25 : decode prog_11_method_3_code 25 = .ok (.iload_n 3, 1) := by decide +kernel
theorem d_Tree_grow_26 : decode prog_11_method_3_code 26 = .ok (.aload_n 0, 1) := by decide +kernel
theorem d_Tree_grow_27 : decode prog_11_method_3_code 27 = .ok (.getfield 40, 3) := by decide +kernel
theorem d_Tree_grow_30 : decode prog_11_method_3_code 30 = .ok (.if_icmp .eq 9, 3) := by decide +kernel
theorem d_Tree_grow_33 : decode prog_11_method_3_code 33 = .ok (.aload_n 0, 1) := by decide +kernel
theorem d_Tree_grow_34 : decode prog_11_method_3_code 34 = .ok (.aload_n 1, 1) := by decide +kernel
theorem d_Tree_grow_35 : decode prog_11_method_3_code 35 = .ok (.iload_n 3, 1) := by decide +kernel
theorem d_Tree_grow_36 : decode prog_11_method_3_code 36 = .ok (.invokevirtual 52, 3) := by decide +kernel
theorem d_Tree_grow_39 : decode prog_11_method_3_code 39 = .ok (.iinc 3 1, 3) := by decide +kernel
theorem d_Tree_grow_42 : decode prog_11_method_3_code 42 = .ok (.goto (-25), 3) := by decide +kernel
theorem d_Tree_grow_45 : decode prog_11_method_3_code 45 = .ok (.return_, 1) := by decide +kernel
abbrev m_s1_Tree_grow : Room := { frames := 3, cells := 0, slots := 0, locals := 73 }
set_option maxHeartbeats 4000000 in
set_option maxRecDepth 100000 in
theorem s1_Tree_grow (l : Launch) (G : zG) (b0 : Nat) (b1 : Nat) (b2 : Int32) (b3 : Int32) (b4 : Int32) (b5 : Int32) (b6 : Nat) (b7 : Nat) (b8 : Nat) (b9 : Nat) (b10 : Nat) (b11 : Nat) (b12 : Nat) (b13 : Nat) (b14 : Nat → Int32) (b15 : Nat → Int32) (b16 : Nat → Int32) (b17 : Nat → Int32) (b18 : Nat → Int32) (b19 : Nat → Int32) (b20 : Nat → Int32) (b21 : Nat → Int32) (b22 : Int32) (b23 : Int32) (b24 : Int32) (b25 : Nat) (b26 : Nat) (b27 : Nat) (b28 : Nat → Int32) (b29 : Nat → Int32) (b30 : Nat → Int32) (hb2 : zI b2 (-1) 19) (hb3 : zI b3 0 1) (hb5 : zI b5 0 241) (hb22 : zI b22 0 20) (hb23 : zI b23 0 3) (hb24 : zI b24 0 20) (hb14 : zR1 b14 0 240) (hb15 : zR1 b15 0 9) (hb20 : zR b20 (-1) 240) (hb21 : zR b21 0 240) (hb28 : zR b28 0 12) (hb29 : zR b29 0 9) : zM l G y_Tree_grow prog_11_method_3_code 4 (Option.none : Option Jvm.ClassFile.FieldType) m_s1_Tree_grow [.ref b0, .ref b1, .int b2] [(b0, .inr (3, [.int b3, .int b4, .int b5, .ref b6, .ref b7, .ref b8, .ref b9, .ref b10, .ref b11, .ref b12, .ref b13])), (b6, .inl (G.2 0, 241, .inl b14)), (b7, .inl (G.2 0, 241, .inl b15)), (b8, .inl (G.2 0, 241, .inl b16)), (b9, .inl (G.2 0, 241, .inl b17)), (b10, .inl (G.2 0, 241, .inl b18)), (b11, .inl (G.2 0, 241, .inl b19)), (b12, .inl (G.2 0, 2410, .inl b20)), (b13, .inl (G.2 0, 260, .inl b21)), (b1, .inr (2, [.int b22, .int b23, .int b24, .ref b25, .ref b26, .ref b27])), (b25, .inl (G.2 0, 20, .inl b28)), (b26, .inl (G.2 0, 240, .inl b29)), (b27, .inl (G.2 0, 240, .inl b30))] (fun v w => ∃ (e0 : Int32), ∃ (e1 : Nat → Int32), ∃ (e2 : Nat → Int32), ∃ (e3 : Nat → Int32), ∃ (e4 : Nat → Int32), ∃ (e5 : Nat → Int32), ∃ (e6 : Nat → Int32), ∃ (e7 : Nat → Int32), ∃ (e8 : Nat → Int32), v = none ∧ w = [(b0, .inr (3, [.int 1, .int b2, .int e0, .ref b6, .ref b7, .ref b8, .ref b9, .ref b10, .ref b11, .ref b12, .ref b13])), (b6, .inl (G.2 0, 241, .inl e1)), (b7, .inl (G.2 0, 241, .inl e2)), (b8, .inl (G.2 0, 241, .inl e3)), (b9, .inl (G.2 0, 241, .inl e4)), (b10, .inl (G.2 0, 241, .inl e5)), (b11, .inl (G.2 0, 241, .inl e6)), (b12, .inl (G.2 0, 2410, .inl e7)), (b13, .inl (G.2 0, 260, .inl e8)), (b1, .inr (2, [.int b22, .int b23, .int b24, .ref b25, .ref b26, .ref b27])), (b25, .inl (G.2 0, 20, .inl b28)), (b26, .inl (G.2 0, 240, .inl b29)), (b27, .inl (G.2 0, 240, .inl b30))] ∧ (zI e0 0 241) ∧ (zR1 e1 0 240) ∧ (zR1 e2 0 9) ∧ (zR e7 (-1) 240) ∧ (zR e8 0 240)) := by
  refine z_start (by decide +kernel) (Nat.le_of_ble_eq_true rfl) ?_
  intro p e s m below meth c A Z hr hnm hA hP hD hS ls hl
  have Z : zC p s m _ meth c prog_11_method_3_code 4 "TraceMachines$Tree" G := Z
  obtain ⟨hx, hb, hml, hown, hts, hK, hN, hlocks⟩ := id Z
  have hl : lv_has ls 4 [(0, .ref b0), (1, .ref b1), (2, .int b2)] := hl
  refine lv_aload_n hx hb d_Tree_grow_0 rfl (lv_at hl 0 rfl) ?_
  refine lv_iconst (v := 1) hx hb d_Tree_grow_1 (by decide) ?_
  refine va_put (D := G.1) (ci := 3) (v := .int 1) (ty := .boolean) (C := R_Tree) (T := F_Tree) (N := 11) hx hb hts i_Tree t_Tree t_Tree_ok n_Tree hown hK hP hD hS 0 rfl rfl 0 (by decide) (hts _ q95) (fun _ h9 => h9) rfl (by decide +kernel) rfl rfl (Nat.le_of_ble_eq_true rfl) d_Tree_grow_2 (fun H locs hP hD hS => ?_)
  have hP : va_P G.1 classes [(b0, .inr (3, [.int 1, .int b4, .int b5, .ref b6, .ref b7, .ref b8, .ref b9, .ref b10, .ref b11, .ref b12, .ref b13])), (b6, .inl (G.2 0, 241, .inl b14)), (b7, .inl (G.2 0, 241, .inl b15)), (b8, .inl (G.2 0, 241, .inl b16)), (b9, .inl (G.2 0, 241, .inl b17)), (b10, .inl (G.2 0, 241, .inl b18)), (b11, .inl (G.2 0, 241, .inl b19)), (b12, .inl (G.2 0, 2410, .inl b20)), (b13, .inl (G.2 0, 260, .inl b21)), (b1, .inr (2, [.int b22, .int b23, .int b24, .ref b25, .ref b26, .ref b27])), (b25, .inl (G.2 0, 20, .inl b28)), (b26, .inl (G.2 0, 240, .inl b29)), (b27, .inl (G.2 0, 240, .inl b30))] H := hP
  have hD := z_tie hP hD rfl
  refine lv_aload_n hx hb d_Tree_grow_5 rfl (lv_at hl 0 rfl) ?_
  refine lv_iload_n hx hb d_Tree_grow_6 rfl (lv_at hl 2 rfl) ?_
  refine va_put (D := G.1) (ci := 3) (v := .int b2) (ty := .int) (C := R_Tree) (T := F_Tree) (N := 11) hx hb hts i_Tree t_Tree t_Tree_ok n_Tree hown hK hP hD hS 0 rfl rfl 1 (by decide) (hts _ q98) (fun _ h9 => h9) rfl (by decide +kernel) rfl rfl (Nat.le_of_ble_eq_true rfl) d_Tree_grow_7 (fun H locs hP hD hS => ?_)
  have hP : va_P G.1 classes [(b0, .inr (3, [.int 1, .int b2, .int b5, .ref b6, .ref b7, .ref b8, .ref b9, .ref b10, .ref b11, .ref b12, .ref b13])), (b6, .inl (G.2 0, 241, .inl b14)), (b7, .inl (G.2 0, 241, .inl b15)), (b8, .inl (G.2 0, 241, .inl b16)), (b9, .inl (G.2 0, 241, .inl b17)), (b10, .inl (G.2 0, 241, .inl b18)), (b11, .inl (G.2 0, 241, .inl b19)), (b12, .inl (G.2 0, 2410, .inl b20)), (b13, .inl (G.2 0, 260, .inl b21)), (b1, .inr (2, [.int b22, .int b23, .int b24, .ref b25, .ref b26, .ref b27])), (b25, .inl (G.2 0, 20, .inl b28)), (b26, .inl (G.2 0, 240, .inl b29)), (b27, .inl (G.2 0, 240, .inl b30))] H := hP
  have hD := z_tie hP hD rfl
  refine lv_aload_n hx hb d_Tree_grow_10 rfl (lv_at hl 0 rfl) ?_
  refine lv_iconst (v := 0) hx hb d_Tree_grow_11 (by decide) ?_
  refine va_put (D := G.1) (ci := 3) (v := .int 0) (ty := .int) (C := R_Tree) (T := F_Tree) (N := 11) hx hb hts i_Tree t_Tree t_Tree_ok n_Tree hown hK hP hD hS 0 rfl rfl 2 (by decide) (hts _ q100) (fun _ h9 => h9) rfl (by decide +kernel) rfl rfl (Nat.le_of_ble_eq_true rfl) d_Tree_grow_12 (fun H locs hP hD hS => ?_)
  have hP : va_P G.1 classes [(b0, .inr (3, [.int 1, .int b2, .int 0, .ref b6, .ref b7, .ref b8, .ref b9, .ref b10, .ref b11, .ref b12, .ref b13])), (b6, .inl (G.2 0, 241, .inl b14)), (b7, .inl (G.2 0, 241, .inl b15)), (b8, .inl (G.2 0, 241, .inl b16)), (b9, .inl (G.2 0, 241, .inl b17)), (b10, .inl (G.2 0, 241, .inl b18)), (b11, .inl (G.2 0, 241, .inl b19)), (b12, .inl (G.2 0, 2410, .inl b20)), (b13, .inl (G.2 0, 260, .inl b21)), (b1, .inr (2, [.int b22, .int b23, .int b24, .ref b25, .ref b26, .ref b27])), (b25, .inl (G.2 0, 20, .inl b28)), (b26, .inl (G.2 0, 240, .inl b29)), (b27, .inl (G.2 0, 240, .inl b30))] H := hP
  have hD := z_tie hP hD rfl
  refine lv_iconst (v := 0) hx hb d_Tree_grow_15 (by decide) ?_
  refine lv_istore_n (lv' := [(3, .int 0), (0, .ref b0), (1, .ref b1), (2, .int b2)]) hx hb d_Tree_grow_16 rfl hl (by decide) rfl (fun ls hl => ?_)
  suffices key : ∀ (k_181 : Nat) (y_182 : Int32) (y_183 : Int32) (y_184 : Nat → Int32) (y_185 : Nat → Int32) (y_186 : Nat → Int32) (y_187 : Nat → Int32) (y_188 : Nat → Int32) (y_189 : Nat → Int32) (y_190 : Nat → Int32) (y_191 : Nat → Int32) (H : Heap) (locs : List Loc) (ls : Array Slot), (zI y_182 0 20) → (zI y_183 0 241) → (zR y_186 (-1) 240) → (zR y_187 0 240) → (zR1 y_188 0 240) → (zR1 y_189 0 9) → (y_183.toInt ≤ 12 * y_182.toInt + 1) → (20 : Int) - y_182.toInt < (k_181 : Int) → va_P G.1 classes [(b0, .inr (3, [.int 1, .int b2, .int y_183, .ref b6, .ref b7, .ref b8, .ref b9, .ref b10, .ref b11, .ref b12, .ref b13])), (b6, .inl (G.2 0, 241, .inl y_188)), (b7, .inl (G.2 0, 241, .inl y_189)), (b8, .inl (G.2 0, 241, .inl y_190)), (b9, .inl (G.2 0, 241, .inl y_191)), (b10, .inl (G.2 0, 241, .inl y_184)), (b11, .inl (G.2 0, 241, .inl y_185)), (b12, .inl (G.2 0, 2410, .inl y_186)), (b13, .inl (G.2 0, 260, .inl y_187)), (b1, .inr (2, [.int b22, .int b23, .int b24, .ref b25, .ref b26, .ref b27])), (b25, .inl (G.2 0, 20, .inl b28)), (b26, .inl (G.2 0, 240, .inl b29)), (b27, .inl (G.2 0, 240, .inl b30))] H → va_D A [(b0, .inr (3, [.int 1, .int b2, .int y_183, .ref b6, .ref b7, .ref b8, .ref b9, .ref b10, .ref b11, .ref b12, .ref b13])), (b6, .inl (G.2 0, 241, .inl y_188)), (b7, .inl (G.2 0, 241, .inl y_189)), (b8, .inl (G.2 0, 241, .inl y_190)), (b9, .inl (G.2 0, 241, .inl y_191)), (b10, .inl (G.2 0, 241, .inl y_184)), (b11, .inl (G.2 0, 241, .inl y_185)), (b12, .inl (G.2 0, 2410, .inl y_186)), (b13, .inl (G.2 0, 260, .inl y_187)), (b1, .inr (2, [.int b22, .int b23, .int b24, .ref b25, .ref b26, .ref b27])), (b25, .inl (G.2 0, 20, .inl b28)), (b26, .inl (G.2 0, 240, .inl b29)), (b27, .inl (G.2 0, 240, .inl b30))] → va_S A s.heap H locs → lv_has ls 4 [(3, .int y_182), (0, .ref b0), (1, .ref b1), (2, .int b2)] → W p l e m_s1_Tree_grow s m ([.ref b0, .ref b1, .int b2] : List Value).toArray below meth c H locs 0 0 (MQ below (zQ G (fun v w => ∃ (e0 : Int32), ∃ (e1 : Nat → Int32), ∃ (e2 : Nat → Int32), ∃ (e3 : Nat → Int32), ∃ (e4 : Nat → Int32), ∃ (e5 : Nat → Int32), ∃ (e6 : Nat → Int32), ∃ (e7 : Nat → Int32), ∃ (e8 : Nat → Int32), v = none ∧ w = [(b0, .inr (3, [.int 1, .int b2, .int e0, .ref b6, .ref b7, .ref b8, .ref b9, .ref b10, .ref b11, .ref b12, .ref b13])), (b6, .inl (G.2 0, 241, .inl e1)), (b7, .inl (G.2 0, 241, .inl e2)), (b8, .inl (G.2 0, 241, .inl e3)), (b9, .inl (G.2 0, 241, .inl e4)), (b10, .inl (G.2 0, 241, .inl e5)), (b11, .inl (G.2 0, 241, .inl e6)), (b12, .inl (G.2 0, 2410, .inl e7)), (b13, .inl (G.2 0, 260, .inl e8)), (b1, .inr (2, [.int b22, .int b23, .int b24, .ref b25, .ref b26, .ref b27])), (b25, .inl (G.2 0, 20, .inl b28)), (b26, .inl (G.2 0, 240, .inl b29)), (b27, .inl (G.2 0, 240, .inl b30))] ∧ (zI e0 0 241) ∧ (zR1 e1 0 240) ∧ (zR1 e2 0 9) ∧ (zR e7 (-1) 240) ∧ (zR e8 0 240)) A) ([.ref b0, .ref b1, .int b2] : List Value).toArray s m_s1_Tree_grow.cells m_s1_Tree_grow.slots A) (F0 m 17 ls []) by
    exact key 21 (0) (0) (b18) (b19) (b20) (b21) (b14) (b15) (b16) (b17) _ _ _ (zI.wk (l' := 0) (h' := 20) zc_0 (by decide)) (zI.wk (l' := 0) (h' := 241) zc_0 (by decide)) hb20 hb21 hb14 hb15 (by have _l0 := li_0; have _l1 := li_0; omega) (zm_upi (zI.wk (l' := 0) (h' := 20) zc_0 (by decide)) (by decide)) hP hD hS (lv_sub hl [0, 1, 2, 3] rfl)
  intro k_181
  induction k_181 with
  | zero =>
    intro y_182 y_183 y_184 y_185 y_186 y_187 y_188 y_189 y_190 y_191 H locs ls hy_182 hy_183 hy_186 hy_187 hy_188 hy_189 hli_192 hmk_181 hP hD hS hl
    exact (zm_up0 hy_182 hmk_181).elim
  | succ k_181 ihk_181 =>
    intro y_182 y_183 y_184 y_185 y_186 y_187 y_188 y_189 y_190 y_191 H locs ls hy_182 hy_183 hy_186 hy_187 hy_188 hy_189 hli_192 hmk_181 hP hD hS hl
    refine lv_iload_n hx hb d_Tree_grow_17 rfl (lv_at hl 0 rfl) ?_
    refine lv_aload_n hx hb d_Tree_grow_18 rfl (lv_at hl 2 rfl) ?_
    refine va_get (D := G.1) (ci := 2) (v := .int b22) (C := R_Traces) (T := F_Traces) (N := 6) hx hb hts i_Traces hown hK hP 9 rfl rfl 0 (by decide) (hts _ q57) (fun _ h9 => h9) rfl d_Tree_grow_19 ?_
    refine lv_icmp_ge (tgt := 45) hx hb d_Tree_grow_22 (by decide) (fun hc_193 => ?_) (fun hc_193 => ?_)
    · have _nhc_193 := hc_193
      have ni_194 := (fa_le _ _).mp hc_193
      exact z_vret hx hb hr hlocks hP hD hS (Nat.le_of_ble_eq_true rfl) (Nat.le_of_ble_eq_true rfl) d_Tree_grow_45 ⟨y_183, y_188, y_189, y_190, y_191, y_184, y_185, y_186, y_187, rfl, rfl, hy_183, hy_188, hy_189, hy_186, hy_187⟩
    · have _nhc_193 := hc_193
      have ni_195 := (fa_lt _ _).mp (zi_nle hc_193)
      have hv_196 : zI y_182 0 19 := zI.lt_l hy_182 hb22 (zi_nle hc_193) (by decide)
      have hv_197 : zI b22 1 20 := zI.lt_r hy_182 hb22 (zi_nle hc_193) (by decide)
      refine lv_iload_n hx hb d_Tree_grow_25 rfl (lv_at hl 0 rfl) ?_
      refine lv_aload_n hx hb d_Tree_grow_26 rfl (lv_at hl 1 rfl) ?_
      refine va_get (D := G.1) (ci := 3) (v := .int b2) (C := R_Tree) (T := F_Tree) (N := 11) hx hb hts i_Tree hown hK hP 0 rfl rfl 1 (by decide) (hts _ q98) (fun _ h9 => h9) rfl d_Tree_grow_27 ?_
      refine lv_icmp_eq (tgt := 39) hx hb d_Tree_grow_30 (by decide) (fun hc_198 => ?_) (fun hc_198 => ?_)
      · have _nhc_198 := hc_198
        have ni_199 := (fa_eq _ _).mp hc_198
        have hv_200 : zI b2 0 19 := zI.eq_l hb2 hv_196 hc_198.symm
        obtain ⟨v_201, ev_201⟩ : ∃ z : Int32, z = y_182 + 1 := ⟨_, rfl⟩
        obtain ⟨qv_201, hv_201⟩ := zI_add (l := 1) (h := 20) hv_196 zc_1 ev_201 (by decide)
        rw [li_1] at qv_201
        refine lv_iinc (v := v_201) (lv' := [(3, .int v_201), (0, .ref b0), (1, .ref b1), (2, .int b2)]) hx hb d_Tree_grow_39 hl (k := 0) rfl (by rw [ev_201]; rfl) (by decide) rfl (fun ls hl => ?_)
        refine lv_goto (tgt := 17) hx hb d_Tree_grow_42 (by decide) ?_
        exact ihk_181 (v_201) (y_183) (y_184) (y_185) (y_186) (y_187) (y_188) (y_189) (y_190) (y_191) _ _ _ (zI.wk (l' := 0) (h' := 20) hv_201 (by decide)) hy_183 hy_186 hy_187 hy_188 hy_189 (by omega) (zm_up qv_201 hmk_181 (by decide)) hP hD hS (lv_sub hl [0, 1, 2, 3] rfl)
      · have _nhc_198 := hc_198
        have ni_202 := fun z => hc_198 ((fa_eq _ _).mpr z)
        refine lv_aload_n hx hb d_Tree_grow_33 rfl (lv_at hl 1 rfl) ?_
        refine lv_aload_n hx hb d_Tree_grow_34 rfl (lv_at hl 2 rfl) ?_
        refine lv_iload_n hx hb d_Tree_grow_35 rfl (lv_at hl 0 rfl) ?_
        refine z_callV (index := 52) (As := [.ref b1, .int y_182]) (rest := []) (wr := []) Z (s1_Tree_follow l G (b0) (b1) (y_182) (1) (b2) (y_183) (b6) (b7) (b8) (b9) (b10) (b11) (b12) (b13) (y_188) (y_189) (y_190) (y_191) (y_184) (y_185) (y_186) (y_187) (b22) (b23) (b24) (b25) (b26) (b27) (b28) (b29) (b30) hv_196 (zI.wk (l' := 0) (h' := 1) zc_1 (by decide)) hy_183 (zI.wk (l' := 0) (h' := 20) hv_197 (by decide)) hb23 hb24 hy_188 hy_189 hy_186 hy_187 hb28 hb29 (by omega)) hl.1 q571 q573 qs3 q4 q574 ⟨by decide, by decide, by show _ = some 2; decide +kernel⟩ ⟨Nat.le_of_ble_eq_true rfl, Nat.le_of_ble_eq_true rfl⟩ ⟨Nat.le_of_ble_eq_true rfl, Nat.le_of_ble_eq_true rfl⟩ rfl (Nat.le_of_ble_eq_true rfl) d_Tree_grow_36 hP hD hS hA 0 3 rfl rfl rfl [0, 1, 2, 3, 4, 5, 6, 7, 8, 9, 10, 11, 12] [] rfl rfl rfl rfl (by decide) (fun v w1 H locs hw_203 hP hD hS => ?_)
        obtain ⟨x_204, f_205, f_206, f_207, f_208, f_209, f_210, f_211, f_212, rfl, rfl, hx_204, hf_205, hf_206, hf_211, hf_212, hfx_213⟩ := hw_203
        have hP : va_P G.1 classes [(b0, .inr (3, [.int 1, .int b2, .int x_204, .ref b6, .ref b7, .ref b8, .ref b9, .ref b10, .ref b11, .ref b12, .ref b13])), (b6, .inl (G.2 0, 241, .inl f_205)), (b7, .inl (G.2 0, 241, .inl f_206)), (b8, .inl (G.2 0, 241, .inl f_207)), (b9, .inl (G.2 0, 241, .inl f_208)), (b10, .inl (G.2 0, 241, .inl f_209)), (b11, .inl (G.2 0, 241, .inl f_210)), (b12, .inl (G.2 0, 2410, .inl f_211)), (b13, .inl (G.2 0, 260, .inl f_212)), (b1, .inr (2, [.int b22, .int b23, .int b24, .ref b25, .ref b26, .ref b27])), (b25, .inl (G.2 0, 20, .inl b28)), (b26, .inl (G.2 0, 240, .inl b29)), (b27, .inl (G.2 0, 240, .inl b30))] H := hP
        have hD := z_tie hP hD rfl
        refine W.widen (k := 0) (n := 0) (Nat.le_of_ble_eq_true rfl) (Nat.le_of_ble_eq_true rfl) ?_
        obtain ⟨v_214, ev_214⟩ : ∃ z : Int32, z = y_182 + 1 := ⟨_, rfl⟩
        obtain ⟨qv_214, hv_214⟩ := zI_add (l := 1) (h := 20) hv_196 zc_1 ev_214 (by decide)
        rw [li_1] at qv_214
        refine lv_iinc (v := v_214) (lv' := [(3, .int v_214), (0, .ref b0), (1, .ref b1), (2, .int b2)]) hx hb d_Tree_grow_39 hl (k := 0) rfl (by rw [ev_214]; rfl) (by decide) rfl (fun ls hl => ?_)
        refine lv_goto (tgt := 17) hx hb d_Tree_grow_42 (by decide) ?_
        exact ihk_181 (v_214) (x_204) (f_209) (f_210) (f_211) (f_212) (f_205) (f_206) (f_207) (f_208) _ _ _ (zI.wk (l' := 0) (h' := 20) hv_214 (by decide)) hx_204 hf_211 hf_212 hf_205 hf_206 (by omega) (zm_up qv_214 hmk_181 (by decide)) hP hD hS (lv_sub hl [0, 1, 2, 3] rfl)
