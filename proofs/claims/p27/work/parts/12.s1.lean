theorem d_Traces_has_0 : decode prog_10_method_3_code 0 = .ok (.iload_n 1, 1) := by decide +kernel
theorem d_Traces_has_1 : decode prog_10_method_3_code 1 = .ok (.ifCond .lt 15, 3) := by decide +kernel
theorem d_Traces_has_4 : decode prog_10_method_3_code 4 = .ok (.iload_n 1, 1) := by decide +kernel
theorem d_Traces_has_5 : decode prog_10_method_3_code 5 = .ok (.aload_n 0, 1) := by decide +kernel
theorem d_Traces_has_6 : decode prog_10_method_3_code 6 = .ok (.getfield 25, 3) := by decide +kernel
theorem d_Traces_has_9 : decode prog_10_method_3_code 9 = .ok (.if_icmp .ge 7, 3) := by decide +kernel
theorem d_Traces_has_12 : decode prog_10_method_3_code 12 = .ok (.iconst 1, 1) := by decide +kernel
theorem d_Traces_has_13 : decode prog_10_method_3_code 13 = .ok (.goto 4, 3) := by decide +kernel
theorem d_Traces_has_16 : decode prog_10_method_3_code 16 = .ok (.iconst 0, 1) := by decide +kernel
theorem d_Traces_has_17 : decode prog_10_method_3_code 17 = .ok (.ireturn, 1) := by decide +kernel
theorem zc_0 : zI 0 0 0 := ⟨by decide +kernel, by decide +kernel⟩
theorem li_0 : (0 : Int32).toInt = 0 := by decide +kernel
abbrev m_s1_Traces_has : Room := { frames := 0, cells := 0, slots := 0, locals := 0 }
set_option maxHeartbeats 4000000 in
set_option maxRecDepth 100000 in
theorem s1_Traces_has (l : Launch) (G : zG) (b0 : Nat) (b1 : Int32) (b2 : Int32) (b3 : Int32) (b4 : Int32) (b5 : Nat) (b6 : Nat) (b7 : Nat) (hb2 : zI b2 0 20) (hb3 : zI b3 0 3) (hb4 : zI b4 0 20) : zM l G y_Traces_has prog_10_method_3_code 2 (Option.some Jvm.ClassFile.FieldType.boolean) m_s1_Traces_has [.ref b0, .int b1] [(b0, .inr (2, [.int b2, .int b3, .int b4, .ref b5, .ref b6, .ref b7]))] (fun v w => (v = some (.int 0) ∧ w = [(b0, .inr (2, [.int b2, .int b3, .int b4, .ref b5, .ref b6, .ref b7]))] ∧ b1.toInt < 0) ∨ (v = some (.int 0) ∧ w = [(b0, .inr (2, [.int b2, .int b3, .int b4, .ref b5, .ref b6, .ref b7]))] ∧ 0 ≤ b1.toInt ∧ b2.toInt ≤ b1.toInt) ∨ (v = some (.int 1) ∧ w = [(b0, .inr (2, [.int b2, .int b3, .int b4, .ref b5, .ref b6, .ref b7]))] ∧ 0 ≤ b1.toInt ∧ b1.toInt < b2.toInt)) := by
  refine z_start (by decide +kernel) (Nat.le_of_ble_eq_true rfl) ?_
  intro p e s m below meth c A Z hr hnm hA hP hD hS ls hl
  have Z : zC p s m _ meth c prog_10_method_3_code 2 "TraceMachines$Traces" G := Z
  obtain ⟨hx, hb, hml, hown, hts, hK, hN, hlocks⟩ := id Z
  have hl : lv_has ls 2 [(0, .ref b0), (1, .int b1)] := hl
  refine lv_iload_n hx hb d_Traces_has_0 rfl (lv_at hl 1 rfl) ?_
  refine lv_if_lt (tgt := 16) hx hb d_Traces_has_1 (by decide) (fun hc_1 => ?_) (fun hc_1 => ?_)
  · have _nhc_1 := hc_1
    have hv_2 : zI b1 (-2147483648) (-1) := zI.lt_l (zI_all b1) zc_0 hc_1 (by decide)
    refine lv_iconst (v := 0) hx hb d_Traces_has_16 (by decide) ?_
    exact z_zret hx hb hr hlocks rfl hP hD hS (Nat.le_of_ble_eq_true rfl) (Nat.le_of_ble_eq_true rfl) d_Traces_has_17 (Or.inl ⟨rfl, rfl, by simp only [fa_lt, fa_le, fa_eq, li_0] at *; omega⟩)
  · have _nhc_1 := hc_1
    have hv_3 : zI b1 0 2147483647 := zI.le_r zc_0 (zI_all b1) (zi_nlt hc_1) (by decide)
    refine lv_iload_n hx hb d_Traces_has_4 rfl (lv_at hl 1 rfl) ?_
    refine lv_aload_n hx hb d_Traces_has_5 rfl (lv_at hl 0 rfl) ?_
    refine va_get (D := G.1) (ci := 2) (v := .int b2) (C := R_Traces) (T := F_Traces) (N := 6) hx hb hts i_Traces hown hK hP 0 rfl rfl 0 (by decide) (hts _ q52) (fun _ h9 => h9) rfl d_Traces_has_6 ?_
    refine lv_icmp_ge (tgt := 16) hx hb d_Traces_has_9 (by decide) (fun hc_4 => ?_) (fun hc_4 => ?_)
    · have _nhc_4 := hc_4
      refine lv_iconst (v := 0) hx hb d_Traces_has_16 (by decide) ?_
      exact z_zret hx hb hr hlocks rfl hP hD hS (Nat.le_of_ble_eq_true rfl) (Nat.le_of_ble_eq_true rfl) d_Traces_has_17 (Or.inr (Or.inl ⟨rfl, rfl, by simp only [fa_lt, fa_le, fa_eq, li_0] at *; omega, by simp only [fa_lt, fa_le, fa_eq, li_0] at *; omega⟩))
    · have _nhc_4 := hc_4
      have hv_5 : zI b1 0 19 := zI.lt_l hv_3 hb2 (zi_nle hc_4) (by decide)
      have hv_6 : zI b2 1 20 := zI.lt_r hv_3 hb2 (zi_nle hc_4) (by decide)
      refine lv_iconst (v := 1) hx hb d_Traces_has_12 (by decide) ?_
      refine lv_goto (tgt := 17) hx hb d_Traces_has_13 (by decide) ?_
      exact z_zret hx hb hr hlocks rfl hP hD hS (Nat.le_of_ble_eq_true rfl) (Nat.le_of_ble_eq_true rfl) d_Traces_has_17 (Or.inr (Or.inr (⟨rfl, rfl, by simp only [fa_lt, fa_le, fa_eq, li_0] at *; omega, by simp only [fa_lt, fa_le, fa_eq, li_0] at *; omega⟩)))
theorem d_Traces_letterAt_0 : decode prog_10_method_4_code 0 = .ok (.aload_n 0, 1) := by decide +kernel
theorem d_Traces_letterAt_1 : decode prog_10_method_4_code 1 = .ok (.getfield 19, 3) := by decide +kernel
theorem d_Traces_letterAt_4 : decode prog_10_method_4_code 4 = .ok (.iload_n 1, 1) := by decide +kernel
theorem d_Traces_letterAt_5 : decode prog_10_method_4_code 5 = .ok (.bipush 12, 2) := by decide +kernel
theorem d_Traces_letterAt_7 : decode prog_10_method_4_code 7 = .ok (.imul, 1) := by decide +kernel
theorem d_Traces_letterAt_8 : decode prog_10_method_4_code 8 = .ok (.iload_n 2, 1) := by decide +kernel
theorem d_Traces_letterAt_9 : decode prog_10_method_4_code 9 = .ok (.iadd, 1) := by decide +kernel
theorem d_Traces_letterAt_10 : decode prog_10_method_4_code 10 = .ok (.iaload, 1) := by decide +kernel
theorem d_Traces_letterAt_11 : decode prog_10_method_4_code 11 = .ok (.ireturn, 1) := by decide +kernel
theorem zc_12 : zI 12 12 12 := ⟨by decide +kernel, by decide +kernel⟩
theorem li_12 : (12 : Int32).toInt = 12 := by decide +kernel
abbrev m_s1_Traces_letterAt : Room := { frames := 0, cells := 0, slots := 0, locals := 0 }
set_option maxHeartbeats 4000000 in
set_option maxRecDepth 100000 in
theorem s1_Traces_letterAt (l : Launch) (G : zG) (b0 : Nat) (b1 : Int32) (b2 : Int32) (b3 : Int32) (b4 : Int32) (b5 : Int32) (b6 : Nat) (b7 : Nat) (b8 : Nat) (b9 : Nat → Int32) (hb1 : zI b1 0 19) (hb2 : zI b2 0 11) (hb3 : zI b3 0 20) (hb4 : zI b4 0 3) (hb5 : zI b5 0 20) (hb9 : zR b9 0 9) : zM l G y_Traces_letterAt prog_10_method_4_code 3 (Option.some Jvm.ClassFile.FieldType.int) m_s1_Traces_letterAt [.ref b0, .int b1, .int b2] [(b0, .inr (2, [.int b3, .int b4, .int b5, .ref b6, .ref b7, .ref b8])), (b7, .inl (G.2 0, 240, .inl b9))] (fun v w => ∃ (e0 : Int32), v = some (.int e0) ∧ w = [(b0, .inr (2, [.int b3, .int b4, .int b5, .ref b6, .ref b7, .ref b8])), (b7, .inl (G.2 0, 240, .inl b9))] ∧ zI e0 0 9) := by
  refine z_start (by decide +kernel) (Nat.le_of_ble_eq_true rfl) ?_
  intro p e s m below meth c A Z hr hnm hA hP hD hS ls hl
  have Z : zC p s m _ meth c prog_10_method_4_code 3 "TraceMachines$Traces" G := Z
  obtain ⟨hx, hb, hml, hown, hts, hK, hN, hlocks⟩ := id Z
  have hl : lv_has ls 3 [(0, .ref b0), (1, .int b1), (2, .int b2)] := hl
  refine lv_aload_n hx hb d_Traces_letterAt_0 rfl (lv_at hl 0 rfl) ?_
  refine va_get (D := G.1) (ci := 2) (v := .ref b7) (C := R_Traces) (T := F_Traces) (N := 6) hx hb hts i_Traces hown hK hP 0 rfl rfl 4 (by decide) (hts _ q72) (fun _ h9 => h9) rfl d_Traces_letterAt_1 ?_
  refine lv_iload_n hx hb d_Traces_letterAt_4 rfl (lv_at hl 1 rfl) ?_
  refine lv_bipush (v := 12) hx hb d_Traces_letterAt_5 (by decide) ?_
  refine lv_imul hx hb d_Traces_letterAt_7 ?_
  refine lv_topi (fun v_1 ev_1 => ?_)
  obtain ⟨qv_1, hv_1⟩ := zI_mul (l := 0) (h := 228) hb1 zc_12 ev_1 (by decide)
  rw [li_12] at qv_1
  refine lv_iload_n hx hb d_Traces_letterAt_8 rfl (lv_at hl 2 rfl) ?_
  refine lv_iadd hx hb d_Traces_letterAt_9 ?_
  refine lv_topi (fun v_2 ev_2 => ?_)
  obtain ⟨qv_2, hv_2⟩ := zI_add (l := 0) (h := 239) hv_1 hb2 ev_2 (by decide)
  refine va_iald hx hb hK hP 1 0 rfl rfl (zI.inn hv_2 (by decide)) d_Traces_letterAt_10 ?_
  refine lv_topi (fun v_3 ev_3 => ?_)
  have hv_3 : zI v_3 0 9 := (hb9 _).eq ev_3
  exact z_iret hx hb hr hlocks hP hD hS (Nat.le_of_ble_eq_true rfl) (Nat.le_of_ble_eq_true rfl) d_Traces_letterAt_11 ⟨v_3, rfl, rfl, hv_3⟩
theorem d_Traces_valueAt_0 : decode prog_10_method_5_code 0 = .ok (.aload_n 0, 1) := by decide +kernel
theorem d_Traces_valueAt_1 : decode prog_10_method_5_code 1 = .ok (.getfield 22, 3) := by decide +kernel
theorem d_Traces_valueAt_4 : decode prog_10_method_5_code 4 = .ok (.iload_n 1, 1) := by decide +kernel
theorem d_Traces_valueAt_5 : decode prog_10_method_5_code 5 = .ok (.bipush 12, 2) := by decide +kernel
theorem d_Traces_valueAt_7 : decode prog_10_method_5_code 7 = .ok (.imul, 1) := by decide +kernel
theorem d_Traces_valueAt_8 : decode prog_10_method_5_code 8 = .ok (.iload_n 2, 1) := by decide +kernel
theorem d_Traces_valueAt_9 : decode prog_10_method_5_code 9 = .ok (.iadd, 1) := by decide +kernel
theorem d_Traces_valueAt_10 : decode prog_10_method_5_code 10 = .ok (.iaload, 1) := by decide +kernel
theorem d_Traces_valueAt_11 : decode prog_10_method_5_code 11 = .ok (.ireturn, 1) := by decide +kernel
abbrev m_s1_Traces_valueAt : Room := { frames := 0, cells := 0, slots := 0, locals := 0 }
set_option maxHeartbeats 4000000 in
set_option maxRecDepth 100000 in
theorem s1_Traces_valueAt (l : Launch) (G : zG) (b0 : Nat) (b1 : Int32) (b2 : Int32) (b3 : Int32) (b4 : Int32) (b5 : Int32) (b6 : Nat) (b7 : Nat) (b8 : Nat) (b9 : Nat → Int32) (hb1 : zI b1 0 19) (hb2 : zI b2 0 11) (hb3 : zI b3 0 20) (hb4 : zI b4 0 3) (hb5 : zI b5 0 20) : zM l G y_Traces_valueAt prog_10_method_5_code 3 (Option.some Jvm.ClassFile.FieldType.int) m_s1_Traces_valueAt [.ref b0, .int b1, .int b2] [(b0, .inr (2, [.int b3, .int b4, .int b5, .ref b6, .ref b7, .ref b8])), (b8, .inl (G.2 0, 240, .inl b9))] (fun v w => ∃ (e0 : Int32), v = some (.int e0) ∧ w = [(b0, .inr (2, [.int b3, .int b4, .int b5, .ref b6, .ref b7, .ref b8])), (b8, .inl (G.2 0, 240, .inl b9))]) := by
  refine z_start (by decide +kernel) (Nat.le_of_ble_eq_true rfl) ?_
  intro p e s m below meth c A Z hr hnm hA hP hD hS ls hl
  have Z : zC p s m _ meth c prog_10_method_5_code 3 "TraceMachines$Traces" G := Z
  obtain ⟨hx, hb, hml, hown, hts, hK, hN, hlocks⟩ := id Z
  have hl : lv_has ls 3 [(0, .ref b0), (1, .int b1), (2, .int b2)] := hl
  refine lv_aload_n hx hb d_Traces_valueAt_0 rfl (lv_at hl 0 rfl) ?_
  refine va_get (D := G.1) (ci := 2) (v := .ref b8) (C := R_Traces) (T := F_Traces) (N := 6) hx hb hts i_Traces hown hK hP 0 rfl rfl 5 (by decide) (hts _ q73) (fun _ h9 => h9) rfl d_Traces_valueAt_1 ?_
  refine lv_iload_n hx hb d_Traces_valueAt_4 rfl (lv_at hl 1 rfl) ?_
  refine lv_bipush (v := 12) hx hb d_Traces_valueAt_5 (by decide) ?_
  refine lv_imul hx hb d_Traces_valueAt_7 ?_
  refine lv_topi (fun v_1 ev_1 => ?_)
  obtain ⟨qv_1, hv_1⟩ := zI_mul (l := 0) (h := 228) hb1 zc_12 ev_1 (by decide)
  rw [li_12] at qv_1
  refine lv_iload_n hx hb d_Traces_valueAt_8 rfl (lv_at hl 2 rfl) ?_
  refine lv_iadd hx hb d_Traces_valueAt_9 ?_
  refine lv_topi (fun v_2 ev_2 => ?_)
  obtain ⟨qv_2, hv_2⟩ := zI_add (l := 0) (h := 239) hv_1 hb2 ev_2 (by decide)
  refine va_iald hx hb hK hP 1 0 rfl rfl (zI.inn hv_2 (by decide)) d_Traces_valueAt_10 ?_
  refine lv_topi (fun v_3 ev_3 => ?_)
  exact z_iret hx hb hr hlocks hP hD hS (Nat.le_of_ble_eq_true rfl) (Nat.le_of_ble_eq_true rfl) d_Traces_valueAt_11 ⟨v_3, rfl, rfl⟩
theorem d_Traces_allCalls_0 : decode prog_10_method_6_code 0 = .ok (.iconst 0, 1) := by decide +kernel
theorem d_Traces_allCalls_1 : decode prog_10_method_6_code 1 = .ok (.istore_n 1, 1) := by decide +kernel
theorem d_Traces_allCalls_2 : decode prog_10_method_6_code 2 = .ok (.iconst 0, 1) := by decide +kernel
theorem d_Traces_allCalls_3 : decode prog_10_method_6_code 3 = .ok (.istore_n 2, 1) := by decide +kernel
theorem d_Traces_allCalls_4 : decode prog_10_method_6_code 4 = .ok (.iload_n 2, 1) := by decide +kernel
theorem d_Traces_allCalls_5 : decode prog_10_method_6_code 5 = .ok (.aload_n 0, 1) := by decide +kernel
theorem d_Traces_allCalls_6 : decode prog_10_method_6_code 6 = .ok (.getfield 25, 3) := by decide +kernel
theorem d_Traces_allCalls_9 : decode prog_10_method_6_code 9 = .ok (.if_icmp .ge 18, 3) := by decide +kernel
theorem d_Traces_allCalls_12 : decode prog_10_method_6_code 12 = .ok (.iload_n 1, 1) := by decide +kernel
theorem d_Traces_allCalls_13 : decode prog_10_method_6_code 13 = .ok (.aload_n 0, 1) := by decide +kernel
theorem d_Traces_allCalls_14 : decode prog_10_method_6_code 14 = .ok (.getfield 15, 3) := by decide +kernel
theorem d_Traces_allCalls_17 : decode prog_10_method_6_code 17 = .ok (.iload_n 2, 1) := by decide +kernel
theorem d_Traces_allCalls_18 : decode prog_10_method_6_code 18 = .ok (.iaload, 1) := by decide +kernel
theorem d_Traces_allCalls_19 : decode prog_10_method_6_code 19 = .ok (.iadd, 1) := by decide +kernel
theorem d_Traces_allCalls_20 : decode prog_10_method_6_code 20 = .ok (.istore_n 1, 1) := by decide +kernel
theorem d_Traces_allCalls_21 : decode prog_10_method_6_code 21 = .ok (.iinc 2 1, 3) := by decide +kernel
theorem d_Traces_allCalls_24 : decode prog_10_method_6_code 24 = .ok (.goto (-20), 3) := by decide +kernel
theorem d_Traces_allCalls_27 : decode prog_10_method_6_code 27 = .ok (.iload_n 1, 1) := by decide +kernel
theorem d_Traces_allCalls_28 : decode prog_10_method_6_code 28 = .ok (.ireturn, 1) := by decide +kernel
theorem zc_1 : zI 1 1 1 := ⟨by decide +kernel, by decide +kernel⟩
theorem li_1 : (1 : Int32).toInt = 1 := by decide +kernel
abbrev m_s1_Traces_allCalls : Room := { frames := 0, cells := 0, slots := 0, locals := 0 }
set_option maxHeartbeats 4000000 in
set_option maxRecDepth 100000 in
theorem s1_Traces_allCalls (l : Launch) (G : zG) (b0 : Nat) (b1 : Int32) (b2 : Int32) (b3 : Int32) (b4 : Nat) (b5 : Nat) (b6 : Nat) (b7 : Nat → Int32) (hb1 : zI b1 0 20) (hb2 : zI b2 0 3) (hb3 : zI b3 0 20) (hb7 : zR b7 0 12) : zM l G y_Traces_allCalls prog_10_method_6_code 3 (Option.some Jvm.ClassFile.FieldType.int) m_s1_Traces_allCalls [.ref b0] [(b0, .inr (2, [.int b1, .int b2, .int b3, .ref b4, .ref b5, .ref b6])), (b4, .inl (G.2 0, 20, .inl b7))] (fun v w => ∃ (e0 : Int32), v = some (.int e0) ∧ w = [(b0, .inr (2, [.int b1, .int b2, .int b3, .ref b4, .ref b5, .ref b6])), (b4, .inl (G.2 0, 20, .inl b7))]) := by
  refine z_start (by decide +kernel) (Nat.le_of_ble_eq_true rfl) ?_
  intro p e s m below meth c A Z hr hnm hA hP hD hS ls hl
  have Z : zC p s m _ meth c prog_10_method_6_code 3 "TraceMachines$Traces" G := Z
  obtain ⟨hx, hb, hml, hown, hts, hK, hN, hlocks⟩ := id Z
  have hl : lv_has ls 3 [(0, .ref b0)] := hl
  refine lv_iconst (v := 0) hx hb d_Traces_allCalls_0 (by decide) ?_
  refine lv_istore_n (lv' := [(1, .int 0), (0, .ref b0)]) hx hb d_Traces_allCalls_1 rfl hl (by decide) rfl (fun ls hl => ?_)
  refine lv_iconst (v := 0) hx hb d_Traces_allCalls_2 (by decide) ?_
  refine lv_istore_n (lv' := [(2, .int 0), (1, .int 0), (0, .ref b0)]) hx hb d_Traces_allCalls_3 rfl hl (by decide) rfl (fun ls hl => ?_)
  suffices key : ∀ (k_46 : Nat) (y_47 : Int32) (y_48 : Int32) (H : Heap) (locs : List Loc) (ls : Array Slot), (zI y_47 0 20) → (20 : Int) - y_47.toInt < (k_46 : Int) → va_P G.1 classes [(b0, .inr (2, [.int b1, .int b2, .int b3, .ref b4, .ref b5, .ref b6])), (b4, .inl (G.2 0, 20, .inl b7))] H → va_D A [(b0, .inr (2, [.int b1, .int b2, .int b3, .ref b4, .ref b5, .ref b6])), (b4, .inl (G.2 0, 20, .inl b7))] → va_S A s.heap H locs → lv_has ls 3 [(2, .int y_47), (1, .int y_48), (0, .ref b0)] → W p l e m_s1_Traces_allCalls s m ([.ref b0] : List Value).toArray below meth c H locs 0 0 (MQ below (zQ G (fun v w => ∃ (e0 : Int32), v = some (.int e0) ∧ w = [(b0, .inr (2, [.int b1, .int b2, .int b3, .ref b4, .ref b5, .ref b6])), (b4, .inl (G.2 0, 20, .inl b7))]) A) ([.ref b0] : List Value).toArray s m_s1_Traces_allCalls.cells m_s1_Traces_allCalls.slots A) (F0 m 4 ls []) by
    exact key 21 (0) (0) _ _ _ (zI.wk (l' := 0) (h' := 20) zc_0 (by decide)) (zm_upi (zI.wk (l' := 0) (h' := 20) zc_0 (by decide)) (by decide)) hP hD hS (lv_sub hl [0, 1, 2] rfl)
  intro k_46
  induction k_46 with
  | zero =>
    intro y_47 y_48 H locs ls hy_47 hmk hP hD hS hl
    exact (zm_up0 hy_47 hmk).elim
  | succ k_46 ih =>
    intro y_47 y_48 H locs ls hy_47 hmk hP hD hS hl
    refine lv_iload_n hx hb d_Traces_allCalls_4 rfl (lv_at hl 0 rfl) ?_
    refine lv_aload_n hx hb d_Traces_allCalls_5 rfl (lv_at hl 2 rfl) ?_
    refine va_get (D := G.1) (ci := 2) (v := .int b1) (C := R_Traces) (T := F_Traces) (N := 6) hx hb hts i_Traces hown hK hP 0 rfl rfl 0 (by decide) (hts _ q52) (fun _ h9 => h9) rfl d_Traces_allCalls_6 ?_
    refine lv_icmp_ge (tgt := 27) hx hb d_Traces_allCalls_9 (by decide) (fun hc_49 => ?_) (fun hc_49 => ?_)
    · have _nhc_49 := hc_49
      refine lv_iload_n hx hb d_Traces_allCalls_27 rfl (lv_at hl 1 rfl) ?_
      exact z_iret hx hb hr hlocks hP hD hS (Nat.le_of_ble_eq_true rfl) (Nat.le_of_ble_eq_true rfl) d_Traces_allCalls_28 ⟨y_48, rfl, rfl⟩
    · have _nhc_49 := hc_49
      have hv_50 : zI y_47 0 19 := zI.lt_l hy_47 hb1 (zi_nle hc_49) (by decide)
      have hv_51 : zI b1 1 20 := zI.lt_r hy_47 hb1 (zi_nle hc_49) (by decide)
      refine lv_iload_n hx hb d_Traces_allCalls_12 rfl (lv_at hl 1 rfl) ?_
      refine lv_aload_n hx hb d_Traces_allCalls_13 rfl (lv_at hl 2 rfl) ?_
      refine va_get (D := G.1) (ci := 2) (v := .ref b4) (C := R_Traces) (T := F_Traces) (N := 6) hx hb hts i_Traces hown hK hP 0 rfl rfl 3 (by decide) (hts _ q63) (fun _ h9 => h9) rfl d_Traces_allCalls_14 ?_
      refine lv_iload_n hx hb d_Traces_allCalls_17 rfl (lv_at hl 0 rfl) ?_
      refine va_iald hx hb hK hP 1 0 rfl rfl (zI.inn hv_50 (by decide)) d_Traces_allCalls_18 ?_
      refine lv_topi (fun v_52 ev_52 => ?_)
      have hv_52 : zI v_52 0 12 := (hb7 _).eq ev_52
      refine lv_iadd hx hb d_Traces_allCalls_19 ?_
      refine lv_topi (fun v_53 ev_53 => ?_)
      refine lv_istore_n (lv' := [(1, .int v_53), (2, .int y_47), (0, .ref b0)]) hx hb d_Traces_allCalls_20 rfl hl (by decide) rfl (fun ls hl => ?_)
      obtain ⟨v_54, ev_54⟩ : ∃ z : Int32, z = y_47 + 1 := ⟨_, rfl⟩
      obtain ⟨qv_54, hv_54⟩ := zI_add (l := 1) (h := 20) hv_50 zc_1 ev_54 (by decide)
      rw [li_1] at qv_54
      refine lv_iinc (v := v_54) (lv' := [(2, .int v_54), (1, .int v_53), (0, .ref b0)]) hx hb d_Traces_allCalls_21 hl (k := 1) rfl (by rw [ev_54]; rfl) (by decide) rfl (fun ls hl => ?_)
      refine lv_goto (tgt := 4) hx hb d_Traces_allCalls_24 (by decide) ?_
      exact ih (v_54) (v_53) _ _ _ (zI.wk (l' := 0) (h' := 20) hv_54 (by decide)) (zm_up qv_54 hmk (by decide)) hP hD hS (lv_sub hl [0, 1, 2] rfl)
theorem d_Traces_open_0 : decode prog_10_method_7_code 0 = .ok (.aload_n 0, 1) := by decide +kernel
theorem d_Traces_open_1 : decode prog_10_method_7_code 1 = .ok (.getfield 25, 3) := by decide +kernel
theorem d_Traces_open_4 : decode prog_10_method_7_code 4 = .ok (.bipush 20, 2) := by decide +kernel
theorem d_Traces_open_6 : decode prog_10_method_7_code 6 = .ok (.if_icmp .ne 5, 3) := by decide +kernel
theorem d_Traces_open_9 : decode prog_10_method_7_code 9 = .ok (.iconst 0, 1) := by decide +kernel
theorem d_Traces_open_10 : decode prog_10_method_7_code 10 = .ok (.ireturn, 1) := by decide +kernel
theorem d_Traces_open_11 : decode prog_10_method_7_code 11 = .ok (.aload_n 0, 1) := by decide +kernel
theorem d_Traces_open_12 : decode prog_10_method_7_code 12 = .ok (.getfield 15, 3) := by decide +kernel
theorem d_Traces_open_15 : decode prog_10_method_7_code 15 = .ok (.aload_n 0, 1) := by decide +kernel
theorem d_Traces_open_16 : decode prog_10_method_7_code 16 = .ok (.getfield 25, 3) := by decide +kernel
theorem d_Traces_open_19 : decode prog_10_method_7_code 19 = .ok (.iconst 0, 1) := by decide +kernel
theorem d_Traces_open_20 : decode prog_10_method_7_code 20 = .ok (.iastore, 1) := by decide +kernel
theorem d_Traces_open_21 : decode prog_10_method_7_code 21 = .ok (.aload_n 0, 1) := by decide +kernel
theorem d_Traces_open_22 : decode prog_10_method_7_code 22 = .ok (.dup, 1) := by decide +kernel
theorem d_Traces_open_23 : decode prog_10_method_7_code 23 = .ok (.getfield 25, 3) := by decide +kernel
theorem d_Traces_open_26 : decode prog_10_method_7_code 26 = .ok (.iconst 1, 1) := by decide +kernel
theorem d_Traces_open_27 : decode prog_10_method_7_code 27 = .ok (.iadd, 1) := by decide +kernel
theorem d_Traces_open_28 : decode prog_10_method_7_code 28 = .ok (.putfield 25, 3) := by decide +kernel
theorem d_Traces_open_31 : decode prog_10_method_7_code 31 = .ok (.iconst 1, 1) := by decide +kernel
theorem d_Traces_open_32 : decode prog_10_method_7_code 32 = .ok (.ireturn, 1) := by decide +kernel
theorem zc_20 : zI 20 20 20 := ⟨by decide +kernel, by decide +kernel⟩
abbrev m_s1_Traces_open : Room := { frames := 0, cells := 0, slots := 0, locals := 0 }
set_option maxHeartbeats 4000000 in
set_option maxRecDepth 100000 in
theorem s1_Traces_open (l : Launch) (G : zG) (b0 : Nat) (b1 : Int32) (b2 : Int32) (b3 : Int32) (b4 : Nat) (b5 : Nat) (b6 : Nat) (b7 : Nat → Int32) (hb1 : zI b1 0 20) (hb2 : zI b2 0 3) (hb3 : zI b3 0 20) (hb7 : zR b7 0 12) : zM l G y_Traces_open prog_10_method_7_code 1 (Option.some Jvm.ClassFile.FieldType.boolean) m_s1_Traces_open [.ref b0] [(b0, .inr (2, [.int b1, .int b2, .int b3, .ref b4, .ref b5, .ref b6])), (b4, .inl (G.2 0, 20, .inl b7))] (fun v w => ∃ (e0 : Int32), ∃ (e1 : Int32), ∃ (e2 : Nat → Int32), v = some (.int e0) ∧ w = [(b0, .inr (2, [.int e1, .int b2, .int b3, .ref b4, .ref b5, .ref b6])), (b4, .inl (G.2 0, 20, .inl e2))] ∧ zI e0 0 1 ∧ zI e1 0 20 ∧ zR e2 0 12) := by
  refine z_start (by decide +kernel) (Nat.le_of_ble_eq_true rfl) ?_
  intro p e s m below meth c A Z hr hnm hA hP hD hS ls hl
  have Z : zC p s m _ meth c prog_10_method_7_code 1 "TraceMachines$Traces" G := Z
  obtain ⟨hx, hb, hml, hown, hts, hK, hN, hlocks⟩ := id Z
  have hl : lv_has ls 1 [(0, .ref b0)] := hl
  refine lv_aload_n hx hb d_Traces_open_0 rfl (lv_at hl 0 rfl) ?_
  refine va_get (D := G.1) (ci := 2) (v := .int b1) (C := R_Traces) (T := F_Traces) (N := 6) hx hb hts i_Traces hown hK hP 0 rfl rfl 0 (by decide) (hts _ q52) (fun _ h9 => h9) rfl d_Traces_open_1 ?_
  refine lv_bipush (v := 20) hx hb d_Traces_open_4 (by decide) ?_
  refine lv_icmp_ne (tgt := 11) hx hb d_Traces_open_6 (by decide) (fun hc_1 => ?_) (fun hc_1 => ?_)
  · have _nhc_1 := hc_1
    have hv_2 : zI b1 0 19 := zI.ne_hi hb1 zc_20 hc_1 (by decide)
    refine lv_aload_n hx hb d_Traces_open_11 rfl (lv_at hl 0 rfl) ?_
    refine va_get (D := G.1) (ci := 2) (v := .ref b4) (C := R_Traces) (T := F_Traces) (N := 6) hx hb hts i_Traces hown hK hP 0 rfl rfl 3 (by decide) (hts _ q63) (fun _ h9 => h9) rfl d_Traces_open_12 ?_
    refine lv_aload_n hx hb d_Traces_open_15 rfl (lv_at hl 0 rfl) ?_
    refine va_get (D := G.1) (ci := 2) (v := .int b1) (C := R_Traces) (T := F_Traces) (N := 6) hx hb hts i_Traces hown hK hP 0 rfl rfl 0 (by decide) (hts _ q52) (fun _ h9 => h9) rfl d_Traces_open_16 ?_
    refine lv_iconst (v := 0) hx hb d_Traces_open_19 (by decide) ?_
    refine va_iast hx hb hK hP hD hS 1 0 rfl rfl (zI.inn hv_2 (by decide)) d_Traces_open_20 (fun H locs hP hD hS => ?_)
    obtain ⟨f_3, hf_3, hP, hD⟩ := z_newf 1 hP hD rfl (zR.upd hb7 (zI.wk (l' := 0) (h' := 12) zc_0 (by decide)))
    have hP : va_P G.1 classes [(b0, .inr (2, [.int b1, .int b2, .int b3, .ref b4, .ref b5, .ref b6])), (b4, .inl (G.2 0, 20, .inl f_3))] H := hP
    have hD := z_tie hP hD rfl
    refine lv_aload_n hx hb d_Traces_open_21 rfl (lv_at hl 0 rfl) ?_
    refine lv_dup hx hb d_Traces_open_22 rfl ?_
    refine va_get (D := G.1) (ci := 2) (v := .int b1) (C := R_Traces) (T := F_Traces) (N := 6) hx hb hts i_Traces hown hK hP 0 rfl rfl 0 (by decide) (hts _ q52) (fun _ h9 => h9) rfl d_Traces_open_23 ?_
    refine lv_iconst (v := 1) hx hb d_Traces_open_26 (by decide) ?_
    refine lv_iadd hx hb d_Traces_open_27 ?_
    refine lv_topi (fun v_4 ev_4 => ?_)
    obtain ⟨qv_4, hv_4⟩ := zI_add (l := 1) (h := 20) hv_2 zc_1 ev_4 (by decide)
    rw [li_1] at qv_4
    refine va_put (D := G.1) (ci := 2) (v := .int v_4) (ty := .int) (C := R_Traces) (T := F_Traces) (N := 6) hx hb hts i_Traces t_Traces t_Traces_ok n_Traces hown hK hP hD hS 0 rfl rfl 0 (by decide) (hts _ q52) (fun _ h9 => h9) rfl (by decide +kernel) rfl rfl (Nat.le_of_ble_eq_true rfl) d_Traces_open_28 (fun H locs hP hD hS => ?_)
    have hP : va_P G.1 classes [(b0, .inr (2, [.int v_4, .int b2, .int b3, .ref b4, .ref b5, .ref b6])), (b4, .inl (G.2 0, 20, .inl f_3))] H := hP
    have hD := z_tie hP hD rfl
    refine lv_iconst (v := 1) hx hb d_Traces_open_31 (by decide) ?_
    exact z_zret hx hb hr hlocks rfl hP hD hS (Nat.le_of_ble_eq_true rfl) (Nat.le_of_ble_eq_true rfl) d_Traces_open_32 ⟨1, v_4, f_3, rfl, rfl, (zI.wk (l' := 0) (h' := 1) zc_1 (by decide)), (zI.wk (l' := 0) (h' := 20) hv_4 (by decide)), hf_3⟩
  · have _nhc_1 := hc_1
    have hv_5 : zI b1 20 20 := zI.eq_l hb1 zc_20 hc_1
    refine lv_iconst (v := 0) hx hb d_Traces_open_9 (by decide) ?_
    exact z_zret hx hb hr hlocks rfl hP hD hS (Nat.le_of_ble_eq_true rfl) (Nat.le_of_ble_eq_true rfl) d_Traces_open_10 ⟨0, b1, b7, rfl, rfl, (zI.wk (l' := 0) (h' := 1) zc_0 (by decide)), (zI.wk (l' := 0) (h' := 20) hv_5 (by decide)), hb7⟩
theorem d_Traces_add_0 : decode prog_10_method_8_code 0 = .ok (.aload_n 0, 1) := by decide +kernel
theorem d_Traces_add_1 : decode prog_10_method_8_code 1 = .ok (.getfield 25, 3) := by decide +kernel
theorem d_Traces_add_4 : decode prog_10_method_8_code 4 = .ok (.iconst 1, 1) := by decide +kernel
theorem d_Traces_add_5 : decode prog_10_method_8_code 5 = .ok (.isub, 1) := by decide +kernel
theorem d_Traces_add_6 : decode prog_10_method_8_code 6 = .ok (.istore_n 2, 1) := by decide +kernel
theorem d_Traces_add_7 : decode prog_10_method_8_code 7 = .ok (.iload_n 2, 1) := by decide +kernel
theorem d_Traces_add_8 : decode prog_10_method_8_code 8 = .ok (.ifCond .lt 14, 3) := by decide +kernel
theorem d_Traces_add_11 : decode prog_10_method_8_code 11 = .ok (.aload_n 0, 1) := by decide +kernel
theorem d_Traces_add_12 : decode prog_10_method_8_code 12 = .ok (.getfield 15, 3) := by decide +kernel
theorem d_Traces_add_15 : decode prog_10_method_8_code 15 = .ok (.iload_n 2, 1) := by decide +kernel
theorem d_Traces_add_16 : decode prog_10_method_8_code 16 = .ok (.iaload, 1) := by decide +kernel
theorem d_Traces_add_17 : decode prog_10_method_8_code 17 = .ok (.bipush 12, 2) := by decide +kernel
theorem d_Traces_add_19 : decode prog_10_method_8_code 19 = .ok (.if_icmp .ne 5, 3) := by decide +kernel
theorem d_Traces_add_22 : decode prog_10_method_8_code 22 = .ok (.iconst 0, 1) := by decide +kernel
theorem d_Traces_add_23 : decode prog_10_method_8_code 23 = .ok (.ireturn, 1) := by decide +kernel
theorem d_Traces_add_24 : decode prog_10_method_8_code 24 = .ok (.iload_n 2, 1) := by decide +kernel
theorem d_Traces_add_25 : decode prog_10_method_8_code 25 = .ok (.bipush 12, 2) := by decide +kernel
theorem d_Traces_add_27 : decode prog_10_method_8_code 27 = .ok (.imul, 1) := by decide +kernel
theorem d_Traces_add_28 : decode prog_10_method_8_code 28 = .ok (.aload_n 0, 1) := by decide +kernel
theorem d_Traces_add_29 : decode prog_10_method_8_code 29 = .ok (.getfield 15, 3) := by decide +kernel
theorem d_Traces_add_32 : decode prog_10_method_8_code 32 = .ok (.iload_n 2, 1) := by decide +kernel
theorem d_Traces_add_33 : decode prog_10_method_8_code 33 = .ok (.iaload, 1) := by decide +kernel
theorem d_Traces_add_34 : decode prog_10_method_8_code 34 = .ok (.iadd, 1) := by decide +kernel
theorem d_Traces_add_35 : decode prog_10_method_8_code 35 = .ok (.istore_n 3, 1) := by decide +kernel
theorem d_Traces_add_36 : decode prog_10_method_8_code 36 = .ok (.aload_n 0, 1) := by decide +kernel
theorem d_Traces_add_37 : decode prog_10_method_8_code 37 = .ok (.getfield 19, 3) := by decide +kernel
theorem d_Traces_add_40 : decode prog_10_method_8_code 40 = .ok (.iload_n 3, 1) := by decide +kernel
theorem d_Traces_add_41 : decode prog_10_method_8_code 41 = .ok (.iload_n 1, 1) := by decide +kernel
theorem d_Traces_add_42 : decode prog_10_method_8_code 42 = .ok (.iastore, 1) := by decide +kernel
theorem d_Traces_add_43 : decode prog_10_method_8_code 43 = .ok (.aload_n 0, 1) := by decide +kernel
theorem d_Traces_add_44 : decode prog_10_method_8_code 44 = .ok (.getfield 22, 3) := by decide +kernel
theorem d_Traces_add_47 : decode prog_10_method_8_code 47 = .ok (.iload_n 3, 1) := by decide +kernel
theorem d_Traces_add_48 : decode prog_10_method_8_code 48 = .ok (.iconst 0, 1) := by decide +kernel
theorem d_Traces_add_49 : decode prog_10_method_8_code 49 = .ok (.iastore, 1) := by decide +kernel
theorem d_Traces_add_50 : decode prog_10_method_8_code 50 = .ok (.aload_n 0, 1) := by decide +kernel
theorem d_Traces_add_51 : decode prog_10_method_8_code 51 = .ok (.getfield 15, 3) := by decide +kernel
theorem d_Traces_add_54 : decode prog_10_method_8_code 54 = .ok (.iload_n 2, 1) := by decide +kernel
theorem d_Traces_add_55 : decode prog_10_method_8_code 55 = .ok (.dup2, 1) := by decide +kernel
theorem d_Traces_add_56 : decode prog_10_method_8_code 56 = .ok (.iaload, 1) := by decide +kernel
theorem d_Traces_add_57 : decode prog_10_method_8_code 57 = .ok (.iconst 1, 1) := by decide +kernel
theorem d_Traces_add_58 : decode prog_10_method_8_code 58 = .ok (.iadd, 1) := by decide +kernel
theorem d_Traces_add_59 : decode prog_10_method_8_code 59 = .ok (.iastore, 1) := by decide +kernel
theorem d_Traces_add_60 : decode prog_10_method_8_code 60 = .ok (.iconst 1, 1) := by decide +kernel
theorem d_Traces_add_61 : decode prog_10_method_8_code 61 = .ok (.ireturn, 1) := by decide +kernel
abbrev m_s1_Traces_add : Room := { frames := 0, cells := 0, slots := 0, locals := 0 }
set_option maxHeartbeats 4000000 in
set_option maxRecDepth 100000 in
theorem s1_Traces_add (l : Launch) (G : zG) (b0 : Nat) (b1 : Int32) (b2 : Int32) (b3 : Int32) (b4 : Int32) (b5 : Nat) (b6 : Nat) (b7 : Nat) (b8 : Nat → Int32) (b9 : Nat → Int32) (b10 : Nat → Int32) (hb1 : zI b1 0 9) (hb2 : zI b2 0 20) (hb3 : zI b3 0 3) (hb4 : zI b4 0 20) (hb8 : zR b8 0 12) (hb9 : zR b9 0 9) : zM l G y_Traces_add prog_10_method_8_code 4 (Option.some Jvm.ClassFile.FieldType.boolean) m_s1_Traces_add [.ref b0, .int b1] [(b0, .inr (2, [.int b2, .int b3, .int b4, .ref b5, .ref b6, .ref b7])), (b5, .inl (G.2 0, 20, .inl b8)), (b6, .inl (G.2 0, 240, .inl b9)), (b7, .inl (G.2 0, 240, .inl b10))] (fun v w => ∃ (e0 : Int32), ∃ (e1 : Nat → Int32), ∃ (e2 : Nat → Int32), ∃ (e3 : Nat → Int32), v = some (.int e0) ∧ w = [(b0, .inr (2, [.int b2, .int b3, .int b4, .ref b5, .ref b6, .ref b7])), (b5, .inl (G.2 0, 20, .inl e1)), (b6, .inl (G.2 0, 240, .inl e2)), (b7, .inl (G.2 0, 240, .inl e3))] ∧ zI e0 0 1 ∧ zR e1 0 12 ∧ zR e2 0 9) := by
  refine z_start (by decide +kernel) (Nat.le_of_ble_eq_true rfl) ?_
  intro p e s m below meth c A Z hr hnm hA hP hD hS ls hl
  have Z : zC p s m _ meth c prog_10_method_8_code 4 "TraceMachines$Traces" G := Z
  obtain ⟨hx, hb, hml, hown, hts, hK, hN, hlocks⟩ := id Z
  have hl : lv_has ls 4 [(0, .ref b0), (1, .int b1)] := hl
  refine lv_aload_n hx hb d_Traces_add_0 rfl (lv_at hl 0 rfl) ?_
  refine va_get (D := G.1) (ci := 2) (v := .int b2) (C := R_Traces) (T := F_Traces) (N := 6) hx hb hts i_Traces hown hK hP 0 rfl rfl 0 (by decide) (hts _ q52) (fun _ h9 => h9) rfl d_Traces_add_1 ?_
  refine lv_iconst (v := 1) hx hb d_Traces_add_4 (by decide) ?_
  refine lv_isub hx hb d_Traces_add_5 ?_
  refine lv_topi (fun v_1 ev_1 => ?_)
  obtain ⟨qv_1, hv_1⟩ := zI_sub (l := -1) (h := 19) hb2 zc_1 ev_1 (by decide)
  rw [li_1] at qv_1
  refine lv_istore_n (lv' := [(2, .int v_1), (0, .ref b0), (1, .int b1)]) hx hb d_Traces_add_6 rfl hl (by decide) rfl (fun ls hl => ?_)
  refine lv_iload_n hx hb d_Traces_add_7 rfl (lv_at hl 0 rfl) ?_
  refine lv_if_lt (tgt := 22) hx hb d_Traces_add_8 (by decide) (fun hc_2 => ?_) (fun hc_2 => ?_)
  · have _nhc_2 := hc_2
    have hv_3 : zI v_1 (-1) (-1) := zI.lt_l hv_1 zc_0 hc_2 (by decide)
    refine lv_iconst (v := 0) hx hb d_Traces_add_22 (by decide) ?_
    exact z_zret hx hb hr hlocks rfl hP hD hS (Nat.le_of_ble_eq_true rfl) (Nat.le_of_ble_eq_true rfl) d_Traces_add_23 ⟨0, b8, b9, b10, rfl, rfl, (zI.wk (l' := 0) (h' := 1) zc_0 (by decide)), hb8, hb9⟩
  · have _nhc_2 := hc_2
    have hv_4 : zI v_1 0 19 := zI.le_r zc_0 hv_1 (zi_nlt hc_2) (by decide)
    refine lv_aload_n hx hb d_Traces_add_11 rfl (lv_at hl 1 rfl) ?_
    refine va_get (D := G.1) (ci := 2) (v := .ref b5) (C := R_Traces) (T := F_Traces) (N := 6) hx hb hts i_Traces hown hK hP 0 rfl rfl 3 (by decide) (hts _ q63) (fun _ h9 => h9) rfl d_Traces_add_12 ?_
    refine lv_iload_n hx hb d_Traces_add_15 rfl (lv_at hl 0 rfl) ?_
    refine va_iald hx hb hK hP 1 0 rfl rfl (zI.inn hv_4 (by decide)) d_Traces_add_16 ?_
    refine lv_topi (fun v_5 ev_5 => ?_)
    have hv_5 : zI v_5 0 12 := (hb8 _).eq ev_5
    refine lv_bipush (v := 12) hx hb d_Traces_add_17 (by decide) ?_
    refine lv_icmp_ne (tgt := 24) hx hb d_Traces_add_19 (by decide) (fun hc_6 => ?_) (fun hc_6 => ?_)
    · have _nhc_6 := hc_6
      have hv_7 : zI v_5 0 11 := zI.ne_hi hv_5 zc_12 hc_6 (by decide)
      refine lv_iload_n hx hb d_Traces_add_24 rfl (lv_at hl 0 rfl) ?_
      refine lv_bipush (v := 12) hx hb d_Traces_add_25 (by decide) ?_
      refine lv_imul hx hb d_Traces_add_27 ?_
      refine lv_topi (fun v_8 ev_8 => ?_)
      obtain ⟨qv_8, hv_8⟩ := zI_mul (l := 0) (h := 228) hv_4 zc_12 ev_8 (by decide)
      rw [li_12] at qv_8
      refine lv_aload_n hx hb d_Traces_add_28 rfl (lv_at hl 1 rfl) ?_
      refine va_get (D := G.1) (ci := 2) (v := .ref b5) (C := R_Traces) (T := F_Traces) (N := 6) hx hb hts i_Traces hown hK hP 0 rfl rfl 3 (by decide) (hts _ q63) (fun _ h9 => h9) rfl d_Traces_add_29 ?_
      refine lv_iload_n hx hb d_Traces_add_32 rfl (lv_at hl 0 rfl) ?_
      refine va_iald hx hb hK hP 1 0 rfl rfl (zI.inn hv_4 (by decide)) d_Traces_add_33 ?_
      refine lv_topi (fun v_9 ev_9 => ?_)
      obtain rfl : v_5 = v_9 := ev_5.trans ev_9.symm
      refine lv_iadd hx hb d_Traces_add_34 ?_
      refine lv_topi (fun v_10 ev_10 => ?_)
      obtain ⟨qv_10, hv_10⟩ := zI_add (l := 0) (h := 239) hv_8 hv_7 ev_10 (by decide)
      refine lv_istore_n (lv' := [(3, .int v_10), (2, .int v_1), (0, .ref b0), (1, .int b1)]) hx hb d_Traces_add_35 rfl hl (by decide) rfl (fun ls hl => ?_)
      refine lv_aload_n hx hb d_Traces_add_36 rfl (lv_at hl 2 rfl) ?_
      refine va_get (D := G.1) (ci := 2) (v := .ref b6) (C := R_Traces) (T := F_Traces) (N := 6) hx hb hts i_Traces hown hK hP 0 rfl rfl 4 (by decide) (hts _ q72) (fun _ h9 => h9) rfl d_Traces_add_37 ?_
      refine lv_iload_n hx hb d_Traces_add_40 rfl (lv_at hl 0 rfl) ?_
      refine lv_iload_n hx hb d_Traces_add_41 rfl (lv_at hl 3 rfl) ?_
      refine va_iast hx hb hK hP hD hS 2 0 rfl rfl (zI.inn hv_10 (by decide)) d_Traces_add_42 (fun H locs hP hD hS => ?_)
      obtain ⟨f_11, hf_11, hP, hD⟩ := z_newf 2 hP hD rfl (zR.upd hb9 hb1)
      have hP : va_P G.1 classes [(b0, .inr (2, [.int b2, .int b3, .int b4, .ref b5, .ref b6, .ref b7])), (b5, .inl (G.2 0, 20, .inl b8)), (b6, .inl (G.2 0, 240, .inl f_11)), (b7, .inl (G.2 0, 240, .inl b10))] H := hP
      have hD := z_tie hP hD rfl
      refine lv_aload_n hx hb d_Traces_add_43 rfl (lv_at hl 2 rfl) ?_
      refine va_get (D := G.1) (ci := 2) (v := .ref b7) (C := R_Traces) (T := F_Traces) (N := 6) hx hb hts i_Traces hown hK hP 0 rfl rfl 5 (by decide) (hts _ q73) (fun _ h9 => h9) rfl d_Traces_add_44 ?_
      refine lv_iload_n hx hb d_Traces_add_47 rfl (lv_at hl 0 rfl) ?_
      refine lv_iconst (v := 0) hx hb d_Traces_add_48 (by decide) ?_
      refine va_iast hx hb hK hP hD hS 3 0 rfl rfl (zI.inn hv_10 (by decide)) d_Traces_add_49 (fun H locs hP hD hS => ?_)
      obtain ⟨f_12, hP, hD⟩ := z_newF 3 hP hD rfl
      have hP : va_P G.1 classes [(b0, .inr (2, [.int b2, .int b3, .int b4, .ref b5, .ref b6, .ref b7])), (b5, .inl (G.2 0, 20, .inl b8)), (b6, .inl (G.2 0, 240, .inl f_11)), (b7, .inl (G.2 0, 240, .inl f_12))] H := hP
      have hD := z_tie hP hD rfl
      refine lv_aload_n hx hb d_Traces_add_50 rfl (lv_at hl 2 rfl) ?_
      refine va_get (D := G.1) (ci := 2) (v := .ref b5) (C := R_Traces) (T := F_Traces) (N := 6) hx hb hts i_Traces hown hK hP 0 rfl rfl 3 (by decide) (hts _ q63) (fun _ h9 => h9) rfl d_Traces_add_51 ?_
      refine lv_iload_n hx hb d_Traces_add_54 rfl (lv_at hl 1 rfl) ?_
      refine lv_dup2_11 hx hb d_Traces_add_55 rfl rfl ?_
      refine va_iald hx hb hK hP 1 0 rfl rfl (zI.inn hv_4 (by decide)) d_Traces_add_56 ?_
      refine lv_topi (fun v_13 ev_13 => ?_)
      obtain rfl : v_5 = v_13 := ev_5.trans ev_13.symm
      refine lv_iconst (v := 1) hx hb d_Traces_add_57 (by decide) ?_
      refine lv_iadd hx hb d_Traces_add_58 ?_
      refine lv_topi (fun v_14 ev_14 => ?_)
      obtain ⟨qv_14, hv_14⟩ := zI_add (l := 1) (h := 12) hv_7 zc_1 ev_14 (by decide)
      rw [li_1] at qv_14
      refine va_iast hx hb hK hP hD hS 1 0 rfl rfl (zI.inn hv_4 (by decide)) d_Traces_add_59 (fun H locs hP hD hS => ?_)
      obtain ⟨f_15, hf_15, hP, hD⟩ := z_newf 1 hP hD rfl (zR.upd hb8 (zI.wk (l' := 0) (h' := 12) hv_14 (by decide)))
      have hP : va_P G.1 classes [(b0, .inr (2, [.int b2, .int b3, .int b4, .ref b5, .ref b6, .ref b7])), (b5, .inl (G.2 0, 20, .inl f_15)), (b6, .inl (G.2 0, 240, .inl f_11)), (b7, .inl (G.2 0, 240, .inl f_12))] H := hP
      have hD := z_tie hP hD rfl
      refine lv_iconst (v := 1) hx hb d_Traces_add_60 (by decide) ?_
      exact z_zret hx hb hr hlocks rfl hP hD hS (Nat.le_of_ble_eq_true rfl) (Nat.le_of_ble_eq_true rfl) d_Traces_add_61 ⟨1, f_15, f_11, f_12, rfl, rfl, (zI.wk (l' := 0) (h' := 1) zc_1 (by decide)), hf_15, hf_11⟩
    · have _nhc_6 := hc_6
      have hv_16 : zI v_5 12 12 := zI.eq_l hv_5 zc_12 hc_6
      refine lv_iconst (v := 0) hx hb d_Traces_add_22 (by decide) ?_
      exact z_zret hx hb hr hlocks rfl hP hD hS (Nat.le_of_ble_eq_true rfl) (Nat.le_of_ble_eq_true rfl) d_Traces_add_23 ⟨0, b8, b9, b10, rfl, rfl, (zI.wk (l' := 0) (h' := 1) zc_0 (by decide)), hb8, hb9⟩
theorem d_Traces_addDigit_0 : decode prog_10_method_9_code 0 = .ok (.aload_n 0, 1) := by decide +kernel
theorem d_Traces_addDigit_1 : decode prog_10_method_9_code 1 = .ok (.getfield 25, 3) := by decide +kernel
theorem d_Traces_addDigit_4 : decode prog_10_method_9_code 4 = .ok (.iconst 1, 1) := by decide +kernel
theorem d_Traces_addDigit_5 : decode prog_10_method_9_code 5 = .ok (.isub, 1) := by decide +kernel
theorem d_Traces_addDigit_6 : decode prog_10_method_9_code 6 = .ok (.istore_n 2, 1) := by decide +kernel
theorem d_Traces_addDigit_7 : decode prog_10_method_9_code 7 = .ok (.iload_n 2, 1) := by decide +kernel
theorem d_Traces_addDigit_8 : decode prog_10_method_9_code 8 = .ok (.ifCond .lt 43, 3) := by decide +kernel
theorem d_Traces_addDigit_11 : decode prog_10_method_9_code 11 = .ok (.aload_n 0, 1) := by decide +kernel
theorem d_Traces_addDigit_12 : decode prog_10_method_9_code 12 = .ok (.getfield 15, 3) := by decide +kernel
theorem d_Traces_addDigit_15 : decode prog_10_method_9_code 15 = .ok (.iload_n 2, 1) := by decide +kernel
theorem d_Traces_addDigit_16 : decode prog_10_method_9_code 16 = .ok (.iaload, 1) := by decide +kernel
theorem d_Traces_addDigit_17 : decode prog_10_method_9_code 17 = .ok (.ifCond .le 34, 3) := by decide +kernel
theorem d_Traces_addDigit_20 : decode prog_10_method_9_code 20 = .ok (.iload_n 2, 1) := by decide +kernel
theorem d_Traces_addDigit_21 : decode prog_10_method_9_code 21 = .ok (.bipush 12, 2) := by decide +kernel
theorem d_Traces_addDigit_23 : decode prog_10_method_9_code 23 = .ok (.imul, 1) := by decide +kernel
theorem d_Traces_addDigit_24 : decode prog_10_method_9_code 24 = .ok (.aload_n 0, 1) := by decide +kernel
theorem d_Traces_addDigit_25 : decode prog_10_method_9_code 25 = .ok (.getfield 15, 3) := by decide +kernel
theorem d_Traces_addDigit_28 : decode prog_10_method_9_code 28 = .ok (.iload_n 2, 1) := by decide +kernel
theorem d_Traces_addDigit_29 : decode prog_10_method_9_code 29 = .ok (.iaload, 1) := by decide +kernel
theorem d_Traces_addDigit_30 : decode prog_10_method_9_code 30 = .ok (.iadd, 1) := by decide +kernel
theorem d_Traces_addDigit_31 : decode prog_10_method_9_code 31 = .ok (.iconst 1, 1) := by decide +kernel
theorem d_Traces_addDigit_32 : decode prog_10_method_9_code 32 = .ok (.isub, 1) := by decide +kernel
theorem d_Traces_addDigit_33 : decode prog_10_method_9_code 33 = .ok (.istore_n 3, 1) := by decide +kernel
theorem d_Traces_addDigit_34 : decode prog_10_method_9_code 34 = .ok (.aload_n 0, 1) := by decide +kernel
theorem d_Traces_addDigit_35 : decode prog_10_method_9_code 35 = .ok (.getfield 22, 3) := by decide +kernel
theorem d_Traces_addDigit_38 : decode prog_10_method_9_code 38 = .ok (.iload_n 3, 1) := by decide +kernel
theorem d_Traces_addDigit_39 : decode prog_10_method_9_code 39 = .ok (.bipush 10, 2) := by decide +kernel
theorem d_Traces_addDigit_41 : decode prog_10_method_9_code 41 = .ok (.aload_n 0, 1) := by decide +kernel
theorem d_Traces_addDigit_42 : decode prog_10_method_9_code 42 = .ok (.getfield 22, 3) := by decide +kernel
theorem d_Traces_addDigit_45 : decode prog_10_method_9_code 45 = .ok (.iload_n 3, 1) := by decide +kernel
theorem d_Traces_addDigit_46 : decode prog_10_method_9_code 46 = .ok (.iaload, 1) := by decide +kernel
theorem d_Traces_addDigit_47 : decode prog_10_method_9_code 47 = .ok (.imul, 1) := by decide +kernel
theorem d_Traces_addDigit_48 : decode prog_10_method_9_code 48 = .ok (.iload_n 1, 1) := by decide +kernel
theorem d_Traces_addDigit_49 : decode prog_10_method_9_code 49 = .ok (.iadd, 1) := by decide +kernel
theorem d_Traces_addDigit_50 : decode prog_10_method_9_code 50 = .ok (.iastore, 1) := by decide +kernel
theorem d_Traces_addDigit_51 : decode prog_10_method_9_code 51 = .ok (.return_, 1) := by decide +kernel
abbrev m_s1_Traces_addDigit : Room := { frames := 0, cells := 0, slots := 0, locals := 0 }
set_option maxHeartbeats 4000000 in
set_option maxRecDepth 100000 in
theorem s1_Traces_addDigit (l : Launch) (G : zG) (b0 : Nat) (b1 : Int32) (b2 : Int32) (b3 : Int32) (b4 : Int32) (b5 : Nat) (b6 : Nat) (b7 : Nat) (b8 : Nat → Int32) (b9 : Nat → Int32) (hb1 : zI b1 0 9) (hb2 : zI b2 0 20) (hb3 : zI b3 0 3) (hb4 : zI b4 0 20) (hb8 : zR b8 0 12) : zM l G y_Traces_addDigit prog_10_method_9_code 4 (Option.none : Option Jvm.ClassFile.FieldType) m_s1_Traces_addDigit [.ref b0, .int b1] [(b0, .inr (2, [.int b2, .int b3, .int b4, .ref b5, .ref b6, .ref b7])), (b5, .inl (G.2 0, 20, .inl b8)), (b7, .inl (G.2 0, 240, .inl b9))] (fun v w => ∃ (e0 : Nat → Int32), v = none ∧ w = [(b0, .inr (2, [.int b2, .int b3, .int b4, .ref b5, .ref b6, .ref b7])), (b5, .inl (G.2 0, 20, .inl b8)), (b7, .inl (G.2 0, 240, .inl e0))]) := by
  refine z_start (by decide +kernel) (Nat.le_of_ble_eq_true rfl) ?_
  intro p e s m below meth c A Z hr hnm hA hP hD hS ls hl
  have Z : zC p s m _ meth c prog_10_method_9_code 4 "TraceMachines$Traces" G := Z
  obtain ⟨hx, hb, hml, hown, hts, hK, hN, hlocks⟩ := id Z
  have hl : lv_has ls 4 [(0, .ref b0), (1, .int b1)] := hl
  refine lv_aload_n hx hb d_Traces_addDigit_0 rfl (lv_at hl 0 rfl) ?_
  refine va_get (D := G.1) (ci := 2) (v := .int b2) (C := R_Traces) (T := F_Traces) (N := 6) hx hb hts i_Traces hown hK hP 0 rfl rfl 0 (by decide) (hts _ q52) (fun _ h9 => h9) rfl d_Traces_addDigit_1 ?_
  refine lv_iconst (v := 1) hx hb d_Traces_addDigit_4 (by decide) ?_
  refine lv_isub hx hb d_Traces_addDigit_5 ?_
  refine lv_topi (fun v_1 ev_1 => ?_)
  obtain ⟨qv_1, hv_1⟩ := zI_sub (l := -1) (h := 19) hb2 zc_1 ev_1 (by decide)
  rw [li_1] at qv_1
  refine lv_istore_n (lv' := [(2, .int v_1), (0, .ref b0), (1, .int b1)]) hx hb d_Traces_addDigit_6 rfl hl (by decide) rfl (fun ls hl => ?_)
  refine lv_iload_n hx hb d_Traces_addDigit_7 rfl (lv_at hl 0 rfl) ?_
  refine lv_if_lt (tgt := 51) hx hb d_Traces_addDigit_8 (by decide) (fun hc_2 => ?_) (fun hc_2 => ?_)
  · have _nhc_2 := hc_2
    have hv_3 : zI v_1 (-1) (-1) := zI.lt_l hv_1 zc_0 hc_2 (by decide)
    exact z_vret hx hb hr hlocks hP hD hS (Nat.le_of_ble_eq_true rfl) (Nat.le_of_ble_eq_true rfl) d_Traces_addDigit_51 ⟨b9, rfl, rfl⟩
  · have _nhc_2 := hc_2
    have hv_4 : zI v_1 0 19 := zI.le_r zc_0 hv_1 (zi_nlt hc_2) (by decide)
    refine lv_aload_n hx hb d_Traces_addDigit_11 rfl (lv_at hl 1 rfl) ?_
    refine va_get (D := G.1) (ci := 2) (v := .ref b5) (C := R_Traces) (T := F_Traces) (N := 6) hx hb hts i_Traces hown hK hP 0 rfl rfl 3 (by decide) (hts _ q63) (fun _ h9 => h9) rfl d_Traces_addDigit_12 ?_
    refine lv_iload_n hx hb d_Traces_addDigit_15 rfl (lv_at hl 0 rfl) ?_
    refine va_iald hx hb hK hP 1 0 rfl rfl (zI.inn hv_4 (by decide)) d_Traces_addDigit_16 ?_
    refine lv_topi (fun v_5 ev_5 => ?_)
    have hv_5 : zI v_5 0 12 := (hb8 _).eq ev_5
    refine lv_if_le (tgt := 51) hx hb d_Traces_addDigit_17 (by decide) (fun hc_6 => ?_) (fun hc_6 => ?_)
    · have _nhc_6 := hc_6
      have hv_7 : zI v_5 0 0 := zI.le_l hv_5 zc_0 hc_6 (by decide)
      exact z_vret hx hb hr hlocks hP hD hS (Nat.le_of_ble_eq_true rfl) (Nat.le_of_ble_eq_true rfl) d_Traces_addDigit_51 ⟨b9, rfl, rfl⟩
    · have _nhc_6 := hc_6
      have hv_8 : zI v_5 1 12 := zI.lt_r zc_0 hv_5 (zi_nle hc_6) (by decide)
      refine lv_iload_n hx hb d_Traces_addDigit_20 rfl (lv_at hl 0 rfl) ?_
      refine lv_bipush (v := 12) hx hb d_Traces_addDigit_21 (by decide) ?_
      refine lv_imul hx hb d_Traces_addDigit_23 ?_
      refine lv_topi (fun v_9 ev_9 => ?_)
      obtain ⟨qv_9, hv_9⟩ := zI_mul (l := 0) (h := 228) hv_4 zc_12 ev_9 (by decide)
      rw [li_12] at qv_9
      refine lv_aload_n hx hb d_Traces_addDigit_24 rfl (lv_at hl 1 rfl) ?_
      refine va_get (D := G.1) (ci := 2) (v := .ref b5) (C := R_Traces) (T := F_Traces) (N := 6) hx hb hts i_Traces hown hK hP 0 rfl rfl 3 (by decide) (hts _ q63) (fun _ h9 => h9) rfl d_Traces_addDigit_25 ?_
      refine lv_iload_n hx hb d_Traces_addDigit_28 rfl (lv_at hl 0 rfl) ?_
      refine va_iald hx hb hK hP 1 0 rfl rfl (zI.inn hv_4 (by decide)) d_Traces_addDigit_29 ?_
      refine lv_topi (fun v_10 ev_10 => ?_)
      obtain rfl : v_5 = v_10 := ev_5.trans ev_10.symm
      refine lv_iadd hx hb d_Traces_addDigit_30 ?_
      refine lv_topi (fun v_11 ev_11 => ?_)
      obtain ⟨qv_11, hv_11⟩ := zI_add (l := 1) (h := 240) hv_9 hv_8 ev_11 (by decide)
      refine lv_iconst (v := 1) hx hb d_Traces_addDigit_31 (by decide) ?_
      refine lv_isub hx hb d_Traces_addDigit_32 ?_
      refine lv_topi (fun v_12 ev_12 => ?_)
      obtain ⟨qv_12, hv_12⟩ := zI_sub (l := 0) (h := 239) hv_11 zc_1 ev_12 (by decide)
      rw [li_1] at qv_12
      refine lv_istore_n (lv' := [(3, .int v_12), (2, .int v_1), (0, .ref b0), (1, .int b1)]) hx hb d_Traces_addDigit_33 rfl hl (by decide) rfl (fun ls hl => ?_)
      refine lv_aload_n hx hb d_Traces_addDigit_34 rfl (lv_at hl 2 rfl) ?_
      refine va_get (D := G.1) (ci := 2) (v := .ref b7) (C := R_Traces) (T := F_Traces) (N := 6) hx hb hts i_Traces hown hK hP 0 rfl rfl 5 (by decide) (hts _ q73) (fun _ h9 => h9) rfl d_Traces_addDigit_35 ?_
      refine lv_iload_n hx hb d_Traces_addDigit_38 rfl (lv_at hl 0 rfl) ?_
      refine lv_bipush (v := 10) hx hb d_Traces_addDigit_39 (by decide) ?_
      refine lv_aload_n hx hb d_Traces_addDigit_41 rfl (lv_at hl 2 rfl) ?_
      refine va_get (D := G.1) (ci := 2) (v := .ref b7) (C := R_Traces) (T := F_Traces) (N := 6) hx hb hts i_Traces hown hK hP 0 rfl rfl 5 (by decide) (hts _ q73) (fun _ h9 => h9) rfl d_Traces_addDigit_42 ?_
      refine lv_iload_n hx hb d_Traces_addDigit_45 rfl (lv_at hl 0 rfl) ?_
      refine va_iald hx hb hK hP 2 0 rfl rfl (zI.inn hv_12 (by decide)) d_Traces_addDigit_46 ?_
      refine lv_topi (fun v_13 ev_13 => ?_)
      refine lv_imul hx hb d_Traces_addDigit_47 ?_
      refine lv_topi (fun v_14 ev_14 => ?_)
      refine lv_iload_n hx hb d_Traces_addDigit_48 rfl (lv_at hl 3 rfl) ?_
      refine lv_iadd hx hb d_Traces_addDigit_49 ?_
      refine lv_topi (fun v_15 ev_15 => ?_)
      refine va_iast hx hb hK hP hD hS 2 0 rfl rfl (zI.inn hv_12 (by decide)) d_Traces_addDigit_50 (fun H locs hP hD hS => ?_)
      obtain ⟨f_16, hP, hD⟩ := z_newF 2 hP hD rfl
      have hP : va_P G.1 classes [(b0, .inr (2, [.int b2, .int b3, .int b4, .ref b5, .ref b6, .ref b7])), (b5, .inl (G.2 0, 20, .inl b8)), (b7, .inl (G.2 0, 240, .inl f_16))] H := hP
      have hD := z_tie hP hD rfl
      exact z_vret hx hb hr hlocks hP hD hS (Nat.le_of_ble_eq_true rfl) (Nat.le_of_ble_eq_true rfl) d_Traces_addDigit_51 ⟨f_16, rfl, rfl⟩
theorem d_Traces_remove_0 : decode prog_10_method_10_code 0 = .ok (.aload_n 0, 1) := by decide +kernel
theorem d_Traces_remove_1 : decode prog_10_method_10_code 1 = .ok (.getfield 25, 3) := by decide +kernel
theorem d_Traces_remove_4 : decode prog_10_method_10_code 4 = .ok (.iload_n 1, 1) := by decide +kernel
theorem d_Traces_remove_5 : decode prog_10_method_10_code 5 = .ok (.isub, 1) := by decide +kernel
theorem d_Traces_remove_6 : decode prog_10_method_10_code 6 = .ok (.iconst 1, 1) := by decide +kernel
theorem d_Traces_remove_7 : decode prog_10_method_10_code 7 = .ok (.isub, 1) := by decide +kernel
theorem d_Traces_remove_8 : decode prog_10_method_10_code 8 = .ok (.istore_n 2, 1) := by decide +kernel
theorem d_Traces_remove_9 : decode prog_10_method_10_code 9 = .ok (.iload_n 1, 1) := by decide +kernel
theorem d_Traces_remove_10 : decode prog_10_method_10_code 10 = .ok (.bipush 12, 2) := by decide +kernel
theorem d_Traces_remove_12 : decode prog_10_method_10_code 12 = .ok (.imul, 1) := by decide +kernel
theorem d_Traces_remove_13 : decode prog_10_method_10_code 13 = .ok (.istore_n 3, 1) := by decide +kernel
theorem d_Traces_remove_14 : decode prog_10_method_10_code 14 = .ok (.aload_n 0, 1) := by decide +kernel
theorem d_Traces_remove_15 : decode prog_10_method_10_code 15 = .ok (.getfield 15, 3) := by decide +kernel
theorem d_Traces_remove_18 : decode prog_10_method_10_code 18 = .ok (.iload_n 1, 1) := by decide +kernel
theorem d_Traces_remove_19 : decode prog_10_method_10_code 19 = .ok (.iconst 1, 1) := by decide +kernel
theorem d_Traces_remove_20 : decode prog_10_method_10_code 20 = .ok (.iadd, 1) := by decide +kernel
theorem d_Traces_remove_21 : decode prog_10_method_10_code 21 = .ok (.aload_n 0, 1) := by decide +kernel
theorem d_Traces_remove_22 : decode prog_10_method_10_code 22 = .ok (.getfield 15, 3) := by decide +kernel
theorem d_Traces_remove_25 : decode prog_10_method_10_code 25 = .ok (.iload_n 1, 1) := by decide +kernel
theorem d_Traces_remove_26 : decode prog_10_method_10_code 26 = .ok (.iload_n 2, 1) := by decide +kernel
theorem d_Traces_remove_27 : decode prog_10_method_10_code 27 = .ok (.invokestatic 31, 3) := by decide +kernel
theorem d_Traces_remove_30 : decode prog_10_method_10_code 30 = .ok (.aload_n 0, 1) := by decide +kernel
theorem d_Traces_remove_31 : decode prog_10_method_10_code 31 = .ok (.getfield 19, 3) := by decide +kernel
theorem d_Traces_remove_34 : decode prog_10_method_10_code 34 = .ok (.iload_n 3, 1) := by decide +kernel
theorem d_Traces_remove_35 : decode prog_10_method_10_code 35 = .ok (.bipush 12, 2) := by decide +kernel
theorem d_Traces_remove_37 : decode prog_10_method_10_code 37 = .ok (.iadd, 1) := by decide +kernel
theorem d_Traces_remove_38 : decode prog_10_method_10_code 38 = .ok (.aload_n 0, 1) := by decide +kernel
theorem d_Traces_remove_39 : decode prog_10_method_10_code 39 = .ok (.getfield 19, 3) := by decide +kernel
theorem d_Traces_remove_42 : decode prog_10_method_10_code 42 = .ok (.iload_n 3, 1) := by decide +kernel
theorem d_Traces_remove_43 : decode prog_10_method_10_code 43 = .ok (.iload_n 2, 1) := by decide +kernel
theorem d_Traces_remove_44 : decode prog_10_method_10_code 44 = .ok (.bipush 12, 2) := by decide +kernel
theorem d_Traces_remove_46 : decode prog_10_method_10_code 46 = .ok (.imul, 1) := by decide +kernel
theorem d_Traces_remove_47 : decode prog_10_method_10_code 47 = .ok (.invokestatic 31, 3) := by decide +kernel
theorem d_Traces_remove_50 : decode prog_10_method_10_code 50 = .ok (.aload_n 0, 1) := by decide +kernel
theorem d_Traces_remove_51 : decode prog_10_method_10_code 51 = .ok (.getfield 22, 3) := by decide +kernel
theorem d_Traces_remove_54 : decode prog_10_method_10_code 54 = .ok (.iload_n 3, 1) := by decide +kernel
theorem d_Traces_remove_55 : decode prog_10_method_10_code 55 = .ok (.bipush 12, 2) := by decide +kernel
theorem d_Traces_remove_57 : decode prog_10_method_10_code 57 = .ok (.iadd, 1) := by decide +kernel
theorem d_Traces_remove_58 : decode prog_10_method_10_code 58 = .ok (.aload_n 0, 1) := by decide +kernel
theorem d_Traces_remove_59 : decode prog_10_method_10_code 59 = .ok (.getfield 22, 3) := by decide +kernel
theorem d_Traces_remove_62 : decode prog_10_method_10_code 62 = .ok (.iload_n 3, 1) := by decide +kernel
theorem d_Traces_remove_63 : decode prog_10_method_10_code 63 = .ok (.iload_n 2, 1) := by decide +kernel
theorem d_Traces_remove_64 : decode prog_10_method_10_code 64 = .ok (.bipush 12, 2) := by decide +kernel
theorem d_Traces_remove_66 : decode prog_10_method_10_code 66 = .ok (.imul, 1) := by decide +kernel
theorem d_Traces_remove_67 : decode prog_10_method_10_code 67 = .ok (.invokestatic 31, 3) := by decide +kernel
theorem d_Traces_remove_70 : decode prog_10_method_10_code 70 = .ok (.aload_n 0, 1) := by decide +kernel
theorem d_Traces_remove_71 : decode prog_10_method_10_code 71 = .ok (.dup, 1) := by decide +kernel
theorem d_Traces_remove_72 : decode prog_10_method_10_code 72 = .ok (.getfield 25, 3) := by decide +kernel
theorem d_Traces_remove_75 : decode prog_10_method_10_code 75 = .ok (.iconst 1, 1) := by decide +kernel
theorem d_Traces_remove_76 : decode prog_10_method_10_code 76 = .ok (.isub, 1) := by decide +kernel
theorem d_Traces_remove_77 : decode prog_10_method_10_code 77 = .ok (.putfield 25, 3) := by decide +kernel
theorem d_Traces_remove_80 : decode prog_10_method_10_code 80 = .ok (.return_, 1) := by decide +kernel
abbrev m_s1_Traces_remove : Room := { frames := 1, cells := 0, slots := 0, locals := 18 }
set_option maxHeartbeats 4000000 in
set_option maxRecDepth 100000 in
theorem s1_Traces_remove (l : Launch) (G : zG) (b0 : Nat) (b1 : Int32) (b2 : Int32) (b3 : Int32) (b4 : Int32) (b5 : Nat) (b6 : Nat) (b7 : Nat) (b8 : Nat → Int32) (b9 : Nat → Int32) (b10 : Nat → Int32) (hb1 : zI b1 0 19) (hb2 : zI b2 0 20) (hb3 : zI b3 0 3) (hb4 : zI b4 0 20) (hb8 : zR b8 0 12) (hb9 : zR b9 0 9) (hrm : b1.toInt < b2.toInt) : zM l G y_Traces_remove prog_10_method_10_code 4 (Option.none : Option Jvm.ClassFile.FieldType) m_s1_Traces_remove [.ref b0, .int b1] [(b0, .inr (2, [.int b2, .int b3, .int b4, .ref b5, .ref b6, .ref b7])), (b5, .inl (G.2 0, 20, .inl b8)), (b6, .inl (G.2 0, 240, .inl b9)), (b7, .inl (G.2 0, 240, .inl b10))] (fun v w => ∃ (e0 : Int32), ∃ (e1 : Nat → Int32), ∃ (e2 : Nat → Int32), ∃ (e3 : Nat → Int32), v = none ∧ w = [(b0, .inr (2, [.int e0, .int b3, .int b4, .ref b5, .ref b6, .ref b7])), (b5, .inl (G.2 0, 20, .inl e1)), (b6, .inl (G.2 0, 240, .inl e2)), (b7, .inl (G.2 0, 240, .inl e3))] ∧ zI e0 0 20 ∧ zR e1 0 12 ∧ zR e2 0 9) := by
  refine z_start (by decide +kernel) (Nat.le_of_ble_eq_true rfl) ?_
  intro p e s m below meth c A Z hr hnm hA hP hD hS ls hl
  have Z : zC p s m _ meth c prog_10_method_10_code 4 "TraceMachines$Traces" G := Z
  obtain ⟨hx, hb, hml, hown, hts, hK, hN, hlocks⟩ := id Z
  have hl : lv_has ls 4 [(0, .ref b0), (1, .int b1)] := hl
  have hv_1 : zI b2 1 20 := ⟨by omega, by omega⟩
  refine lv_aload_n hx hb d_Traces_remove_0 rfl (lv_at hl 0 rfl) ?_
  refine va_get (D := G.1) (ci := 2) (v := .int b2) (C := R_Traces) (T := F_Traces) (N := 6) hx hb hts i_Traces hown hK hP 0 rfl rfl 0 (by decide) (hts _ q52) (fun _ h9 => h9) rfl d_Traces_remove_1 ?_
  refine lv_iload_n hx hb d_Traces_remove_4 rfl (lv_at hl 1 rfl) ?_
  refine lv_isub hx hb d_Traces_remove_5 ?_
  refine lv_topi (fun v_2 ev_2 => ?_)
  obtain ⟨qv_2, hv_2⟩ := zI_sub (l := -18) (h := 20) hv_1 hb1 ev_2 (by decide)
  refine lv_iconst (v := 1) hx hb d_Traces_remove_6 (by decide) ?_
  refine lv_isub hx hb d_Traces_remove_7 ?_
  refine lv_topi (fun v_3 ev_3 => ?_)
  obtain ⟨qv_3, hv_3⟩ := zI_sub (l := -19) (h := 19) hv_2 zc_1 ev_3 (by decide)
  rw [li_1] at qv_3
  refine lv_istore_n (lv' := [(2, .int v_3), (0, .ref b0), (1, .int b1)]) hx hb d_Traces_remove_8 rfl hl (by decide) rfl (fun ls hl => ?_)
  refine lv_iload_n hx hb d_Traces_remove_9 rfl (lv_at hl 2 rfl) ?_
  refine lv_bipush (v := 12) hx hb d_Traces_remove_10 (by decide) ?_
  refine lv_imul hx hb d_Traces_remove_12 ?_
  refine lv_topi (fun v_4 ev_4 => ?_)
  obtain ⟨qv_4, hv_4⟩ := zI_mul (l := 0) (h := 228) hb1 zc_12 ev_4 (by decide)
  rw [li_12] at qv_4
  refine lv_istore_n (lv' := [(3, .int v_4), (2, .int v_3), (0, .ref b0), (1, .int b1)]) hx hb d_Traces_remove_13 rfl hl (by decide) rfl (fun ls hl => ?_)
  refine lv_aload_n hx hb d_Traces_remove_14 rfl (lv_at hl 2 rfl) ?_
  refine va_get (D := G.1) (ci := 2) (v := .ref b5) (C := R_Traces) (T := F_Traces) (N := 6) hx hb hts i_Traces hown hK hP 0 rfl rfl 3 (by decide) (hts _ q63) (fun _ h9 => h9) rfl d_Traces_remove_15 ?_
  refine lv_iload_n hx hb d_Traces_remove_18 rfl (lv_at hl 3 rfl) ?_
  refine lv_iconst (v := 1) hx hb d_Traces_remove_19 (by decide) ?_
  refine lv_iadd hx hb d_Traces_remove_20 ?_
  refine lv_topi (fun v_5 ev_5 => ?_)
  obtain ⟨qv_5, hv_5⟩ := zI_add (l := 1) (h := 20) hb1 zc_1 ev_5 (by decide)
  rw [li_1] at qv_5
  refine lv_aload_n hx hb d_Traces_remove_21 rfl (lv_at hl 2 rfl) ?_
  refine va_get (D := G.1) (ci := 2) (v := .ref b5) (C := R_Traces) (T := F_Traces) (N := 6) hx hb hts i_Traces hown hK hP 0 rfl rfl 3 (by decide) (hts _ q63) (fun _ h9 => h9) rfl d_Traces_remove_22 ?_
  refine lv_iload_n hx hb d_Traces_remove_25 rfl (lv_at hl 3 rfl) ?_
  refine lv_iload_n hx hb d_Traces_remove_26 rfl (lv_at hl 1 rfl) ?_
  have hv_6 : zI v_3 0 19 := ⟨by omega, by omega⟩
  refine va_copyi hx hb (hml.trans hl.1.symm) hown (hts _ q502) (hts _ q504) (hts _ q503) (hts _ q15) hK hP hD hS 1 1 0 0 rfl rfl rfl rfl rfl (zi_nn hv_5 (by decide)) (zi_nn hb1 (by decide)) (zi_nn hv_6 (by decide)) (zi_cpo hv_5 hv_6 (by decide) (by decide) (by have _u := hv_5; have _w := hv_6; omega)) (zi_cpo hb1 hv_6 (by decide) (by decide) (by have _u := hb1; have _w := hv_6; omega)) (fun _ _ => rfl) (Nat.le_of_ble_eq_true rfl) (Nat.le_of_ble_eq_true rfl) d_Traces_remove_27 (fun H locs hP hD hS => ?_)
  obtain ⟨f_7, hf_7, hP, hD⟩ := z_newf 1 hP hD rfl (zR.cpy hb8 hb8)
  have hP : va_P G.1 classes [(b0, .inr (2, [.int b2, .int b3, .int b4, .ref b5, .ref b6, .ref b7])), (b5, .inl (G.2 0, 20, .inl f_7)), (b6, .inl (G.2 0, 240, .inl b9)), (b7, .inl (G.2 0, 240, .inl b10))] H := hP
  have hD := z_tie hP hD rfl
  refine lv_aload_n hx hb d_Traces_remove_30 rfl (lv_at hl 2 rfl) ?_
  refine va_get (D := G.1) (ci := 2) (v := .ref b6) (C := R_Traces) (T := F_Traces) (N := 6) hx hb hts i_Traces hown hK hP 0 rfl rfl 4 (by decide) (hts _ q72) (fun _ h9 => h9) rfl d_Traces_remove_31 ?_
  refine lv_iload_n hx hb d_Traces_remove_34 rfl (lv_at hl 0 rfl) ?_
  refine lv_bipush (v := 12) hx hb d_Traces_remove_35 (by decide) ?_
  refine lv_iadd hx hb d_Traces_remove_37 ?_
  refine lv_topi (fun v_8 ev_8 => ?_)
  obtain ⟨qv_8, hv_8⟩ := zI_add (l := 12) (h := 240) hv_4 zc_12 ev_8 (by decide)
  rw [li_12] at qv_8
  refine lv_aload_n hx hb d_Traces_remove_38 rfl (lv_at hl 2 rfl) ?_
  refine va_get (D := G.1) (ci := 2) (v := .ref b6) (C := R_Traces) (T := F_Traces) (N := 6) hx hb hts i_Traces hown hK hP 0 rfl rfl 4 (by decide) (hts _ q72) (fun _ h9 => h9) rfl d_Traces_remove_39 ?_
  refine lv_iload_n hx hb d_Traces_remove_42 rfl (lv_at hl 0 rfl) ?_
  refine lv_iload_n hx hb d_Traces_remove_43 rfl (lv_at hl 1 rfl) ?_
  refine lv_bipush (v := 12) hx hb d_Traces_remove_44 (by decide) ?_
  refine lv_imul hx hb d_Traces_remove_46 ?_
  refine lv_topi (fun v_9 ev_9 => ?_)
  obtain ⟨qv_9, hv_9⟩ := zI_mul (l := 0) (h := 228) hv_6 zc_12 ev_9 (by decide)
  rw [li_12] at qv_9
  refine va_copyi hx hb (hml.trans hl.1.symm) hown (hts _ q502) (hts _ q504) (hts _ q503) (hts _ q15) hK hP hD hS 2 2 0 0 rfl rfl rfl rfl rfl (zi_nn hv_8 (by decide)) (zi_nn hv_4 (by decide)) (zi_nn hv_9 (by decide)) (zi_cpo hv_8 hv_9 (by decide) (by decide) (by have _u := hv_8; have _w := hv_9; omega)) (zi_cpo hv_4 hv_9 (by decide) (by decide) (by have _u := hv_4; have _w := hv_9; omega)) (fun _ _ => rfl) (Nat.le_of_ble_eq_true rfl) (Nat.le_of_ble_eq_true rfl) d_Traces_remove_47 (fun H locs hP hD hS => ?_)
  obtain ⟨f_10, hf_10, hP, hD⟩ := z_newf 2 hP hD rfl (zR.cpy hb9 hb9)
  have hP : va_P G.1 classes [(b0, .inr (2, [.int b2, .int b3, .int b4, .ref b5, .ref b6, .ref b7])), (b5, .inl (G.2 0, 20, .inl f_7)), (b6, .inl (G.2 0, 240, .inl f_10)), (b7, .inl (G.2 0, 240, .inl b10))] H := hP
  have hD := z_tie hP hD rfl
  refine lv_aload_n hx hb d_Traces_remove_50 rfl (lv_at hl 2 rfl) ?_
  refine va_get (D := G.1) (ci := 2) (v := .ref b7) (C := R_Traces) (T := F_Traces) (N := 6) hx hb hts i_Traces hown hK hP 0 rfl rfl 5 (by decide) (hts _ q73) (fun _ h9 => h9) rfl d_Traces_remove_51 ?_
  refine lv_iload_n hx hb d_Traces_remove_54 rfl (lv_at hl 0 rfl) ?_
  refine lv_bipush (v := 12) hx hb d_Traces_remove_55 (by decide) ?_
  refine lv_iadd hx hb d_Traces_remove_57 ?_
  refine lv_topi (fun v_11 ev_11 => ?_)
  obtain ⟨qv_11, hv_11⟩ := zI_add (l := 12) (h := 240) hv_4 zc_12 ev_11 (by decide)
  rw [li_12] at qv_11
  refine lv_aload_n hx hb d_Traces_remove_58 rfl (lv_at hl 2 rfl) ?_
  refine va_get (D := G.1) (ci := 2) (v := .ref b7) (C := R_Traces) (T := F_Traces) (N := 6) hx hb hts i_Traces hown hK hP 0 rfl rfl 5 (by decide) (hts _ q73) (fun _ h9 => h9) rfl d_Traces_remove_59 ?_
  refine lv_iload_n hx hb d_Traces_remove_62 rfl (lv_at hl 0 rfl) ?_
  refine lv_iload_n hx hb d_Traces_remove_63 rfl (lv_at hl 1 rfl) ?_
  refine lv_bipush (v := 12) hx hb d_Traces_remove_64 (by decide) ?_
  refine lv_imul hx hb d_Traces_remove_66 ?_
  refine lv_topi (fun v_12 ev_12 => ?_)
  obtain ⟨qv_12, hv_12⟩ := zI_mul (l := 0) (h := 228) hv_6 zc_12 ev_12 (by decide)
  rw [li_12] at qv_12
  refine va_copyi hx hb (hml.trans hl.1.symm) hown (hts _ q502) (hts _ q504) (hts _ q503) (hts _ q15) hK hP hD hS 3 3 0 0 rfl rfl rfl rfl rfl (zi_nn hv_11 (by decide)) (zi_nn hv_4 (by decide)) (zi_nn hv_12 (by decide)) (zi_cpo hv_11 hv_12 (by decide) (by decide) (by have _u := hv_11; have _w := hv_12; omega)) (zi_cpo hv_4 hv_12 (by decide) (by decide) (by have _u := hv_4; have _w := hv_12; omega)) (fun _ _ => rfl) (Nat.le_of_ble_eq_true rfl) (Nat.le_of_ble_eq_true rfl) d_Traces_remove_67 (fun H locs hP hD hS => ?_)
  obtain ⟨f_13, hP, hD⟩ := z_newF 3 hP hD rfl
  have hP : va_P G.1 classes [(b0, .inr (2, [.int b2, .int b3, .int b4, .ref b5, .ref b6, .ref b7])), (b5, .inl (G.2 0, 20, .inl f_7)), (b6, .inl (G.2 0, 240, .inl f_10)), (b7, .inl (G.2 0, 240, .inl f_13))] H := hP
  have hD := z_tie hP hD rfl
  refine lv_aload_n hx hb d_Traces_remove_70 rfl (lv_at hl 2 rfl) ?_
  refine lv_dup hx hb d_Traces_remove_71 rfl ?_
  refine va_get (D := G.1) (ci := 2) (v := .int b2) (C := R_Traces) (T := F_Traces) (N := 6) hx hb hts i_Traces hown hK hP 0 rfl rfl 0 (by decide) (hts _ q52) (fun _ h9 => h9) rfl d_Traces_remove_72 ?_
  refine lv_iconst (v := 1) hx hb d_Traces_remove_75 (by decide) ?_
  refine lv_isub hx hb d_Traces_remove_76 ?_
  refine lv_topi (fun v_14 ev_14 => ?_)
  obtain ⟨qv_14, hv_14⟩ := zI_sub (l := 0) (h := 19) hv_1 zc_1 ev_14 (by decide)
  rw [li_1] at qv_14
  refine va_put (D := G.1) (ci := 2) (v := .int v_14) (ty := .int) (C := R_Traces) (T := F_Traces) (N := 6) hx hb hts i_Traces t_Traces t_Traces_ok n_Traces hown hK hP hD hS 0 rfl rfl 0 (by decide) (hts _ q52) (fun _ h9 => h9) rfl (by decide +kernel) rfl rfl (Nat.le_of_ble_eq_true rfl) d_Traces_remove_77 (fun H locs hP hD hS => ?_)
  have hP : va_P G.1 classes [(b0, .inr (2, [.int v_14, .int b3, .int b4, .ref b5, .ref b6, .ref b7])), (b5, .inl (G.2 0, 20, .inl f_7)), (b6, .inl (G.2 0, 240, .inl f_10)), (b7, .inl (G.2 0, 240, .inl f_13))] H := hP
  have hD := z_tie hP hD rfl
  exact z_vret hx hb hr hlocks hP hD hS (Nat.le_of_ble_eq_true rfl) (Nat.le_of_ble_eq_true rfl) d_Traces_remove_80 ⟨v_14, f_7, f_10, f_13, rfl, rfl, (zI.wk (l' := 0) (h' := 20) hv_14 (by decide)), hf_7, hf_10⟩
theorem d_Text_put_0 : decode prog_9_method_2_code 0 = .ok (.aload_n 0, 1) := by decide +kernel
theorem d_Text_put_1 : decode prog_9_method_2_code 1 = .ok (.getfield 15, 3) := by decide +kernel
theorem d_Text_put_4 : decode prog_9_method_2_code 4 = .ok (.iconst 4, 1) := by decide +kernel
theorem d_Text_put_5 : decode prog_9_method_2_code 5 = .ok (.iadd, 1) := by decide +kernel
theorem d_Text_put_6 : decode prog_9_method_2_code 6 = .ok (.sipush 240, 3) := by decide +kernel
theorem d_Text_put_9 : decode prog_9_method_2_code 9 = .ok (.if_icmp .le 5, 3) := by decide +kernel
theorem d_Text_put_12 : decode prog_9_method_2_code 12 = .ok (.iconst 0, 1) := by decide +kernel
theorem d_Text_put_13 : decode prog_9_method_2_code 13 = .ok (.ireturn, 1) := by decide +kernel
theorem d_Text_put_14 : decode prog_9_method_2_code 14 = .ok (.bipush 24, 2) := by decide +kernel
theorem d_Text_put_16 : decode prog_9_method_2_code 16 = .ok (.istore_n 2, 1) := by decide +kernel
theorem d_Text_put_17 : decode prog_9_method_2_code 17 = .ok (.iload_n 2, 1) := by decide +kernel
theorem d_Text_put_18 : decode prog_9_method_2_code 18 = .ok (.ifCond .lt 36, 3) := by decide +kernel
theorem d_Text_put_21 : decode prog_9_method_2_code 21 = .ok (.aload_n 0, 1) := by decide +kernel
theorem d_Text_put_22 : decode prog_9_method_2_code 22 = .ok (.getfield 9, 3) := by decide +kernel
theorem d_Text_put_25 : decode prog_9_method_2_code 25 = .ok (.aload_n 0, 1) := by decide +kernel
theorem d_Text_put_26 : decode prog_9_method_2_code 26 = .ok (.getfield 15, 3) := by decide +kernel
theorem d_Text_put_29 : decode prog_9_method_2_code 29 = .ok (.iload_n 1, 1) := by decide +kernel
theorem d_Text_put_30 : decode prog_9_method_2_code 30 = .ok (.iload_n 2, 1) := by decide +kernel
theorem d_Text_put_31 : decode prog_9_method_2_code 31 = .ok (.iushr, 1) := by decide +kernel
theorem d_Text_put_32 : decode prog_9_method_2_code 32 = .ok (.sipush 255, 3) := by decide +kernel
theorem d_Text_put_35 : decode prog_9_method_2_code 35 = .ok (.iand, 1) := by decide +kernel
theorem d_Text_put_36 : decode prog_9_method_2_code 36 = .ok (.i2c, 1) := by decide +kernel
theorem d_Text_put_37 : decode prog_9_method_2_code 37 = .ok (.castore, 1) := by decide +kernel
theorem d_Text_put_38 : decode prog_9_method_2_code 38 = .ok (.aload_n 0, 1) := by decide +kernel
theorem d_Text_put_39 : decode prog_9_method_2_code 39 = .ok (.dup, 1) := by decide +kernel
theorem d_Text_put_40 : decode prog_9_method_2_code 40 = .ok (.getfield 15, 3) := by decide +kernel
theorem d_Text_put_43 : decode prog_9_method_2_code 43 = .ok (.iconst 1, 1) := by decide +kernel
theorem d_Text_put_44 : decode prog_9_method_2_code 44 = .ok (.iadd, 1) := by decide +kernel
theorem d_Text_put_45 : decode prog_9_method_2_code 45 = .ok (.putfield 15, 3) := by decide +kernel
theorem d_Text_put_48 : decode prog_9_method_2_code 48 = .ok (.iinc 2 (-8), 3) := by decide +kernel
theorem d_Text_put_51 : decode prog_9_method_2_code 51 = .ok (.goto (-34), 3) := by decide +kernel
theorem d_Text_put_54 : decode prog_9_method_2_code 54 = .ok (.iconst 1, 1) := by decide +kernel
theorem d_Text_put_55 : decode prog_9_method_2_code 55 = .ok (.ireturn, 1) := by decide +kernel
theorem zc_4 : zI 4 4 4 := ⟨by decide +kernel, by decide +kernel⟩
theorem li_4 : (4 : Int32).toInt = 4 := by decide +kernel
theorem zc_240 : zI 240 240 240 := ⟨by decide +kernel, by decide +kernel⟩
abbrev m_s1_Text_put : Room := { frames := 0, cells := 0, slots := 0, locals := 0 }
set_option maxHeartbeats 4000000 in
set_option maxRecDepth 100000 in
theorem s1_Text_put (l : Launch) (G : zG) (b0 : Nat) (b1 : Int32) (b2 : Int32) (b3 : Nat) (b4 : Nat → Int32) (hb2 : zI b2 0 240) : zM l G y_Text_put prog_9_method_2_code 3 (Option.some Jvm.ClassFile.FieldType.boolean) m_s1_Text_put [.ref b0, .int b1] [(b0, .inr (1, [.int b2, .ref b3])), (b3, .inl (G.2 2, 240, .inl b4))] (fun v w => ∃ (e0 : Int32), ∃ (e1 : Int32), ∃ (e2 : Nat → Int32), v = some (.int e0) ∧ w = [(b0, .inr (1, [.int e1, .ref b3])), (b3, .inl (G.2 2, 240, .inl e2))] ∧ zI e0 0 1 ∧ zI e1 0 240) := by
  refine z_start (by decide +kernel) (Nat.le_of_ble_eq_true rfl) ?_
  intro p e s m below meth c A Z hr hnm hA hP hD hS ls hl
  have Z : zC p s m _ meth c prog_9_method_2_code 3 "TraceMachines$Text" G := Z
  obtain ⟨hx, hb, hml, hown, hts, hK, hN, hlocks⟩ := id Z
  have hl : lv_has ls 3 [(0, .ref b0), (1, .int b1)] := hl
  refine lv_aload_n hx hb d_Text_put_0 rfl (lv_at hl 0 rfl) ?_
  refine va_get (D := G.1) (ci := 1) (v := .int b2) (C := R_Text) (T := F_Text) (N := 2) hx hb hts i_Text hown hK hP 0 rfl rfl 0 (by decide) (hts _ q37) (fun _ h9 => h9) rfl d_Text_put_1 ?_
  refine lv_iconst (v := 4) hx hb d_Text_put_4 (by decide) ?_
  refine lv_iadd hx hb d_Text_put_5 ?_
  refine lv_topi (fun v_1 ev_1 => ?_)
  obtain ⟨qv_1, hv_1⟩ := zI_add (l := 4) (h := 244) hb2 zc_4 ev_1 (by decide)
  rw [li_4] at qv_1
  refine lv_sipush (v := 240) hx hb d_Text_put_6 (by decide) ?_
  refine lv_icmp_le (tgt := 14) hx hb d_Text_put_9 (by decide) (fun hc_2 => ?_) (fun hc_2 => ?_)
  · have _nhc_2 := hc_2
    have hv_3 : zI v_1 4 240 := zI.le_l hv_1 zc_240 hc_2 (by decide)
    have hv_4 : zI b2 0 236 := by have _a := hv_3; have _b := qv_1; have _c := zc_4; have _d := hb2; exact ⟨by omega, by omega⟩
    refine lv_bipush (v := 24) hx hb d_Text_put_14 (by decide) ?_
    refine lv_istore_n (lv' := [(2, .int 24), (0, .ref b0), (1, .int b1)]) hx hb d_Text_put_16 rfl hl (by decide) rfl (fun ls hl => ?_)
    refine lv_iload_n hx hb d_Text_put_17 rfl (lv_at hl 0 rfl) ?_
    refine lv_if_lt (tgt := 54) hx hb d_Text_put_18 (by decide) (fun hc => absurd hc (by decide +kernel)) (fun _ => ?_)
    refine lv_aload_n hx hb d_Text_put_21 rfl (lv_at hl 1 rfl) ?_
    refine va_get (D := G.1) (ci := 1) (v := .ref b3) (C := R_Text) (T := F_Text) (N := 2) hx hb hts i_Text hown hK hP 0 rfl rfl 1 (by decide) (hts _ q39) (fun _ h9 => h9) rfl d_Text_put_22 ?_
    refine lv_aload_n hx hb d_Text_put_25 rfl (lv_at hl 1 rfl) ?_
    refine va_get (D := G.1) (ci := 1) (v := .int b2) (C := R_Text) (T := F_Text) (N := 2) hx hb hts i_Text hown hK hP 0 rfl rfl 0 (by decide) (hts _ q37) (fun _ h9 => h9) rfl d_Text_put_26 ?_
    refine lv_iload_n hx hb d_Text_put_29 rfl (lv_at hl 2 rfl) ?_
    refine lv_iload_n hx hb d_Text_put_30 rfl (lv_at hl 0 rfl) ?_
    obtain ⟨v_5, ev_5⟩ : ∃ z : Int32, z = ((b1).toUInt32 >>> ((24 : Int32).toUInt32 &&& Int32.toUInt32 31)).toInt32 := ⟨_, rfl⟩
    refine lv_iushr (v := v_5) hx hb d_Text_put_31 ev_5.symm ?_
    refine lv_sipush (v := 255) hx hb d_Text_put_32 (by decide) ?_
    refine lv_iand hx hb d_Text_put_35 ?_
    refine lv_topi (fun v_6 ev_6 => ?_)
    have hv_6 := zI_and (k := 8) (h := 255) (by decide +kernel) ev_6 (by decide)
    obtain ⟨v_7, ev_7⟩ : ∃ z : Int32, z = ((v_6).toUInt32 % 65536).toInt32 := ⟨_, rfl⟩
    refine lv_i2c (v := v_7) hx hb d_Text_put_36 ev_7.symm ?_
    refine va_cast hx hb hK hP hD hS 1 2 rfl rfl (zI.inn hv_4 (by decide)) d_Text_put_37 (fun H locs hP hD hS => ?_)
    obtain ⟨f_8, hP, hD⟩ := z_newF 1 hP hD rfl
    have hP : va_P G.1 classes [(b0, .inr (1, [.int b2, .ref b3])), (b3, .inl (G.2 2, 240, .inl f_8))] H := hP
    have hD := z_tie hP hD rfl
    refine lv_aload_n hx hb d_Text_put_38 rfl (lv_at hl 1 rfl) ?_
    refine lv_dup hx hb d_Text_put_39 rfl ?_
    refine va_get (D := G.1) (ci := 1) (v := .int b2) (C := R_Text) (T := F_Text) (N := 2) hx hb hts i_Text hown hK hP 0 rfl rfl 0 (by decide) (hts _ q37) (fun _ h9 => h9) rfl d_Text_put_40 ?_
    refine lv_iconst (v := 1) hx hb d_Text_put_43 (by decide) ?_
    refine lv_iadd hx hb d_Text_put_44 ?_
    refine lv_topi (fun v_9 ev_9 => ?_)
    obtain ⟨qv_9, hv_9⟩ := zI_add (l := 1) (h := 237) hv_4 zc_1 ev_9 (by decide)
    rw [li_1] at qv_9
    refine va_put (D := G.1) (ci := 1) (v := .int v_9) (ty := .int) (C := R_Text) (T := F_Text) (N := 2) hx hb hts i_Text t_Text t_Text_ok n_Text hown hK hP hD hS 0 rfl rfl 0 (by decide) (hts _ q37) (fun _ h9 => h9) rfl (by decide +kernel) rfl rfl (Nat.le_of_ble_eq_true rfl) d_Text_put_45 (fun H locs hP hD hS => ?_)
    have hP : va_P G.1 classes [(b0, .inr (1, [.int v_9, .ref b3])), (b3, .inl (G.2 2, 240, .inl f_8))] H := hP
    have hD := z_tie hP hD rfl
    refine lv_iinc (v := 16) (lv' := [(2, .int 16), (0, .ref b0), (1, .int b1)]) hx hb d_Text_put_48 hl (k := 0) rfl (by decide +kernel) (by decide) rfl (fun ls hl => ?_)
    refine lv_goto (tgt := 17) hx hb d_Text_put_51 (by decide) ?_
    refine lv_iload_n hx hb d_Text_put_17 rfl (lv_at hl 0 rfl) ?_
    refine lv_if_lt (tgt := 54) hx hb d_Text_put_18 (by decide) (fun hc => absurd hc (by decide +kernel)) (fun _ => ?_)
    refine lv_aload_n hx hb d_Text_put_21 rfl (lv_at hl 1 rfl) ?_
    refine va_get (D := G.1) (ci := 1) (v := .ref b3) (C := R_Text) (T := F_Text) (N := 2) hx hb hts i_Text hown hK hP 0 rfl rfl 1 (by decide) (hts _ q39) (fun _ h9 => h9) rfl d_Text_put_22 ?_
    refine lv_aload_n hx hb d_Text_put_25 rfl (lv_at hl 1 rfl) ?_
    refine va_get (D := G.1) (ci := 1) (v := .int v_9) (C := R_Text) (T := F_Text) (N := 2) hx hb hts i_Text hown hK hP 0 rfl rfl 0 (by decide) (hts _ q37) (fun _ h9 => h9) rfl d_Text_put_26 ?_
    refine lv_iload_n hx hb d_Text_put_29 rfl (lv_at hl 2 rfl) ?_
    refine lv_iload_n hx hb d_Text_put_30 rfl (lv_at hl 0 rfl) ?_
    obtain ⟨v_10, ev_10⟩ : ∃ z : Int32, z = ((b1).toUInt32 >>> ((16 : Int32).toUInt32 &&& Int32.toUInt32 31)).toInt32 := ⟨_, rfl⟩
    refine lv_iushr (v := v_10) hx hb d_Text_put_31 ev_10.symm ?_
    refine lv_sipush (v := 255) hx hb d_Text_put_32 (by decide) ?_
    refine lv_iand hx hb d_Text_put_35 ?_
    refine lv_topi (fun v_11 ev_11 => ?_)
    have hv_11 := zI_and (k := 8) (h := 255) (by decide +kernel) ev_11 (by decide)
    obtain ⟨v_12, ev_12⟩ : ∃ z : Int32, z = ((v_11).toUInt32 % 65536).toInt32 := ⟨_, rfl⟩
    refine lv_i2c (v := v_12) hx hb d_Text_put_36 ev_12.symm ?_
    refine va_cast hx hb hK hP hD hS 1 2 rfl rfl (zI.inn hv_9 (by decide)) d_Text_put_37 (fun H locs hP hD hS => ?_)
    obtain ⟨f_13, hP, hD⟩ := z_newF 1 hP hD rfl
    have hP : va_P G.1 classes [(b0, .inr (1, [.int v_9, .ref b3])), (b3, .inl (G.2 2, 240, .inl f_13))] H := hP
    have hD := z_tie hP hD rfl
    refine lv_aload_n hx hb d_Text_put_38 rfl (lv_at hl 1 rfl) ?_
    refine lv_dup hx hb d_Text_put_39 rfl ?_
    refine va_get (D := G.1) (ci := 1) (v := .int v_9) (C := R_Text) (T := F_Text) (N := 2) hx hb hts i_Text hown hK hP 0 rfl rfl 0 (by decide) (hts _ q37) (fun _ h9 => h9) rfl d_Text_put_40 ?_
    refine lv_iconst (v := 1) hx hb d_Text_put_43 (by decide) ?_
    refine lv_iadd hx hb d_Text_put_44 ?_
    refine lv_topi (fun v_14 ev_14 => ?_)
    obtain ⟨qv_14, hv_14⟩ := zI_add (l := 2) (h := 238) hv_9 zc_1 ev_14 (by decide)
    rw [li_1] at qv_14
    refine va_put (D := G.1) (ci := 1) (v := .int v_14) (ty := .int) (C := R_Text) (T := F_Text) (N := 2) hx hb hts i_Text t_Text t_Text_ok n_Text hown hK hP hD hS 0 rfl rfl 0 (by decide) (hts _ q37) (fun _ h9 => h9) rfl (by decide +kernel) rfl rfl (Nat.le_of_ble_eq_true rfl) d_Text_put_45 (fun H locs hP hD hS => ?_)
    have hP : va_P G.1 classes [(b0, .inr (1, [.int v_14, .ref b3])), (b3, .inl (G.2 2, 240, .inl f_13))] H := hP
    have hD := z_tie hP hD rfl
    refine lv_iinc (v := 8) (lv' := [(2, .int 8), (0, .ref b0), (1, .int b1)]) hx hb d_Text_put_48 hl (k := 0) rfl (by decide +kernel) (by decide) rfl (fun ls hl => ?_)
    refine lv_goto (tgt := 17) hx hb d_Text_put_51 (by decide) ?_
    refine lv_iload_n hx hb d_Text_put_17 rfl (lv_at hl 0 rfl) ?_
    refine lv_if_lt (tgt := 54) hx hb d_Text_put_18 (by decide) (fun hc => absurd hc (by decide +kernel)) (fun _ => ?_)
    refine lv_aload_n hx hb d_Text_put_21 rfl (lv_at hl 1 rfl) ?_
    refine va_get (D := G.1) (ci := 1) (v := .ref b3) (C := R_Text) (T := F_Text) (N := 2) hx hb hts i_Text hown hK hP 0 rfl rfl 1 (by decide) (hts _ q39) (fun _ h9 => h9) rfl d_Text_put_22 ?_
    refine lv_aload_n hx hb d_Text_put_25 rfl (lv_at hl 1 rfl) ?_
    refine va_get (D := G.1) (ci := 1) (v := .int v_14) (C := R_Text) (T := F_Text) (N := 2) hx hb hts i_Text hown hK hP 0 rfl rfl 0 (by decide) (hts _ q37) (fun _ h9 => h9) rfl d_Text_put_26 ?_
    refine lv_iload_n hx hb d_Text_put_29 rfl (lv_at hl 2 rfl) ?_
    refine lv_iload_n hx hb d_Text_put_30 rfl (lv_at hl 0 rfl) ?_
    obtain ⟨v_15, ev_15⟩ : ∃ z : Int32, z = ((b1).toUInt32 >>> ((8 : Int32).toUInt32 &&& Int32.toUInt32 31)).toInt32 := ⟨_, rfl⟩
    refine lv_iushr (v := v_15) hx hb d_Text_put_31 ev_15.symm ?_
    refine lv_sipush (v := 255) hx hb d_Text_put_32 (by decide) ?_
    refine lv_iand hx hb d_Text_put_35 ?_
    refine lv_topi (fun v_16 ev_16 => ?_)
    have hv_16 := zI_and (k := 8) (h := 255) (by decide +kernel) ev_16 (by decide)
    obtain ⟨v_17, ev_17⟩ : ∃ z : Int32, z = ((v_16).toUInt32 % 65536).toInt32 := ⟨_, rfl⟩
    refine lv_i2c (v := v_17) hx hb d_Text_put_36 ev_17.symm ?_
    refine va_cast hx hb hK hP hD hS 1 2 rfl rfl (zI.inn hv_14 (by decide)) d_Text_put_37 (fun H locs hP hD hS => ?_)
    obtain ⟨f_18, hP, hD⟩ := z_newF 1 hP hD rfl
    have hP : va_P G.1 classes [(b0, .inr (1, [.int v_14, .ref b3])), (b3, .inl (G.2 2, 240, .inl f_18))] H := hP
    have hD := z_tie hP hD rfl
    refine lv_aload_n hx hb d_Text_put_38 rfl (lv_at hl 1 rfl) ?_
    refine lv_dup hx hb d_Text_put_39 rfl ?_
    refine va_get (D := G.1) (ci := 1) (v := .int v_14) (C := R_Text) (T := F_Text) (N := 2) hx hb hts i_Text hown hK hP 0 rfl rfl 0 (by decide) (hts _ q37) (fun _ h9 => h9) rfl d_Text_put_40 ?_
    refine lv_iconst (v := 1) hx hb d_Text_put_43 (by decide) ?_
    refine lv_iadd hx hb d_Text_put_44 ?_
    refine lv_topi (fun v_19 ev_19 => ?_)
    obtain ⟨qv_19, hv_19⟩ := zI_add (l := 3) (h := 239) hv_14 zc_1 ev_19 (by decide)
    rw [li_1] at qv_19
    refine va_put (D := G.1) (ci := 1) (v := .int v_19) (ty := .int) (C := R_Text) (T := F_Text) (N := 2) hx hb hts i_Text t_Text t_Text_ok n_Text hown hK hP hD hS 0 rfl rfl 0 (by decide) (hts _ q37) (fun _ h9 => h9) rfl (by decide +kernel) rfl rfl (Nat.le_of_ble_eq_true rfl) d_Text_put_45 (fun H locs hP hD hS => ?_)
    have hP : va_P G.1 classes [(b0, .inr (1, [.int v_19, .ref b3])), (b3, .inl (G.2 2, 240, .inl f_18))] H := hP
    have hD := z_tie hP hD rfl
    refine lv_iinc (v := 0) (lv' := [(2, .int 0), (0, .ref b0), (1, .int b1)]) hx hb d_Text_put_48 hl (k := 0) rfl (by decide +kernel) (by decide) rfl (fun ls hl => ?_)
    refine lv_goto (tgt := 17) hx hb d_Text_put_51 (by decide) ?_
    refine lv_iload_n hx hb d_Text_put_17 rfl (lv_at hl 0 rfl) ?_
    refine lv_if_lt (tgt := 54) hx hb d_Text_put_18 (by decide) (fun hc => absurd hc (by decide +kernel)) (fun _ => ?_)
    refine lv_aload_n hx hb d_Text_put_21 rfl (lv_at hl 1 rfl) ?_
    refine va_get (D := G.1) (ci := 1) (v := .ref b3) (C := R_Text) (T := F_Text) (N := 2) hx hb hts i_Text hown hK hP 0 rfl rfl 1 (by decide) (hts _ q39) (fun _ h9 => h9) rfl d_Text_put_22 ?_
    refine lv_aload_n hx hb d_Text_put_25 rfl (lv_at hl 1 rfl) ?_
    refine va_get (D := G.1) (ci := 1) (v := .int v_19) (C := R_Text) (T := F_Text) (N := 2) hx hb hts i_Text hown hK hP 0 rfl rfl 0 (by decide) (hts _ q37) (fun _ h9 => h9) rfl d_Text_put_26 ?_
    refine lv_iload_n hx hb d_Text_put_29 rfl (lv_at hl 2 rfl) ?_
    refine lv_iload_n hx hb d_Text_put_30 rfl (lv_at hl 0 rfl) ?_
    obtain ⟨v_20, ev_20⟩ : ∃ z : Int32, z = ((b1).toUInt32 >>> ((0 : Int32).toUInt32 &&& Int32.toUInt32 31)).toInt32 := ⟨_, rfl⟩
    refine lv_iushr (v := v_20) hx hb d_Text_put_31 ev_20.symm ?_
    refine lv_sipush (v := 255) hx hb d_Text_put_32 (by decide) ?_
    refine lv_iand hx hb d_Text_put_35 ?_
    refine lv_topi (fun v_21 ev_21 => ?_)
    have hv_21 := zI_and (k := 8) (h := 255) (by decide +kernel) ev_21 (by decide)
    obtain ⟨v_22, ev_22⟩ : ∃ z : Int32, z = ((v_21).toUInt32 % 65536).toInt32 := ⟨_, rfl⟩
    refine lv_i2c (v := v_22) hx hb d_Text_put_36 ev_22.symm ?_
    refine va_cast hx hb hK hP hD hS 1 2 rfl rfl (zI.inn hv_19 (by decide)) d_Text_put_37 (fun H locs hP hD hS => ?_)
    obtain ⟨f_23, hP, hD⟩ := z_newF 1 hP hD rfl
    have hP : va_P G.1 classes [(b0, .inr (1, [.int v_19, .ref b3])), (b3, .inl (G.2 2, 240, .inl f_23))] H := hP
    have hD := z_tie hP hD rfl
    refine lv_aload_n hx hb d_Text_put_38 rfl (lv_at hl 1 rfl) ?_
    refine lv_dup hx hb d_Text_put_39 rfl ?_
    refine va_get (D := G.1) (ci := 1) (v := .int v_19) (C := R_Text) (T := F_Text) (N := 2) hx hb hts i_Text hown hK hP 0 rfl rfl 0 (by decide) (hts _ q37) (fun _ h9 => h9) rfl d_Text_put_40 ?_
    refine lv_iconst (v := 1) hx hb d_Text_put_43 (by decide) ?_
    refine lv_iadd hx hb d_Text_put_44 ?_
    refine lv_topi (fun v_24 ev_24 => ?_)
    obtain ⟨qv_24, hv_24⟩ := zI_add (l := 4) (h := 240) hv_19 zc_1 ev_24 (by decide)
    rw [li_1] at qv_24
    refine va_put (D := G.1) (ci := 1) (v := .int v_24) (ty := .int) (C := R_Text) (T := F_Text) (N := 2) hx hb hts i_Text t_Text t_Text_ok n_Text hown hK hP hD hS 0 rfl rfl 0 (by decide) (hts _ q37) (fun _ h9 => h9) rfl (by decide +kernel) rfl rfl (Nat.le_of_ble_eq_true rfl) d_Text_put_45 (fun H locs hP hD hS => ?_)
    have hP : va_P G.1 classes [(b0, .inr (1, [.int v_24, .ref b3])), (b3, .inl (G.2 2, 240, .inl f_23))] H := hP
    have hD := z_tie hP hD rfl
    refine lv_iinc (v := (-8)) (lv' := [(2, .int (-8)), (0, .ref b0), (1, .int b1)]) hx hb d_Text_put_48 hl (k := 0) rfl (by decide +kernel) (by decide) rfl (fun ls hl => ?_)
    refine lv_goto (tgt := 17) hx hb d_Text_put_51 (by decide) ?_
    refine lv_iload_n hx hb d_Text_put_17 rfl (lv_at hl 0 rfl) ?_
    refine lv_if_lt (tgt := 54) hx hb d_Text_put_18 (by decide) (fun _ => ?_) (fun hc => absurd hc (by decide +kernel))
    refine lv_iconst (v := 1) hx hb d_Text_put_54 (by decide) ?_
    exact z_zret hx hb hr hlocks rfl hP hD hS (Nat.le_of_ble_eq_true rfl) (Nat.le_of_ble_eq_true rfl) d_Text_put_55 ⟨1, v_24, f_23, rfl, rfl, (zI.wk (l' := 0) (h' := 1) zc_1 (by decide)), (zI.wk (l' := 0) (h' := 240) hv_24 (by decide))⟩
  · have _nhc_2 := hc_2
    have hv_25 : zI v_1 241 244 := zI.lt_r zc_240 hv_1 (zi_nle hc_2) (by decide)
    have hv_26 : zI b2 237 240 := by have _a := hv_25; have _b := qv_1; have _c := zc_4; have _d := hb2; exact ⟨by omega, by omega⟩
    refine lv_iconst (v := 0) hx hb d_Text_put_12 (by decide) ?_
    exact z_zret hx hb hr hlocks rfl hP hD hS (Nat.le_of_ble_eq_true rfl) (Nat.le_of_ble_eq_true rfl) d_Text_put_13 ⟨0, b2, b4, rfl, rfl, (zI.wk (l' := 0) (h' := 1) zc_0 (by decide)), (zI.wk (l' := 0) (h' := 240) hv_26 (by decide))⟩
theorem d_Text_cut_0 : decode prog_9_method_3_code 0 = .ok (.iload_n 1, 1) := by decide +kernel
theorem d_Text_cut_1 : decode prog_9_method_3_code 1 = .ok (.ifCond .lt 11, 3) := by decide +kernel
theorem d_Text_cut_4 : decode prog_9_method_3_code 4 = .ok (.iload_n 1, 1) := by decide +kernel
theorem d_Text_cut_5 : decode prog_9_method_3_code 5 = .ok (.aload_n 0, 1) := by decide +kernel
theorem d_Text_cut_6 : decode prog_9_method_3_code 6 = .ok (.getfield 15, 3) := by decide +kernel
theorem d_Text_cut_9 : decode prog_9_method_3_code 9 = .ok (.if_icmp .le 5, 3) := by decide +kernel
theorem d_Text_cut_12 : decode prog_9_method_3_code 12 = .ok (.iconst 0, 1) := by decide +kernel
theorem d_Text_cut_13 : decode prog_9_method_3_code 13 = .ok (.ireturn, 1) := by decide +kernel
theorem d_Text_cut_14 : decode prog_9_method_3_code 14 = .ok (.aload_n 0, 1) := by decide +kernel
theorem d_Text_cut_15 : decode prog_9_method_3_code 15 = .ok (.iload_n 1, 1) := by decide +kernel
theorem d_Text_cut_16 : decode prog_9_method_3_code 16 = .ok (.putfield 15, 3) := by decide +kernel
theorem d_Text_cut_19 : decode prog_9_method_3_code 19 = .ok (.iconst 1, 1) := by decide +kernel
theorem d_Text_cut_20 : decode prog_9_method_3_code 20 = .ok (.ireturn, 1) := by decide +kernel
abbrev m_s1_Text_cut : Room := { frames := 0, cells := 0, slots := 0, locals := 0 }
set_option maxHeartbeats 4000000 in
set_option maxRecDepth 100000 in
theorem s1_Text_cut (l : Launch) (G : zG) (b0 : Nat) (b1 : Int32) (b2 : Int32) (b3 : Nat) (hb2 : zI b2 0 240) : zM l G y_Text_cut prog_9_method_3_code 2 (Option.some Jvm.ClassFile.FieldType.boolean) m_s1_Text_cut [.ref b0, .int b1] [(b0, .inr (1, [.int b2, .ref b3]))] (fun v w => ∃ (e0 : Int32), ∃ (e1 : Int32), v = some (.int e0) ∧ w = [(b0, .inr (1, [.int e1, .ref b3]))] ∧ zI e0 0 1 ∧ zI e1 0 240) := by
  refine z_start (by decide +kernel) (Nat.le_of_ble_eq_true rfl) ?_
  intro p e s m below meth c A Z hr hnm hA hP hD hS ls hl
  have Z : zC p s m _ meth c prog_9_method_3_code 2 "TraceMachines$Text" G := Z
  obtain ⟨hx, hb, hml, hown, hts, hK, hN, hlocks⟩ := id Z
  have hl : lv_has ls 2 [(0, .ref b0), (1, .int b1)] := hl
  refine lv_iload_n hx hb d_Text_cut_0 rfl (lv_at hl 1 rfl) ?_
  refine lv_if_lt (tgt := 12) hx hb d_Text_cut_1 (by decide) (fun hc_1 => ?_) (fun hc_1 => ?_)
  · have _nhc_1 := hc_1
    have hv_2 : zI b1 (-2147483648) (-1) := zI.lt_l (zI_all b1) zc_0 hc_1 (by decide)
    refine lv_iconst (v := 0) hx hb d_Text_cut_12 (by decide) ?_
    exact z_zret hx hb hr hlocks rfl hP hD hS (Nat.le_of_ble_eq_true rfl) (Nat.le_of_ble_eq_true rfl) d_Text_cut_13 ⟨0, b2, rfl, rfl, (zI.wk (l' := 0) (h' := 1) zc_0 (by decide)), hb2⟩
  · have _nhc_1 := hc_1
    have hv_3 : zI b1 0 2147483647 := zI.le_r zc_0 (zI_all b1) (zi_nlt hc_1) (by decide)
    refine lv_iload_n hx hb d_Text_cut_4 rfl (lv_at hl 1 rfl) ?_
    refine lv_aload_n hx hb d_Text_cut_5 rfl (lv_at hl 0 rfl) ?_
    refine va_get (D := G.1) (ci := 1) (v := .int b2) (C := R_Text) (T := F_Text) (N := 2) hx hb hts i_Text hown hK hP 0 rfl rfl 0 (by decide) (hts _ q37) (fun _ h9 => h9) rfl d_Text_cut_6 ?_
    refine lv_icmp_le (tgt := 14) hx hb d_Text_cut_9 (by decide) (fun hc_4 => ?_) (fun hc_4 => ?_)
    · have _nhc_4 := hc_4
      have hv_5 : zI b1 0 240 := zI.le_l hv_3 hb2 hc_4 (by decide)
      refine lv_aload_n hx hb d_Text_cut_14 rfl (lv_at hl 0 rfl) ?_
      refine lv_iload_n hx hb d_Text_cut_15 rfl (lv_at hl 1 rfl) ?_
      refine va_put (D := G.1) (ci := 1) (v := .int b1) (ty := .int) (C := R_Text) (T := F_Text) (N := 2) hx hb hts i_Text t_Text t_Text_ok n_Text hown hK hP hD hS 0 rfl rfl 0 (by decide) (hts _ q37) (fun _ h9 => h9) rfl (by decide +kernel) rfl rfl (Nat.le_of_ble_eq_true rfl) d_Text_cut_16 (fun H locs hP hD hS => ?_)
      have hP : va_P G.1 classes [(b0, .inr (1, [.int b1, .ref b3]))] H := hP
      have hD := z_tie hP hD rfl
      refine lv_iconst (v := 1) hx hb d_Text_cut_19 (by decide) ?_
      exact z_zret hx hb hr hlocks rfl hP hD hS (Nat.le_of_ble_eq_true rfl) (Nat.le_of_ble_eq_true rfl) d_Text_cut_20 ⟨1, b1, rfl, rfl, (zI.wk (l' := 0) (h' := 1) zc_1 (by decide)), hv_5⟩
    · have _nhc_4 := hc_4
      have hv_6 : zI b1 1 2147483647 := zI.lt_r hb2 hv_3 (zi_nle hc_4) (by decide)
      refine lv_iconst (v := 0) hx hb d_Text_cut_12 (by decide) ?_
      exact z_zret hx hb hr hlocks rfl hP hD hS (Nat.le_of_ble_eq_true rfl) (Nat.le_of_ble_eq_true rfl) d_Text_cut_13 ⟨0, b2, rfl, rfl, (zI.wk (l' := 0) (h' := 1) zc_0 (by decide)), hb2⟩
theorem d_Odds_placeOf_0 : decode prog_5_method_4_code 0 = .ok (.iconst 0, 1) := by decide +kernel
theorem d_Odds_placeOf_1 : decode prog_5_method_4_code 1 = .ok (.istore_n 2, 1) := by decide +kernel
theorem d_Odds_placeOf_2 : decode prog_5_method_4_code 2 = .ok (.iconst 0, 1) := by decide +kernel
theorem d_Odds_placeOf_3 : decode prog_5_method_4_code 3 = .ok (.istore_n 3, 1) := by decide +kernel
theorem d_Odds_placeOf_4 : decode prog_5_method_4_code 4 = .ok (.iload_n 3, 1) := by decide +kernel
theorem d_Odds_placeOf_5 : decode prog_5_method_4_code 5 = .ok (.aload_n 0, 1) := by decide +kernel
theorem d_Odds_placeOf_6 : decode prog_5_method_4_code 6 = .ok (.getfield 24, 3) := by decide +kernel
theorem d_Odds_placeOf_9 : decode prog_5_method_4_code 9 = .ok (.if_icmp .ge 21, 3) := by decide +kernel
theorem d_Odds_placeOf_12 : decode prog_5_method_4_code 12 = .ok (.aload_n 0, 1) := by decide +kernel
theorem d_Odds_placeOf_13 : decode prog_5_method_4_code 13 = .ok (.iload_n 3, 1) := by decide +kernel
theorem d_Odds_placeOf_14 : decode prog_5_method_4_code 14 = .ok (.iload_n 1, 1) := by decide +kernel
theorem d_Odds_placeOf_15 : decode prog_5_method_4_code 15 = .ok (.invokevirtual 46, 3) := by decide +kernel
theorem d_Odds_placeOf_30 : decode prog_5_method_4_code 30 = .ok (.iload_n 2, 1) := by decide +kernel
theorem d_Odds_isOdder_0 : decode prog_5_method_5_code 0 = .ok (.aload_n 0, 1) := by decide +kernel
theorem d_Odds_isOdder_1 : decode prog_5_method_5_code 1 = .ok (.getfield 9, 3) := by decide +kernel
theorem d_Odds_isOdder_4 : decode prog_5_method_5_code 4 = .ok (.iload_n 1, 1) := by decide +kernel
theorem d_Odds_isOdder_5 : decode prog_5_method_5_code 5 = .ok (.iaload, 1) := by decide +kernel
theorem d_Odds_isOdder_6 : decode prog_5_method_5_code 6 = .ok (.aload_n 0, 1) := by decide +kernel
theorem d_Odds_isOdder_7 : decode prog_5_method_5_code 7 = .ok (.getfield 9, 3) := by decide +kernel
theorem d_Odds_isOdder_10 : decode prog_5_method_5_code 10 = .ok (.iload_n 2, 1) := by decide +kernel
theorem d_Odds_isOdder_11 : decode prog_5_method_5_code 11 = .ok (.iaload, 1) := by decide +kernel
theorem d_Odds_isOdder_12 : decode prog_5_method_5_code 12 = .ok (.if_icmp .eq 24, 3) := by decide +kernel
theorem d_Odds_isOdder_15 : decode prog_5_method_5_code 15 = .ok (.aload_n 0, 1) := by decide +kernel
theorem d_Odds_isOdder_16 : decode prog_5_method_5_code 16 = .ok (.getfield 9, 3) := by decide +kernel
theorem d_Odds_isOdder_19 : decode prog_5_method_5_code 19 = .ok (.iload_n 1, 1) := by decide +kernel
theorem d_Odds_isOdder_20 : decode prog_5_method_5_code 20 = .ok (.iaload, 1) := by decide +kernel
theorem d_Odds_isOdder_21 : decode prog_5_method_5_code 21 = .ok (.aload_n 0, 1) := by decide +kernel
theorem d_Odds_isOdder_22 : decode prog_5_method_5_code 22 = .ok (.getfield 9, 3) := by decide +kernel
theorem d_Odds_isOdder_25 : decode prog_5_method_5_code 25 = .ok (.iload_n 2, 1) := by decide +kernel
theorem d_Odds_isOdder_26 : decode prog_5_method_5_code 26 = .ok (.iaload, 1) := by decide +kernel
theorem d_Odds_isOdder_27 : decode prog_5_method_5_code 27 = .ok (.if_icmp .ge 7, 3) := by decide +kernel
theorem d_Odds_isOdder_30 : decode prog_5_method_5_code 30 = .ok (.iconst 1, 1) := by decide +kernel
theorem d_Odds_isOdder_31 : decode prog_5_method_5_code 31 = .ok (.goto 4, 3) := by decide +kernel
theorem d_Odds_isOdder_34 : decode prog_5_method_5_code 34 = .ok (.iconst 0, 1) := by decide +kernel
theorem d_Odds_isOdder_35 : decode prog_5_method_5_code 35 = .ok (.ireturn, 1) := by decide +kernel
theorem d_Odds_isOdder_36 : decode prog_5_method_5_code 36 = .ok (.aload_n 0, 1) := by decide +kernel
theorem d_Odds_isOdder_37 : decode prog_5_method_5_code 37 = .ok (.getfield 15, 3) := by decide +kernel
theorem d_Odds_isOdder_40 : decode prog_5_method_5_code 40 = .ok (.iload_n 1, 1) := by decide +kernel
theorem d_Odds_isOdder_41 : decode prog_5_method_5_code 41 = .ok (.iaload, 1) := by decide +kernel
theorem d_Odds_isOdder_42 : decode prog_5_method_5_code 42 = .ok (.aload_n 0, 1) := by decide +kernel
theorem d_Odds_isOdder_43 : decode prog_5_method_5_code 43 = .ok (.getfield 15, 3) := by decide +kernel
theorem d_Odds_isOdder_46 : decode prog_5_method_5_code 46 = .ok (.iload_n 2, 1) := by decide +kernel
theorem d_Odds_isOdder_47 : decode prog_5_method_5_code 47 = .ok (.iaload, 1) := by decide +kernel
theorem d_Odds_isOdder_48 : decode prog_5_method_5_code 48 = .ok (.if_icmp .eq 24, 3) := by decide +kernel
theorem d_Odds_isOdder_51 : decode prog_5_method_5_code 51 = .ok (.aload_n 0, 1) := by decide +kernel
theorem d_Odds_isOdder_52 : decode prog_5_method_5_code 52 = .ok (.getfield 15, 3) := by decide +kernel
theorem d_Odds_isOdder_55 : decode prog_5_method_5_code 55 = .ok (.iload_n 1, 1) := by decide +kernel
theorem d_Odds_isOdder_56 : decode prog_5_method_5_code 56 = .ok (.iaload, 1) := by decide +kernel
theorem d_Odds_isOdder_57 : decode prog_5_method_5_code 57 = .ok (.aload_n 0, 1) := by decide +kernel
theorem d_Odds_isOdder_58 : decode prog_5_method_5_code 58 = .ok (.getfield 15, 3) := by decide +kernel
theorem d_Odds_isOdder_61 : decode prog_5_method_5_code 61 = .ok (.iload_n 2, 1) := by decide +kernel
theorem d_Odds_isOdder_62 : decode prog_5_method_5_code 62 = .ok (.iaload, 1) := by decide +kernel
theorem d_Odds_isOdder_63 : decode prog_5_method_5_code 63 = .ok (.if_icmp .le 7, 3) := by decide +kernel
theorem d_Odds_isOdder_66 : decode prog_5_method_5_code 66 = .ok (.iconst 1, 1) := by decide +kernel
theorem d_Odds_isOdder_67 : decode prog_5_method_5_code 67 = .ok (.goto 4, 3) := by decide +kernel
theorem d_Odds_isOdder_70 : decode prog_5_method_5_code 70 = .ok (.iconst 0, 1) := by decide +kernel
theorem d_Odds_isOdder_71 : decode prog_5_method_5_code 71 = .ok (.ireturn, 1) := by decide +kernel
theorem d_Odds_isOdder_72 : decode prog_5_method_5_code 72 = .ok (.iload_n 1, 1) := by decide +kernel
theorem d_Odds_isOdder_73 : decode prog_5_method_5_code 73 = .ok (.iload_n 2, 1) := by decide +kernel
theorem d_Odds_isOdder_74 : decode prog_5_method_5_code 74 = .ok (.if_icmp .ge 7, 3) := by decide +kernel
theorem d_Odds_isOdder_77 : decode prog_5_method_5_code 77 = .ok (.iconst 1, 1) := by decide +kernel
theorem d_Odds_isOdder_78 : decode prog_5_method_5_code 78 = .ok (.goto 4, 3) := by decide +kernel
theorem d_Odds_isOdder_81 : decode prog_5_method_5_code 81 = .ok (.iconst 0, 1) := by decide +kernel
theorem d_Odds_isOdder_82 : decode prog_5_method_5_code 82 = .ok (.ireturn, 1) := by decide +kernel
abbrev m_s1_Odds_isOdder : Room := { frames := 0, cells := 0, slots := 0, locals := 0 }
set_option maxHeartbeats 4000000 in
set_option maxRecDepth 100000 in
theorem s1_Odds_isOdder (l : Launch) (G : zG) (b0 : Nat) (b1 : Int32) (b2 : Int32) (b3 : Nat) (b4 : Nat) (b5 : Int32) (b6 : Nat → Int32) (b7 : Nat → Int32) (hb1 : zI b1 0 0) (hb2 : zI b2 0 19) (hb5 : zI b5 0 20) : zM l G y_Odds_isOdder prog_5_method_5_code 3 (Option.some Jvm.ClassFile.FieldType.boolean) m_s1_Odds_isOdder [.ref b0, .int b1, .int b2] [(b0, .inr (11, [.ref b3, .ref b4, .int b5])), (b3, .inl (G.2 0, 20, .inl b6)), (b4, .inl (G.2 0, 20, .inl b7))] (fun v w => ∃ (e0 : Int32), v = some (.int e0) ∧ w = [(b0, .inr (11, [.ref b3, .ref b4, .int b5])), (b3, .inl (G.2 0, 20, .inl b6)), (b4, .inl (G.2 0, 20, .inl b7))] ∧ zI e0 0 1) := by
  refine z_start (by decide +kernel) (Nat.le_of_ble_eq_true rfl) ?_
  intro p e s m below meth c A Z hr hnm hA hP hD hS ls hl
  have Z : zC p s m _ meth c prog_5_method_5_code 3 "TraceMachines$Odds" G := Z
  obtain ⟨hx, hb, hml, hown, hts, hK, hN, hlocks⟩ := id Z
  have hl : lv_has ls 3 [(0, .ref b0), (1, .int b1), (2, .int b2)] := hl
  refine lv_aload_n hx hb d_Odds_isOdder_0 rfl (lv_at hl 0 rfl) ?_
  refine va_get (D := G.1) (ci := 11) (v := .ref b3) (C := R_Odds) (T := F_Odds) (N := 3) hx hb hts i_Odds hown hK hP 0 rfl rfl 0 (by decide) (hts _ q402) (fun _ h9 => h9) rfl d_Odds_isOdder_1 ?_
  refine lv_iload_n hx hb d_Odds_isOdder_4 rfl (lv_at hl 1 rfl) ?_
  refine va_iald hx hb hK hP 1 0 rfl rfl (zI.inn hb1 (by decide)) d_Odds_isOdder_5 ?_
  refine lv_topi (fun v_1 ev_1 => ?_)
  refine lv_aload_n hx hb d_Odds_isOdder_6 rfl (lv_at hl 0 rfl) ?_
  refine va_get (D := G.1) (ci := 11) (v := .ref b3) (C := R_Odds) (T := F_Odds) (N := 3) hx hb hts i_Odds hown hK hP 0 rfl rfl 0 (by decide) (hts _ q402) (fun _ h9 => h9) rfl d_Odds_isOdder_7 ?_
  refine lv_iload_n hx hb d_Odds_isOdder_10 rfl (lv_at hl 2 rfl) ?_
  refine va_iald hx hb hK hP 1 0 rfl rfl (zI.inn hb2 (by decide)) d_Odds_isOdder_11 ?_
  refine lv_topi (fun v_2 ev_2 => ?_)
  refine lv_icmp_eq (tgt := 36) hx hb d_Odds_isOdder_12 (by decide) (fun hc_3 => ?_) (fun hc_3 => ?_)
  · have _nhc_3 := hc_3
    refine lv_aload_n hx hb d_Odds_isOdder_36 rfl (lv_at hl 0 rfl) ?_
    refine va_get (D := G.1) (ci := 11) (v := .ref b4) (C := R_Odds) (T := F_Odds) (N := 3) hx hb hts i_Odds hown hK hP 0 rfl rfl 1 (by decide) (hts _ q404) (fun _ h9 => h9) rfl d_Odds_isOdder_37 ?_
    refine lv_iload_n hx hb d_Odds_isOdder_40 rfl (lv_at hl 1 rfl) ?_
    refine va_iald hx hb hK hP 2 0 rfl rfl (zI.inn hb1 (by decide)) d_Odds_isOdder_41 ?_
    refine lv_topi (fun v_4 ev_4 => ?_)
    refine lv_aload_n hx hb d_Odds_isOdder_42 rfl (lv_at hl 0 rfl) ?_
    refine va_get (D := G.1) (ci := 11) (v := .ref b4) (C := R_Odds) (T := F_Odds) (N := 3) hx hb hts i_Odds hown hK hP 0 rfl rfl 1 (by decide) (hts _ q404) (fun _ h9 => h9) rfl d_Odds_isOdder_43 ?_
    refine lv_iload_n hx hb d_Odds_isOdder_46 rfl (lv_at hl 2 rfl) ?_
    refine va_iald hx hb hK hP 2 0 rfl rfl (zI.inn hb2 (by decide)) d_Odds_isOdder_47 ?_
    refine lv_topi (fun v_5 ev_5 => ?_)
    refine lv_icmp_eq (tgt := 72) hx hb d_Odds_isOdder_48 (by decide) (fun hc_6 => ?_) (fun hc_6 => ?_)
    · have _nhc_6 := hc_6
      refine lv_iload_n hx hb d_Odds_isOdder_72 rfl (lv_at hl 1 rfl) ?_
      refine lv_iload_n hx hb d_Odds_isOdder_73 rfl (lv_at hl 2 rfl) ?_
      refine lv_icmp_ge (tgt := 81) hx hb d_Odds_isOdder_74 (by decide) (fun hc_7 => ?_) (fun hc_7 => ?_)
      · have _nhc_7 := hc_7
        have hv_8 : zI b2 0 0 := zI.le_l hb2 hb1 hc_7 (by decide)
        refine lv_iconst (v := 0) hx hb d_Odds_isOdder_81 (by decide) ?_
        exact z_zret hx hb hr hlocks rfl hP hD hS (Nat.le_of_ble_eq_true rfl) (Nat.le_of_ble_eq_true rfl) d_Odds_isOdder_82 ⟨0, rfl, rfl, (zI.wk (l' := 0) (h' := 1) zc_0 (by decide))⟩
      · have _nhc_7 := hc_7
        have hv_9 : zI b2 1 19 := zI.lt_r hb1 hb2 (zi_nle hc_7) (by decide)
        refine lv_iconst (v := 1) hx hb d_Odds_isOdder_77 (by decide) ?_
        refine lv_goto (tgt := 82) hx hb d_Odds_isOdder_78 (by decide) ?_
        exact z_zret hx hb hr hlocks rfl hP hD hS (Nat.le_of_ble_eq_true rfl) (Nat.le_of_ble_eq_true rfl) d_Odds_isOdder_82 ⟨1, rfl, rfl, (zI.wk (l' := 0) (h' := 1) zc_1 (by decide))⟩
    · have _nhc_6 := hc_6
      refine lv_aload_n hx hb d_Odds_isOdder_51 rfl (lv_at hl 0 rfl) ?_
      refine va_get (D := G.1) (ci := 11) (v := .ref b4) (C := R_Odds) (T := F_Odds) (N := 3) hx hb hts i_Odds hown hK hP 0 rfl rfl 1 (by decide) (hts _ q404) (fun _ h9 => h9) rfl d_Odds_isOdder_52 ?_
      refine lv_iload_n hx hb d_Odds_isOdder_55 rfl (lv_at hl 1 rfl) ?_
      refine va_iald hx hb hK hP 2 0 rfl rfl (zI.inn hb1 (by decide)) d_Odds_isOdder_56 ?_
      refine lv_topi (fun v_10 ev_10 => ?_)
      obtain rfl : v_4 = v_10 := ev_4.trans ev_10.symm
      refine lv_aload_n hx hb d_Odds_isOdder_57 rfl (lv_at hl 0 rfl) ?_
      refine va_get (D := G.1) (ci := 11) (v := .ref b4) (C := R_Odds) (T := F_Odds) (N := 3) hx hb hts i_Odds hown hK hP 0 rfl rfl 1 (by decide) (hts _ q404) (fun _ h9 => h9) rfl d_Odds_isOdder_58 ?_
      refine lv_iload_n hx hb d_Odds_isOdder_61 rfl (lv_at hl 2 rfl) ?_
      refine va_iald hx hb hK hP 2 0 rfl rfl (zI.inn hb2 (by decide)) d_Odds_isOdder_62 ?_
      refine lv_topi (fun v_11 ev_11 => ?_)
      obtain rfl : v_5 = v_11 := ev_5.trans ev_11.symm
      refine lv_icmp_le (tgt := 70) hx hb d_Odds_isOdder_63 (by decide) (fun hc_12 => ?_) (fun hc_12 => ?_)
      · have _nhc_12 := hc_12
        refine lv_iconst (v := 0) hx hb d_Odds_isOdder_70 (by decide) ?_
        exact z_zret hx hb hr hlocks rfl hP hD hS (Nat.le_of_ble_eq_true rfl) (Nat.le_of_ble_eq_true rfl) d_Odds_isOdder_71 ⟨0, rfl, rfl, (zI.wk (l' := 0) (h' := 1) zc_0 (by decide))⟩
      · have _nhc_12 := hc_12
        have hv_13 : zI v_5 (-2147483648) 2147483646 := zI.lt_l (zI_all v_5) (zI_all v_4) (zi_nle hc_12) (by decide)
        have hv_14 : zI v_4 (-2147483647) 2147483647 := zI.lt_r (zI_all v_5) (zI_all v_4) (zi_nle hc_12) (by decide)
        refine lv_iconst (v := 1) hx hb d_Odds_isOdder_66 (by decide) ?_
        refine lv_goto (tgt := 71) hx hb d_Odds_isOdder_67 (by decide) ?_
        exact z_zret hx hb hr hlocks rfl hP hD hS (Nat.le_of_ble_eq_true rfl) (Nat.le_of_ble_eq_true rfl) d_Odds_isOdder_71 ⟨1, rfl, rfl, (zI.wk (l' := 0) (h' := 1) zc_1 (by decide))⟩
  · have _nhc_3 := hc_3
    refine lv_aload_n hx hb d_Odds_isOdder_15 rfl (lv_at hl 0 rfl) ?_
    refine va_get (D := G.1) (ci := 11) (v := .ref b3) (C := R_Odds) (T := F_Odds) (N := 3) hx hb hts i_Odds hown hK hP 0 rfl rfl 0 (by decide) (hts _ q402) (fun _ h9 => h9) rfl d_Odds_isOdder_16 ?_
    refine lv_iload_n hx hb d_Odds_isOdder_19 rfl (lv_at hl 1 rfl) ?_
    refine va_iald hx hb hK hP 1 0 rfl rfl (zI.inn hb1 (by decide)) d_Odds_isOdder_20 ?_
    refine lv_topi (fun v_15 ev_15 => ?_)
    obtain rfl : v_1 = v_15 := ev_1.trans ev_15.symm
    refine lv_aload_n hx hb d_Odds_isOdder_21 rfl (lv_at hl 0 rfl) ?_
    refine va_get (D := G.1) (ci := 11) (v := .ref b3) (C := R_Odds) (T := F_Odds) (N := 3) hx hb hts i_Odds hown hK hP 0 rfl rfl 0 (by decide) (hts _ q402) (fun _ h9 => h9) rfl d_Odds_isOdder_22 ?_
    refine lv_iload_n hx hb d_Odds_isOdder_25 rfl (lv_at hl 2 rfl) ?_
    refine va_iald hx hb hK hP 1 0 rfl rfl (zI.inn hb2 (by decide)) d_Odds_isOdder_26 ?_
    refine lv_topi (fun v_16 ev_16 => ?_)
    obtain rfl : v_2 = v_16 := ev_2.trans ev_16.symm
    refine lv_icmp_ge (tgt := 34) hx hb d_Odds_isOdder_27 (by decide) (fun hc_17 => ?_) (fun hc_17 => ?_)
    · have _nhc_17 := hc_17
      refine lv_iconst (v := 0) hx hb d_Odds_isOdder_34 (by decide) ?_
      exact z_zret hx hb hr hlocks rfl hP hD hS (Nat.le_of_ble_eq_true rfl) (Nat.le_of_ble_eq_true rfl) d_Odds_isOdder_35 ⟨0, rfl, rfl, (zI.wk (l' := 0) (h' := 1) zc_0 (by decide))⟩
    · have _nhc_17 := hc_17
      have hv_18 : zI v_1 (-2147483648) 2147483646 := zI.lt_l (zI_all v_1) (zI_all v_2) (zi_nle hc_17) (by decide)
      have hv_19 : zI v_2 (-2147483647) 2147483647 := zI.lt_r (zI_all v_1) (zI_all v_2) (zi_nle hc_17) (by decide)
      refine lv_iconst (v := 1) hx hb d_Odds_isOdder_30 (by decide) ?_
      refine lv_goto (tgt := 35) hx hb d_Odds_isOdder_31 (by decide) ?_
      exact z_zret hx hb hr hlocks rfl hP hD hS (Nat.le_of_ble_eq_true rfl) (Nat.le_of_ble_eq_true rfl) d_Odds_isOdder_35 ⟨1, rfl, rfl, (zI.wk (l' := 0) (h' := 1) zc_1 (by decide))⟩
theorem d_Odds_placeOf_18 : decode prog_5_method_4_code 18 = .ok (.ifCond .eq 6, 3) := by decide +kernel
theorem d_Odds_placeOf_21 : decode prog_5_method_4_code 21 = .ok (.iinc 2 1, 3) := by decide +kernel
theorem d_Odds_placeOf_24 : decode prog_5_method_4_code 24 = .ok (.iinc 3 1, 3) := by decide +kernel
theorem d_Odds_placeOf_27 : decode prog_5_method_4_code 27 = .ok (.goto (-23), 3) := by decide +kernel
abbrev m_s2_Odds_isOdder : Room := { frames := 0, cells := 0, slots := 0, locals := 0 }
set_option maxHeartbeats 4000000 in
set_option maxRecDepth 100000 in
theorem s2_Odds_isOdder (l : Launch) (G : zG) (b0 : Nat) (b1 : Int32) (b2 : Int32) (b3 : Nat) (b4 : Nat) (b5 : Int32) (b6 : Nat → Int32) (b7 : Nat → Int32) (hb1 : zI b1 0 1) (hb2 : zI b2 0 19) (hb5 : zI b5 0 20) : zM l G y_Odds_isOdder prog_5_method_5_code 3 (Option.some Jvm.ClassFile.FieldType.boolean) m_s2_Odds_isOdder [.ref b0, .int b1, .int b2] [(b0, .inr (11, [.ref b3, .ref b4, .int b5])), (b3, .inl (G.2 0, 20, .inl b6)), (b4, .inl (G.2 0, 20, .inl b7))] (fun v w => ∃ (e0 : Int32), v = some (.int e0) ∧ w = [(b0, .inr (11, [.ref b3, .ref b4, .int b5])), (b3, .inl (G.2 0, 20, .inl b6)), (b4, .inl (G.2 0, 20, .inl b7))] ∧ zI e0 0 1) := by
  refine z_start (by decide +kernel) (Nat.le_of_ble_eq_true rfl) ?_
  intro p e s m below meth c A Z hr hnm hA hP hD hS ls hl
  have Z : zC p s m _ meth c prog_5_method_5_code 3 "TraceMachines$Odds" G := Z
  obtain ⟨hx, hb, hml, hown, hts, hK, hN, hlocks⟩ := id Z
  have hl : lv_has ls 3 [(0, .ref b0), (1, .int b1), (2, .int b2)] := hl
  refine lv_aload_n hx hb d_Odds_isOdder_0 rfl (lv_at hl 0 rfl) ?_
  refine va_get (D := G.1) (ci := 11) (v := .ref b3) (C := R_Odds) (T := F_Odds) (N := 3) hx hb hts i_Odds hown hK hP 0 rfl rfl 0 (by decide) (hts _ q402) (fun _ h9 => h9) rfl d_Odds_isOdder_1 ?_
  refine lv_iload_n hx hb d_Odds_isOdder_4 rfl (lv_at hl 1 rfl) ?_
  refine va_iald hx hb hK hP 1 0 rfl rfl (zI.inn hb1 (by decide)) d_Odds_isOdder_5 ?_
  refine lv_topi (fun v_1 ev_1 => ?_)
  refine lv_aload_n hx hb d_Odds_isOdder_6 rfl (lv_at hl 0 rfl) ?_
  refine va_get (D := G.1) (ci := 11) (v := .ref b3) (C := R_Odds) (T := F_Odds) (N := 3) hx hb hts i_Odds hown hK hP 0 rfl rfl 0 (by decide) (hts _ q402) (fun _ h9 => h9) rfl d_Odds_isOdder_7 ?_
  refine lv_iload_n hx hb d_Odds_isOdder_10 rfl (lv_at hl 2 rfl) ?_
  refine va_iald hx hb hK hP 1 0 rfl rfl (zI.inn hb2 (by decide)) d_Odds_isOdder_11 ?_
  refine lv_topi (fun v_2 ev_2 => ?_)
  refine lv_icmp_eq (tgt := 36) hx hb d_Odds_isOdder_12 (by decide) (fun hc_3 => ?_) (fun hc_3 => ?_)
  · have _nhc_3 := hc_3
    refine lv_aload_n hx hb d_Odds_isOdder_36 rfl (lv_at hl 0 rfl) ?_
    refine va_get (D := G.1) (ci := 11) (v := .ref b4) (C := R_Odds) (T := F_Odds) (N := 3) hx hb hts i_Odds hown hK hP 0 rfl rfl 1 (by decide) (hts _ q404) (fun _ h9 => h9) rfl d_Odds_isOdder_37 ?_
    refine lv_iload_n hx hb d_Odds_isOdder_40 rfl (lv_at hl 1 rfl) ?_
    refine va_iald hx hb hK hP 2 0 rfl rfl (zI.inn hb1 (by decide)) d_Odds_isOdder_41 ?_
    refine lv_topi (fun v_4 ev_4 => ?_)
    refine lv_aload_n hx hb d_Odds_isOdder_42 rfl (lv_at hl 0 rfl) ?_
    refine va_get (D := G.1) (ci := 11) (v := .ref b4) (C := R_Odds) (T := F_Odds) (N := 3) hx hb hts i_Odds hown hK hP 0 rfl rfl 1 (by decide) (hts _ q404) (fun _ h9 => h9) rfl d_Odds_isOdder_43 ?_
    refine lv_iload_n hx hb d_Odds_isOdder_46 rfl (lv_at hl 2 rfl) ?_
    refine va_iald hx hb hK hP 2 0 rfl rfl (zI.inn hb2 (by decide)) d_Odds_isOdder_47 ?_
    refine lv_topi (fun v_5 ev_5 => ?_)
    refine lv_icmp_eq (tgt := 72) hx hb d_Odds_isOdder_48 (by decide) (fun hc_6 => ?_) (fun hc_6 => ?_)
    · have _nhc_6 := hc_6
      refine lv_iload_n hx hb d_Odds_isOdder_72 rfl (lv_at hl 1 rfl) ?_
      refine lv_iload_n hx hb d_Odds_isOdder_73 rfl (lv_at hl 2 rfl) ?_
      refine lv_icmp_ge (tgt := 81) hx hb d_Odds_isOdder_74 (by decide) (fun hc_7 => ?_) (fun hc_7 => ?_)
      · have _nhc_7 := hc_7
        have hv_8 : zI b2 0 1 := zI.le_l hb2 hb1 hc_7 (by decide)
        refine lv_iconst (v := 0) hx hb d_Odds_isOdder_81 (by decide) ?_
        exact z_zret hx hb hr hlocks rfl hP hD hS (Nat.le_of_ble_eq_true rfl) (Nat.le_of_ble_eq_true rfl) d_Odds_isOdder_82 ⟨0, rfl, rfl, (zI.wk (l' := 0) (h' := 1) zc_0 (by decide))⟩
      · have _nhc_7 := hc_7
        have hv_9 : zI b2 1 19 := zI.lt_r hb1 hb2 (zi_nle hc_7) (by decide)
        refine lv_iconst (v := 1) hx hb d_Odds_isOdder_77 (by decide) ?_
        refine lv_goto (tgt := 82) hx hb d_Odds_isOdder_78 (by decide) ?_
        exact z_zret hx hb hr hlocks rfl hP hD hS (Nat.le_of_ble_eq_true rfl) (Nat.le_of_ble_eq_true rfl) d_Odds_isOdder_82 ⟨1, rfl, rfl, (zI.wk (l' := 0) (h' := 1) zc_1 (by decide))⟩
    · have _nhc_6 := hc_6
      refine lv_aload_n hx hb d_Odds_isOdder_51 rfl (lv_at hl 0 rfl) ?_
      refine va_get (D := G.1) (ci := 11) (v := .ref b4) (C := R_Odds) (T := F_Odds) (N := 3) hx hb hts i_Odds hown hK hP 0 rfl rfl 1 (by decide) (hts _ q404) (fun _ h9 => h9) rfl d_Odds_isOdder_52 ?_
      refine lv_iload_n hx hb d_Odds_isOdder_55 rfl (lv_at hl 1 rfl) ?_
      refine va_iald hx hb hK hP 2 0 rfl rfl (zI.inn hb1 (by decide)) d_Odds_isOdder_56 ?_
      refine lv_topi (fun v_10 ev_10 => ?_)
      obtain rfl : v_4 = v_10 := ev_4.trans ev_10.symm
      refine lv_aload_n hx hb d_Odds_isOdder_57 rfl (lv_at hl 0 rfl) ?_
      refine va_get (D := G.1) (ci := 11) (v := .ref b4) (C := R_Odds) (T := F_Odds) (N := 3) hx hb hts i_Odds hown hK hP 0 rfl rfl 1 (by decide) (hts _ q404) (fun _ h9 => h9) rfl d_Odds_isOdder_58 ?_
      refine lv_iload_n hx hb d_Odds_isOdder_61 rfl (lv_at hl 2 rfl) ?_
      refine va_iald hx hb hK hP 2 0 rfl rfl (zI.inn hb2 (by decide)) d_Odds_isOdder_62 ?_
      refine lv_topi (fun v_11 ev_11 => ?_)
      obtain rfl : v_5 = v_11 := ev_5.trans ev_11.symm
      refine lv_icmp_le (tgt := 70) hx hb d_Odds_isOdder_63 (by decide) (fun hc_12 => ?_) (fun hc_12 => ?_)
      · have _nhc_12 := hc_12
        refine lv_iconst (v := 0) hx hb d_Odds_isOdder_70 (by decide) ?_
        exact z_zret hx hb hr hlocks rfl hP hD hS (Nat.le_of_ble_eq_true rfl) (Nat.le_of_ble_eq_true rfl) d_Odds_isOdder_71 ⟨0, rfl, rfl, (zI.wk (l' := 0) (h' := 1) zc_0 (by decide))⟩
      · have _nhc_12 := hc_12
        have hv_13 : zI v_5 (-2147483648) 2147483646 := zI.lt_l (zI_all v_5) (zI_all v_4) (zi_nle hc_12) (by decide)
        have hv_14 : zI v_4 (-2147483647) 2147483647 := zI.lt_r (zI_all v_5) (zI_all v_4) (zi_nle hc_12) (by decide)
        refine lv_iconst (v := 1) hx hb d_Odds_isOdder_66 (by decide) ?_
        refine lv_goto (tgt := 71) hx hb d_Odds_isOdder_67 (by decide) ?_
        exact z_zret hx hb hr hlocks rfl hP hD hS (Nat.le_of_ble_eq_true rfl) (Nat.le_of_ble_eq_true rfl) d_Odds_isOdder_71 ⟨1, rfl, rfl, (zI.wk (l' := 0) (h' := 1) zc_1 (by decide))⟩
  · have _nhc_3 := hc_3
    refine lv_aload_n hx hb d_Odds_isOdder_15 rfl (lv_at hl 0 rfl) ?_
    refine va_get (D := G.1) (ci := 11) (v := .ref b3) (C := R_Odds) (T := F_Odds) (N := 3) hx hb hts i_Odds hown hK hP 0 rfl rfl 0 (by decide) (hts _ q402) (fun _ h9 => h9) rfl d_Odds_isOdder_16 ?_
    refine lv_iload_n hx hb d_Odds_isOdder_19 rfl (lv_at hl 1 rfl) ?_
    refine va_iald hx hb hK hP 1 0 rfl rfl (zI.inn hb1 (by decide)) d_Odds_isOdder_20 ?_
    refine lv_topi (fun v_15 ev_15 => ?_)
    obtain rfl : v_1 = v_15 := ev_1.trans ev_15.symm
    refine lv_aload_n hx hb d_Odds_isOdder_21 rfl (lv_at hl 0 rfl) ?_
    refine va_get (D := G.1) (ci := 11) (v := .ref b3) (C := R_Odds) (T := F_Odds) (N := 3) hx hb hts i_Odds hown hK hP 0 rfl rfl 0 (by decide) (hts _ q402) (fun _ h9 => h9) rfl d_Odds_isOdder_22 ?_
    refine lv_iload_n hx hb d_Odds_isOdder_25 rfl (lv_at hl 2 rfl) ?_
    refine va_iald hx hb hK hP 1 0 rfl rfl (zI.inn hb2 (by decide)) d_Odds_isOdder_26 ?_
    refine lv_topi (fun v_16 ev_16 => ?_)
    obtain rfl : v_2 = v_16 := ev_2.trans ev_16.symm
    refine lv_icmp_ge (tgt := 34) hx hb d_Odds_isOdder_27 (by decide) (fun hc_17 => ?_) (fun hc_17 => ?_)
    · have _nhc_17 := hc_17
      refine lv_iconst (v := 0) hx hb d_Odds_isOdder_34 (by decide) ?_
      exact z_zret hx hb hr hlocks rfl hP hD hS (Nat.le_of_ble_eq_true rfl) (Nat.le_of_ble_eq_true rfl) d_Odds_isOdder_35 ⟨0, rfl, rfl, (zI.wk (l' := 0) (h' := 1) zc_0 (by decide))⟩
    · have _nhc_17 := hc_17
      have hv_18 : zI v_1 (-2147483648) 2147483646 := zI.lt_l (zI_all v_1) (zI_all v_2) (zi_nle hc_17) (by decide)
      have hv_19 : zI v_2 (-2147483647) 2147483647 := zI.lt_r (zI_all v_1) (zI_all v_2) (zi_nle hc_17) (by decide)
      refine lv_iconst (v := 1) hx hb d_Odds_isOdder_30 (by decide) ?_
      refine lv_goto (tgt := 35) hx hb d_Odds_isOdder_31 (by decide) ?_
      exact z_zret hx hb hr hlocks rfl hP hD hS (Nat.le_of_ble_eq_true rfl) (Nat.le_of_ble_eq_true rfl) d_Odds_isOdder_35 ⟨1, rfl, rfl, (zI.wk (l' := 0) (h' := 1) zc_1 (by decide))⟩
abbrev m_s3_Odds_isOdder : Room := { frames := 0, cells := 0, slots := 0, locals := 0 }
set_option maxHeartbeats 4000000 in
set_option maxRecDepth 100000 in
theorem s3_Odds_isOdder (l : Launch) (G : zG) (b0 : Nat) (b1 : Int32) (b2 : Int32) (b3 : Nat) (b4 : Nat) (b5 : Int32) (b6 : Nat → Int32) (b7 : Nat → Int32) (hb1 : zI b1 0 2) (hb2 : zI b2 0 19) (hb5 : zI b5 0 20) : zM l G y_Odds_isOdder prog_5_method_5_code 3 (Option.some Jvm.ClassFile.FieldType.boolean) m_s3_Odds_isOdder [.ref b0, .int b1, .int b2] [(b0, .inr (11, [.ref b3, .ref b4, .int b5])), (b3, .inl (G.2 0, 20, .inl b6)), (b4, .inl (G.2 0, 20, .inl b7))] (fun v w => ∃ (e0 : Int32), v = some (.int e0) ∧ w = [(b0, .inr (11, [.ref b3, .ref b4, .int b5])), (b3, .inl (G.2 0, 20, .inl b6)), (b4, .inl (G.2 0, 20, .inl b7))] ∧ zI e0 0 1) := by
  refine z_start (by decide +kernel) (Nat.le_of_ble_eq_true rfl) ?_
  intro p e s m below meth c A Z hr hnm hA hP hD hS ls hl
  have Z : zC p s m _ meth c prog_5_method_5_code 3 "TraceMachines$Odds" G := Z
  obtain ⟨hx, hb, hml, hown, hts, hK, hN, hlocks⟩ := id Z
  have hl : lv_has ls 3 [(0, .ref b0), (1, .int b1), (2, .int b2)] := hl
  refine lv_aload_n hx hb d_Odds_isOdder_0 rfl (lv_at hl 0 rfl) ?_
  refine va_get (D := G.1) (ci := 11) (v := .ref b3) (C := R_Odds) (T := F_Odds) (N := 3) hx hb hts i_Odds hown hK hP 0 rfl rfl 0 (by decide) (hts _ q402) (fun _ h9 => h9) rfl d_Odds_isOdder_1 ?_
  refine lv_iload_n hx hb d_Odds_isOdder_4 rfl (lv_at hl 1 rfl) ?_
  refine va_iald hx hb hK hP 1 0 rfl rfl (zI.inn hb1 (by decide)) d_Odds_isOdder_5 ?_
  refine lv_topi (fun v_1 ev_1 => ?_)
  refine lv_aload_n hx hb d_Odds_isOdder_6 rfl (lv_at hl 0 rfl) ?_
  refine va_get (D := G.1) (ci := 11) (v := .ref b3) (C := R_Odds) (T := F_Odds) (N := 3) hx hb hts i_Odds hown hK hP 0 rfl rfl 0 (by decide) (hts _ q402) (fun _ h9 => h9) rfl d_Odds_isOdder_7 ?_
  refine lv_iload_n hx hb d_Odds_isOdder_10 rfl (lv_at hl 2 rfl) ?_
  refine va_iald hx hb hK hP 1 0 rfl rfl (zI.inn hb2 (by decide)) d_Odds_isOdder_11 ?_
  refine lv_topi (fun v_2 ev_2 => ?_)
  refine lv_icmp_eq (tgt := 36) hx hb d_Odds_isOdder_12 (by decide) (fun hc_3 => ?_) (fun hc_3 => ?_)
  · have _nhc_3 := hc_3
    refine lv_aload_n hx hb d_Odds_isOdder_36 rfl (lv_at hl 0 rfl) ?_
    refine va_get (D := G.1) (ci := 11) (v := .ref b4) (C := R_Odds) (T := F_Odds) (N := 3) hx hb hts i_Odds hown hK hP 0 rfl rfl 1 (by decide) (hts _ q404) (fun _ h9 => h9) rfl d_Odds_isOdder_37 ?_
    refine lv_iload_n hx hb d_Odds_isOdder_40 rfl (lv_at hl 1 rfl) ?_
    refine va_iald hx hb hK hP 2 0 rfl rfl (zI.inn hb1 (by decide)) d_Odds_isOdder_41 ?_
    refine lv_topi (fun v_4 ev_4 => ?_)
    refine lv_aload_n hx hb d_Odds_isOdder_42 rfl (lv_at hl 0 rfl) ?_
    refine va_get (D := G.1) (ci := 11) (v := .ref b4) (C := R_Odds) (T := F_Odds) (N := 3) hx hb hts i_Odds hown hK hP 0 rfl rfl 1 (by decide) (hts _ q404) (fun _ h9 => h9) rfl d_Odds_isOdder_43 ?_
    refine lv_iload_n hx hb d_Odds_isOdder_46 rfl (lv_at hl 2 rfl) ?_
    refine va_iald hx hb hK hP 2 0 rfl rfl (zI.inn hb2 (by decide)) d_Odds_isOdder_47 ?_
    refine lv_topi (fun v_5 ev_5 => ?_)
    refine lv_icmp_eq (tgt := 72) hx hb d_Odds_isOdder_48 (by decide) (fun hc_6 => ?_) (fun hc_6 => ?_)
    · have _nhc_6 := hc_6
      refine lv_iload_n hx hb d_Odds_isOdder_72 rfl (lv_at hl 1 rfl) ?_
      refine lv_iload_n hx hb d_Odds_isOdder_73 rfl (lv_at hl 2 rfl) ?_
      refine lv_icmp_ge (tgt := 81) hx hb d_Odds_isOdder_74 (by decide) (fun hc_7 => ?_) (fun hc_7 => ?_)
      · have _nhc_7 := hc_7
        have hv_8 : zI b2 0 2 := zI.le_l hb2 hb1 hc_7 (by decide)
        refine lv_iconst (v := 0) hx hb d_Odds_isOdder_81 (by decide) ?_
        exact z_zret hx hb hr hlocks rfl hP hD hS (Nat.le_of_ble_eq_true rfl) (Nat.le_of_ble_eq_true rfl) d_Odds_isOdder_82 ⟨0, rfl, rfl, (zI.wk (l' := 0) (h' := 1) zc_0 (by decide))⟩
      · have _nhc_7 := hc_7
        have hv_9 : zI b2 1 19 := zI.lt_r hb1 hb2 (zi_nle hc_7) (by decide)
        refine lv_iconst (v := 1) hx hb d_Odds_isOdder_77 (by decide) ?_
        refine lv_goto (tgt := 82) hx hb d_Odds_isOdder_78 (by decide) ?_
        exact z_zret hx hb hr hlocks rfl hP hD hS (Nat.le_of_ble_eq_true rfl) (Nat.le_of_ble_eq_true rfl) d_Odds_isOdder_82 ⟨1, rfl, rfl, (zI.wk (l' := 0) (h' := 1) zc_1 (by decide))⟩
    · have _nhc_6 := hc_6
      refine lv_aload_n hx hb d_Odds_isOdder_51 rfl (lv_at hl 0 rfl) ?_
      refine va_get (D := G.1) (ci := 11) (v := .ref b4) (C := R_Odds) (T := F_Odds) (N := 3) hx hb hts i_Odds hown hK hP 0 rfl rfl 1 (by decide) (hts _ q404) (fun _ h9 => h9) rfl d_Odds_isOdder_52 ?_
      refine lv_iload_n hx hb d_Odds_isOdder_55 rfl (lv_at hl 1 rfl) ?_
      refine va_iald hx hb hK hP 2 0 rfl rfl (zI.inn hb1 (by decide)) d_Odds_isOdder_56 ?_
      refine lv_topi (fun v_10 ev_10 => ?_)
      obtain rfl : v_4 = v_10 := ev_4.trans ev_10.symm
      refine lv_aload_n hx hb d_Odds_isOdder_57 rfl (lv_at hl 0 rfl) ?_
      refine va_get (D := G.1) (ci := 11) (v := .ref b4) (C := R_Odds) (T := F_Odds) (N := 3) hx hb hts i_Odds hown hK hP 0 rfl rfl 1 (by decide) (hts _ q404) (fun _ h9 => h9) rfl d_Odds_isOdder_58 ?_
      refine lv_iload_n hx hb d_Odds_isOdder_61 rfl (lv_at hl 2 rfl) ?_
      refine va_iald hx hb hK hP 2 0 rfl rfl (zI.inn hb2 (by decide)) d_Odds_isOdder_62 ?_
      refine lv_topi (fun v_11 ev_11 => ?_)
      obtain rfl : v_5 = v_11 := ev_5.trans ev_11.symm
      refine lv_icmp_le (tgt := 70) hx hb d_Odds_isOdder_63 (by decide) (fun hc_12 => ?_) (fun hc_12 => ?_)
      · have _nhc_12 := hc_12
        refine lv_iconst (v := 0) hx hb d_Odds_isOdder_70 (by decide) ?_
        exact z_zret hx hb hr hlocks rfl hP hD hS (Nat.le_of_ble_eq_true rfl) (Nat.le_of_ble_eq_true rfl) d_Odds_isOdder_71 ⟨0, rfl, rfl, (zI.wk (l' := 0) (h' := 1) zc_0 (by decide))⟩
      · have _nhc_12 := hc_12
        have hv_13 : zI v_5 (-2147483648) 2147483646 := zI.lt_l (zI_all v_5) (zI_all v_4) (zi_nle hc_12) (by decide)
        have hv_14 : zI v_4 (-2147483647) 2147483647 := zI.lt_r (zI_all v_5) (zI_all v_4) (zi_nle hc_12) (by decide)
        refine lv_iconst (v := 1) hx hb d_Odds_isOdder_66 (by decide) ?_
        refine lv_goto (tgt := 71) hx hb d_Odds_isOdder_67 (by decide) ?_
        exact z_zret hx hb hr hlocks rfl hP hD hS (Nat.le_of_ble_eq_true rfl) (Nat.le_of_ble_eq_true rfl) d_Odds_isOdder_71 ⟨1, rfl, rfl, (zI.wk (l' := 0) (h' := 1) zc_1 (by decide))⟩
  · have _nhc_3 := hc_3
    refine lv_aload_n hx hb d_Odds_isOdder_15 rfl (lv_at hl 0 rfl) ?_
    refine va_get (D := G.1) (ci := 11) (v := .ref b3) (C := R_Odds) (T := F_Odds) (N := 3) hx hb hts i_Odds hown hK hP 0 rfl rfl 0 (by decide) (hts _ q402) (fun _ h9 => h9) rfl d_Odds_isOdder_16 ?_
    refine lv_iload_n hx hb d_Odds_isOdder_19 rfl (lv_at hl 1 rfl) ?_
    refine va_iald hx hb hK hP 1 0 rfl rfl (zI.inn hb1 (by decide)) d_Odds_isOdder_20 ?_
    refine lv_topi (fun v_15 ev_15 => ?_)
    obtain rfl : v_1 = v_15 := ev_1.trans ev_15.symm
    refine lv_aload_n hx hb d_Odds_isOdder_21 rfl (lv_at hl 0 rfl) ?_
    refine va_get (D := G.1) (ci := 11) (v := .ref b3) (C := R_Odds) (T := F_Odds) (N := 3) hx hb hts i_Odds hown hK hP 0 rfl rfl 0 (by decide) (hts _ q402) (fun _ h9 => h9) rfl d_Odds_isOdder_22 ?_
    refine lv_iload_n hx hb d_Odds_isOdder_25 rfl (lv_at hl 2 rfl) ?_
    refine va_iald hx hb hK hP 1 0 rfl rfl (zI.inn hb2 (by decide)) d_Odds_isOdder_26 ?_
    refine lv_topi (fun v_16 ev_16 => ?_)
    obtain rfl : v_2 = v_16 := ev_2.trans ev_16.symm
    refine lv_icmp_ge (tgt := 34) hx hb d_Odds_isOdder_27 (by decide) (fun hc_17 => ?_) (fun hc_17 => ?_)
    · have _nhc_17 := hc_17
      refine lv_iconst (v := 0) hx hb d_Odds_isOdder_34 (by decide) ?_
      exact z_zret hx hb hr hlocks rfl hP hD hS (Nat.le_of_ble_eq_true rfl) (Nat.le_of_ble_eq_true rfl) d_Odds_isOdder_35 ⟨0, rfl, rfl, (zI.wk (l' := 0) (h' := 1) zc_0 (by decide))⟩
    · have _nhc_17 := hc_17
      have hv_18 : zI v_1 (-2147483648) 2147483646 := zI.lt_l (zI_all v_1) (zI_all v_2) (zi_nle hc_17) (by decide)
      have hv_19 : zI v_2 (-2147483647) 2147483647 := zI.lt_r (zI_all v_1) (zI_all v_2) (zi_nle hc_17) (by decide)
      refine lv_iconst (v := 1) hx hb d_Odds_isOdder_30 (by decide) ?_
      refine lv_goto (tgt := 35) hx hb d_Odds_isOdder_31 (by decide) ?_
      exact z_zret hx hb hr hlocks rfl hP hD hS (Nat.le_of_ble_eq_true rfl) (Nat.le_of_ble_eq_true rfl) d_Odds_isOdder_35 ⟨1, rfl, rfl, (zI.wk (l' := 0) (h' := 1) zc_1 (by decide))⟩
abbrev m_s4_Odds_isOdder : Room := { frames := 0, cells := 0, slots := 0, locals := 0 }
set_option maxHeartbeats 4000000 in
set_option maxRecDepth 100000 in
theorem s4_Odds_isOdder (l : Launch) (G : zG) (b0 : Nat) (b1 : Int32) (b2 : Int32) (b3 : Nat) (b4 : Nat) (b5 : Int32) (b6 : Nat → Int32) (b7 : Nat → Int32) (hb1 : zI b1 0 3) (hb2 : zI b2 0 19) (hb5 : zI b5 0 20) : zM l G y_Odds_isOdder prog_5_method_5_code 3 (Option.some Jvm.ClassFile.FieldType.boolean) m_s4_Odds_isOdder [.ref b0, .int b1, .int b2] [(b0, .inr (11, [.ref b3, .ref b4, .int b5])), (b3, .inl (G.2 0, 20, .inl b6)), (b4, .inl (G.2 0, 20, .inl b7))] (fun v w => ∃ (e0 : Int32), v = some (.int e0) ∧ w = [(b0, .inr (11, [.ref b3, .ref b4, .int b5])), (b3, .inl (G.2 0, 20, .inl b6)), (b4, .inl (G.2 0, 20, .inl b7))] ∧ zI e0 0 1) := by
  refine z_start (by decide +kernel) (Nat.le_of_ble_eq_true rfl) ?_
  intro p e s m below meth c A Z hr hnm hA hP hD hS ls hl
  have Z : zC p s m _ meth c prog_5_method_5_code 3 "TraceMachines$Odds" G := Z
  obtain ⟨hx, hb, hml, hown, hts, hK, hN, hlocks⟩ := id Z
  have hl : lv_has ls 3 [(0, .ref b0), (1, .int b1), (2, .int b2)] := hl
  refine lv_aload_n hx hb d_Odds_isOdder_0 rfl (lv_at hl 0 rfl) ?_
  refine va_get (D := G.1) (ci := 11) (v := .ref b3) (C := R_Odds) (T := F_Odds) (N := 3) hx hb hts i_Odds hown hK hP 0 rfl rfl 0 (by decide) (hts _ q402) (fun _ h9 => h9) rfl d_Odds_isOdder_1 ?_
  refine lv_iload_n hx hb d_Odds_isOdder_4 rfl (lv_at hl 1 rfl) ?_
  refine va_iald hx hb hK hP 1 0 rfl rfl (zI.inn hb1 (by decide)) d_Odds_isOdder_5 ?_
  refine lv_topi (fun v_1 ev_1 => ?_)
  refine lv_aload_n hx hb d_Odds_isOdder_6 rfl (lv_at hl 0 rfl) ?_
  refine va_get (D := G.1) (ci := 11) (v := .ref b3) (C := R_Odds) (T := F_Odds) (N := 3) hx hb hts i_Odds hown hK hP 0 rfl rfl 0 (by decide) (hts _ q402) (fun _ h9 => h9) rfl d_Odds_isOdder_7 ?_
  refine lv_iload_n hx hb d_Odds_isOdder_10 rfl (lv_at hl 2 rfl) ?_
  refine va_iald hx hb hK hP 1 0 rfl rfl (zI.inn hb2 (by decide)) d_Odds_isOdder_11 ?_
  refine lv_topi (fun v_2 ev_2 => ?_)
  refine lv_icmp_eq (tgt := 36) hx hb d_Odds_isOdder_12 (by decide) (fun hc_3 => ?_) (fun hc_3 => ?_)
  · have _nhc_3 := hc_3
    refine lv_aload_n hx hb d_Odds_isOdder_36 rfl (lv_at hl 0 rfl) ?_
    refine va_get (D := G.1) (ci := 11) (v := .ref b4) (C := R_Odds) (T := F_Odds) (N := 3) hx hb hts i_Odds hown hK hP 0 rfl rfl 1 (by decide) (hts _ q404) (fun _ h9 => h9) rfl d_Odds_isOdder_37 ?_
    refine lv_iload_n hx hb d_Odds_isOdder_40 rfl (lv_at hl 1 rfl) ?_
    refine va_iald hx hb hK hP 2 0 rfl rfl (zI.inn hb1 (by decide)) d_Odds_isOdder_41 ?_
    refine lv_topi (fun v_4 ev_4 => ?_)
    refine lv_aload_n hx hb d_Odds_isOdder_42 rfl (lv_at hl 0 rfl) ?_
    refine va_get (D := G.1) (ci := 11) (v := .ref b4) (C := R_Odds) (T := F_Odds) (N := 3) hx hb hts i_Odds hown hK hP 0 rfl rfl 1 (by decide) (hts _ q404) (fun _ h9 => h9) rfl d_Odds_isOdder_43 ?_
    refine lv_iload_n hx hb d_Odds_isOdder_46 rfl (lv_at hl 2 rfl) ?_
    refine va_iald hx hb hK hP 2 0 rfl rfl (zI.inn hb2 (by decide)) d_Odds_isOdder_47 ?_
    refine lv_topi (fun v_5 ev_5 => ?_)
    refine lv_icmp_eq (tgt := 72) hx hb d_Odds_isOdder_48 (by decide) (fun hc_6 => ?_) (fun hc_6 => ?_)
    · have _nhc_6 := hc_6
      refine lv_iload_n hx hb d_Odds_isOdder_72 rfl (lv_at hl 1 rfl) ?_
      refine lv_iload_n hx hb d_Odds_isOdder_73 rfl (lv_at hl 2 rfl) ?_
      refine lv_icmp_ge (tgt := 81) hx hb d_Odds_isOdder_74 (by decide) (fun hc_7 => ?_) (fun hc_7 => ?_)
      · have _nhc_7 := hc_7
        have hv_8 : zI b2 0 3 := zI.le_l hb2 hb1 hc_7 (by decide)
        refine lv_iconst (v := 0) hx hb d_Odds_isOdder_81 (by decide) ?_
        exact z_zret hx hb hr hlocks rfl hP hD hS (Nat.le_of_ble_eq_true rfl) (Nat.le_of_ble_eq_true rfl) d_Odds_isOdder_82 ⟨0, rfl, rfl, (zI.wk (l' := 0) (h' := 1) zc_0 (by decide))⟩
      · have _nhc_7 := hc_7
        have hv_9 : zI b2 1 19 := zI.lt_r hb1 hb2 (zi_nle hc_7) (by decide)
        refine lv_iconst (v := 1) hx hb d_Odds_isOdder_77 (by decide) ?_
        refine lv_goto (tgt := 82) hx hb d_Odds_isOdder_78 (by decide) ?_
        exact z_zret hx hb hr hlocks rfl hP hD hS (Nat.le_of_ble_eq_true rfl) (Nat.le_of_ble_eq_true rfl) d_Odds_isOdder_82 ⟨1, rfl, rfl, (zI.wk (l' := 0) (h' := 1) zc_1 (by decide))⟩
    · have _nhc_6 := hc_6
      refine lv_aload_n hx hb d_Odds_isOdder_51 rfl (lv_at hl 0 rfl) ?_
      refine va_get (D := G.1) (ci := 11) (v := .ref b4) (C := R_Odds) (T := F_Odds) (N := 3) hx hb hts i_Odds hown hK hP 0 rfl rfl 1 (by decide) (hts _ q404) (fun _ h9 => h9) rfl d_Odds_isOdder_52 ?_
      refine lv_iload_n hx hb d_Odds_isOdder_55 rfl (lv_at hl 1 rfl) ?_
      refine va_iald hx hb hK hP 2 0 rfl rfl (zI.inn hb1 (by decide)) d_Odds_isOdder_56 ?_
      refine lv_topi (fun v_10 ev_10 => ?_)
      obtain rfl : v_4 = v_10 := ev_4.trans ev_10.symm
      refine lv_aload_n hx hb d_Odds_isOdder_57 rfl (lv_at hl 0 rfl) ?_
      refine va_get (D := G.1) (ci := 11) (v := .ref b4) (C := R_Odds) (T := F_Odds) (N := 3) hx hb hts i_Odds hown hK hP 0 rfl rfl 1 (by decide) (hts _ q404) (fun _ h9 => h9) rfl d_Odds_isOdder_58 ?_
      refine lv_iload_n hx hb d_Odds_isOdder_61 rfl (lv_at hl 2 rfl) ?_
      refine va_iald hx hb hK hP 2 0 rfl rfl (zI.inn hb2 (by decide)) d_Odds_isOdder_62 ?_
      refine lv_topi (fun v_11 ev_11 => ?_)
      obtain rfl : v_5 = v_11 := ev_5.trans ev_11.symm
      refine lv_icmp_le (tgt := 70) hx hb d_Odds_isOdder_63 (by decide) (fun hc_12 => ?_) (fun hc_12 => ?_)
      · have _nhc_12 := hc_12
        refine lv_iconst (v := 0) hx hb d_Odds_isOdder_70 (by decide) ?_
        exact z_zret hx hb hr hlocks rfl hP hD hS (Nat.le_of_ble_eq_true rfl) (Nat.le_of_ble_eq_true rfl) d_Odds_isOdder_71 ⟨0, rfl, rfl, (zI.wk (l' := 0) (h' := 1) zc_0 (by decide))⟩
      · have _nhc_12 := hc_12
        have hv_13 : zI v_5 (-2147483648) 2147483646 := zI.lt_l (zI_all v_5) (zI_all v_4) (zi_nle hc_12) (by decide)
        have hv_14 : zI v_4 (-2147483647) 2147483647 := zI.lt_r (zI_all v_5) (zI_all v_4) (zi_nle hc_12) (by decide)
        refine lv_iconst (v := 1) hx hb d_Odds_isOdder_66 (by decide) ?_
        refine lv_goto (tgt := 71) hx hb d_Odds_isOdder_67 (by decide) ?_
        exact z_zret hx hb hr hlocks rfl hP hD hS (Nat.le_of_ble_eq_true rfl) (Nat.le_of_ble_eq_true rfl) d_Odds_isOdder_71 ⟨1, rfl, rfl, (zI.wk (l' := 0) (h' := 1) zc_1 (by decide))⟩
  · have _nhc_3 := hc_3
    refine lv_aload_n hx hb d_Odds_isOdder_15 rfl (lv_at hl 0 rfl) ?_
    refine va_get (D := G.1) (ci := 11) (v := .ref b3) (C := R_Odds) (T := F_Odds) (N := 3) hx hb hts i_Odds hown hK hP 0 rfl rfl 0 (by decide) (hts _ q402) (fun _ h9 => h9) rfl d_Odds_isOdder_16 ?_
    refine lv_iload_n hx hb d_Odds_isOdder_19 rfl (lv_at hl 1 rfl) ?_
    refine va_iald hx hb hK hP 1 0 rfl rfl (zI.inn hb1 (by decide)) d_Odds_isOdder_20 ?_
    refine lv_topi (fun v_15 ev_15 => ?_)
    obtain rfl : v_1 = v_15 := ev_1.trans ev_15.symm
    refine lv_aload_n hx hb d_Odds_isOdder_21 rfl (lv_at hl 0 rfl) ?_
    refine va_get (D := G.1) (ci := 11) (v := .ref b3) (C := R_Odds) (T := F_Odds) (N := 3) hx hb hts i_Odds hown hK hP 0 rfl rfl 0 (by decide) (hts _ q402) (fun _ h9 => h9) rfl d_Odds_isOdder_22 ?_
    refine lv_iload_n hx hb d_Odds_isOdder_25 rfl (lv_at hl 2 rfl) ?_
    refine va_iald hx hb hK hP 1 0 rfl rfl (zI.inn hb2 (by decide)) d_Odds_isOdder_26 ?_
    refine lv_topi (fun v_16 ev_16 => ?_)
    obtain rfl : v_2 = v_16 := ev_2.trans ev_16.symm
    refine lv_icmp_ge (tgt := 34) hx hb d_Odds_isOdder_27 (by decide) (fun hc_17 => ?_) (fun hc_17 => ?_)
    · have _nhc_17 := hc_17
      refine lv_iconst (v := 0) hx hb d_Odds_isOdder_34 (by decide) ?_
      exact z_zret hx hb hr hlocks rfl hP hD hS (Nat.le_of_ble_eq_true rfl) (Nat.le_of_ble_eq_true rfl) d_Odds_isOdder_35 ⟨0, rfl, rfl, (zI.wk (l' := 0) (h' := 1) zc_0 (by decide))⟩
    · have _nhc_17 := hc_17
      have hv_18 : zI v_1 (-2147483648) 2147483646 := zI.lt_l (zI_all v_1) (zI_all v_2) (zi_nle hc_17) (by decide)
      have hv_19 : zI v_2 (-2147483647) 2147483647 := zI.lt_r (zI_all v_1) (zI_all v_2) (zi_nle hc_17) (by decide)
      refine lv_iconst (v := 1) hx hb d_Odds_isOdder_30 (by decide) ?_
      refine lv_goto (tgt := 35) hx hb d_Odds_isOdder_31 (by decide) ?_
      exact z_zret hx hb hr hlocks rfl hP hD hS (Nat.le_of_ble_eq_true rfl) (Nat.le_of_ble_eq_true rfl) d_Odds_isOdder_35 ⟨1, rfl, rfl, (zI.wk (l' := 0) (h' := 1) zc_1 (by decide))⟩
abbrev m_s5_Odds_isOdder : Room := { frames := 0, cells := 0, slots := 0, locals := 0 }
set_option maxHeartbeats 4000000 in
set_option maxRecDepth 100000 in
theorem s5_Odds_isOdder (l : Launch) (G : zG) (b0 : Nat) (b1 : Int32) (b2 : Int32) (b3 : Nat) (b4 : Nat) (b5 : Int32) (b6 : Nat → Int32) (b7 : Nat → Int32) (hb1 : zI b1 0 19) (hb2 : zI b2 0 19) (hb5 : zI b5 0 20) : zM l G y_Odds_isOdder prog_5_method_5_code 3 (Option.some Jvm.ClassFile.FieldType.boolean) m_s5_Odds_isOdder [.ref b0, .int b1, .int b2] [(b0, .inr (11, [.ref b3, .ref b4, .int b5])), (b3, .inl (G.2 0, 20, .inl b6)), (b4, .inl (G.2 0, 20, .inl b7))] (fun v w => ∃ (e0 : Int32), v = some (.int e0) ∧ w = [(b0, .inr (11, [.ref b3, .ref b4, .int b5])), (b3, .inl (G.2 0, 20, .inl b6)), (b4, .inl (G.2 0, 20, .inl b7))] ∧ zI e0 0 1) := by
  refine z_start (by decide +kernel) (Nat.le_of_ble_eq_true rfl) ?_
  intro p e s m below meth c A Z hr hnm hA hP hD hS ls hl
  have Z : zC p s m _ meth c prog_5_method_5_code 3 "TraceMachines$Odds" G := Z
  obtain ⟨hx, hb, hml, hown, hts, hK, hN, hlocks⟩ := id Z
  have hl : lv_has ls 3 [(0, .ref b0), (1, .int b1), (2, .int b2)] := hl
  refine lv_aload_n hx hb d_Odds_isOdder_0 rfl (lv_at hl 0 rfl) ?_
  refine va_get (D := G.1) (ci := 11) (v := .ref b3) (C := R_Odds) (T := F_Odds) (N := 3) hx hb hts i_Odds hown hK hP 0 rfl rfl 0 (by decide) (hts _ q402) (fun _ h9 => h9) rfl d_Odds_isOdder_1 ?_
  refine lv_iload_n hx hb d_Odds_isOdder_4 rfl (lv_at hl 1 rfl) ?_
  refine va_iald hx hb hK hP 1 0 rfl rfl (zI.inn hb1 (by decide)) d_Odds_isOdder_5 ?_
  refine lv_topi (fun v_1 ev_1 => ?_)
  refine lv_aload_n hx hb d_Odds_isOdder_6 rfl (lv_at hl 0 rfl) ?_
  refine va_get (D := G.1) (ci := 11) (v := .ref b3) (C := R_Odds) (T := F_Odds) (N := 3) hx hb hts i_Odds hown hK hP 0 rfl rfl 0 (by decide) (hts _ q402) (fun _ h9 => h9) rfl d_Odds_isOdder_7 ?_
  refine lv_iload_n hx hb d_Odds_isOdder_10 rfl (lv_at hl 2 rfl) ?_
  refine va_iald hx hb hK hP 1 0 rfl rfl (zI.inn hb2 (by decide)) d_Odds_isOdder_11 ?_
  refine lv_topi (fun v_2 ev_2 => ?_)
  refine lv_icmp_eq (tgt := 36) hx hb d_Odds_isOdder_12 (by decide) (fun hc_3 => ?_) (fun hc_3 => ?_)
  · have _nhc_3 := hc_3
    refine lv_aload_n hx hb d_Odds_isOdder_36 rfl (lv_at hl 0 rfl) ?_
    refine va_get (D := G.1) (ci := 11) (v := .ref b4) (C := R_Odds) (T := F_Odds) (N := 3) hx hb hts i_Odds hown hK hP 0 rfl rfl 1 (by decide) (hts _ q404) (fun _ h9 => h9) rfl d_Odds_isOdder_37 ?_
    refine lv_iload_n hx hb d_Odds_isOdder_40 rfl (lv_at hl 1 rfl) ?_
    refine va_iald hx hb hK hP 2 0 rfl rfl (zI.inn hb1 (by decide)) d_Odds_isOdder_41 ?_
    refine lv_topi (fun v_4 ev_4 => ?_)
    refine lv_aload_n hx hb d_Odds_isOdder_42 rfl (lv_at hl 0 rfl) ?_
    refine va_get (D := G.1) (ci := 11) (v := .ref b4) (C := R_Odds) (T := F_Odds) (N := 3) hx hb hts i_Odds hown hK hP 0 rfl rfl 1 (by decide) (hts _ q404) (fun _ h9 => h9) rfl d_Odds_isOdder_43 ?_
    refine lv_iload_n hx hb d_Odds_isOdder_46 rfl (lv_at hl 2 rfl) ?_
    refine va_iald hx hb hK hP 2 0 rfl rfl (zI.inn hb2 (by decide)) d_Odds_isOdder_47 ?_
    refine lv_topi (fun v_5 ev_5 => ?_)
    refine lv_icmp_eq (tgt := 72) hx hb d_Odds_isOdder_48 (by decide) (fun hc_6 => ?_) (fun hc_6 => ?_)
    · have _nhc_6 := hc_6
      refine lv_iload_n hx hb d_Odds_isOdder_72 rfl (lv_at hl 1 rfl) ?_
      refine lv_iload_n hx hb d_Odds_isOdder_73 rfl (lv_at hl 2 rfl) ?_
      refine lv_icmp_ge (tgt := 81) hx hb d_Odds_isOdder_74 (by decide) (fun hc_7 => ?_) (fun hc_7 => ?_)
      · have _nhc_7 := hc_7
        refine lv_iconst (v := 0) hx hb d_Odds_isOdder_81 (by decide) ?_
        exact z_zret hx hb hr hlocks rfl hP hD hS (Nat.le_of_ble_eq_true rfl) (Nat.le_of_ble_eq_true rfl) d_Odds_isOdder_82 ⟨0, rfl, rfl, (zI.wk (l' := 0) (h' := 1) zc_0 (by decide))⟩
      · have _nhc_7 := hc_7
        have hv_8 : zI b1 0 18 := zI.lt_l hb1 hb2 (zi_nle hc_7) (by decide)
        have hv_9 : zI b2 1 19 := zI.lt_r hb1 hb2 (zi_nle hc_7) (by decide)
        refine lv_iconst (v := 1) hx hb d_Odds_isOdder_77 (by decide) ?_
        refine lv_goto (tgt := 82) hx hb d_Odds_isOdder_78 (by decide) ?_
        exact z_zret hx hb hr hlocks rfl hP hD hS (Nat.le_of_ble_eq_true rfl) (Nat.le_of_ble_eq_true rfl) d_Odds_isOdder_82 ⟨1, rfl, rfl, (zI.wk (l' := 0) (h' := 1) zc_1 (by decide))⟩
    · have _nhc_6 := hc_6
      refine lv_aload_n hx hb d_Odds_isOdder_51 rfl (lv_at hl 0 rfl) ?_
      refine va_get (D := G.1) (ci := 11) (v := .ref b4) (C := R_Odds) (T := F_Odds) (N := 3) hx hb hts i_Odds hown hK hP 0 rfl rfl 1 (by decide) (hts _ q404) (fun _ h9 => h9) rfl d_Odds_isOdder_52 ?_
      refine lv_iload_n hx hb d_Odds_isOdder_55 rfl (lv_at hl 1 rfl) ?_
      refine va_iald hx hb hK hP 2 0 rfl rfl (zI.inn hb1 (by decide)) d_Odds_isOdder_56 ?_
      refine lv_topi (fun v_10 ev_10 => ?_)
      obtain rfl : v_4 = v_10 := ev_4.trans ev_10.symm
      refine lv_aload_n hx hb d_Odds_isOdder_57 rfl (lv_at hl 0 rfl) ?_
      refine va_get (D := G.1) (ci := 11) (v := .ref b4) (C := R_Odds) (T := F_Odds) (N := 3) hx hb hts i_Odds hown hK hP 0 rfl rfl 1 (by decide) (hts _ q404) (fun _ h9 => h9) rfl d_Odds_isOdder_58 ?_
      refine lv_iload_n hx hb d_Odds_isOdder_61 rfl (lv_at hl 2 rfl) ?_
      refine va_iald hx hb hK hP 2 0 rfl rfl (zI.inn hb2 (by decide)) d_Odds_isOdder_62 ?_
      refine lv_topi (fun v_11 ev_11 => ?_)
      obtain rfl : v_5 = v_11 := ev_5.trans ev_11.symm
      refine lv_icmp_le (tgt := 70) hx hb d_Odds_isOdder_63 (by decide) (fun hc_12 => ?_) (fun hc_12 => ?_)
      · have _nhc_12 := hc_12
        refine lv_iconst (v := 0) hx hb d_Odds_isOdder_70 (by decide) ?_
        exact z_zret hx hb hr hlocks rfl hP hD hS (Nat.le_of_ble_eq_true rfl) (Nat.le_of_ble_eq_true rfl) d_Odds_isOdder_71 ⟨0, rfl, rfl, (zI.wk (l' := 0) (h' := 1) zc_0 (by decide))⟩
      · have _nhc_12 := hc_12
        have hv_13 : zI v_5 (-2147483648) 2147483646 := zI.lt_l (zI_all v_5) (zI_all v_4) (zi_nle hc_12) (by decide)
        have hv_14 : zI v_4 (-2147483647) 2147483647 := zI.lt_r (zI_all v_5) (zI_all v_4) (zi_nle hc_12) (by decide)
        refine lv_iconst (v := 1) hx hb d_Odds_isOdder_66 (by decide) ?_
        refine lv_goto (tgt := 71) hx hb d_Odds_isOdder_67 (by decide) ?_
        exact z_zret hx hb hr hlocks rfl hP hD hS (Nat.le_of_ble_eq_true rfl) (Nat.le_of_ble_eq_true rfl) d_Odds_isOdder_71 ⟨1, rfl, rfl, (zI.wk (l' := 0) (h' := 1) zc_1 (by decide))⟩
  · have _nhc_3 := hc_3
    refine lv_aload_n hx hb d_Odds_isOdder_15 rfl (lv_at hl 0 rfl) ?_
    refine va_get (D := G.1) (ci := 11) (v := .ref b3) (C := R_Odds) (T := F_Odds) (N := 3) hx hb hts i_Odds hown hK hP 0 rfl rfl 0 (by decide) (hts _ q402) (fun _ h9 => h9) rfl d_Odds_isOdder_16 ?_
    refine lv_iload_n hx hb d_Odds_isOdder_19 rfl (lv_at hl 1 rfl) ?_
    refine va_iald hx hb hK hP 1 0 rfl rfl (zI.inn hb1 (by decide)) d_Odds_isOdder_20 ?_
    refine lv_topi (fun v_15 ev_15 => ?_)
    obtain rfl : v_1 = v_15 := ev_1.trans ev_15.symm
    refine lv_aload_n hx hb d_Odds_isOdder_21 rfl (lv_at hl 0 rfl) ?_
    refine va_get (D := G.1) (ci := 11) (v := .ref b3) (C := R_Odds) (T := F_Odds) (N := 3) hx hb hts i_Odds hown hK hP 0 rfl rfl 0 (by decide) (hts _ q402) (fun _ h9 => h9) rfl d_Odds_isOdder_22 ?_
    refine lv_iload_n hx hb d_Odds_isOdder_25 rfl (lv_at hl 2 rfl) ?_
    refine va_iald hx hb hK hP 1 0 rfl rfl (zI.inn hb2 (by decide)) d_Odds_isOdder_26 ?_
    refine lv_topi (fun v_16 ev_16 => ?_)
    obtain rfl : v_2 = v_16 := ev_2.trans ev_16.symm
    refine lv_icmp_ge (tgt := 34) hx hb d_Odds_isOdder_27 (by decide) (fun hc_17 => ?_) (fun hc_17 => ?_)
    · have _nhc_17 := hc_17
      refine lv_iconst (v := 0) hx hb d_Odds_isOdder_34 (by decide) ?_
      exact z_zret hx hb hr hlocks rfl hP hD hS (Nat.le_of_ble_eq_true rfl) (Nat.le_of_ble_eq_true rfl) d_Odds_isOdder_35 ⟨0, rfl, rfl, (zI.wk (l' := 0) (h' := 1) zc_0 (by decide))⟩
    · have _nhc_17 := hc_17
      have hv_18 : zI v_1 (-2147483648) 2147483646 := zI.lt_l (zI_all v_1) (zI_all v_2) (zi_nle hc_17) (by decide)
      have hv_19 : zI v_2 (-2147483647) 2147483647 := zI.lt_r (zI_all v_1) (zI_all v_2) (zi_nle hc_17) (by decide)
      refine lv_iconst (v := 1) hx hb d_Odds_isOdder_30 (by decide) ?_
      refine lv_goto (tgt := 35) hx hb d_Odds_isOdder_31 (by decide) ?_
      exact z_zret hx hb hr hlocks rfl hP hD hS (Nat.le_of_ble_eq_true rfl) (Nat.le_of_ble_eq_true rfl) d_Odds_isOdder_35 ⟨1, rfl, rfl, (zI.wk (l' := 0) (h' := 1) zc_1 (by decide))⟩
theorem d_Odds_placeOf_31 : decode prog_5_method_4_code 31 = .ok (.ireturn, 1) := by decide +kernel
abbrev m_s1_Odds_placeOf : Room := { frames := 1, cells := 0, slots := 0, locals := 22 }
set_option maxHeartbeats 4000000 in
set_option maxRecDepth 100000 in
theorem s1_Odds_placeOf (l : Launch) (G : zG) (b0 : Nat) (b1 : Int32) (b2 : Nat) (b3 : Nat) (b4 : Int32) (b5 : Nat → Int32) (b6 : Nat → Int32) (hb1 : zI b1 0 19) (hb4 : zI b4 0 20) : zM l G y_Odds_placeOf prog_5_method_4_code 4 (Option.some Jvm.ClassFile.FieldType.int) m_s1_Odds_placeOf [.ref b0, .int b1] [(b0, .inr (11, [.ref b2, .ref b3, .int b4])), (b2, .inl (G.2 0, 20, .inl b5)), (b3, .inl (G.2 0, 20, .inl b6))] (fun v w => ∃ (e0 : Int32), v = some (.int e0) ∧ w = [(b0, .inr (11, [.ref b2, .ref b3, .int b4])), (b2, .inl (G.2 0, 20, .inl b5)), (b3, .inl (G.2 0, 20, .inl b6))]) := by
  refine z_start (by decide +kernel) (Nat.le_of_ble_eq_true rfl) ?_
  intro p e s m below meth c A Z hr hnm hA hP hD hS ls hl
  have Z : zC p s m _ meth c prog_5_method_4_code 4 "TraceMachines$Odds" G := Z
  obtain ⟨hx, hb, hml, hown, hts, hK, hN, hlocks⟩ := id Z
  have hl : lv_has ls 4 [(0, .ref b0), (1, .int b1)] := hl
  refine lv_iconst (v := 0) hx hb d_Odds_placeOf_0 (by decide) ?_
  refine lv_istore_n (lv' := [(2, .int 0), (0, .ref b0), (1, .int b1)]) hx hb d_Odds_placeOf_1 rfl hl (by decide) rfl (fun ls hl => ?_)
  refine lv_iconst (v := 0) hx hb d_Odds_placeOf_2 (by decide) ?_
  refine lv_istore_n (lv' := [(3, .int 0), (2, .int 0), (0, .ref b0), (1, .int b1)]) hx hb d_Odds_placeOf_3 rfl hl (by decide) rfl (fun ls hl => ?_)
  suffices key : ∀ (k_74 : Nat) (y_75 : Int32) (y_76 : Int32) (H : Heap) (locs : List Loc) (ls : Array Slot), (zI y_75 0 20) → (20 : Int) - y_75.toInt < (k_74 : Int) → va_P G.1 classes [(b0, .inr (11, [.ref b2, .ref b3, .int b4])), (b2, .inl (G.2 0, 20, .inl b5)), (b3, .inl (G.2 0, 20, .inl b6))] H → va_D A [(b0, .inr (11, [.ref b2, .ref b3, .int b4])), (b2, .inl (G.2 0, 20, .inl b5)), (b3, .inl (G.2 0, 20, .inl b6))] → va_S A s.heap H locs → lv_has ls 4 [(3, .int y_75), (2, .int y_76), (0, .ref b0), (1, .int b1)] → W p l e m_s1_Odds_placeOf s m ([.ref b0, .int b1] : List Value).toArray below meth c H locs 0 0 (MQ below (zQ G (fun v w => ∃ (e0 : Int32), v = some (.int e0) ∧ w = [(b0, .inr (11, [.ref b2, .ref b3, .int b4])), (b2, .inl (G.2 0, 20, .inl b5)), (b3, .inl (G.2 0, 20, .inl b6))]) A) ([.ref b0, .int b1] : List Value).toArray s m_s1_Odds_placeOf.cells m_s1_Odds_placeOf.slots A) (F0 m 4 ls []) by
    exact key 21 (0) (0) _ _ _ (zI.wk (l' := 0) (h' := 20) zc_0 (by decide)) (zm_upi (zI.wk (l' := 0) (h' := 20) zc_0 (by decide)) (by decide)) hP hD hS (lv_sub hl [0, 1, 2, 3] rfl)
  intro k_74
  induction k_74 with
  | zero =>
    intro y_75 y_76 H locs ls hy_75 hmk hP hD hS hl
    exact (zm_up0 hy_75 hmk).elim
  | succ k_74 ih =>
    intro y_75 y_76 H locs ls hy_75 hmk hP hD hS hl
    refine lv_iload_n hx hb d_Odds_placeOf_4 rfl (lv_at hl 0 rfl) ?_
    refine lv_aload_n hx hb d_Odds_placeOf_5 rfl (lv_at hl 2 rfl) ?_
    refine va_get (D := G.1) (ci := 11) (v := .int b4) (C := R_Odds) (T := F_Odds) (N := 3) hx hb hts i_Odds hown hK hP 0 rfl rfl 2 (by decide) (hts _ q406) (fun _ h9 => h9) rfl d_Odds_placeOf_6 ?_
    refine lv_icmp_ge (tgt := 30) hx hb d_Odds_placeOf_9 (by decide) (fun hc_77 => ?_) (fun hc_77 => ?_)
    · have _nhc_77 := hc_77
      refine lv_iload_n hx hb d_Odds_placeOf_30 rfl (lv_at hl 1 rfl) ?_
      exact z_iret hx hb hr hlocks hP hD hS (Nat.le_of_ble_eq_true rfl) (Nat.le_of_ble_eq_true rfl) d_Odds_placeOf_31 ⟨y_76, rfl, rfl⟩
    · have _nhc_77 := hc_77
      have hv_78 : zI y_75 0 19 := zI.lt_l hy_75 hb4 (zi_nle hc_77) (by decide)
      have hv_79 : zI b4 1 20 := zI.lt_r hy_75 hb4 (zi_nle hc_77) (by decide)
      refine lv_aload_n hx hb d_Odds_placeOf_12 rfl (lv_at hl 2 rfl) ?_
      refine lv_iload_n hx hb d_Odds_placeOf_13 rfl (lv_at hl 0 rfl) ?_
      refine lv_iload_n hx hb d_Odds_placeOf_14 rfl (lv_at hl 3 rfl) ?_
      refine z_callV (index := 46) (As := [.int y_75, .int b1]) (rest := []) (wr := []) Z (s5_Odds_isOdder l G (b0) (y_75) (b1) (b2) (b3) (b4) (b5) (b6) hv_78 hb1 (zI.wk (l' := 0) (h' := 20) hv_79 (by decide))) hl.1 q974 q976 qs39 q12 q977 ⟨by decide, by decide, by show _ = some 2; decide +kernel⟩ ⟨Nat.le_of_ble_eq_true rfl, Nat.le_of_ble_eq_true rfl⟩ ⟨Nat.le_of_ble_eq_true rfl, Nat.le_of_ble_eq_true rfl⟩ rfl (Nat.le_of_ble_eq_true rfl) d_Odds_placeOf_15 hP hD hS hA 0 11 rfl rfl rfl [0, 1, 2] [] rfl rfl rfl rfl (by decide) (fun v w1 H locs hw_80 hP hD hS => ?_)
      obtain ⟨x_81, rfl, rfl, hx_81⟩ := hw_80
      have hP : va_P G.1 classes [(b0, .inr (11, [.ref b2, .ref b3, .int b4])), (b2, .inl (G.2 0, 20, .inl b5)), (b3, .inl (G.2 0, 20, .inl b6))] H := hP
      have hD := z_tie hP hD rfl
      refine W.widen (k := 0) (n := 0) (Nat.le_of_ble_eq_true rfl) (Nat.le_of_ble_eq_true rfl) ?_
      refine lv_if_eq (tgt := 24) hx hb d_Odds_placeOf_18 (by decide) (fun hc_82 => ?_) (fun hc_82 => ?_)
      · have _nhc_82 := hc_82
        have hv_83 : zI x_81 0 0 := zI.eq_l hx_81 zc_0 hc_82
        obtain ⟨v_84, ev_84⟩ : ∃ z : Int32, z = y_75 + 1 := ⟨_, rfl⟩
        obtain ⟨qv_84, hv_84⟩ := zI_add (l := 1) (h := 20) hv_78 zc_1 ev_84 (by decide)
        rw [li_1] at qv_84
        refine lv_iinc (v := v_84) (lv' := [(3, .int v_84), (2, .int y_76), (0, .ref b0), (1, .int b1)]) hx hb d_Odds_placeOf_24 hl (k := 0) rfl (by rw [ev_84]; rfl) (by decide) rfl (fun ls hl => ?_)
        refine lv_goto (tgt := 4) hx hb d_Odds_placeOf_27 (by decide) ?_
        exact ih (v_84) (y_76) _ _ _ (zI.wk (l' := 0) (h' := 20) hv_84 (by decide)) (zm_up qv_84 hmk (by decide)) hP hD hS (lv_sub hl [0, 1, 2, 3] rfl)
      · have _nhc_82 := hc_82
        have hv_85 : zI x_81 1 1 := zI.ne_lo hx_81 zc_0 hc_82 (by decide)
        obtain ⟨v_86, ev_86⟩ : ∃ z : Int32, z = y_76 + 1 := ⟨_, rfl⟩
        refine lv_iinc (v := v_86) (lv' := [(2, .int v_86), (3, .int y_75), (0, .ref b0), (1, .int b1)]) hx hb d_Odds_placeOf_21 hl (k := 1) rfl (by rw [ev_86]; rfl) (by decide) rfl (fun ls hl => ?_)
        obtain ⟨v_87, ev_87⟩ : ∃ z : Int32, z = y_75 + 1 := ⟨_, rfl⟩
        obtain ⟨qv_87, hv_87⟩ := zI_add (l := 1) (h := 20) hv_78 zc_1 ev_87 (by decide)
        rw [li_1] at qv_87
        refine lv_iinc (v := v_87) (lv' := [(3, .int v_87), (2, .int v_86), (0, .ref b0), (1, .int b1)]) hx hb d_Odds_placeOf_24 hl (k := 1) rfl (by rw [ev_87]; rfl) (by decide) rfl (fun ls hl => ?_)
        refine lv_goto (tgt := 4) hx hb d_Odds_placeOf_27 (by decide) ?_
        exact ih (v_87) (v_86) _ _ _ (zI.wk (l' := 0) (h' := 20) hv_87 (by decide)) (zm_up qv_87 hmk (by decide)) hP hD hS (lv_sub hl [0, 1, 2, 3] rfl)
