theorem d_Model_rules_0 : decode prog_14_method_81_code 0 = .ok (.aload_n 0, 1) := by decide +kernel
theorem d_Model_rules_1 : decode prog_14_method_81_code 1 = .ok (.iconst 0, 1) := by decide +kernel
theorem d_Model_rules_2 : decode prog_14_method_81_code 2 = .ok (.putfield 1, 3) := by decide +kernel
theorem d_Model_rules_5 : decode prog_14_method_81_code 5 = .ok (.iload_n 1, 1) := by decide +kernel
theorem d_Model_rules_6 : decode prog_14_method_81_code 6 = .ok (.i2l, 1) := by decide +kernel
theorem d_Model_rules_7 : decode prog_14_method_81_code 7 = .ok (.lconst 0, 1) := by decide +kernel
theorem d_Model_rules_8 : decode prog_14_method_81_code 8 = .ok (.ldc2_w 263, 3) := by decide +kernel
theorem d_Model_rules_11 : decode prog_14_method_81_code 11 = .ok (.invokestatic 138, 3) := by decide +kernel
theorem d_Model_rules_14 : decode prog_14_method_81_code 14 = .ok (.ifCond .eq 20, 3) := by decide +kernel
theorem d_Model_rules_17 : decode prog_14_method_81_code 17 = .ok (.iload_n 2, 1) := by decide +kernel
theorem d_Model_rules_18 : decode prog_14_method_81_code 18 = .ok (.i2l, 1) := by decide +kernel
theorem d_Model_rules_19 : decode prog_14_method_81_code 19 = .ok (.lconst 1, 1) := by decide +kernel
theorem d_Model_rules_20 : decode prog_14_method_81_code 20 = .ok (.ldc2_w 398, 3) := by decide +kernel
theorem d_Model_rules_23 : decode prog_14_method_81_code 23 = .ok (.invokestatic 138, 3) := by decide +kernel
theorem d_Model_rules_34 : decode prog_14_method_81_code 34 = .ok (.iconst (-1), 1) := by decide +kernel
theorem d_Model_rules_35 : decode prog_14_method_81_code 35 = .ok (.ireturn, 1) := by decide +kernel
abbrev m_c11_Model_in : Room := { frames := 0, cells := 0, slots := 0, locals := 0 }
set_option maxHeartbeats 4000000 in
set_option maxRecDepth 100000 in
theorem c11_Model_in (l : Launch) (G : zG) (b0 : Int64)  : zM l G y_Model_in prog_14_method_3_code 6 (Option.some Jvm.ClassFile.FieldType.boolean) m_c11_Model_in [.long b0, .long 1, .long 20] [] (fun v w => (v = some (.int 0) ∧ w = [] ∧ b0.toInt < 1) ∨ (v = some (.int 0) ∧ w = [] ∧ 1 ≤ b0.toInt ∧ 20 < b0.toInt) ∨ (v = some (.int 1) ∧ w = [] ∧ 1 ≤ b0.toInt ∧ b0.toInt ≤ 20)) := by
  refine z_start (by decide +kernel) (Nat.le_of_ble_eq_true rfl) ?_
  intro p e s m below meth c A Z hr hnm hA hP hD hS ls hl
  have Z : zC p s m _ meth c prog_14_method_3_code 6 "TraceMachinesModel" G := Z
  obtain ⟨hx, hb, hml, hown, hts, hK, hN, hlocks⟩ := id Z
  have hl : lv_has ls 6 [(0, .long b0), (2, .long 1), (4, .long 20)] := hl
  refine lv_lload_n hx hb d_Model_in_0 rfl (lv_at hl 0 rfl) ?_
  refine lv_lload_n hx hb d_Model_in_1 rfl (lv_at hl 1 rfl) ?_
  refine W.lcmp hx hb d_Model_in_2 ?_
  refine lv_topi (fun v_1 ev_1 => ?_)
  refine lv_if_lt (tgt := 17) hx hb d_Model_in_3 (by decide) (fun hc_2 => ?_) (fun hc_2 => ?_)
  · rw [ev_1] at hc_2; simp only [lg_cmp_lt, lg_cmp_le, lg_cmp_gt, lg_cmp_ge, lg_cmp_eq] at hc_2; simp only [fa_lt64, fa_le64, fa_eq64, Int32.toInt_toInt64, ll_1] at hc_2
    refine lv_iconst (v := 0) hx hb d_Model_in_17 (by decide) ?_
    exact z_zret hx hb hr hlocks rfl hP hD hS (Nat.le_of_ble_eq_true rfl) (Nat.le_of_ble_eq_true rfl) d_Model_in_18 (Or.inl ⟨rfl, rfl, by omega⟩)
  · rw [ev_1] at hc_2; simp only [lg_cmp_lt, lg_cmp_le, lg_cmp_gt, lg_cmp_ge, lg_cmp_eq] at hc_2; simp only [fa_lt64, fa_le64, fa_eq64, Int32.toInt_toInt64, ll_1] at hc_2
    refine lv_lload_n hx hb d_Model_in_6 rfl (lv_at hl 0 rfl) ?_
    refine lv_lload hx hb d_Model_in_7 (lv_at hl 2 rfl) ?_
    refine W.lcmp hx hb d_Model_in_9 ?_
    refine lv_topi (fun v_3 ev_3 => ?_)
    refine lv_if_gt (tgt := 17) hx hb d_Model_in_10 (by decide) (fun hc_4 => ?_) (fun hc_4 => ?_)
    · rw [ev_3] at hc_4; simp only [lg_cmp_lt, lg_cmp_le, lg_cmp_gt, lg_cmp_ge, lg_cmp_eq] at hc_4; simp only [fa_lt64, fa_le64, fa_eq64, Int32.toInt_toInt64, ll_20] at hc_4
      refine lv_iconst (v := 0) hx hb d_Model_in_17 (by decide) ?_
      exact z_zret hx hb hr hlocks rfl hP hD hS (Nat.le_of_ble_eq_true rfl) (Nat.le_of_ble_eq_true rfl) d_Model_in_18 (Or.inr (Or.inl ⟨rfl, rfl, by omega, by omega⟩))
    · rw [ev_3] at hc_4; simp only [lg_cmp_lt, lg_cmp_le, lg_cmp_gt, lg_cmp_ge, lg_cmp_eq] at hc_4; simp only [fa_lt64, fa_le64, fa_eq64, Int32.toInt_toInt64, ll_20] at hc_4
      refine lv_iconst (v := 1) hx hb d_Model_in_13 (by decide) ?_
      refine lv_goto (tgt := 18) hx hb d_Model_in_14 (by decide) ?_
      exact z_zret hx hb hr hlocks rfl hP hD hS (Nat.le_of_ble_eq_true rfl) (Nat.le_of_ble_eq_true rfl) d_Model_in_18 (Or.inr (Or.inr (⟨rfl, rfl, by omega, by omega⟩)))
theorem d_Model_rules_26 : decode prog_14_method_81_code 26 = .ok (.ifCond .eq 8, 3) := by decide +kernel
theorem d_Model_rules_29 : decode prog_14_method_81_code 29 = .ok (.iload_n 3, 1) := by decide +kernel
theorem d_Model_rules_30 : decode prog_14_method_81_code 30 = .ok (.iconst (-1), 1) := by decide +kernel
theorem d_Model_rules_31 : decode prog_14_method_81_code 31 = .ok (.if_icmp .ge 5, 3) := by decide +kernel
theorem d_Model_rules_36 : decode prog_14_method_81_code 36 = .ok (.iconst 0, 1) := by decide +kernel
theorem d_Model_rules_37 : decode prog_14_method_81_code 37 = .ok (.istore 4, 2) := by decide +kernel
theorem d_Model_rules_39 : decode prog_14_method_81_code 39 = .ok (.iconst 0, 1) := by decide +kernel
theorem d_Model_rules_40 : decode prog_14_method_81_code 40 = .ok (.istore 5, 2) := by decide +kernel
theorem d_Model_rules_42 : decode prog_14_method_81_code 42 = .ok (.iload 5, 2) := by decide +kernel
theorem d_Model_rules_44 : decode prog_14_method_81_code 44 = .ok (.bipush 100, 2) := by decide +kernel
theorem d_Model_rules_46 : decode prog_14_method_81_code 46 = .ok (.if_icmp .ge 79, 3) := by decide +kernel
theorem d_Model_rules_49 : decode prog_14_method_81_code 49 = .ok (.iload 5, 2) := by decide +kernel
theorem d_Model_rules_51 : decode prog_14_method_81_code 51 = .ok (.bipush 10, 2) := by decide +kernel
theorem d_Model_rules_53 : decode prog_14_method_81_code 53 = .ok (.idiv, 1) := by decide +kernel
theorem d_Model_rules_54 : decode prog_14_method_81_code 54 = .ok (.istore 6, 2) := by decide +kernel
theorem d_Model_rules_56 : decode prog_14_method_81_code 56 = .ok (.iload 5, 2) := by decide +kernel
theorem d_Model_rules_58 : decode prog_14_method_81_code 58 = .ok (.bipush 10, 2) := by decide +kernel
theorem d_Model_rules_60 : decode prog_14_method_81_code 60 = .ok (.irem, 1) := by decide +kernel
theorem d_Model_rules_61 : decode prog_14_method_81_code 61 = .ok (.istore 7, 2) := by decide +kernel
theorem d_Model_rules_63 : decode prog_14_method_81_code 63 = .ok (.iload 6, 2) := by decide +kernel
theorem d_Model_rules_65 : decode prog_14_method_81_code 65 = .ok (.iload 7, 2) := by decide +kernel
theorem d_Model_rules_67 : decode prog_14_method_81_code 67 = .ok (.if_icmp .ne 7, 3) := by decide +kernel
theorem d_Model_rules_74 : decode prog_14_method_81_code 74 = .ok (.aload_n 0, 1) := by decide +kernel
theorem d_Model_rules_75 : decode prog_14_method_81_code 75 = .ok (.iload_n 1, 1) := by decide +kernel
theorem d_Model_rules_76 : decode prog_14_method_81_code 76 = .ok (.iload 6, 2) := by decide +kernel
theorem d_Model_rules_78 : decode prog_14_method_81_code 78 = .ok (.iload 7, 2) := by decide +kernel
theorem d_Model_rules_80 : decode prog_14_method_81_code 80 = .ok (.iconst 0, 1) := by decide +kernel
theorem d_Model_rules_81 : decode prog_14_method_81_code 81 = .ok (.invokevirtual 394, 3) := by decide +kernel
theorem d_Model_rules_125 : decode prog_14_method_81_code 125 = .ok (.iload_n 3, 1) := by decide +kernel
theorem d_Model_rules_126 : decode prog_14_method_81_code 126 = .ok (.iconst (-1), 1) := by decide +kernel
theorem d_Model_rules_127 : decode prog_14_method_81_code 127 = .ok (.if_icmp .ne 8, 3) := by decide +kernel
theorem d_Model_rules_130 : decode prog_14_method_81_code 130 = .ok (.iload 4, 2) := by decide +kernel
theorem d_Model_rules_132 : decode prog_14_method_81_code 132 = .ok (.goto 4, 3) := by decide +kernel
theorem d_Model_rules_135 : decode prog_14_method_81_code 135 = .ok (.iconst (-1), 1) := by decide +kernel
theorem d_Model_rules_136 : decode prog_14_method_81_code 136 = .ok (.ireturn, 1) := by decide +kernel
abbrev m_c3_Model_asked : Room := { frames := 1, cells := 0, slots := 0, locals := 20 }
set_option maxHeartbeats 4000000 in
set_option maxRecDepth 100000 in
theorem c3_Model_asked (l : Launch) (G : zG) (b0 : Nat) (b1 : Int32) (b2 : Int32) (b3 : Int32) (b4 : Nat) (b5 : Nat) (b6 : Nat) (b7 : Nat) (b8 : Nat) (b9 : Nat) (b10 : Nat) (b11 : Nat) (b12 : Nat) (b13 : Nat) (b14 : Nat) (b15 : Nat) (b16 : Nat) (b17 : Nat) (b18 : Nat) (b19 : Nat) (b20 : Nat) (b21 : Nat) (b22 : Nat) (b23 : Nat) (b24 : Nat) (b25 : Nat) (b26 : Nat) (b27 : Nat) (b28 : Nat) (b29 : Nat) (b30 : Nat) (b31 : Nat) (b32 : Nat) (b33 : Nat) (b34 : Nat) (b35 : Nat) (b36 : Nat) (b37 : Nat) (b38 : Nat) (b39 : Nat) (b40 : Nat) (b41 : Nat) (b42 : Nat) (hlo_b1 : 0 ≤ b1.toInt) (hhi_b1 : b1.toInt ≤ 5) : zM l G y_Model_asked prog_14_method_78_code 7 (Option.some Jvm.ClassFile.FieldType.int) m_c3_Model_asked [.ref b0, .int b1, .int b2, .int b3, .int 0] [(b0, .inr (12, [.int 0, .ref b4, .ref b5, .ref b6, .ref b7, .int 0, .ref b8, .int 0, .int 0, .int 0, .int 0, .ref b9, .ref b10, .ref b11, .int 0, .ref b12, .ref b13, .ref b14, .ref b15, .ref b16, .ref b17, .ref b18, .ref b19, .ref b20, .ref b21, .ref b22, .ref b23, .int 0, .ref b24, .ref b25, .int 0, .int 0, .int 0, .int 0, .ref b26, .ref b27, .ref b28, .ref b29, .ref b30, .ref b31, .ref b32, .int 0, .ref b33, .ref b34, .int 0, .ref b35, .ref b36, .ref b37, .ref b38, .ref b39, .int 0, .ref b40, .ref b41, .ref b42])), (b4, .inl (G.2 0, 503, .inl (upd (fun _ => 0) 501 1)))] (fun v w => (v = some (.int 0) ∧ w = [(b0, .inr (12, [.int 0, .ref b4, .ref b5, .ref b6, .ref b7, .int 0, .ref b8, .int 0, .int 0, .int 0, .int 0, .ref b9, .ref b10, .ref b11, .int 0, .ref b12, .ref b13, .ref b14, .ref b15, .ref b16, .ref b17, .ref b18, .ref b19, .ref b20, .ref b21, .ref b22, .ref b23, .int 0, .ref b24, .ref b25, .int 0, .int 0, .int 0, .int 0, .ref b26, .ref b27, .ref b28, .ref b29, .ref b30, .ref b31, .ref b32, .int 0, .ref b33, .ref b34, .int 0, .ref b35, .ref b36, .ref b37, .ref b38, .ref b39, .int 0, .ref b40, .ref b41, .ref b42])), (b4, .inl (G.2 0, 503, .inl (upd (fun _ => 0) 501 1)))])) := by
  refine z_start (by decide +kernel) (Nat.le_of_ble_eq_true rfl) ?_
  intro p e s m below meth c A Z hr hnm hA hP hD hS ls hl
  have Z : zC p s m _ meth c prog_14_method_78_code 7 "TraceMachinesModel" G := Z
  obtain ⟨hx, hb, hml, hown, hts, hK, hN, hlocks⟩ := id Z
  have hl : lv_has ls 7 [(0, .ref b0), (1, .int b1), (2, .int b2), (3, .int b3), (4, .int 0)] := hl
  refine lv_iconst (v := 0) hx hb d_Model_asked_0 (by decide) ?_
  refine lv_istore (lv' := [(5, .int 0), (0, .ref b0), (1, .int b1), (2, .int b2), (3, .int b3), (4, .int 0)]) hx hb d_Model_asked_1 hl (by decide) rfl (fun ls hl => ?_)
  refine lv_iconst (v := 0) hx hb d_Model_asked_3 (by decide) ?_
  refine lv_istore (lv' := [(6, .int 0), (5, .int 0), (0, .ref b0), (1, .int b1), (2, .int b2), (3, .int b3), (4, .int 0)]) hx hb d_Model_asked_4 hl (by decide) rfl (fun ls hl => ?_)
  refine lv_iload hx hb d_Model_asked_6 (lv_at hl 0 rfl) ?_
  refine lv_aload_n hx hb d_Model_asked_8 rfl (lv_at hl 2 rfl) ?_
  refine z_callV (index := 134) (As := []) (rest := [.int 0]) (wr := []) Z (c2_Model_many l G (b0) (b4) (b5) (b6) (b7) (b8) (b9) (b10) (b11) (b12) (b13) (b14) (b15) (b16) (b17) (b18) (b19) (b20) (b21) (b22) (b23) (b24) (b25) (b26) (b27) (b28) (b29) (b30) (b31) (b32) (b33) (b34) (b35) (b36) (b37) (b38) (b39) (b40) (b41) (b42)) hl.1 q1324 q1326 qs51 q14 q1327 ⟨by decide, by decide, by show _ = some 0; decide +kernel⟩ ⟨Nat.le_of_ble_eq_true rfl, Nat.le_of_ble_eq_true rfl⟩ ⟨Nat.le_of_ble_eq_true rfl, Nat.le_of_ble_eq_true rfl⟩ rfl (Nat.le_of_ble_eq_true rfl) d_Model_asked_9 hP hD hS hA 0 12 rfl rfl rfl [0, 1] [] rfl rfl rfl rfl (by decide) (fun v w1 H locs hw_1 hP hD hS => ?_)
  obtain ⟨rfl, rfl⟩ := hw_1
  have hP : va_P G.1 classes [(b0, .inr (12, [.int 0, .ref b4, .ref b5, .ref b6, .ref b7, .int 0, .ref b8, .int 0, .int 0, .int 0, .int 0, .ref b9, .ref b10, .ref b11, .int 0, .ref b12, .ref b13, .ref b14, .ref b15, .ref b16, .ref b17, .ref b18, .ref b19, .ref b20, .ref b21, .ref b22, .ref b23, .int 0, .ref b24, .ref b25, .int 0, .int 0, .int 0, .int 0, .ref b26, .ref b27, .ref b28, .ref b29, .ref b30, .ref b31, .ref b32, .int 0, .ref b33, .ref b34, .int 0, .ref b35, .ref b36, .ref b37, .ref b38, .ref b39, .int 0, .ref b40, .ref b41, .ref b42])), (b4, .inl (G.2 0, 503, .inl (upd (fun _ => 0) 501 1)))] H := hP
  have hD := z_tie hP hD rfl
  refine W.widen (k := 0) (n := 0) (Nat.le_of_ble_eq_true rfl) (Nat.le_of_ble_eq_true rfl) ?_
  refine lv_icmp_ge (tgt := 60) hx hb d_Model_asked_12 (by decide) (fun _ => ?_) (fun hc => absurd hc (by decide +kernel))
  refine lv_iload hx hb d_Model_asked_60 (lv_at hl 1 rfl) ?_
  exact z_iret hx hb hr hlocks hP hD hS (Nat.le_of_ble_eq_true rfl) (Nat.le_of_ble_eq_true rfl) d_Model_asked_62 ⟨rfl, rfl⟩
theorem d_Model_rules_70 : decode prog_14_method_81_code 70 = .ok (.iconst 0, 1) := by decide +kernel
theorem d_Model_rules_71 : decode prog_14_method_81_code 71 = .ok (.goto 13, 3) := by decide +kernel
theorem d_Model_rules_84 : decode prog_14_method_81_code 84 = .ok (.istore 8, 2) := by decide +kernel
theorem d_Model_rules_86 : decode prog_14_method_81_code 86 = .ok (.iload 8, 2) := by decide +kernel
theorem d_Model_rules_88 : decode prog_14_method_81_code 88 = .ok (.iload_n 2, 1) := by decide +kernel
theorem d_Model_rules_89 : decode prog_14_method_81_code 89 = .ok (.if_icmp .lt 30, 3) := by decide +kernel
theorem d_Model_rules_119 : decode prog_14_method_81_code 119 = .ok (.iinc 5 1, 3) := by decide +kernel
theorem d_Model_rules_122 : decode prog_14_method_81_code 122 = .ok (.goto (-80), 3) := by decide +kernel
abbrev m_t_Model_rules : Room := { frames := 2, cells := 0, slots := 0, locals := 46 }
set_option maxHeartbeats 4000000 in
set_option maxRecDepth 100000 in
theorem t_Model_rules (l : Launch) (G : zG) (b0 : Nat) (p0 : Int32) (p1 : Int32) (p2 : Int32) (b4 : Nat) (b5 : Nat) (b6 : Nat) (b7 : Nat) (b8 : Nat) (b9 : Nat) (b10 : Nat) (b11 : Nat) (b12 : Nat) (b13 : Nat) (b14 : Nat) (b15 : Nat) (b16 : Nat) (b17 : Nat) (b18 : Nat) (b19 : Nat) (b20 : Nat) (b21 : Nat) (b22 : Nat) (b23 : Nat) (b24 : Nat) (b25 : Nat) (b26 : Nat) (b27 : Nat) (b28 : Nat) (b29 : Nat) (b30 : Nat) (b31 : Nat) (b32 : Nat) (b33 : Nat) (b34 : Nat) (b35 : Nat) (b36 : Nat) (b37 : Nat) (b38 : Nat) (b39 : Nat) (b40 : Nat) (b41 : Nat) (b42 : Nat)  : zM l G y_Model_rules prog_14_method_81_code 9 (Option.some Jvm.ClassFile.FieldType.int) m_t_Model_rules [.ref b0, .int p0, .int p1, .int p2] [(b0, .inr (12, [.int 0, .ref b4, .ref b5, .ref b6, .ref b7, .int 0, .ref b8, .int 0, .int 0, .int 0, .int 0, .ref b9, .ref b10, .ref b11, .int 0, .ref b12, .ref b13, .ref b14, .ref b15, .ref b16, .ref b17, .ref b18, .ref b19, .ref b20, .ref b21, .ref b22, .ref b23, .int 0, .ref b24, .ref b25, .int 0, .int 0, .int 0, .int 0, .ref b26, .ref b27, .ref b28, .ref b29, .ref b30, .ref b31, .ref b32, .int 0, .ref b33, .ref b34, .int 0, .ref b35, .ref b36, .ref b37, .ref b38, .ref b39, .int 0, .ref b40, .ref b41, .ref b42])), (b4, .inl (G.2 0, 503, .inl (upd (fun _ => 0) 501 1)))] (fun v _ => v = some (.int (a_rules p0 p1 p2))) := by
  refine z_start (by decide +kernel) (Nat.le_of_ble_eq_true rfl) ?_
  intro p e s m below meth c A Z hr hnm hA hP hD hS ls hl
  have Z : zC p s m _ meth c prog_14_method_81_code 9 "TraceMachinesModel" G := Z
  obtain ⟨hx, hb, hml, hown, hts, hK, hN, hlocks⟩ := id Z
  have hl : lv_has ls 9 [(0, .ref b0), (1, .int p0), (2, .int p1), (3, .int p2)] := hl
  refine lv_aload_n hx hb d_Model_rules_0 rfl (lv_at hl 0 rfl) ?_
  refine lv_iconst (v := 0) hx hb d_Model_rules_1 (by decide) ?_
  refine va_put (D := G.1) (ci := 12) (v := .int 0) (ty := .int) (C := R_Model) (T := F_Model) (N := 54) hx hb hts i_Model t_Model t_Model_ok n_Model hown hK hP hD hS 0 rfl rfl 0 (by decide) (hts _ q1113) (fun _ h9 => h9) rfl (by decide +kernel) rfl rfl (Nat.le_of_ble_eq_true rfl) d_Model_rules_2 (fun H locs hP hD hS => ?_)
  have hP : va_P G.1 classes [(b0, .inr (12, [.int 0, .ref b4, .ref b5, .ref b6, .ref b7, .int 0, .ref b8, .int 0, .int 0, .int 0, .int 0, .ref b9, .ref b10, .ref b11, .int 0, .ref b12, .ref b13, .ref b14, .ref b15, .ref b16, .ref b17, .ref b18, .ref b19, .ref b20, .ref b21, .ref b22, .ref b23, .int 0, .ref b24, .ref b25, .int 0, .int 0, .int 0, .int 0, .ref b26, .ref b27, .ref b28, .ref b29, .ref b30, .ref b31, .ref b32, .int 0, .ref b33, .ref b34, .int 0, .ref b35, .ref b36, .ref b37, .ref b38, .ref b39, .int 0, .ref b40, .ref b41, .ref b42])), (b4, .inl (G.2 0, 503, .inl (upd (fun _ => 0) 501 1)))] H := hP
  have hD := z_tie hP hD rfl
  refine lv_iload_n hx hb d_Model_rules_5 rfl (lv_at hl 1 rfl) ?_
  refine lv_i2l (v := p0.toInt64) hx hb d_Model_rules_6 rfl ?_
  refine lv_lconst (v := 0) hx hb d_Model_rules_7 (by decide) ?_
  refine lv_ldc2 hx hb hown (hts _ q1436) d_Model_rules_8 ?_
  refine z_callS (index := 138) (As := [.long p0.toInt64, .long 0, .long 5]) (rest := []) (wr := [(b0, .inr (12, [.int 0, .ref b4, .ref b5, .ref b6, .ref b7, .int 0, .ref b8, .int 0, .int 0, .int 0, .int 0, .ref b9, .ref b10, .ref b11, .int 0, .ref b12, .ref b13, .ref b14, .ref b15, .ref b16, .ref b17, .ref b18, .ref b19, .ref b20, .ref b21, .ref b22, .ref b23, .int 0, .ref b24, .ref b25, .int 0, .int 0, .int 0, .int 0, .ref b26, .ref b27, .ref b28, .ref b29, .ref b30, .ref b31, .ref b32, .int 0, .ref b33, .ref b34, .int 0, .ref b35, .ref b36, .ref b37, .ref b38, .ref b39, .int 0, .ref b40, .ref b41, .ref b42])), (b4, .inl (G.2 0, 503, .inl (upd (fun _ => 0) 501 1)))]) Z (c9_Model_in l G (p0.toInt64)) hl.1 q1285 q1286 q14 q1287 ⟨by decide, by decide, by show _ = some 3; decide +kernel⟩ ⟨Nat.le_of_ble_eq_true rfl, Nat.le_of_ble_eq_true rfl⟩ ⟨Nat.le_of_ble_eq_true rfl, Nat.le_of_ble_eq_true rfl⟩ rfl (Nat.le_of_ble_eq_true rfl) d_Model_rules_11 hP hD hS hA [] [0, 1] rfl rfl rfl rfl (by decide) (fun v w1 H locs hw_1 hP hD hS => ?_)
  rcases hw_1 with ⟨rfl, rfl, hq_2⟩ | ⟨rfl, rfl, hq_3, hq_4⟩ | ⟨rfl, rfl, hq_5, hq_6⟩
  · try simp only [Int32.toInt_toInt64, ll_0] at hq_2
    have hP : va_P G.1 classes [(b0, .inr (12, [.int 0, .ref b4, .ref b5, .ref b6, .ref b7, .int 0, .ref b8, .int 0, .int 0, .int 0, .int 0, .ref b9, .ref b10, .ref b11, .int 0, .ref b12, .ref b13, .ref b14, .ref b15, .ref b16, .ref b17, .ref b18, .ref b19, .ref b20, .ref b21, .ref b22, .ref b23, .int 0, .ref b24, .ref b25, .int 0, .int 0, .int 0, .int 0, .ref b26, .ref b27, .ref b28, .ref b29, .ref b30, .ref b31, .ref b32, .int 0, .ref b33, .ref b34, .int 0, .ref b35, .ref b36, .ref b37, .ref b38, .ref b39, .int 0, .ref b40, .ref b41, .ref b42])), (b4, .inl (G.2 0, 503, .inl (upd (fun _ => 0) 501 1)))] H := hP
    have hD := z_tie hP hD rfl
    refine W.widen (k := 0) (n := 0) (Nat.le_of_ble_eq_true rfl) (Nat.le_of_ble_eq_true rfl) ?_
    refine lv_if_eq (tgt := 34) hx hb d_Model_rules_14 (by decide) (fun _ => ?_) (fun hc => absurd hc (by decide +kernel))
    refine lv_iconst (v := (-1)) hx hb d_Model_rules_34 (by decide) ?_
    exact z_iret hx hb hr hlocks hP hD hS (Nat.le_of_ble_eq_true rfl) (Nat.le_of_ble_eq_true rfl) d_Model_rules_35 (congrArg (fun z => some (Value.int z)) (by unfold a_rules; (first | rfl | (repeat (first | rw [if_pos (by omega)] | rw [if_neg (by omega)])))))
  · try simp only [Int32.toInt_toInt64, ll_0] at hq_3
    try simp only [Int32.toInt_toInt64, ll_5] at hq_4
    have hP : va_P G.1 classes [(b0, .inr (12, [.int 0, .ref b4, .ref b5, .ref b6, .ref b7, .int 0, .ref b8, .int 0, .int 0, .int 0, .int 0, .ref b9, .ref b10, .ref b11, .int 0, .ref b12, .ref b13, .ref b14, .ref b15, .ref b16, .ref b17, .ref b18, .ref b19, .ref b20, .ref b21, .ref b22, .ref b23, .int 0, .ref b24, .ref b25, .int 0, .int 0, .int 0, .int 0, .ref b26, .ref b27, .ref b28, .ref b29, .ref b30, .ref b31, .ref b32, .int 0, .ref b33, .ref b34, .int 0, .ref b35, .ref b36, .ref b37, .ref b38, .ref b39, .int 0, .ref b40, .ref b41, .ref b42])), (b4, .inl (G.2 0, 503, .inl (upd (fun _ => 0) 501 1)))] H := hP
    have hD := z_tie hP hD rfl
    refine W.widen (k := 0) (n := 0) (Nat.le_of_ble_eq_true rfl) (Nat.le_of_ble_eq_true rfl) ?_
    refine lv_if_eq (tgt := 34) hx hb d_Model_rules_14 (by decide) (fun _ => ?_) (fun hc => absurd hc (by decide +kernel))
    refine lv_iconst (v := (-1)) hx hb d_Model_rules_34 (by decide) ?_
    exact z_iret hx hb hr hlocks hP hD hS (Nat.le_of_ble_eq_true rfl) (Nat.le_of_ble_eq_true rfl) d_Model_rules_35 (congrArg (fun z => some (Value.int z)) (by unfold a_rules; (first | rfl | (repeat (first | rw [if_pos (by omega)] | rw [if_neg (by omega)])))))
  · try simp only [Int32.toInt_toInt64, ll_0] at hq_5
    try simp only [Int32.toInt_toInt64, ll_5] at hq_6
    have hP : va_P G.1 classes [(b0, .inr (12, [.int 0, .ref b4, .ref b5, .ref b6, .ref b7, .int 0, .ref b8, .int 0, .int 0, .int 0, .int 0, .ref b9, .ref b10, .ref b11, .int 0, .ref b12, .ref b13, .ref b14, .ref b15, .ref b16, .ref b17, .ref b18, .ref b19, .ref b20, .ref b21, .ref b22, .ref b23, .int 0, .ref b24, .ref b25, .int 0, .int 0, .int 0, .int 0, .ref b26, .ref b27, .ref b28, .ref b29, .ref b30, .ref b31, .ref b32, .int 0, .ref b33, .ref b34, .int 0, .ref b35, .ref b36, .ref b37, .ref b38, .ref b39, .int 0, .ref b40, .ref b41, .ref b42])), (b4, .inl (G.2 0, 503, .inl (upd (fun _ => 0) 501 1)))] H := hP
    have hD := z_tie hP hD rfl
    refine W.widen (k := 0) (n := 0) (Nat.le_of_ble_eq_true rfl) (Nat.le_of_ble_eq_true rfl) ?_
    refine lv_if_eq (tgt := 34) hx hb d_Model_rules_14 (by decide) (fun hc => absurd hc (by decide +kernel)) (fun _ => ?_)
    refine lv_iload_n hx hb d_Model_rules_17 rfl (lv_at hl 2 rfl) ?_
    refine lv_i2l (v := p1.toInt64) hx hb d_Model_rules_18 rfl ?_
    refine lv_lconst (v := 1) hx hb d_Model_rules_19 (by decide) ?_
    refine lv_ldc2 hx hb hown (hts _ q1597) d_Model_rules_20 ?_
    refine z_callS (index := 138) (As := [.long p1.toInt64, .long 1, .long 20]) (rest := []) (wr := [(b0, .inr (12, [.int 0, .ref b4, .ref b5, .ref b6, .ref b7, .int 0, .ref b8, .int 0, .int 0, .int 0, .int 0, .ref b9, .ref b10, .ref b11, .int 0, .ref b12, .ref b13, .ref b14, .ref b15, .ref b16, .ref b17, .ref b18, .ref b19, .ref b20, .ref b21, .ref b22, .ref b23, .int 0, .ref b24, .ref b25, .int 0, .int 0, .int 0, .int 0, .ref b26, .ref b27, .ref b28, .ref b29, .ref b30, .ref b31, .ref b32, .int 0, .ref b33, .ref b34, .int 0, .ref b35, .ref b36, .ref b37, .ref b38, .ref b39, .int 0, .ref b40, .ref b41, .ref b42])), (b4, .inl (G.2 0, 503, .inl (upd (fun _ => 0) 501 1)))]) Z (c11_Model_in l G (p1.toInt64)) hl.1 q1285 q1286 q14 q1287 ⟨by decide, by decide, by show _ = some 3; decide +kernel⟩ ⟨Nat.le_of_ble_eq_true rfl, Nat.le_of_ble_eq_true rfl⟩ ⟨Nat.le_of_ble_eq_true rfl, Nat.le_of_ble_eq_true rfl⟩ rfl (Nat.le_of_ble_eq_true rfl) d_Model_rules_23 hP hD hS hA [] [0, 1] rfl rfl rfl rfl (by decide) (fun v w1 H locs hw_7 hP hD hS => ?_)
    rcases hw_7 with ⟨rfl, rfl, hq_8⟩ | ⟨rfl, rfl, hq_9, hq_10⟩ | ⟨rfl, rfl, hq_11, hq_12⟩
    · try simp only [Int32.toInt_toInt64, ll_1] at hq_8
      have hP : va_P G.1 classes [(b0, .inr (12, [.int 0, .ref b4, .ref b5, .ref b6, .ref b7, .int 0, .ref b8, .int 0, .int 0, .int 0, .int 0, .ref b9, .ref b10, .ref b11, .int 0, .ref b12, .ref b13, .ref b14, .ref b15, .ref b16, .ref b17, .ref b18, .ref b19, .ref b20, .ref b21, .ref b22, .ref b23, .int 0, .ref b24, .ref b25, .int 0, .int 0, .int 0, .int 0, .ref b26, .ref b27, .ref b28, .ref b29, .ref b30, .ref b31, .ref b32, .int 0, .ref b33, .ref b34, .int 0, .ref b35, .ref b36, .ref b37, .ref b38, .ref b39, .int 0, .ref b40, .ref b41, .ref b42])), (b4, .inl (G.2 0, 503, .inl (upd (fun _ => 0) 501 1)))] H := hP
      have hD := z_tie hP hD rfl
      refine W.widen (k := 0) (n := 0) (Nat.le_of_ble_eq_true rfl) (Nat.le_of_ble_eq_true rfl) ?_
      refine lv_if_eq (tgt := 34) hx hb d_Model_rules_26 (by decide) (fun _ => ?_) (fun hc => absurd hc (by decide +kernel))
      refine lv_iconst (v := (-1)) hx hb d_Model_rules_34 (by decide) ?_
      exact z_iret hx hb hr hlocks hP hD hS (Nat.le_of_ble_eq_true rfl) (Nat.le_of_ble_eq_true rfl) d_Model_rules_35 (congrArg (fun z => some (Value.int z)) (by unfold a_rules; (first | rfl | (repeat (first | rw [if_pos (by omega)] | rw [if_neg (by omega)])))))
    · try simp only [Int32.toInt_toInt64, ll_1] at hq_9
      try simp only [Int32.toInt_toInt64, ll_20] at hq_10
      have hP : va_P G.1 classes [(b0, .inr (12, [.int 0, .ref b4, .ref b5, .ref b6, .ref b7, .int 0, .ref b8, .int 0, .int 0, .int 0, .int 0, .ref b9, .ref b10, .ref b11, .int 0, .ref b12, .ref b13, .ref b14, .ref b15, .ref b16, .ref b17, .ref b18, .ref b19, .ref b20, .ref b21, .ref b22, .ref b23, .int 0, .ref b24, .ref b25, .int 0, .int 0, .int 0, .int 0, .ref b26, .ref b27, .ref b28, .ref b29, .ref b30, .ref b31, .ref b32, .int 0, .ref b33, .ref b34, .int 0, .ref b35, .ref b36, .ref b37, .ref b38, .ref b39, .int 0, .ref b40, .ref b41, .ref b42])), (b4, .inl (G.2 0, 503, .inl (upd (fun _ => 0) 501 1)))] H := hP
      have hD := z_tie hP hD rfl
      refine W.widen (k := 0) (n := 0) (Nat.le_of_ble_eq_true rfl) (Nat.le_of_ble_eq_true rfl) ?_
      refine lv_if_eq (tgt := 34) hx hb d_Model_rules_26 (by decide) (fun _ => ?_) (fun hc => absurd hc (by decide +kernel))
      refine lv_iconst (v := (-1)) hx hb d_Model_rules_34 (by decide) ?_
      exact z_iret hx hb hr hlocks hP hD hS (Nat.le_of_ble_eq_true rfl) (Nat.le_of_ble_eq_true rfl) d_Model_rules_35 (congrArg (fun z => some (Value.int z)) (by unfold a_rules; (first | rfl | (repeat (first | rw [if_pos (by omega)] | rw [if_neg (by omega)])))))
    · try simp only [Int32.toInt_toInt64, ll_1] at hq_11
      try simp only [Int32.toInt_toInt64, ll_20] at hq_12
      have hP : va_P G.1 classes [(b0, .inr (12, [.int 0, .ref b4, .ref b5, .ref b6, .ref b7, .int 0, .ref b8, .int 0, .int 0, .int 0, .int 0, .ref b9, .ref b10, .ref b11, .int 0, .ref b12, .ref b13, .ref b14, .ref b15, .ref b16, .ref b17, .ref b18, .ref b19, .ref b20, .ref b21, .ref b22, .ref b23, .int 0, .ref b24, .ref b25, .int 0, .int 0, .int 0, .int 0, .ref b26, .ref b27, .ref b28, .ref b29, .ref b30, .ref b31, .ref b32, .int 0, .ref b33, .ref b34, .int 0, .ref b35, .ref b36, .ref b37, .ref b38, .ref b39, .int 0, .ref b40, .ref b41, .ref b42])), (b4, .inl (G.2 0, 503, .inl (upd (fun _ => 0) 501 1)))] H := hP
      have hD := z_tie hP hD rfl
      refine W.widen (k := 0) (n := 0) (Nat.le_of_ble_eq_true rfl) (Nat.le_of_ble_eq_true rfl) ?_
      refine lv_if_eq (tgt := 34) hx hb d_Model_rules_26 (by decide) (fun hc => absurd hc (by decide +kernel)) (fun _ => ?_)
      refine lv_iload_n hx hb d_Model_rules_29 rfl (lv_at hl 3 rfl) ?_
      refine lv_iconst (v := (-1)) hx hb d_Model_rules_30 (by decide) ?_
      refine lv_icmp_ge (tgt := 36) hx hb d_Model_rules_31 (by decide) (fun hc_13 => ?_) (fun hc_13 => ?_)
      · simp only [fa_lt, fa_le, fa_eq, Int32.toInt_toInt64, li_m1] at hc_13
        refine lv_iconst (v := 0) hx hb d_Model_rules_36 (by decide) ?_
        refine lv_istore (lv' := [(4, .int 0), (0, .ref b0), (1, .int p0), (2, .int p1), (3, .int p2)]) hx hb d_Model_rules_37 hl (by decide) rfl (fun ls hl => ?_)
        refine lv_iconst (v := 0) hx hb d_Model_rules_39 (by decide) ?_
        refine lv_istore (lv' := [(5, .int 0), (4, .int 0), (0, .ref b0), (1, .int p0), (2, .int p1), (3, .int p2)]) hx hb d_Model_rules_40 hl (by decide) rfl (fun ls hl => ?_)
        suffices key : ∀ (k_15 i_14 : Nat) (H : Heap) (locs : List Loc) (ls : Array Slot), i_14 + k_15 = 100 → va_P G.1 classes [(b0, .inr (12, [.int 0, .ref b4, .ref b5, .ref b6, .ref b7, .int 0, .ref b8, .int 0, .int 0, .int 0, .int 0, .ref b9, .ref b10, .ref b11, .int 0, .ref b12, .ref b13, .ref b14, .ref b15, .ref b16, .ref b17, .ref b18, .ref b19, .ref b20, .ref b21, .ref b22, .ref b23, .int 0, .ref b24, .ref b25, .int 0, .int 0, .int 0, .int 0, .ref b26, .ref b27, .ref b28, .ref b29, .ref b30, .ref b31, .ref b32, .int 0, .ref b33, .ref b34, .int 0, .ref b35, .ref b36, .ref b37, .ref b38, .ref b39, .int 0, .ref b40, .ref b41, .ref b42])), (b4, .inl (G.2 0, 503, .inl (upd (fun _ => 0) 501 1)))] H → va_D A [(b0, .inr (12, [.int 0, .ref b4, .ref b5, .ref b6, .ref b7, .int 0, .ref b8, .int 0, .int 0, .int 0, .int 0, .ref b9, .ref b10, .ref b11, .int 0, .ref b12, .ref b13, .ref b14, .ref b15, .ref b16, .ref b17, .ref b18, .ref b19, .ref b20, .ref b21, .ref b22, .ref b23, .int 0, .ref b24, .ref b25, .int 0, .int 0, .int 0, .int 0, .ref b26, .ref b27, .ref b28, .ref b29, .ref b30, .ref b31, .ref b32, .int 0, .ref b33, .ref b34, .int 0, .ref b35, .ref b36, .ref b37, .ref b38, .ref b39, .int 0, .ref b40, .ref b41, .ref b42])), (b4, .inl (G.2 0, 503, .inl (upd (fun _ => 0) 501 1)))] → va_S A s.heap H locs → lv_has ls 9 [(5, .int (nI i_14)), (4, .int 0), (0, .ref b0), (1, .int p0), (2, .int p1), (3, .int p2)] → W p l e m_t_Model_rules s m ([.ref b0, .int p0, .int p1, .int p2] : List Value).toArray below meth c H locs 0 0 (MQ below (zQ G (fun v _ => v = some (.int (a_rules p0 p1 p2))) A) ([.ref b0, .int p0, .int p1, .int p2] : List Value).toArray s m_t_Model_rules.cells m_t_Model_rules.slots A) (F0 m 42 ls []) by
          exact key (100) 0  _ _ _ (by omega) hP hD hS (lv_sub hl [0, 1, 2, 3, 4, 5] rfl)
        intro k_15
        induction k_15 with
        | zero =>
          intro i_14 H locs ls hik hP hD hS hl
          obtain rfl : i_14 = 100 := by omega
          have hl : lv_has ls 9 [(5, .int (nI 100)), (4, .int 0), (0, .ref b0), (1, .int p0), (2, .int p1), (3, .int p2)] := hl
          refine lv_iload hx hb d_Model_rules_42 (lv_at hl 0 rfl) ?_
          refine lv_bipush (v := 100) hx hb d_Model_rules_44 (by decide) ?_
          refine lv_icmp_ge (tgt := 125) hx hb d_Model_rules_46 (by decide) (fun _ => ?_) (fun hc => absurd hc (by decide +kernel))
          refine lv_iload_n hx hb d_Model_rules_125 rfl (lv_at hl 5 rfl) ?_
          refine lv_iconst (v := (-1)) hx hb d_Model_rules_126 (by decide) ?_
          refine lv_icmp_ne (tgt := 135) hx hb d_Model_rules_127 (by decide) (fun hc_16 => ?_) (fun hc_16 => ?_)
          · simp only [fa_lt, fa_le, fa_eq, Int32.toInt_toInt64, li_m1] at hc_16
            refine lv_iconst (v := (-1)) hx hb d_Model_rules_135 (by decide) ?_
            exact z_iret hx hb hr hlocks hP hD hS (Nat.le_of_ble_eq_true rfl) (Nat.le_of_ble_eq_true rfl) d_Model_rules_136 (congrArg (fun z => some (Value.int z)) (by unfold a_rules; (first | rfl | (repeat (first | rw [if_pos (by omega)] | rw [if_neg (by omega)])))))
          · simp only [fa_lt, fa_le, fa_eq, Int32.toInt_toInt64, li_m1] at hc_16
            refine lv_iload hx hb d_Model_rules_130 (lv_at hl 1 rfl) ?_
            refine lv_goto (tgt := 136) hx hb d_Model_rules_132 (by decide) ?_
            exact z_iret hx hb hr hlocks hP hD hS (Nat.le_of_ble_eq_true rfl) (Nat.le_of_ble_eq_true rfl) d_Model_rules_136 (congrArg (fun z => some (Value.int z)) (by unfold a_rules; (first | rfl | (repeat (first | rw [if_pos (by omega)] | rw [if_neg (by omega)])))))
        | succ k_15 ih =>
          intro i_14 H locs ls hik hP hD hS hl
          have hilt : i_14 < 100 := by omega
          refine lv_iload hx hb d_Model_rules_42 (lv_at hl 0 rfl) ?_
          refine lv_bipush (v := 100) hx hb d_Model_rules_44 (by decide) ?_
          refine lv_icmp_ge (tgt := 125) hx hb d_Model_rules_46 (by decide) (fun hc => absurd hc (nI_ge hilt (by decide))) (fun _ => ?_)
          refine lv_iload hx hb d_Model_rules_49 (lv_at hl 0 rfl) ?_
          refine lv_bipush (v := 10) hx hb d_Model_rules_51 (by decide) ?_
          refine lv_idiv hx hb d_Model_rules_53 (by decide +kernel) ?_
          refine lv_topi (fun v_17 ev_17 => ?_)
          refine lv_istore (lv' := [(6, .int v_17), (5, .int (nI i_14)), (4, .int 0), (0, .ref b0), (1, .int p0), (2, .int p1), (3, .int p2)]) hx hb d_Model_rules_54 hl (by decide) rfl (fun ls hl => ?_)
          refine lv_iload hx hb d_Model_rules_56 (lv_at hl 1 rfl) ?_
          refine lv_bipush (v := 10) hx hb d_Model_rules_58 (by decide) ?_
          refine lv_irem hx hb d_Model_rules_60 (by decide +kernel) ?_
          refine lv_topi (fun v_18 ev_18 => ?_)
          refine lv_istore (lv' := [(7, .int v_18), (6, .int v_17), (5, .int (nI i_14)), (4, .int 0), (0, .ref b0), (1, .int p0), (2, .int p1), (3, .int p2)]) hx hb d_Model_rules_61 hl (by decide) rfl (fun ls hl => ?_)
          refine lv_iload hx hb d_Model_rules_63 (lv_at hl 1 rfl) ?_
          refine lv_iload hx hb d_Model_rules_65 (lv_at hl 0 rfl) ?_
          refine lv_icmp_ne (tgt := 74) hx hb d_Model_rules_67 (by decide) (fun hc_19 => ?_) (fun hc_19 => ?_)
          · simp only [fa_lt, fa_le, fa_eq, Int32.toInt_toInt64] at hc_19
            refine lv_aload_n hx hb d_Model_rules_74 rfl (lv_at hl 4 rfl) ?_
            refine lv_iload_n hx hb d_Model_rules_75 rfl (lv_at hl 5 rfl) ?_
            refine lv_iload hx hb d_Model_rules_76 (lv_at hl 1 rfl) ?_
            refine lv_iload hx hb d_Model_rules_78 (lv_at hl 0 rfl) ?_
            refine lv_iconst (v := 0) hx hb d_Model_rules_80 (by decide) ?_
            refine z_callV (index := 394) (As := [.int p0, .int v_17, .int v_18, .int 0]) (rest := []) (wr := []) Z (c3_Model_asked l G (b0) (p0) (v_17) (v_18) (b4) (b5) (b6) (b7) (b8) (b9) (b10) (b11) (b12) (b13) (b14) (b15) (b16) (b17) (b18) (b19) (b20) (b21) (b22) (b23) (b24) (b25) (b26) (b27) (b28) (b29) (b30) (b31) (b32) (b33) (b34) (b35) (b36) (b37) (b38) (b39) (b40) (b41) (b42) (by first | assumption | decide +kernel | omega) (by first | assumption | decide +kernel | omega)) hl.1 q1557 q1559 qs87 q14 q1560 ⟨by decide, by decide, by show _ = some 4; decide +kernel⟩ ⟨Nat.le_of_ble_eq_true rfl, Nat.le_of_ble_eq_true rfl⟩ ⟨Nat.le_of_ble_eq_true rfl, Nat.le_of_ble_eq_true rfl⟩ rfl (Nat.le_of_ble_eq_true rfl) d_Model_rules_81 hP hD hS hA 0 12 rfl rfl rfl [0, 1] [] rfl rfl rfl rfl (by decide) (fun v w1 H locs hw_20 hP hD hS => ?_)
            obtain ⟨rfl, rfl⟩ := hw_20
            have hP : va_P G.1 classes [(b0, .inr (12, [.int 0, .ref b4, .ref b5, .ref b6, .ref b7, .int 0, .ref b8, .int 0, .int 0, .int 0, .int 0, .ref b9, .ref b10, .ref b11, .int 0, .ref b12, .ref b13, .ref b14, .ref b15, .ref b16, .ref b17, .ref b18, .ref b19, .ref b20, .ref b21, .ref b22, .ref b23, .int 0, .ref b24, .ref b25, .int 0, .int 0, .int 0, .int 0, .ref b26, .ref b27, .ref b28, .ref b29, .ref b30, .ref b31, .ref b32, .int 0, .ref b33, .ref b34, .int 0, .ref b35, .ref b36, .ref b37, .ref b38, .ref b39, .int 0, .ref b40, .ref b41, .ref b42])), (b4, .inl (G.2 0, 503, .inl (upd (fun _ => 0) 501 1)))] H := hP
            have hD := z_tie hP hD rfl
            refine W.widen (k := 0) (n := 0) (Nat.le_of_ble_eq_true rfl) (Nat.le_of_ble_eq_true rfl) ?_
            refine lv_istore (lv' := [(8, .int 0), (7, .int v_18), (6, .int v_17), (5, .int (nI i_14)), (4, .int 0), (0, .ref b0), (1, .int p0), (2, .int p1), (3, .int p2)]) hx hb d_Model_rules_84 hl (by decide) rfl (fun ls hl => ?_)
            refine lv_iload hx hb d_Model_rules_86 (lv_at hl 0 rfl) ?_
            refine lv_iload_n hx hb d_Model_rules_88 rfl (lv_at hl 7 rfl) ?_
            refine lv_icmp_lt (tgt := 119) hx hb d_Model_rules_89 (by decide) (fun _ => ?_) (fun hc => absurd hc (by intro hc; simp only [fa_lt, fa_le, fa_eq, Int32.toInt_toInt64, li_0] at hc; omega))
            refine lv_iinc (v := (nI (i_14 + 1))) (lv' := [(5, .int (nI (i_14 + 1))), (8, .int 0), (7, .int v_18), (6, .int v_17), (4, .int 0), (0, .ref b0), (1, .int p0), (2, .int p1), (3, .int p2)]) hx hb d_Model_rules_119 hl (k := 3) rfl (nI_1 i_14) (by decide) rfl (fun ls hl => ?_)
            refine lv_goto (tgt := 42) hx hb d_Model_rules_122 (by decide) ?_
            exact ih (i_14 + 1)  _ _ _ (by omega)  hP hD hS (lv_sub hl [0, 4, 5, 6, 7, 8] rfl)
          · simp only [fa_lt, fa_le, fa_eq, Int32.toInt_toInt64] at hc_19
            refine lv_iconst (v := 0) hx hb d_Model_rules_70 (by decide) ?_
            refine lv_goto (tgt := 84) hx hb d_Model_rules_71 (by decide) ?_
            refine lv_istore (lv' := [(8, .int 0), (7, .int v_18), (6, .int v_17), (5, .int (nI i_14)), (4, .int 0), (0, .ref b0), (1, .int p0), (2, .int p1), (3, .int p2)]) hx hb d_Model_rules_84 hl (by decide) rfl (fun ls hl => ?_)
            refine lv_iload hx hb d_Model_rules_86 (lv_at hl 0 rfl) ?_
            refine lv_iload_n hx hb d_Model_rules_88 rfl (lv_at hl 7 rfl) ?_
            refine lv_icmp_lt (tgt := 119) hx hb d_Model_rules_89 (by decide) (fun _ => ?_) (fun hc => absurd hc (by intro hc; simp only [fa_lt, fa_le, fa_eq, Int32.toInt_toInt64, li_0] at hc; omega))
            refine lv_iinc (v := (nI (i_14 + 1))) (lv' := [(5, .int (nI (i_14 + 1))), (8, .int 0), (7, .int v_18), (6, .int v_17), (4, .int 0), (0, .ref b0), (1, .int p0), (2, .int p1), (3, .int p2)]) hx hb d_Model_rules_119 hl (k := 3) rfl (nI_1 i_14) (by decide) rfl (fun ls hl => ?_)
            refine lv_goto (tgt := 42) hx hb d_Model_rules_122 (by decide) ?_
            exact ih (i_14 + 1)  _ _ _ (by omega)  hP hD hS (lv_sub hl [0, 4, 5, 6, 7, 8] rfl)
      · simp only [fa_lt, fa_le, fa_eq, Int32.toInt_toInt64, li_m1] at hc_13
        refine lv_iconst (v := (-1)) hx hb d_Model_rules_34 (by decide) ?_
        exact z_iret hx hb hr hlocks hP hD hS (Nat.le_of_ble_eq_true rfl) (Nat.le_of_ble_eq_true rfl) d_Model_rules_35 (congrArg (fun z => some (Value.int z)) (by unfold a_rules; (first | rfl | (repeat (first | rw [if_pos (by omega)] | rw [if_neg (by omega)])))))
theorem d_Model_odd_0 : decode prog_14_method_85_code 0 = .ok (.aload_n 0, 1) := by decide +kernel
theorem d_Model_odd_1 : decode prog_14_method_85_code 1 = .ok (.iconst 0, 1) := by decide +kernel
theorem d_Model_odd_2 : decode prog_14_method_85_code 2 = .ok (.putfield 1, 3) := by decide +kernel
theorem d_Model_odd_5 : decode prog_14_method_85_code 5 = .ok (.aload_n 0, 1) := by decide +kernel
theorem d_Model_odd_6 : decode prog_14_method_85_code 6 = .ok (.iload_n 1, 1) := by decide +kernel
theorem d_Model_odd_7 : decode prog_14_method_85_code 7 = .ok (.invokevirtual 191, 3) := by decide +kernel
theorem d_Model_odd_10 : decode prog_14_method_85_code 10 = .ok (.ifCond .eq 15, 3) := by decide +kernel
theorem d_Model_odd_25 : decode prog_14_method_85_code 25 = .ok (.iconst (-1), 1) := by decide +kernel
theorem d_Model_odd_26 : decode prog_14_method_85_code 26 = .ok (.ireturn, 1) := by decide +kernel
abbrev m_t_Model_odd : Room := { frames := 2, cells := 0, slots := 0, locals := 46 }
set_option maxHeartbeats 4000000 in
set_option maxRecDepth 100000 in
theorem t_Model_odd (l : Launch) (G : zG) (b0 : Nat) (p0 : Int32) (p1 : Int32) (b3 : Nat) (b4 : Nat) (b5 : Nat) (b6 : Nat) (b7 : Nat) (b8 : Nat) (b9 : Nat) (b10 : Nat) (b11 : Nat) (b12 : Nat) (b13 : Nat) (b14 : Nat) (b15 : Nat) (b16 : Nat) (b17 : Nat) (b18 : Nat) (b19 : Nat) (b20 : Nat) (b21 : Nat) (b22 : Nat) (b23 : Nat) (b24 : Nat) (b25 : Nat) (b26 : Nat) (b27 : Nat) (b28 : Nat) (b29 : Nat) (b30 : Nat) (b31 : Nat) (b32 : Nat) (b33 : Nat) (b34 : Nat) (b35 : Nat) (b36 : Nat) (b37 : Nat) (b38 : Nat) (b39 : Nat) (b40 : Nat) (b41 : Nat)  : zM l G y_Model_odd prog_14_method_85_code 3 (Option.some Jvm.ClassFile.FieldType.int) m_t_Model_odd [.ref b0, .int p0, .int p1] [(b0, .inr (12, [.int 0, .ref b3, .ref b4, .ref b5, .ref b6, .int 0, .ref b7, .int 0, .int 0, .int 0, .int 0, .ref b8, .ref b9, .ref b10, .int 0, .ref b11, .ref b12, .ref b13, .ref b14, .ref b15, .ref b16, .ref b17, .ref b18, .ref b19, .ref b20, .ref b21, .ref b22, .int 0, .ref b23, .ref b24, .int 0, .int 0, .int 0, .int 0, .ref b25, .ref b26, .ref b27, .ref b28, .ref b29, .ref b30, .ref b31, .int 0, .ref b32, .ref b33, .int 0, .ref b34, .ref b35, .ref b36, .ref b37, .ref b38, .int 0, .ref b39, .ref b40, .ref b41])), (b3, .inl (G.2 0, 503, .inl (upd (fun _ => 0) 501 1)))] (fun v _ => v = some (.int (a_odd p0 p1))) := by
  refine z_start (by decide +kernel) (Nat.le_of_ble_eq_true rfl) ?_
  intro p e s m below meth c A Z hr hnm hA hP hD hS ls hl
  have Z : zC p s m _ meth c prog_14_method_85_code 3 "TraceMachinesModel" G := Z
  obtain ⟨hx, hb, hml, hown, hts, hK, hN, hlocks⟩ := id Z
  have hl : lv_has ls 3 [(0, .ref b0), (1, .int p0), (2, .int p1)] := hl
  refine lv_aload_n hx hb d_Model_odd_0 rfl (lv_at hl 0 rfl) ?_
  refine lv_iconst (v := 0) hx hb d_Model_odd_1 (by decide) ?_
  refine va_put (D := G.1) (ci := 12) (v := .int 0) (ty := .int) (C := R_Model) (T := F_Model) (N := 54) hx hb hts i_Model t_Model t_Model_ok n_Model hown hK hP hD hS 0 rfl rfl 0 (by decide) (hts _ q1113) (fun _ h9 => h9) rfl (by decide +kernel) rfl rfl (Nat.le_of_ble_eq_true rfl) d_Model_odd_2 (fun H locs hP hD hS => ?_)
  have hP : va_P G.1 classes [(b0, .inr (12, [.int 0, .ref b3, .ref b4, .ref b5, .ref b6, .int 0, .ref b7, .int 0, .int 0, .int 0, .int 0, .ref b8, .ref b9, .ref b10, .int 0, .ref b11, .ref b12, .ref b13, .ref b14, .ref b15, .ref b16, .ref b17, .ref b18, .ref b19, .ref b20, .ref b21, .ref b22, .int 0, .ref b23, .ref b24, .int 0, .int 0, .int 0, .int 0, .ref b25, .ref b26, .ref b27, .ref b28, .ref b29, .ref b30, .ref b31, .int 0, .ref b32, .ref b33, .int 0, .ref b34, .ref b35, .ref b36, .ref b37, .ref b38, .int 0, .ref b39, .ref b40, .ref b41])), (b3, .inl (G.2 0, 503, .inl (upd (fun _ => 0) 501 1)))] H := hP
  have hD := z_tie hP hD rfl
  refine lv_aload_n hx hb d_Model_odd_5 rfl (lv_at hl 0 rfl) ?_
  refine lv_iload_n hx hb d_Model_odd_6 rfl (lv_at hl 1 rfl) ?_
  refine z_callV (index := 191) (As := [.int p0]) (rest := []) (wr := []) Z (c1_Model_isTrace l G (b0) (p0) (b3) (b4) (b5) (b6) (b7) (b8) (b9) (b10) (b11) (b12) (b13) (b14) (b15) (b16) (b17) (b18) (b19) (b20) (b21) (b22) (b23) (b24) (b25) (b26) (b27) (b28) (b29) (b30) (b31) (b32) (b33) (b34) (b35) (b36) (b37) (b38) (b39) (b40) (b41)) hl.1 q1332 q1334 qs52 q14 q1335 ⟨by decide, by decide, by show _ = some 1; decide +kernel⟩ ⟨Nat.le_of_ble_eq_true rfl, Nat.le_of_ble_eq_true rfl⟩ ⟨Nat.le_of_ble_eq_true rfl, Nat.le_of_ble_eq_true rfl⟩ rfl (Nat.le_of_ble_eq_true rfl) d_Model_odd_7 hP hD hS hA 0 12 rfl rfl rfl [0, 1] [] rfl rfl rfl rfl (by decide) (fun v w1 H locs hw_1 hP hD hS => ?_)
  obtain ⟨rfl, rfl⟩ := hw_1
  have hP : va_P G.1 classes [(b0, .inr (12, [.int 0, .ref b3, .ref b4, .ref b5, .ref b6, .int 0, .ref b7, .int 0, .int 0, .int 0, .int 0, .ref b8, .ref b9, .ref b10, .int 0, .ref b11, .ref b12, .ref b13, .ref b14, .ref b15, .ref b16, .ref b17, .ref b18, .ref b19, .ref b20, .ref b21, .ref b22, .int 0, .ref b23, .ref b24, .int 0, .int 0, .int 0, .int 0, .ref b25, .ref b26, .ref b27, .ref b28, .ref b29, .ref b30, .ref b31, .int 0, .ref b32, .ref b33, .int 0, .ref b34, .ref b35, .ref b36, .ref b37, .ref b38, .int 0, .ref b39, .ref b40, .ref b41])), (b3, .inl (G.2 0, 503, .inl (upd (fun _ => 0) 501 1)))] H := hP
  have hD := z_tie hP hD rfl
  refine W.widen (k := 0) (n := 0) (Nat.le_of_ble_eq_true rfl) (Nat.le_of_ble_eq_true rfl) ?_
  refine lv_if_eq (tgt := 25) hx hb d_Model_odd_10 (by decide) (fun _ => ?_) (fun hc => absurd hc (by decide +kernel))
  refine lv_iconst (v := (-1)) hx hb d_Model_odd_25 (by decide) ?_
  exact z_iret hx hb hr hlocks hP hD hS (Nat.le_of_ble_eq_true rfl) (Nat.le_of_ble_eq_true rfl) d_Model_odd_26 (congrArg (fun z => some (Value.int z)) (by unfold a_odd; (first | rfl | (repeat (first | rw [if_pos (by omega)] | rw [if_neg (by omega)])))))
theorem d_Model_oddest_0 : decode prog_14_method_86_code 0 = .ok (.aload_n 0, 1) := by decide +kernel
theorem d_Model_oddest_1 : decode prog_14_method_86_code 1 = .ok (.iconst 0, 1) := by decide +kernel
theorem d_Model_oddest_2 : decode prog_14_method_86_code 2 = .ok (.putfield 1, 3) := by decide +kernel
theorem d_Model_oddest_5 : decode prog_14_method_86_code 5 = .ok (.aload_n 0, 1) := by decide +kernel
theorem d_Model_oddest_6 : decode prog_14_method_86_code 6 = .ok (.invokevirtual 405, 3) := by decide +kernel
theorem d_Model_layWeak_0 : decode prog_14_method_82_code 0 = .ok (.aload_n 0, 1) := by decide +kernel
theorem d_Model_layWeak_1 : decode prog_14_method_82_code 1 = .ok (.invokevirtual 254, 3) := by decide +kernel
theorem d_Model_layWeak_4 : decode prog_14_method_82_code 4 = .ok (.iconst 0, 1) := by decide +kernel
theorem d_Model_layWeak_5 : decode prog_14_method_82_code 5 = .ok (.istore_n 1, 1) := by decide +kernel
theorem d_Model_layWeak_6 : decode prog_14_method_82_code 6 = .ok (.iload_n 1, 1) := by decide +kernel
theorem d_Model_layWeak_7 : decode prog_14_method_82_code 7 = .ok (.aload_n 0, 1) := by decide +kernel
theorem d_Model_layWeak_8 : decode prog_14_method_82_code 8 = .ok (.invokevirtual 134, 3) := by decide +kernel
theorem d_Model_layWeak_11 : decode prog_14_method_82_code 11 = .ok (.if_icmp .ge 144, 3) := by decide +kernel
theorem d_Model_layWeak_155 : decode prog_14_method_82_code 155 = .ok (.return_, 1) := by decide +kernel
abbrev m_c1_Model_layWeak : Room := { frames := 4, cells := 0, slots := 0, locals := 94 }
set_option maxHeartbeats 4000000 in
set_option maxRecDepth 100000 in
theorem c1_Model_layWeak (l : Launch) (G : zG) (b0 : Nat) (b1 : Nat) (b2 : Nat) (b3 : Nat) (b4 : Nat) (b5 : Nat) (b6 : Nat) (b7 : Nat) (b8 : Nat) (b9 : Nat) (b10 : Nat) (b11 : Nat) (b12 : Nat) (b13 : Nat) (b14 : Nat) (b15 : Nat) (b16 : Nat) (b17 : Nat) (b18 : Nat) (b19 : Nat) (b20 : Nat) (b21 : Nat) (b22 : Nat) (b23 : Nat) (b24 : Nat) (b25 : Nat) (b26 : Nat) (b27 : Nat) (b28 : Nat) (b29 : Nat) (b30 : Nat) (b31 : Nat) (b32 : Nat) (b33 : Nat) (b34 : Nat) (b35 : Nat) (b36 : Nat) (b37 : Nat) (b38 : Nat) (b39 : Nat)  : zM l G y_Model_layWeak prog_14_method_82_code 4 (Option.none : Option Jvm.ClassFile.FieldType) m_c1_Model_layWeak [.ref b0] [(b0, .inr (12, [.int 0, .ref b1, .ref b2, .ref b3, .ref b4, .int 0, .ref b5, .int 0, .int 0, .int 0, .int 0, .ref b6, .ref b7, .ref b8, .int 0, .ref b9, .ref b10, .ref b11, .ref b12, .ref b13, .ref b14, .ref b15, .ref b16, .ref b17, .ref b18, .ref b19, .ref b20, .int 0, .ref b21, .ref b22, .int 0, .int 0, .int 0, .int 0, .ref b23, .ref b24, .ref b25, .ref b26, .ref b27, .ref b28, .ref b29, .int 0, .ref b30, .ref b31, .int 0, .ref b32, .ref b33, .ref b34, .ref b35, .ref b36, .int 0, .ref b37, .ref b38, .ref b39])), (b1, .inl (G.2 0, 503, .inl (upd (fun _ => 0) 501 1))), (b9, .inl (G.2 0, 2, .inl (fun _ => 0))), (b10, .inl (G.2 0, 4820, .inl (fun _ => 0))), (b13, .inl (G.2 0, 482, .inl (fun _ => 0))), (b15, .inl (G.2 0, 2, .inl (fun _ => 0))), (b19, .inl (G.2 0, 2, .inl (fun _ => 0)))] (fun v w => (v = none ∧ w = [(b19, .inl (G.2 0, 2, .inl (upd (fun _ => 0) 0 0))), (b10, .inl (G.2 0, 4820, .inl (upd (upd (upd (upd (upd (upd (upd (upd (upd (upd (fun _ => 0) 0 (-1)) 1 (-1)) 2 (-1)) 3 (-1)) 4 (-1)) 5 (-1)) 6 (-1)) 7 (-1)) 8 (-1)) 9 (-1)))), (b13, .inl (G.2 0, 482, .inl (upd (upd (fun _ => 0) 0 0) 0 0))), (b15, .inl (G.2 0, 2, .inl (upd (fun _ => 0) 0 0))), (b9, .inl (G.2 0, 2, .inl (upd (upd (fun _ => 0) 0 0) 0 1))), (b0, .inr (12, [.int 0, .ref b1, .ref b2, .ref b3, .ref b4, .int 0, .ref b5, .int 0, .int 0, .int 0, .int 0, .ref b6, .ref b7, .ref b8, .int 0, .ref b9, .ref b10, .ref b11, .ref b12, .ref b13, .ref b14, .ref b15, .ref b16, .ref b17, .ref b18, .ref b19, .ref b20, .int 0, .ref b21, .ref b22, .int 0, .int 0, .int 0, .int 0, .ref b23, .ref b24, .ref b25, .ref b26, .ref b27, .ref b28, .ref b29, .int 0, .ref b30, .ref b31, .int 0, .ref b32, .ref b33, .ref b34, .ref b35, .ref b36, .int 0, .ref b37, .ref b38, .ref b39])), (b1, .inl (G.2 0, 503, .inl (upd (fun _ => 0) 501 1)))])) := by
  refine z_start (by decide +kernel) (Nat.le_of_ble_eq_true rfl) ?_
  intro p e s m below meth c A Z hr hnm hA hP hD hS ls hl
  have Z : zC p s m _ meth c prog_14_method_82_code 4 "TraceMachinesModel" G := Z
  obtain ⟨hx, hb, hml, hown, hts, hK, hN, hlocks⟩ := id Z
  have hl : lv_has ls 4 [(0, .ref b0)] := hl
  refine lv_aload_n hx hb d_Model_layWeak_0 rfl (lv_at hl 0 rfl) ?_
  refine z_callV (index := 254) (As := []) (rest := []) (wr := []) Z (c1_Model_lay1 l G (b0) (b1) (b2) (b3) (b4) (b5) (b6) (b7) (b8) (b9) (b10) (b11) (b12) (b13) (b14) (b15) (b16) (b17) (b18) (b19) (b20) (b21) (b22) (b23) (b24) (b25) (b26) (b27) (b28) (b29) (b30) (b31) (b32) (b33) (b34) (b35) (b36) (b37) (b38) (b39)) hl.1 q1360 q1362 qs55 q14 q1363 ⟨by decide, by decide, by show _ = some 0; decide +kernel⟩ ⟨Nat.le_of_ble_eq_true rfl, Nat.le_of_ble_eq_true rfl⟩ ⟨Nat.le_of_ble_eq_true rfl, Nat.le_of_ble_eq_true rfl⟩ rfl (Nat.le_of_ble_eq_true rfl) d_Model_layWeak_1 hP hD hS hA 0 12 rfl rfl rfl [0, 1, 2, 3, 4, 5, 6] [] rfl rfl rfl rfl (by decide) (fun v w1 H locs hw_1 hP hD hS => ?_)
  obtain ⟨rfl, rfl⟩ := hw_1
  have hP : va_P G.1 classes [(b19, .inl (G.2 0, 2, .inl (upd (fun _ => 0) 0 0))), (b10, .inl (G.2 0, 4820, .inl (upd (upd (upd (upd (upd (upd (upd (upd (upd (upd (fun _ => 0) 0 (-1)) 1 (-1)) 2 (-1)) 3 (-1)) 4 (-1)) 5 (-1)) 6 (-1)) 7 (-1)) 8 (-1)) 9 (-1)))), (b13, .inl (G.2 0, 482, .inl (upd (upd (fun _ => 0) 0 0) 0 0))), (b15, .inl (G.2 0, 2, .inl (upd (fun _ => 0) 0 0))), (b9, .inl (G.2 0, 2, .inl (upd (upd (fun _ => 0) 0 0) 0 1))), (b0, .inr (12, [.int 0, .ref b1, .ref b2, .ref b3, .ref b4, .int 0, .ref b5, .int 0, .int 0, .int 0, .int 0, .ref b6, .ref b7, .ref b8, .int 0, .ref b9, .ref b10, .ref b11, .ref b12, .ref b13, .ref b14, .ref b15, .ref b16, .ref b17, .ref b18, .ref b19, .ref b20, .int 0, .ref b21, .ref b22, .int 0, .int 0, .int 0, .int 0, .ref b23, .ref b24, .ref b25, .ref b26, .ref b27, .ref b28, .ref b29, .int 0, .ref b30, .ref b31, .int 0, .ref b32, .ref b33, .ref b34, .ref b35, .ref b36, .int 0, .ref b37, .ref b38, .ref b39])), (b1, .inl (G.2 0, 503, .inl (upd (fun _ => 0) 501 1)))] H := hP
  have hD := z_tie hP hD rfl
  refine W.widen (k := 0) (n := 0) (Nat.le_of_ble_eq_true rfl) (Nat.le_of_ble_eq_true rfl) ?_
  refine lv_iconst (v := 0) hx hb d_Model_layWeak_4 (by decide) ?_
  refine lv_istore_n (lv' := [(1, .int 0), (0, .ref b0)]) hx hb d_Model_layWeak_5 rfl hl (by decide) rfl (fun ls hl => ?_)
  refine lv_iload_n hx hb d_Model_layWeak_6 rfl (lv_at hl 0 rfl) ?_
  refine lv_aload_n hx hb d_Model_layWeak_7 rfl (lv_at hl 1 rfl) ?_
  refine z_callV (index := 134) (As := []) (rest := [.int 0]) (wr := [(b19, .inl (G.2 0, 2, .inl (upd (fun _ => 0) 0 0))), (b10, .inl (G.2 0, 4820, .inl (upd (upd (upd (upd (upd (upd (upd (upd (upd (upd (fun _ => 0) 0 (-1)) 1 (-1)) 2 (-1)) 3 (-1)) 4 (-1)) 5 (-1)) 6 (-1)) 7 (-1)) 8 (-1)) 9 (-1)))), (b13, .inl (G.2 0, 482, .inl (upd (upd (fun _ => 0) 0 0) 0 0))), (b15, .inl (G.2 0, 2, .inl (upd (fun _ => 0) 0 0))), (b9, .inl (G.2 0, 2, .inl (upd (upd (fun _ => 0) 0 0) 0 1)))]) Z (c2_Model_many l G (b0) (b1) (b2) (b3) (b4) (b5) (b6) (b7) (b8) (b9) (b10) (b11) (b12) (b13) (b14) (b15) (b16) (b17) (b18) (b19) (b20) (b21) (b22) (b23) (b24) (b25) (b26) (b27) (b28) (b29) (b30) (b31) (b32) (b33) (b34) (b35) (b36) (b37) (b38) (b39)) hl.1 q1324 q1326 qs51 q14 q1327 ⟨by decide, by decide, by show _ = some 0; decide +kernel⟩ ⟨Nat.le_of_ble_eq_true rfl, Nat.le_of_ble_eq_true rfl⟩ ⟨Nat.le_of_ble_eq_true rfl, Nat.le_of_ble_eq_true rfl⟩ rfl (Nat.le_of_ble_eq_true rfl) d_Model_layWeak_8 hP hD hS hA 5 12 rfl rfl rfl [5, 6] [0, 1, 2, 3, 4] rfl rfl rfl rfl (by decide) (fun v w1 H locs hw_2 hP hD hS => ?_)
  obtain ⟨rfl, rfl⟩ := hw_2
  have hP : va_P G.1 classes [(b19, .inl (G.2 0, 2, .inl (upd (fun _ => 0) 0 0))), (b10, .inl (G.2 0, 4820, .inl (upd (upd (upd (upd (upd (upd (upd (upd (upd (upd (fun _ => 0) 0 (-1)) 1 (-1)) 2 (-1)) 3 (-1)) 4 (-1)) 5 (-1)) 6 (-1)) 7 (-1)) 8 (-1)) 9 (-1)))), (b13, .inl (G.2 0, 482, .inl (upd (upd (fun _ => 0) 0 0) 0 0))), (b15, .inl (G.2 0, 2, .inl (upd (fun _ => 0) 0 0))), (b9, .inl (G.2 0, 2, .inl (upd (upd (fun _ => 0) 0 0) 0 1))), (b0, .inr (12, [.int 0, .ref b1, .ref b2, .ref b3, .ref b4, .int 0, .ref b5, .int 0, .int 0, .int 0, .int 0, .ref b6, .ref b7, .ref b8, .int 0, .ref b9, .ref b10, .ref b11, .ref b12, .ref b13, .ref b14, .ref b15, .ref b16, .ref b17, .ref b18, .ref b19, .ref b20, .int 0, .ref b21, .ref b22, .int 0, .int 0, .int 0, .int 0, .ref b23, .ref b24, .ref b25, .ref b26, .ref b27, .ref b28, .ref b29, .int 0, .ref b30, .ref b31, .int 0, .ref b32, .ref b33, .ref b34, .ref b35, .ref b36, .int 0, .ref b37, .ref b38, .ref b39])), (b1, .inl (G.2 0, 503, .inl (upd (fun _ => 0) 501 1)))] H := hP
  have hD := z_tie hP hD rfl
  refine W.widen (k := 0) (n := 0) (Nat.le_of_ble_eq_true rfl) (Nat.le_of_ble_eq_true rfl) ?_
  refine lv_icmp_ge (tgt := 155) hx hb d_Model_layWeak_11 (by decide) (fun _ => ?_) (fun hc => absurd hc (by decide +kernel))
  exact z_vret hx hb hr hlocks hP hD hS (Nat.le_of_ble_eq_true rfl) (Nat.le_of_ble_eq_true rfl) d_Model_layWeak_155 ⟨rfl, rfl⟩
theorem d_Model_oddest_9 : decode prog_14_method_86_code 9 = .ok (.iconst 0, 1) := by decide +kernel
theorem d_Model_oddest_10 : decode prog_14_method_86_code 10 = .ok (.istore_n 2, 1) := by decide +kernel
theorem d_Model_oddest_11 : decode prog_14_method_86_code 11 = .ok (.iload_n 2, 1) := by decide +kernel
theorem d_Model_oddest_12 : decode prog_14_method_86_code 12 = .ok (.aload_n 0, 1) := by decide +kernel
theorem d_Model_oddest_13 : decode prog_14_method_86_code 13 = .ok (.invokevirtual 134, 3) := by decide +kernel
theorem d_Model_oddest_16 : decode prog_14_method_86_code 16 = .ok (.if_icmp .ge 20, 3) := by decide +kernel
theorem d_Model_oddest_36 : decode prog_14_method_86_code 36 = .ok (.iconst (-1), 1) := by decide +kernel
theorem d_Model_oddest_37 : decode prog_14_method_86_code 37 = .ok (.ireturn, 1) := by decide +kernel
abbrev m_t_Model_oddest : Room := { frames := 5, cells := 0, slots := 0, locals := 117 }
set_option maxHeartbeats 4000000 in
set_option maxRecDepth 100000 in
theorem t_Model_oddest (l : Launch) (G : zG) (b0 : Nat) (p0 : Int32) (b2 : Nat) (b3 : Nat) (b4 : Nat) (b5 : Nat) (b6 : Nat) (b7 : Nat) (b8 : Nat) (b9 : Nat) (b10 : Nat) (b11 : Nat) (b12 : Nat) (b13 : Nat) (b14 : Nat) (b15 : Nat) (b16 : Nat) (b17 : Nat) (b18 : Nat) (b19 : Nat) (b20 : Nat) (b21 : Nat) (b22 : Nat) (b23 : Nat) (b24 : Nat) (b25 : Nat) (b26 : Nat) (b27 : Nat) (b28 : Nat) (b29 : Nat) (b30 : Nat) (b31 : Nat) (b32 : Nat) (b33 : Nat) (b34 : Nat) (b35 : Nat) (b36 : Nat) (b37 : Nat) (b38 : Nat) (b39 : Nat) (b40 : Nat)  : zM l G y_Model_oddest prog_14_method_86_code 3 (Option.some Jvm.ClassFile.FieldType.int) m_t_Model_oddest [.ref b0, .int p0] [(b0, .inr (12, [.int 0, .ref b2, .ref b3, .ref b4, .ref b5, .int 0, .ref b6, .int 0, .int 0, .int 0, .int 0, .ref b7, .ref b8, .ref b9, .int 0, .ref b10, .ref b11, .ref b12, .ref b13, .ref b14, .ref b15, .ref b16, .ref b17, .ref b18, .ref b19, .ref b20, .ref b21, .int 0, .ref b22, .ref b23, .int 0, .int 0, .int 0, .int 0, .ref b24, .ref b25, .ref b26, .ref b27, .ref b28, .ref b29, .ref b30, .int 0, .ref b31, .ref b32, .int 0, .ref b33, .ref b34, .ref b35, .ref b36, .ref b37, .int 0, .ref b38, .ref b39, .ref b40])), (b2, .inl (G.2 0, 503, .inl (upd (fun _ => 0) 501 1))), (b10, .inl (G.2 0, 2, .inl (fun _ => 0))), (b11, .inl (G.2 0, 4820, .inl (fun _ => 0))), (b14, .inl (G.2 0, 482, .inl (fun _ => 0))), (b16, .inl (G.2 0, 2, .inl (fun _ => 0))), (b20, .inl (G.2 0, 2, .inl (fun _ => 0)))] (fun v _ => v = some (.int (a_oddest p0))) := by
  refine z_start (by decide +kernel) (Nat.le_of_ble_eq_true rfl) ?_
  intro p e s m below meth c A Z hr hnm hA hP hD hS ls hl
  have Z : zC p s m _ meth c prog_14_method_86_code 3 "TraceMachinesModel" G := Z
  obtain ⟨hx, hb, hml, hown, hts, hK, hN, hlocks⟩ := id Z
  have hl : lv_has ls 3 [(0, .ref b0), (1, .int p0)] := hl
  refine lv_aload_n hx hb d_Model_oddest_0 rfl (lv_at hl 0 rfl) ?_
  refine lv_iconst (v := 0) hx hb d_Model_oddest_1 (by decide) ?_
  refine va_put (D := G.1) (ci := 12) (v := .int 0) (ty := .int) (C := R_Model) (T := F_Model) (N := 54) hx hb hts i_Model t_Model t_Model_ok n_Model hown hK hP hD hS 0 rfl rfl 0 (by decide) (hts _ q1113) (fun _ h9 => h9) rfl (by decide +kernel) rfl rfl (Nat.le_of_ble_eq_true rfl) d_Model_oddest_2 (fun H locs hP hD hS => ?_)
  have hP : va_P G.1 classes [(b0, .inr (12, [.int 0, .ref b2, .ref b3, .ref b4, .ref b5, .int 0, .ref b6, .int 0, .int 0, .int 0, .int 0, .ref b7, .ref b8, .ref b9, .int 0, .ref b10, .ref b11, .ref b12, .ref b13, .ref b14, .ref b15, .ref b16, .ref b17, .ref b18, .ref b19, .ref b20, .ref b21, .int 0, .ref b22, .ref b23, .int 0, .int 0, .int 0, .int 0, .ref b24, .ref b25, .ref b26, .ref b27, .ref b28, .ref b29, .ref b30, .int 0, .ref b31, .ref b32, .int 0, .ref b33, .ref b34, .ref b35, .ref b36, .ref b37, .int 0, .ref b38, .ref b39, .ref b40])), (b2, .inl (G.2 0, 503, .inl (upd (fun _ => 0) 501 1))), (b10, .inl (G.2 0, 2, .inl (fun _ => 0))), (b11, .inl (G.2 0, 4820, .inl (fun _ => 0))), (b14, .inl (G.2 0, 482, .inl (fun _ => 0))), (b16, .inl (G.2 0, 2, .inl (fun _ => 0))), (b20, .inl (G.2 0, 2, .inl (fun _ => 0)))] H := hP
  have hD := z_tie hP hD rfl
  refine lv_aload_n hx hb d_Model_oddest_5 rfl (lv_at hl 0 rfl) ?_
  refine z_callV (index := 405) (As := []) (rest := []) (wr := []) Z (c1_Model_layWeak l G (b0) (b2) (b3) (b4) (b5) (b6) (b7) (b8) (b9) (b10) (b11) (b12) (b13) (b14) (b15) (b16) (b17) (b18) (b19) (b20) (b21) (b22) (b23) (b24) (b25) (b26) (b27) (b28) (b29) (b30) (b31) (b32) (b33) (b34) (b35) (b36) (b37) (b38) (b39) (b40)) hl.1 q1603 q1605 qs96 q14 q1606 ⟨by decide, by decide, by show _ = some 0; decide +kernel⟩ ⟨Nat.le_of_ble_eq_true rfl, Nat.le_of_ble_eq_true rfl⟩ ⟨Nat.le_of_ble_eq_true rfl, Nat.le_of_ble_eq_true rfl⟩ rfl (Nat.le_of_ble_eq_true rfl) d_Model_oddest_6 hP hD hS hA 0 12 rfl rfl rfl [0, 1, 2, 3, 4, 5, 6] [] rfl rfl rfl rfl (by decide) (fun v w1 H locs hw_1 hP hD hS => ?_)
  obtain ⟨rfl, rfl⟩ := hw_1
  have hP : va_P G.1 classes [(b20, .inl (G.2 0, 2, .inl (upd (fun _ => 0) 0 0))), (b11, .inl (G.2 0, 4820, .inl (upd (upd (upd (upd (upd (upd (upd (upd (upd (upd (fun _ => 0) 0 (-1)) 1 (-1)) 2 (-1)) 3 (-1)) 4 (-1)) 5 (-1)) 6 (-1)) 7 (-1)) 8 (-1)) 9 (-1)))), (b14, .inl (G.2 0, 482, .inl (upd (upd (fun _ => 0) 0 0) 0 0))), (b16, .inl (G.2 0, 2, .inl (upd (fun _ => 0) 0 0))), (b10, .inl (G.2 0, 2, .inl (upd (upd (fun _ => 0) 0 0) 0 1))), (b0, .inr (12, [.int 0, .ref b2, .ref b3, .ref b4, .ref b5, .int 0, .ref b6, .int 0, .int 0, .int 0, .int 0, .ref b7, .ref b8, .ref b9, .int 0, .ref b10, .ref b11, .ref b12, .ref b13, .ref b14, .ref b15, .ref b16, .ref b17, .ref b18, .ref b19, .ref b20, .ref b21, .int 0, .ref b22, .ref b23, .int 0, .int 0, .int 0, .int 0, .ref b24, .ref b25, .ref b26, .ref b27, .ref b28, .ref b29, .ref b30, .int 0, .ref b31, .ref b32, .int 0, .ref b33, .ref b34, .ref b35, .ref b36, .ref b37, .int 0, .ref b38, .ref b39, .ref b40])), (b2, .inl (G.2 0, 503, .inl (upd (fun _ => 0) 501 1)))] H := hP
  have hD := z_tie hP hD rfl
  refine W.widen (k := 0) (n := 0) (Nat.le_of_ble_eq_true rfl) (Nat.le_of_ble_eq_true rfl) ?_
  refine lv_iconst (v := 0) hx hb d_Model_oddest_9 (by decide) ?_
  refine lv_istore_n (lv' := [(2, .int 0), (0, .ref b0), (1, .int p0)]) hx hb d_Model_oddest_10 rfl hl (by decide) rfl (fun ls hl => ?_)
  refine lv_iload_n hx hb d_Model_oddest_11 rfl (lv_at hl 0 rfl) ?_
  refine lv_aload_n hx hb d_Model_oddest_12 rfl (lv_at hl 1 rfl) ?_
  refine z_callV (index := 134) (As := []) (rest := [.int 0]) (wr := [(b20, .inl (G.2 0, 2, .inl (upd (fun _ => 0) 0 0))), (b11, .inl (G.2 0, 4820, .inl (upd (upd (upd (upd (upd (upd (upd (upd (upd (upd (fun _ => 0) 0 (-1)) 1 (-1)) 2 (-1)) 3 (-1)) 4 (-1)) 5 (-1)) 6 (-1)) 7 (-1)) 8 (-1)) 9 (-1)))), (b14, .inl (G.2 0, 482, .inl (upd (upd (fun _ => 0) 0 0) 0 0))), (b16, .inl (G.2 0, 2, .inl (upd (fun _ => 0) 0 0))), (b10, .inl (G.2 0, 2, .inl (upd (upd (fun _ => 0) 0 0) 0 1)))]) Z (c2_Model_many l G (b0) (b2) (b3) (b4) (b5) (b6) (b7) (b8) (b9) (b10) (b11) (b12) (b13) (b14) (b15) (b16) (b17) (b18) (b19) (b20) (b21) (b22) (b23) (b24) (b25) (b26) (b27) (b28) (b29) (b30) (b31) (b32) (b33) (b34) (b35) (b36) (b37) (b38) (b39) (b40)) hl.1 q1324 q1326 qs51 q14 q1327 ⟨by decide, by decide, by show _ = some 0; decide +kernel⟩ ⟨Nat.le_of_ble_eq_true rfl, Nat.le_of_ble_eq_true rfl⟩ ⟨Nat.le_of_ble_eq_true rfl, Nat.le_of_ble_eq_true rfl⟩ rfl (Nat.le_of_ble_eq_true rfl) d_Model_oddest_13 hP hD hS hA 5 12 rfl rfl rfl [5, 6] [0, 1, 2, 3, 4] rfl rfl rfl rfl (by decide) (fun v w1 H locs hw_2 hP hD hS => ?_)
  obtain ⟨rfl, rfl⟩ := hw_2
  have hP : va_P G.1 classes [(b20, .inl (G.2 0, 2, .inl (upd (fun _ => 0) 0 0))), (b11, .inl (G.2 0, 4820, .inl (upd (upd (upd (upd (upd (upd (upd (upd (upd (upd (fun _ => 0) 0 (-1)) 1 (-1)) 2 (-1)) 3 (-1)) 4 (-1)) 5 (-1)) 6 (-1)) 7 (-1)) 8 (-1)) 9 (-1)))), (b14, .inl (G.2 0, 482, .inl (upd (upd (fun _ => 0) 0 0) 0 0))), (b16, .inl (G.2 0, 2, .inl (upd (fun _ => 0) 0 0))), (b10, .inl (G.2 0, 2, .inl (upd (upd (fun _ => 0) 0 0) 0 1))), (b0, .inr (12, [.int 0, .ref b2, .ref b3, .ref b4, .ref b5, .int 0, .ref b6, .int 0, .int 0, .int 0, .int 0, .ref b7, .ref b8, .ref b9, .int 0, .ref b10, .ref b11, .ref b12, .ref b13, .ref b14, .ref b15, .ref b16, .ref b17, .ref b18, .ref b19, .ref b20, .ref b21, .int 0, .ref b22, .ref b23, .int 0, .int 0, .int 0, .int 0, .ref b24, .ref b25, .ref b26, .ref b27, .ref b28, .ref b29, .ref b30, .int 0, .ref b31, .ref b32, .int 0, .ref b33, .ref b34, .ref b35, .ref b36, .ref b37, .int 0, .ref b38, .ref b39, .ref b40])), (b2, .inl (G.2 0, 503, .inl (upd (fun _ => 0) 501 1)))] H := hP
  have hD := z_tie hP hD rfl
  refine W.widen (k := 0) (n := 0) (Nat.le_of_ble_eq_true rfl) (Nat.le_of_ble_eq_true rfl) ?_
  refine lv_icmp_ge (tgt := 36) hx hb d_Model_oddest_16 (by decide) (fun _ => ?_) (fun hc => absurd hc (by decide +kernel))
  refine lv_iconst (v := (-1)) hx hb d_Model_oddest_36 (by decide) ?_
  exact z_iret hx hb hr hlocks hP hD hS (Nat.le_of_ble_eq_true rfl) (Nat.le_of_ble_eq_true rfl) d_Model_oddest_37 (congrArg (fun z => some (Value.int z)) (by unfold a_oddest; (first | rfl | (repeat (first | rw [if_pos (by omega)] | rw [if_neg (by omega)])))))
theorem d_Model_held_0 : decode prog_14_method_88_code 0 = .ok (.aload_n 0, 1) := by decide +kernel
theorem d_Model_held_1 : decode prog_14_method_88_code 1 = .ok (.iconst 0, 1) := by decide +kernel
theorem d_Model_held_2 : decode prog_14_method_88_code 2 = .ok (.putfield 1, 3) := by decide +kernel
theorem d_Model_held_5 : decode prog_14_method_88_code 5 = .ok (.aload_n 0, 1) := by decide +kernel
theorem d_Model_held_6 : decode prog_14_method_88_code 6 = .ok (.iload_n 1, 1) := by decide +kernel
theorem d_Model_held_7 : decode prog_14_method_88_code 7 = .ok (.invokevirtual 191, 3) := by decide +kernel
theorem d_Model_held_10 : decode prog_14_method_88_code 10 = .ok (.ifCond .eq 33, 3) := by decide +kernel
theorem d_Model_held_43 : decode prog_14_method_88_code 43 = .ok (.iconst (-1), 1) := by decide +kernel
theorem d_Model_held_44 : decode prog_14_method_88_code 44 = .ok (.ireturn, 1) := by decide +kernel
abbrev m_t_Model_held : Room := { frames := 2, cells := 0, slots := 0, locals := 46 }
set_option maxHeartbeats 4000000 in
set_option maxRecDepth 100000 in
theorem t_Model_held (l : Launch) (G : zG) (b0 : Nat) (p0 : Int32) (p1 : Int32) (p2 : Int32) (b4 : Nat) (b5 : Nat) (b6 : Nat) (b7 : Nat) (b8 : Nat) (b9 : Nat) (b10 : Nat) (b11 : Nat) (b12 : Nat) (b13 : Nat) (b14 : Nat) (b15 : Nat) (b16 : Nat) (b17 : Nat) (b18 : Nat) (b19 : Nat) (b20 : Nat) (b21 : Nat) (b22 : Nat) (b23 : Nat) (b24 : Nat) (b25 : Nat) (b26 : Nat) (b27 : Nat) (b28 : Nat) (b29 : Nat) (b30 : Nat) (b31 : Nat) (b32 : Nat) (b33 : Nat) (b34 : Nat) (b35 : Nat) (b36 : Nat) (b37 : Nat) (b38 : Nat) (b39 : Nat) (b40 : Nat) (b41 : Nat) (b42 : Nat)  : zM l G y_Model_held prog_14_method_88_code 4 (Option.some Jvm.ClassFile.FieldType.int) m_t_Model_held [.ref b0, .int p0, .int p1, .int p2] [(b0, .inr (12, [.int 0, .ref b4, .ref b5, .ref b6, .ref b7, .int 0, .ref b8, .int 0, .int 0, .int 0, .int 0, .ref b9, .ref b10, .ref b11, .int 0, .ref b12, .ref b13, .ref b14, .ref b15, .ref b16, .ref b17, .ref b18, .ref b19, .ref b20, .ref b21, .ref b22, .ref b23, .int 0, .ref b24, .ref b25, .int 0, .int 0, .int 0, .int 0, .ref b26, .ref b27, .ref b28, .ref b29, .ref b30, .ref b31, .ref b32, .int 0, .ref b33, .ref b34, .int 0, .ref b35, .ref b36, .ref b37, .ref b38, .ref b39, .int 0, .ref b40, .ref b41, .ref b42])), (b4, .inl (G.2 0, 503, .inl (upd (fun _ => 0) 501 1)))] (fun v _ => v = some (.int (a_held p0 p1 p2))) := by
  refine z_start (by decide +kernel) (Nat.le_of_ble_eq_true rfl) ?_
  intro p e s m below meth c A Z hr hnm hA hP hD hS ls hl
  have Z : zC p s m _ meth c prog_14_method_88_code 4 "TraceMachinesModel" G := Z
  obtain ⟨hx, hb, hml, hown, hts, hK, hN, hlocks⟩ := id Z
  have hl : lv_has ls 4 [(0, .ref b0), (1, .int p0), (2, .int p1), (3, .int p2)] := hl
  refine lv_aload_n hx hb d_Model_held_0 rfl (lv_at hl 0 rfl) ?_
  refine lv_iconst (v := 0) hx hb d_Model_held_1 (by decide) ?_
  refine va_put (D := G.1) (ci := 12) (v := .int 0) (ty := .int) (C := R_Model) (T := F_Model) (N := 54) hx hb hts i_Model t_Model t_Model_ok n_Model hown hK hP hD hS 0 rfl rfl 0 (by decide) (hts _ q1113) (fun _ h9 => h9) rfl (by decide +kernel) rfl rfl (Nat.le_of_ble_eq_true rfl) d_Model_held_2 (fun H locs hP hD hS => ?_)
  have hP : va_P G.1 classes [(b0, .inr (12, [.int 0, .ref b4, .ref b5, .ref b6, .ref b7, .int 0, .ref b8, .int 0, .int 0, .int 0, .int 0, .ref b9, .ref b10, .ref b11, .int 0, .ref b12, .ref b13, .ref b14, .ref b15, .ref b16, .ref b17, .ref b18, .ref b19, .ref b20, .ref b21, .ref b22, .ref b23, .int 0, .ref b24, .ref b25, .int 0, .int 0, .int 0, .int 0, .ref b26, .ref b27, .ref b28, .ref b29, .ref b30, .ref b31, .ref b32, .int 0, .ref b33, .ref b34, .int 0, .ref b35, .ref b36, .ref b37, .ref b38, .ref b39, .int 0, .ref b40, .ref b41, .ref b42])), (b4, .inl (G.2 0, 503, .inl (upd (fun _ => 0) 501 1)))] H := hP
  have hD := z_tie hP hD rfl
  refine lv_aload_n hx hb d_Model_held_5 rfl (lv_at hl 0 rfl) ?_
  refine lv_iload_n hx hb d_Model_held_6 rfl (lv_at hl 1 rfl) ?_
  refine z_callV (index := 191) (As := [.int p0]) (rest := []) (wr := []) Z (c1_Model_isTrace l G (b0) (p0) (b4) (b5) (b6) (b7) (b8) (b9) (b10) (b11) (b12) (b13) (b14) (b15) (b16) (b17) (b18) (b19) (b20) (b21) (b22) (b23) (b24) (b25) (b26) (b27) (b28) (b29) (b30) (b31) (b32) (b33) (b34) (b35) (b36) (b37) (b38) (b39) (b40) (b41) (b42)) hl.1 q1332 q1334 qs52 q14 q1335 ⟨by decide, by decide, by show _ = some 1; decide +kernel⟩ ⟨Nat.le_of_ble_eq_true rfl, Nat.le_of_ble_eq_true rfl⟩ ⟨Nat.le_of_ble_eq_true rfl, Nat.le_of_ble_eq_true rfl⟩ rfl (Nat.le_of_ble_eq_true rfl) d_Model_held_7 hP hD hS hA 0 12 rfl rfl rfl [0, 1] [] rfl rfl rfl rfl (by decide) (fun v w1 H locs hw_1 hP hD hS => ?_)
  obtain ⟨rfl, rfl⟩ := hw_1
  have hP : va_P G.1 classes [(b0, .inr (12, [.int 0, .ref b4, .ref b5, .ref b6, .ref b7, .int 0, .ref b8, .int 0, .int 0, .int 0, .int 0, .ref b9, .ref b10, .ref b11, .int 0, .ref b12, .ref b13, .ref b14, .ref b15, .ref b16, .ref b17, .ref b18, .ref b19, .ref b20, .ref b21, .ref b22, .ref b23, .int 0, .ref b24, .ref b25, .int 0, .int 0, .int 0, .int 0, .ref b26, .ref b27, .ref b28, .ref b29, .ref b30, .ref b31, .ref b32, .int 0, .ref b33, .ref b34, .int 0, .ref b35, .ref b36, .ref b37, .ref b38, .ref b39, .int 0, .ref b40, .ref b41, .ref b42])), (b4, .inl (G.2 0, 503, .inl (upd (fun _ => 0) 501 1)))] H := hP
  have hD := z_tie hP hD rfl
  refine W.widen (k := 0) (n := 0) (Nat.le_of_ble_eq_true rfl) (Nat.le_of_ble_eq_true rfl) ?_
  refine lv_if_eq (tgt := 43) hx hb d_Model_held_10 (by decide) (fun _ => ?_) (fun hc => absurd hc (by decide +kernel))
  refine lv_iconst (v := (-1)) hx hb d_Model_held_43 (by decide) ?_
  exact z_iret hx hb hr hlocks hP hD hS (Nat.le_of_ble_eq_true rfl) (Nat.le_of_ble_eq_true rfl) d_Model_held_44 (congrArg (fun z => some (Value.int z)) (by unfold a_held; (first | rfl | (repeat (first | rw [if_pos (by omega)] | rw [if_neg (by omega)])))))
theorem d_Model_best_0 : decode prog_14_method_91_code 0 = .ok (.aload_n 0, 1) := by decide +kernel
theorem d_Model_best_1 : decode prog_14_method_91_code 1 = .ok (.iconst 0, 1) := by decide +kernel
theorem d_Model_best_2 : decode prog_14_method_91_code 2 = .ok (.putfield 1, 3) := by decide +kernel
theorem d_Model_best_5 : decode prog_14_method_91_code 5 = .ok (.iload_n 1, 1) := by decide +kernel
theorem d_Model_best_6 : decode prog_14_method_91_code 6 = .ok (.i2l, 1) := by decide +kernel
theorem d_Model_best_7 : decode prog_14_method_91_code 7 = .ok (.lconst 0, 1) := by decide +kernel
theorem d_Model_best_8 : decode prog_14_method_91_code 8 = .ok (.lconst 1, 1) := by decide +kernel
theorem d_Model_best_9 : decode prog_14_method_91_code 9 = .ok (.invokestatic 138, 3) := by decide +kernel
theorem d_Model_best_12 : decode prog_14_method_91_code 12 = .ok (.ifCond .eq 10, 3) := by decide +kernel
theorem d_Model_best_15 : decode prog_14_method_91_code 15 = .ok (.aload_n 0, 1) := by decide +kernel
theorem d_Model_best_16 : decode prog_14_method_91_code 16 = .ok (.invokevirtual 134, 3) := by decide +kernel
theorem d_Model_best_19 : decode prog_14_method_91_code 19 = .ok (.ifCond .ne 5, 3) := by decide +kernel
theorem d_Model_best_22 : decode prog_14_method_91_code 22 = .ok (.iconst (-1), 1) := by decide +kernel
theorem d_Model_best_23 : decode prog_14_method_91_code 23 = .ok (.ireturn, 1) := by decide +kernel
abbrev m_t_Model_best : Room := { frames := 1, cells := 0, slots := 0, locals := 25 }
set_option maxHeartbeats 4000000 in
set_option maxRecDepth 100000 in
theorem t_Model_best (l : Launch) (G : zG) (b0 : Nat) (p0 : Int32) (b2 : Nat) (b3 : Nat) (b4 : Nat) (b5 : Nat) (b6 : Nat) (b7 : Nat) (b8 : Nat) (b9 : Nat) (b10 : Nat) (b11 : Nat) (b12 : Nat) (b13 : Nat) (b14 : Nat) (b15 : Nat) (b16 : Nat) (b17 : Nat) (b18 : Nat) (b19 : Nat) (b20 : Nat) (b21 : Nat) (b22 : Nat) (b23 : Nat) (b24 : Nat) (b25 : Nat) (b26 : Nat) (b27 : Nat) (b28 : Nat) (b29 : Nat) (b30 : Nat) (b31 : Nat) (b32 : Nat) (b33 : Nat) (b34 : Nat) (b35 : Nat) (b36 : Nat) (b37 : Nat) (b38 : Nat) (b39 : Nat) (b40 : Nat)  : zM l G y_Model_best prog_14_method_91_code 8 (Option.some Jvm.ClassFile.FieldType.int) m_t_Model_best [.ref b0, .int p0] [(b0, .inr (12, [.int 0, .ref b2, .ref b3, .ref b4, .ref b5, .int 0, .ref b6, .int 0, .int 0, .int 0, .int 0, .ref b7, .ref b8, .ref b9, .int 0, .ref b10, .ref b11, .ref b12, .ref b13, .ref b14, .ref b15, .ref b16, .ref b17, .ref b18, .ref b19, .ref b20, .ref b21, .int 0, .ref b22, .ref b23, .int 0, .int 0, .int 0, .int 0, .ref b24, .ref b25, .ref b26, .ref b27, .ref b28, .ref b29, .ref b30, .int 0, .ref b31, .ref b32, .int 0, .ref b33, .ref b34, .ref b35, .ref b36, .ref b37, .int 0, .ref b38, .ref b39, .ref b40])), (b2, .inl (G.2 0, 503, .inl (upd (fun _ => 0) 501 1)))] (fun v _ => v = some (.int (a_best p0))) := by
  refine z_start (by decide +kernel) (Nat.le_of_ble_eq_true rfl) ?_
  intro p e s m below meth c A Z hr hnm hA hP hD hS ls hl
  have Z : zC p s m _ meth c prog_14_method_91_code 8 "TraceMachinesModel" G := Z
  obtain ⟨hx, hb, hml, hown, hts, hK, hN, hlocks⟩ := id Z
  have hl : lv_has ls 8 [(0, .ref b0), (1, .int p0)] := hl
  refine lv_aload_n hx hb d_Model_best_0 rfl (lv_at hl 0 rfl) ?_
  refine lv_iconst (v := 0) hx hb d_Model_best_1 (by decide) ?_
  refine va_put (D := G.1) (ci := 12) (v := .int 0) (ty := .int) (C := R_Model) (T := F_Model) (N := 54) hx hb hts i_Model t_Model t_Model_ok n_Model hown hK hP hD hS 0 rfl rfl 0 (by decide) (hts _ q1113) (fun _ h9 => h9) rfl (by decide +kernel) rfl rfl (Nat.le_of_ble_eq_true rfl) d_Model_best_2 (fun H locs hP hD hS => ?_)
  have hP : va_P G.1 classes [(b0, .inr (12, [.int 0, .ref b2, .ref b3, .ref b4, .ref b5, .int 0, .ref b6, .int 0, .int 0, .int 0, .int 0, .ref b7, .ref b8, .ref b9, .int 0, .ref b10, .ref b11, .ref b12, .ref b13, .ref b14, .ref b15, .ref b16, .ref b17, .ref b18, .ref b19, .ref b20, .ref b21, .int 0, .ref b22, .ref b23, .int 0, .int 0, .int 0, .int 0, .ref b24, .ref b25, .ref b26, .ref b27, .ref b28, .ref b29, .ref b30, .int 0, .ref b31, .ref b32, .int 0, .ref b33, .ref b34, .ref b35, .ref b36, .ref b37, .int 0, .ref b38, .ref b39, .ref b40])), (b2, .inl (G.2 0, 503, .inl (upd (fun _ => 0) 501 1)))] H := hP
  have hD := z_tie hP hD rfl
  refine lv_iload_n hx hb d_Model_best_5 rfl (lv_at hl 1 rfl) ?_
  refine lv_i2l (v := p0.toInt64) hx hb d_Model_best_6 rfl ?_
  refine lv_lconst (v := 0) hx hb d_Model_best_7 (by decide) ?_
  refine lv_lconst (v := 1) hx hb d_Model_best_8 (by decide) ?_
  refine z_callS (index := 138) (As := [.long p0.toInt64, .long 0, .long 1]) (rest := []) (wr := [(b0, .inr (12, [.int 0, .ref b2, .ref b3, .ref b4, .ref b5, .int 0, .ref b6, .int 0, .int 0, .int 0, .int 0, .ref b7, .ref b8, .ref b9, .int 0, .ref b10, .ref b11, .ref b12, .ref b13, .ref b14, .ref b15, .ref b16, .ref b17, .ref b18, .ref b19, .ref b20, .ref b21, .int 0, .ref b22, .ref b23, .int 0, .int 0, .int 0, .int 0, .ref b24, .ref b25, .ref b26, .ref b27, .ref b28, .ref b29, .ref b30, .int 0, .ref b31, .ref b32, .int 0, .ref b33, .ref b34, .ref b35, .ref b36, .ref b37, .int 0, .ref b38, .ref b39, .ref b40])), (b2, .inl (G.2 0, 503, .inl (upd (fun _ => 0) 501 1)))]) Z (c6_Model_in l G (p0.toInt64)) hl.1 q1285 q1286 q14 q1287 ⟨by decide, by decide, by show _ = some 3; decide +kernel⟩ ⟨Nat.le_of_ble_eq_true rfl, Nat.le_of_ble_eq_true rfl⟩ ⟨Nat.le_of_ble_eq_true rfl, Nat.le_of_ble_eq_true rfl⟩ rfl (Nat.le_of_ble_eq_true rfl) d_Model_best_9 hP hD hS hA [] [0, 1] rfl rfl rfl rfl (by decide) (fun v w1 H locs hw_1 hP hD hS => ?_)
  rcases hw_1 with ⟨rfl, rfl, hq_2⟩ | ⟨rfl, rfl, hq_3, hq_4⟩ | ⟨rfl, rfl, hq_5, hq_6⟩
  · try simp only [Int32.toInt_toInt64, ll_0] at hq_2
    have hP : va_P G.1 classes [(b0, .inr (12, [.int 0, .ref b2, .ref b3, .ref b4, .ref b5, .int 0, .ref b6, .int 0, .int 0, .int 0, .int 0, .ref b7, .ref b8, .ref b9, .int 0, .ref b10, .ref b11, .ref b12, .ref b13, .ref b14, .ref b15, .ref b16, .ref b17, .ref b18, .ref b19, .ref b20, .ref b21, .int 0, .ref b22, .ref b23, .int 0, .int 0, .int 0, .int 0, .ref b24, .ref b25, .ref b26, .ref b27, .ref b28, .ref b29, .ref b30, .int 0, .ref b31, .ref b32, .int 0, .ref b33, .ref b34, .ref b35, .ref b36, .ref b37, .int 0, .ref b38, .ref b39, .ref b40])), (b2, .inl (G.2 0, 503, .inl (upd (fun _ => 0) 501 1)))] H := hP
    have hD := z_tie hP hD rfl
    refine W.widen (k := 0) (n := 0) (Nat.le_of_ble_eq_true rfl) (Nat.le_of_ble_eq_true rfl) ?_
    refine lv_if_eq (tgt := 22) hx hb d_Model_best_12 (by decide) (fun _ => ?_) (fun hc => absurd hc (by decide +kernel))
    refine lv_iconst (v := (-1)) hx hb d_Model_best_22 (by decide) ?_
    exact z_iret hx hb hr hlocks hP hD hS (Nat.le_of_ble_eq_true rfl) (Nat.le_of_ble_eq_true rfl) d_Model_best_23 (congrArg (fun z => some (Value.int z)) (by unfold a_best; (first | rfl | (repeat (first | rw [if_pos (by omega)] | rw [if_neg (by omega)])))))
  · try simp only [Int32.toInt_toInt64, ll_0] at hq_3
    try simp only [Int32.toInt_toInt64, ll_1] at hq_4
    have hP : va_P G.1 classes [(b0, .inr (12, [.int 0, .ref b2, .ref b3, .ref b4, .ref b5, .int 0, .ref b6, .int 0, .int 0, .int 0, .int 0, .ref b7, .ref b8, .ref b9, .int 0, .ref b10, .ref b11, .ref b12, .ref b13, .ref b14, .ref b15, .ref b16, .ref b17, .ref b18, .ref b19, .ref b20, .ref b21, .int 0, .ref b22, .ref b23, .int 0, .int 0, .int 0, .int 0, .ref b24, .ref b25, .ref b26, .ref b27, .ref b28, .ref b29, .ref b30, .int 0, .ref b31, .ref b32, .int 0, .ref b33, .ref b34, .ref b35, .ref b36, .ref b37, .int 0, .ref b38, .ref b39, .ref b40])), (b2, .inl (G.2 0, 503, .inl (upd (fun _ => 0) 501 1)))] H := hP
    have hD := z_tie hP hD rfl
    refine W.widen (k := 0) (n := 0) (Nat.le_of_ble_eq_true rfl) (Nat.le_of_ble_eq_true rfl) ?_
    refine lv_if_eq (tgt := 22) hx hb d_Model_best_12 (by decide) (fun _ => ?_) (fun hc => absurd hc (by decide +kernel))
    refine lv_iconst (v := (-1)) hx hb d_Model_best_22 (by decide) ?_
    exact z_iret hx hb hr hlocks hP hD hS (Nat.le_of_ble_eq_true rfl) (Nat.le_of_ble_eq_true rfl) d_Model_best_23 (congrArg (fun z => some (Value.int z)) (by unfold a_best; (first | rfl | (repeat (first | rw [if_pos (by omega)] | rw [if_neg (by omega)])))))
  · try simp only [Int32.toInt_toInt64, ll_0] at hq_5
    try simp only [Int32.toInt_toInt64, ll_1] at hq_6
    have hP : va_P G.1 classes [(b0, .inr (12, [.int 0, .ref b2, .ref b3, .ref b4, .ref b5, .int 0, .ref b6, .int 0, .int 0, .int 0, .int 0, .ref b7, .ref b8, .ref b9, .int 0, .ref b10, .ref b11, .ref b12, .ref b13, .ref b14, .ref b15, .ref b16, .ref b17, .ref b18, .ref b19, .ref b20, .ref b21, .int 0, .ref b22, .ref b23, .int 0, .int 0, .int 0, .int 0, .ref b24, .ref b25, .ref b26, .ref b27, .ref b28, .ref b29, .ref b30, .int 0, .ref b31, .ref b32, .int 0, .ref b33, .ref b34, .ref b35, .ref b36, .ref b37, .int 0, .ref b38, .ref b39, .ref b40])), (b2, .inl (G.2 0, 503, .inl (upd (fun _ => 0) 501 1)))] H := hP
    have hD := z_tie hP hD rfl
    refine W.widen (k := 0) (n := 0) (Nat.le_of_ble_eq_true rfl) (Nat.le_of_ble_eq_true rfl) ?_
    refine lv_if_eq (tgt := 22) hx hb d_Model_best_12 (by decide) (fun hc => absurd hc (by decide +kernel)) (fun _ => ?_)
    refine lv_aload_n hx hb d_Model_best_15 rfl (lv_at hl 0 rfl) ?_
    refine z_callV (index := 134) (As := []) (rest := []) (wr := []) Z (c2_Model_many l G (b0) (b2) (b3) (b4) (b5) (b6) (b7) (b8) (b9) (b10) (b11) (b12) (b13) (b14) (b15) (b16) (b17) (b18) (b19) (b20) (b21) (b22) (b23) (b24) (b25) (b26) (b27) (b28) (b29) (b30) (b31) (b32) (b33) (b34) (b35) (b36) (b37) (b38) (b39) (b40)) hl.1 q1324 q1326 qs51 q14 q1327 ⟨by decide, by decide, by show _ = some 0; decide +kernel⟩ ⟨Nat.le_of_ble_eq_true rfl, Nat.le_of_ble_eq_true rfl⟩ ⟨Nat.le_of_ble_eq_true rfl, Nat.le_of_ble_eq_true rfl⟩ rfl (Nat.le_of_ble_eq_true rfl) d_Model_best_16 hP hD hS hA 0 12 rfl rfl rfl [0, 1] [] rfl rfl rfl rfl (by decide) (fun v w1 H locs hw_7 hP hD hS => ?_)
    obtain ⟨rfl, rfl⟩ := hw_7
    have hP : va_P G.1 classes [(b0, .inr (12, [.int 0, .ref b2, .ref b3, .ref b4, .ref b5, .int 0, .ref b6, .int 0, .int 0, .int 0, .int 0, .ref b7, .ref b8, .ref b9, .int 0, .ref b10, .ref b11, .ref b12, .ref b13, .ref b14, .ref b15, .ref b16, .ref b17, .ref b18, .ref b19, .ref b20, .ref b21, .int 0, .ref b22, .ref b23, .int 0, .int 0, .int 0, .int 0, .ref b24, .ref b25, .ref b26, .ref b27, .ref b28, .ref b29, .ref b30, .int 0, .ref b31, .ref b32, .int 0, .ref b33, .ref b34, .ref b35, .ref b36, .ref b37, .int 0, .ref b38, .ref b39, .ref b40])), (b2, .inl (G.2 0, 503, .inl (upd (fun _ => 0) 501 1)))] H := hP
    have hD := z_tie hP hD rfl
    refine W.widen (k := 0) (n := 0) (Nat.le_of_ble_eq_true rfl) (Nat.le_of_ble_eq_true rfl) ?_
    refine lv_if_ne (tgt := 24) hx hb d_Model_best_19 (by decide) (fun hc => absurd hc (by decide +kernel)) (fun _ => ?_)
    refine lv_iconst (v := (-1)) hx hb d_Model_best_22 (by decide) ?_
    exact z_iret hx hb hr hlocks hP hD hS (Nat.le_of_ble_eq_true rfl) (Nat.le_of_ble_eq_true rfl) d_Model_best_23 (congrArg (fun z => some (Value.int z)) (by unfold a_best; (first | rfl | (repeat (first | rw [if_pos (by omega)] | rw [if_neg (by omega)])))))
theorem d_Model_keep_0 : decode prog_14_method_92_code 0 = .ok (.aload_n 0, 1) := by decide +kernel
theorem d_Model_keep_1 : decode prog_14_method_92_code 1 = .ok (.iconst 0, 1) := by decide +kernel
theorem d_Model_keep_2 : decode prog_14_method_92_code 2 = .ok (.putfield 1, 3) := by decide +kernel
theorem d_Model_keep_5 : decode prog_14_method_92_code 5 = .ok (.iload_n 1, 1) := by decide +kernel
theorem d_Model_keep_6 : decode prog_14_method_92_code 6 = .ok (.i2l, 1) := by decide +kernel
theorem d_Model_keep_7 : decode prog_14_method_92_code 7 = .ok (.lconst 0, 1) := by decide +kernel
theorem d_Model_keep_8 : decode prog_14_method_92_code 8 = .ok (.lconst 1, 1) := by decide +kernel
theorem d_Model_keep_9 : decode prog_14_method_92_code 9 = .ok (.invokestatic 138, 3) := by decide +kernel
theorem d_Model_keep_12 : decode prog_14_method_92_code 12 = .ok (.ifCond .ne 5, 3) := by decide +kernel
theorem d_Model_keep_15 : decode prog_14_method_92_code 15 = .ok (.iconst 0, 1) := by decide +kernel
theorem d_Model_keep_16 : decode prog_14_method_92_code 16 = .ok (.ireturn, 1) := by decide +kernel
theorem d_Model_keep_17 : decode prog_14_method_92_code 17 = .ok (.iconst 0, 1) := by decide +kernel
theorem d_Model_keep_18 : decode prog_14_method_92_code 18 = .ok (.istore_n 2, 1) := by decide +kernel
theorem d_Model_keep_19 : decode prog_14_method_92_code 19 = .ok (.iload_n 2, 1) := by decide +kernel
theorem d_Model_keep_20 : decode prog_14_method_92_code 20 = .ok (.sipush 503, 3) := by decide +kernel
theorem d_Model_keep_23 : decode prog_14_method_92_code 23 = .ok (.if_icmp .ge 27, 3) := by decide +kernel
theorem d_Model_keep_26 : decode prog_14_method_92_code 26 = .ok (.aload_n 0, 1) := by decide +kernel
theorem d_Model_keep_27 : decode prog_14_method_92_code 27 = .ok (.getfield 17, 3) := by decide +kernel
theorem d_Model_keep_30 : decode prog_14_method_92_code 30 = .ok (.sipush 503, 3) := by decide +kernel
theorem d_Model_keep_33 : decode prog_14_method_92_code 33 = .ok (.iload_n 1, 1) := by decide +kernel
theorem d_Model_keep_34 : decode prog_14_method_92_code 34 = .ok (.imul, 1) := by decide +kernel
theorem d_Model_keep_35 : decode prog_14_method_92_code 35 = .ok (.iload_n 2, 1) := by decide +kernel
theorem d_Model_keep_36 : decode prog_14_method_92_code 36 = .ok (.iadd, 1) := by decide +kernel
theorem d_Model_keep_37 : decode prog_14_method_92_code 37 = .ok (.aload_n 0, 1) := by decide +kernel
theorem d_Model_keep_38 : decode prog_14_method_92_code 38 = .ok (.getfield 13, 3) := by decide +kernel
theorem d_Model_keep_41 : decode prog_14_method_92_code 41 = .ok (.iload_n 2, 1) := by decide +kernel
theorem d_Model_keep_42 : decode prog_14_method_92_code 42 = .ok (.iaload, 1) := by decide +kernel
theorem d_Model_keep_43 : decode prog_14_method_92_code 43 = .ok (.iastore, 1) := by decide +kernel
theorem d_Model_keep_44 : decode prog_14_method_92_code 44 = .ok (.iinc 2 1, 3) := by decide +kernel
theorem d_Model_keep_47 : decode prog_14_method_92_code 47 = .ok (.goto (-28), 3) := by decide +kernel
theorem d_Model_keep_50 : decode prog_14_method_92_code 50 = .ok (.aload_n 0, 1) := by decide +kernel
theorem d_Model_keep_51 : decode prog_14_method_92_code 51 = .ok (.getfield 20, 3) := by decide +kernel
theorem d_Model_keep_54 : decode prog_14_method_92_code 54 = .ok (.iload_n 1, 1) := by decide +kernel
theorem d_Model_keep_55 : decode prog_14_method_92_code 55 = .ok (.iconst 1, 1) := by decide +kernel
theorem d_Model_keep_56 : decode prog_14_method_92_code 56 = .ok (.bastore, 1) := by decide +kernel
theorem d_Model_keep_57 : decode prog_14_method_92_code 57 = .ok (.iconst 1, 1) := by decide +kernel
theorem d_Model_keep_58 : decode prog_14_method_92_code 58 = .ok (.ireturn, 1) := by decide +kernel
abbrev m_t_Model_keep : Room := { frames := 1, cells := 0, slots := 0, locals := 25 }
set_option maxHeartbeats 4000000 in
set_option maxRecDepth 100000 in
theorem t_Model_keep (l : Launch) (G : zG) (b0 : Nat) (p0 : Int32) (b2 : Nat) (b3 : Nat) (b4 : Nat) (b5 : Nat) (b6 : Nat) (b7 : Nat) (b8 : Nat) (b9 : Nat) (b10 : Nat) (b11 : Nat) (b12 : Nat) (b13 : Nat) (b14 : Nat) (b15 : Nat) (b16 : Nat) (b17 : Nat) (b18 : Nat) (b19 : Nat) (b20 : Nat) (b21 : Nat) (b22 : Nat) (b23 : Nat) (b24 : Nat) (b25 : Nat) (b26 : Nat) (b27 : Nat) (b28 : Nat) (b29 : Nat) (b30 : Nat) (b31 : Nat) (b32 : Nat) (b33 : Nat) (b34 : Nat) (b35 : Nat) (b36 : Nat) (b37 : Nat) (b38 : Nat) (b39 : Nat) (b40 : Nat)  : zM l G y_Model_keep prog_14_method_92_code 3 (Option.some Jvm.ClassFile.FieldType.boolean) m_t_Model_keep [.ref b0, .int p0] [(b0, .inr (12, [.int 0, .ref b2, .ref b3, .ref b4, .ref b5, .int 0, .ref b6, .int 0, .int 0, .int 0, .int 0, .ref b7, .ref b8, .ref b9, .int 0, .ref b10, .ref b11, .ref b12, .ref b13, .ref b14, .ref b15, .ref b16, .ref b17, .ref b18, .ref b19, .ref b20, .ref b21, .int 0, .ref b22, .ref b23, .int 0, .int 0, .int 0, .int 0, .ref b24, .ref b25, .ref b26, .ref b27, .ref b28, .ref b29, .ref b30, .int 0, .ref b31, .ref b32, .int 0, .ref b33, .ref b34, .ref b35, .ref b36, .ref b37, .int 0, .ref b38, .ref b39, .ref b40])), (b4, .inl (G.2 4, 2, .inl (fun _ => 0))), (b2, .inl (G.2 0, 503, .inl (upd (fun _ => 0) 501 1))), (b3, .inl (G.2 0, 1006, .inl (fun _ => 0)))] (fun v _ => v = some (.int (a_keep p0))) := by
  refine z_start (by decide +kernel) (Nat.le_of_ble_eq_true rfl) ?_
  intro p e s m below meth c A Z hr hnm hA hP hD hS ls hl
  have Z : zC p s m _ meth c prog_14_method_92_code 3 "TraceMachinesModel" G := Z
  obtain ⟨hx, hb, hml, hown, hts, hK, hN, hlocks⟩ := id Z
  have hl : lv_has ls 3 [(0, .ref b0), (1, .int p0)] := hl
  refine lv_aload_n hx hb d_Model_keep_0 rfl (lv_at hl 0 rfl) ?_
  refine lv_iconst (v := 0) hx hb d_Model_keep_1 (by decide) ?_
  refine va_put (D := G.1) (ci := 12) (v := .int 0) (ty := .int) (C := R_Model) (T := F_Model) (N := 54) hx hb hts i_Model t_Model t_Model_ok n_Model hown hK hP hD hS 0 rfl rfl 0 (by decide) (hts _ q1113) (fun _ h9 => h9) rfl (by decide +kernel) rfl rfl (Nat.le_of_ble_eq_true rfl) d_Model_keep_2 (fun H locs hP hD hS => ?_)
  have hP : va_P G.1 classes [(b0, .inr (12, [.int 0, .ref b2, .ref b3, .ref b4, .ref b5, .int 0, .ref b6, .int 0, .int 0, .int 0, .int 0, .ref b7, .ref b8, .ref b9, .int 0, .ref b10, .ref b11, .ref b12, .ref b13, .ref b14, .ref b15, .ref b16, .ref b17, .ref b18, .ref b19, .ref b20, .ref b21, .int 0, .ref b22, .ref b23, .int 0, .int 0, .int 0, .int 0, .ref b24, .ref b25, .ref b26, .ref b27, .ref b28, .ref b29, .ref b30, .int 0, .ref b31, .ref b32, .int 0, .ref b33, .ref b34, .ref b35, .ref b36, .ref b37, .int 0, .ref b38, .ref b39, .ref b40])), (b4, .inl (G.2 4, 2, .inl (fun _ => 0))), (b2, .inl (G.2 0, 503, .inl (upd (fun _ => 0) 501 1))), (b3, .inl (G.2 0, 1006, .inl (fun _ => 0)))] H := hP
  have hD := z_tie hP hD rfl
  refine lv_iload_n hx hb d_Model_keep_5 rfl (lv_at hl 1 rfl) ?_
  refine lv_i2l (v := p0.toInt64) hx hb d_Model_keep_6 rfl ?_
  refine lv_lconst (v := 0) hx hb d_Model_keep_7 (by decide) ?_
  refine lv_lconst (v := 1) hx hb d_Model_keep_8 (by decide) ?_
  refine z_callS (index := 138) (As := [.long p0.toInt64, .long 0, .long 1]) (rest := []) (wr := [(b0, .inr (12, [.int 0, .ref b2, .ref b3, .ref b4, .ref b5, .int 0, .ref b6, .int 0, .int 0, .int 0, .int 0, .ref b7, .ref b8, .ref b9, .int 0, .ref b10, .ref b11, .ref b12, .ref b13, .ref b14, .ref b15, .ref b16, .ref b17, .ref b18, .ref b19, .ref b20, .ref b21, .int 0, .ref b22, .ref b23, .int 0, .int 0, .int 0, .int 0, .ref b24, .ref b25, .ref b26, .ref b27, .ref b28, .ref b29, .ref b30, .int 0, .ref b31, .ref b32, .int 0, .ref b33, .ref b34, .ref b35, .ref b36, .ref b37, .int 0, .ref b38, .ref b39, .ref b40])), (b4, .inl (G.2 4, 2, .inl (fun _ => 0))), (b2, .inl (G.2 0, 503, .inl (upd (fun _ => 0) 501 1))), (b3, .inl (G.2 0, 1006, .inl (fun _ => 0)))]) Z (c6_Model_in l G (p0.toInt64)) hl.1 q1285 q1286 q14 q1287 ⟨by decide, by decide, by show _ = some 3; decide +kernel⟩ ⟨Nat.le_of_ble_eq_true rfl, Nat.le_of_ble_eq_true rfl⟩ ⟨Nat.le_of_ble_eq_true rfl, Nat.le_of_ble_eq_true rfl⟩ rfl (Nat.le_of_ble_eq_true rfl) d_Model_keep_9 hP hD hS hA [] [0, 1, 2, 3] rfl rfl rfl rfl (by decide) (fun v w1 H locs hw_1 hP hD hS => ?_)
  rcases hw_1 with ⟨rfl, rfl, hq_2⟩ | ⟨rfl, rfl, hq_3, hq_4⟩ | ⟨rfl, rfl, hq_5, hq_6⟩
  · try simp only [Int32.toInt_toInt64, ll_0] at hq_2
    have hP : va_P G.1 classes [(b0, .inr (12, [.int 0, .ref b2, .ref b3, .ref b4, .ref b5, .int 0, .ref b6, .int 0, .int 0, .int 0, .int 0, .ref b7, .ref b8, .ref b9, .int 0, .ref b10, .ref b11, .ref b12, .ref b13, .ref b14, .ref b15, .ref b16, .ref b17, .ref b18, .ref b19, .ref b20, .ref b21, .int 0, .ref b22, .ref b23, .int 0, .int 0, .int 0, .int 0, .ref b24, .ref b25, .ref b26, .ref b27, .ref b28, .ref b29, .ref b30, .int 0, .ref b31, .ref b32, .int 0, .ref b33, .ref b34, .ref b35, .ref b36, .ref b37, .int 0, .ref b38, .ref b39, .ref b40])), (b4, .inl (G.2 4, 2, .inl (fun _ => 0))), (b2, .inl (G.2 0, 503, .inl (upd (fun _ => 0) 501 1))), (b3, .inl (G.2 0, 1006, .inl (fun _ => 0)))] H := hP
    have hD := z_tie hP hD rfl
    refine W.widen (k := 0) (n := 0) (Nat.le_of_ble_eq_true rfl) (Nat.le_of_ble_eq_true rfl) ?_
    refine lv_if_ne (tgt := 17) hx hb d_Model_keep_12 (by decide) (fun hc => absurd hc (by decide +kernel)) (fun _ => ?_)
    refine lv_iconst (v := 0) hx hb d_Model_keep_15 (by decide) ?_
    exact z_zret hx hb hr hlocks rfl hP hD hS (Nat.le_of_ble_eq_true rfl) (Nat.le_of_ble_eq_true rfl) d_Model_keep_16 (congrArg (fun z => some (Value.int z)) (by unfold a_keep; (first | rfl | (repeat (first | rw [if_pos (by omega)] | rw [if_neg (by omega)])))))
  · try simp only [Int32.toInt_toInt64, ll_0] at hq_3
    try simp only [Int32.toInt_toInt64, ll_1] at hq_4
    have hP : va_P G.1 classes [(b0, .inr (12, [.int 0, .ref b2, .ref b3, .ref b4, .ref b5, .int 0, .ref b6, .int 0, .int 0, .int 0, .int 0, .ref b7, .ref b8, .ref b9, .int 0, .ref b10, .ref b11, .ref b12, .ref b13, .ref b14, .ref b15, .ref b16, .ref b17, .ref b18, .ref b19, .ref b20, .ref b21, .int 0, .ref b22, .ref b23, .int 0, .int 0, .int 0, .int 0, .ref b24, .ref b25, .ref b26, .ref b27, .ref b28, .ref b29, .ref b30, .int 0, .ref b31, .ref b32, .int 0, .ref b33, .ref b34, .ref b35, .ref b36, .ref b37, .int 0, .ref b38, .ref b39, .ref b40])), (b4, .inl (G.2 4, 2, .inl (fun _ => 0))), (b2, .inl (G.2 0, 503, .inl (upd (fun _ => 0) 501 1))), (b3, .inl (G.2 0, 1006, .inl (fun _ => 0)))] H := hP
    have hD := z_tie hP hD rfl
    refine W.widen (k := 0) (n := 0) (Nat.le_of_ble_eq_true rfl) (Nat.le_of_ble_eq_true rfl) ?_
    refine lv_if_ne (tgt := 17) hx hb d_Model_keep_12 (by decide) (fun hc => absurd hc (by decide +kernel)) (fun _ => ?_)
    refine lv_iconst (v := 0) hx hb d_Model_keep_15 (by decide) ?_
    exact z_zret hx hb hr hlocks rfl hP hD hS (Nat.le_of_ble_eq_true rfl) (Nat.le_of_ble_eq_true rfl) d_Model_keep_16 (congrArg (fun z => some (Value.int z)) (by unfold a_keep; (first | rfl | (repeat (first | rw [if_pos (by omega)] | rw [if_neg (by omega)])))))
  · try simp only [Int32.toInt_toInt64, ll_0] at hq_5
    try simp only [Int32.toInt_toInt64, ll_1] at hq_6
    have hP : va_P G.1 classes [(b0, .inr (12, [.int 0, .ref b2, .ref b3, .ref b4, .ref b5, .int 0, .ref b6, .int 0, .int 0, .int 0, .int 0, .ref b7, .ref b8, .ref b9, .int 0, .ref b10, .ref b11, .ref b12, .ref b13, .ref b14, .ref b15, .ref b16, .ref b17, .ref b18, .ref b19, .ref b20, .ref b21, .int 0, .ref b22, .ref b23, .int 0, .int 0, .int 0, .int 0, .ref b24, .ref b25, .ref b26, .ref b27, .ref b28, .ref b29, .ref b30, .int 0, .ref b31, .ref b32, .int 0, .ref b33, .ref b34, .ref b35, .ref b36, .ref b37, .int 0, .ref b38, .ref b39, .ref b40])), (b4, .inl (G.2 4, 2, .inl (fun _ => 0))), (b2, .inl (G.2 0, 503, .inl (upd (fun _ => 0) 501 1))), (b3, .inl (G.2 0, 1006, .inl (fun _ => 0)))] H := hP
    have hD := z_tie hP hD rfl
    refine W.widen (k := 0) (n := 0) (Nat.le_of_ble_eq_true rfl) (Nat.le_of_ble_eq_true rfl) ?_
    refine lv_if_ne (tgt := 17) hx hb d_Model_keep_12 (by decide) (fun _ => ?_) (fun hc => absurd hc (by decide +kernel))
    by_cases hs_7 : p0 = 0
    · subst hs_7
      refine lv_iconst (v := 0) hx hb d_Model_keep_17 (by decide) ?_
      refine lv_istore_n (lv' := [(2, .int 0), (0, .ref b0), (1, .int 0)]) hx hb d_Model_keep_18 rfl hl (by decide) rfl (fun ls hl => ?_)
      suffices key : ∀ (k_9 i_8 : Nat) (g_10 : Nat → Int32) (H : Heap) (locs : List Loc) (ls : Array Slot), i_8 + k_9 = 503 → va_P G.1 classes [(b0, .inr (12, [.int 0, .ref b2, .ref b3, .ref b4, .ref b5, .int 0, .ref b6, .int 0, .int 0, .int 0, .int 0, .ref b7, .ref b8, .ref b9, .int 0, .ref b10, .ref b11, .ref b12, .ref b13, .ref b14, .ref b15, .ref b16, .ref b17, .ref b18, .ref b19, .ref b20, .ref b21, .int 0, .ref b22, .ref b23, .int 0, .int 0, .int 0, .int 0, .ref b24, .ref b25, .ref b26, .ref b27, .ref b28, .ref b29, .ref b30, .int 0, .ref b31, .ref b32, .int 0, .ref b33, .ref b34, .ref b35, .ref b36, .ref b37, .int 0, .ref b38, .ref b39, .ref b40])), (b4, .inl (G.2 4, 2, .inl (fun _ => 0))), (b2, .inl (G.2 0, 503, .inl (upd (fun _ => 0) 501 1))), (b3, .inl (G.2 0, 1006, .inl g_10))] H → va_D A [(b0, .inr (12, [.int 0, .ref b2, .ref b3, .ref b4, .ref b5, .int 0, .ref b6, .int 0, .int 0, .int 0, .int 0, .ref b7, .ref b8, .ref b9, .int 0, .ref b10, .ref b11, .ref b12, .ref b13, .ref b14, .ref b15, .ref b16, .ref b17, .ref b18, .ref b19, .ref b20, .ref b21, .int 0, .ref b22, .ref b23, .int 0, .int 0, .int 0, .int 0, .ref b24, .ref b25, .ref b26, .ref b27, .ref b28, .ref b29, .ref b30, .int 0, .ref b31, .ref b32, .int 0, .ref b33, .ref b34, .ref b35, .ref b36, .ref b37, .int 0, .ref b38, .ref b39, .ref b40])), (b4, .inl (G.2 4, 2, .inl (fun _ => 0))), (b2, .inl (G.2 0, 503, .inl (upd (fun _ => 0) 501 1))), (b3, .inl (G.2 0, 1006, .inl g_10))] → va_S A s.heap H locs → lv_has ls 3 [(2, .int (nI i_8)), (0, .ref b0), (1, .int 0)] → W p l e m_t_Model_keep s m ([.ref b0, .int 0] : List Value).toArray below meth c H locs 0 0 (MQ below (zQ G (fun v _ => v = some (.int (a_keep 0))) A) ([.ref b0, .int 0] : List Value).toArray s m_t_Model_keep.cells m_t_Model_keep.slots A) (F0 m 19 ls []) by
        exact key (503) 0 ((fun _ => 0)) _ _ _ (by omega) hP hD hS (lv_sub hl [0, 1, 2] rfl)
      intro k_9
      induction k_9 with
      | zero =>
        intro i_8 g_10 H locs ls hik hP hD hS hl
        obtain rfl : i_8 = 503 := by omega
        have hl : lv_has ls 3 [(2, .int (nI 503)), (0, .ref b0), (1, .int 0)] := hl
        refine lv_iload_n hx hb d_Model_keep_19 rfl (lv_at hl 0 rfl) ?_
        refine lv_sipush (v := 503) hx hb d_Model_keep_20 (by decide) ?_
        refine lv_icmp_ge (tgt := 50) hx hb d_Model_keep_23 (by decide) (fun _ => ?_) (fun hc => absurd hc (by decide +kernel))
        refine lv_aload_n hx hb d_Model_keep_50 rfl (lv_at hl 1 rfl) ?_
        refine va_get (D := G.1) (ci := 12) (v := .ref b4) (C := R_Model) (T := F_Model) (N := 54) hx hb hts i_Model hown hK hP 0 rfl rfl 3 (by decide) (hts _ q1116) (fun _ h9 => h9) rfl d_Model_keep_51 ?_
        refine lv_iload_n hx hb d_Model_keep_54 rfl (lv_at hl 2 rfl) ?_
        refine lv_iconst (v := 1) hx hb d_Model_keep_55 (by decide) ?_
        refine va_zast hx hb hK hP hD hS 1 4 rfl rfl (i := 0) (z_in rfl) d_Model_keep_56 (fun H locs hP hD hS => ?_)
        have hP : va_P G.1 classes [(b0, .inr (12, [.int 0, .ref b2, .ref b3, .ref b4, .ref b5, .int 0, .ref b6, .int 0, .int 0, .int 0, .int 0, .ref b7, .ref b8, .ref b9, .int 0, .ref b10, .ref b11, .ref b12, .ref b13, .ref b14, .ref b15, .ref b16, .ref b17, .ref b18, .ref b19, .ref b20, .ref b21, .int 0, .ref b22, .ref b23, .int 0, .int 0, .int 0, .int 0, .ref b24, .ref b25, .ref b26, .ref b27, .ref b28, .ref b29, .ref b30, .int 0, .ref b31, .ref b32, .int 0, .ref b33, .ref b34, .ref b35, .ref b36, .ref b37, .int 0, .ref b38, .ref b39, .ref b40])), (b4, .inl (G.2 4, 2, .inl (upd (fun _ => 0) 0 1))), (b2, .inl (G.2 0, 503, .inl (upd (fun _ => 0) 501 1))), (b3, .inl (G.2 0, 1006, .inl g_10))] H := hP
        have hD := z_tie hP hD rfl
        refine lv_iconst (v := 1) hx hb d_Model_keep_57 (by decide) ?_
        exact z_zret hx hb hr hlocks rfl hP hD hS (Nat.le_of_ble_eq_true rfl) (Nat.le_of_ble_eq_true rfl) d_Model_keep_58 (congrArg (fun z => some (Value.int z)) (by first | decide +kernel | (simp only [a_keep, li_0]; (first | rfl | (repeat (first | rw [if_pos (by omega)] | rw [if_neg (by omega)]))))))
      | succ k_9 ih =>
        intro i_8 g_10 H locs ls hik hP hD hS hl
        have hilt : i_8 < 503 := by omega
        refine lv_iload_n hx hb d_Model_keep_19 rfl (lv_at hl 0 rfl) ?_
        refine lv_sipush (v := 503) hx hb d_Model_keep_20 (by decide) ?_
        refine lv_icmp_ge (tgt := 50) hx hb d_Model_keep_23 (by decide) (fun hc => absurd hc (nI_ge hilt (by decide))) (fun _ => ?_)
        refine lv_aload_n hx hb d_Model_keep_26 rfl (lv_at hl 1 rfl) ?_
        refine va_get (D := G.1) (ci := 12) (v := .ref b3) (C := R_Model) (T := F_Model) (N := 54) hx hb hts i_Model hown hK hP 0 rfl rfl 2 (by decide) (hts _ q1115) (fun _ h9 => h9) rfl d_Model_keep_27 ?_
        refine lv_sipush (v := 503) hx hb d_Model_keep_30 (by decide) ?_
        refine lv_iload_n hx hb d_Model_keep_33 rfl (lv_at hl 2 rfl) ?_
        refine lv_imul hx hb d_Model_keep_34 ?_
        refine z_topi (y := 0) (by decide +kernel) ?_
        refine lv_iload_n hx hb d_Model_keep_35 rfl (lv_at hl 0 rfl) ?_
        refine lv_iadd hx hb d_Model_keep_36 ?_
        refine lv_topi (fun v_11 ev_11 => ?_)
        obtain rfl : v_11 = (nI (0 + i_8)) := (by rw [ev_11]; exact nI_add (0) (i_8))
        refine lv_aload_n hx hb d_Model_keep_37 rfl (lv_at hl 1 rfl) ?_
        refine va_get (D := G.1) (ci := 12) (v := .ref b2) (C := R_Model) (T := F_Model) (N := 54) hx hb hts i_Model hown hK hP 0 rfl rfl 1 (by decide) (hts _ q1114) (fun _ h9 => h9) rfl d_Model_keep_38 ?_
        refine lv_iload_n hx hb d_Model_keep_41 rfl (lv_at hl 0 rfl) ?_
        refine va_iald hx hb hK hP 2 0 rfl rfl (z_inN (by omega) (by decide)) d_Model_keep_42 ?_
        refine z_topi (y := ((upd (fun _ => 0) 501 1) (i_8))) (by rw [nI_clamp (by omega)]) ?_
        refine va_iast hx hb hK hP hD hS 3 0 rfl rfl (z_inN (by omega) (by decide)) d_Model_keep_43 (fun H locs hP hD hS => ?_)
        rw [nI_clamp (by omega)] at hP hD
        have hP : va_P G.1 classes [(b0, .inr (12, [.int 0, .ref b2, .ref b3, .ref b4, .ref b5, .int 0, .ref b6, .int 0, .int 0, .int 0, .int 0, .ref b7, .ref b8, .ref b9, .int 0, .ref b10, .ref b11, .ref b12, .ref b13, .ref b14, .ref b15, .ref b16, .ref b17, .ref b18, .ref b19, .ref b20, .ref b21, .int 0, .ref b22, .ref b23, .int 0, .int 0, .int 0, .int 0, .ref b24, .ref b25, .ref b26, .ref b27, .ref b28, .ref b29, .ref b30, .int 0, .ref b31, .ref b32, .int 0, .ref b33, .ref b34, .ref b35, .ref b36, .ref b37, .int 0, .ref b38, .ref b39, .ref b40])), (b4, .inl (G.2 4, 2, .inl (fun _ => 0))), (b2, .inl (G.2 0, 503, .inl (upd (fun _ => 0) 501 1))), (b3, .inl (G.2 0, 1006, .inl (upd g_10 ((0 + i_8)) ((upd (fun _ => 0) 501 1) (i_8)))))] H := hP
        have hD := z_tie hP hD rfl
        refine lv_iinc (v := (nI (i_8 + 1))) (lv' := [(2, .int (nI (i_8 + 1))), (0, .ref b0), (1, .int 0)]) hx hb d_Model_keep_44 hl (k := 0) rfl (nI_1 i_8) (by decide) rfl (fun ls hl => ?_)
        refine lv_goto (tgt := 19) hx hb d_Model_keep_47 (by decide) ?_
        exact ih (i_8 + 1) ((upd g_10 ((0 + i_8)) ((upd (fun _ => 0) 501 1) (i_8)))) _ _ _ (by omega)  hP hD hS (lv_sub hl [0, 1, 2] rfl)
    simp only [fa_lt, fa_le, fa_eq, Int32.toInt_toInt64, li_0] at hs_7
    obtain rfl : p0 = 1 := by simp only [fa_lt, fa_le, fa_eq, Int32.toInt_toInt64, li_1]; omega
    refine lv_iconst (v := 0) hx hb d_Model_keep_17 (by decide) ?_
    refine lv_istore_n (lv' := [(2, .int 0), (0, .ref b0), (1, .int 1)]) hx hb d_Model_keep_18 rfl hl (by decide) rfl (fun ls hl => ?_)
    suffices key : ∀ (k_13 i_12 : Nat) (g_14 : Nat → Int32) (H : Heap) (locs : List Loc) (ls : Array Slot), i_12 + k_13 = 503 → va_P G.1 classes [(b0, .inr (12, [.int 0, .ref b2, .ref b3, .ref b4, .ref b5, .int 0, .ref b6, .int 0, .int 0, .int 0, .int 0, .ref b7, .ref b8, .ref b9, .int 0, .ref b10, .ref b11, .ref b12, .ref b13, .ref b14, .ref b15, .ref b16, .ref b17, .ref b18, .ref b19, .ref b20, .ref b21, .int 0, .ref b22, .ref b23, .int 0, .int 0, .int 0, .int 0, .ref b24, .ref b25, .ref b26, .ref b27, .ref b28, .ref b29, .ref b30, .int 0, .ref b31, .ref b32, .int 0, .ref b33, .ref b34, .ref b35, .ref b36, .ref b37, .int 0, .ref b38, .ref b39, .ref b40])), (b4, .inl (G.2 4, 2, .inl (fun _ => 0))), (b2, .inl (G.2 0, 503, .inl (upd (fun _ => 0) 501 1))), (b3, .inl (G.2 0, 1006, .inl g_14))] H → va_D A [(b0, .inr (12, [.int 0, .ref b2, .ref b3, .ref b4, .ref b5, .int 0, .ref b6, .int 0, .int 0, .int 0, .int 0, .ref b7, .ref b8, .ref b9, .int 0, .ref b10, .ref b11, .ref b12, .ref b13, .ref b14, .ref b15, .ref b16, .ref b17, .ref b18, .ref b19, .ref b20, .ref b21, .int 0, .ref b22, .ref b23, .int 0, .int 0, .int 0, .int 0, .ref b24, .ref b25, .ref b26, .ref b27, .ref b28, .ref b29, .ref b30, .int 0, .ref b31, .ref b32, .int 0, .ref b33, .ref b34, .ref b35, .ref b36, .ref b37, .int 0, .ref b38, .ref b39, .ref b40])), (b4, .inl (G.2 4, 2, .inl (fun _ => 0))), (b2, .inl (G.2 0, 503, .inl (upd (fun _ => 0) 501 1))), (b3, .inl (G.2 0, 1006, .inl g_14))] → va_S A s.heap H locs → lv_has ls 3 [(2, .int (nI i_12)), (0, .ref b0), (1, .int 1)] → W p l e m_t_Model_keep s m ([.ref b0, .int 1] : List Value).toArray below meth c H locs 0 0 (MQ below (zQ G (fun v _ => v = some (.int (a_keep 1))) A) ([.ref b0, .int 1] : List Value).toArray s m_t_Model_keep.cells m_t_Model_keep.slots A) (F0 m 19 ls []) by
      exact key (503) 0 ((fun _ => 0)) _ _ _ (by omega) hP hD hS (lv_sub hl [0, 1, 2] rfl)
    intro k_13
    induction k_13 with
    | zero =>
      intro i_12 g_14 H locs ls hik hP hD hS hl
      obtain rfl : i_12 = 503 := by omega
      have hl : lv_has ls 3 [(2, .int (nI 503)), (0, .ref b0), (1, .int 1)] := hl
      refine lv_iload_n hx hb d_Model_keep_19 rfl (lv_at hl 0 rfl) ?_
      refine lv_sipush (v := 503) hx hb d_Model_keep_20 (by decide) ?_
      refine lv_icmp_ge (tgt := 50) hx hb d_Model_keep_23 (by decide) (fun _ => ?_) (fun hc => absurd hc (by decide +kernel))
      refine lv_aload_n hx hb d_Model_keep_50 rfl (lv_at hl 1 rfl) ?_
      refine va_get (D := G.1) (ci := 12) (v := .ref b4) (C := R_Model) (T := F_Model) (N := 54) hx hb hts i_Model hown hK hP 0 rfl rfl 3 (by decide) (hts _ q1116) (fun _ h9 => h9) rfl d_Model_keep_51 ?_
      refine lv_iload_n hx hb d_Model_keep_54 rfl (lv_at hl 2 rfl) ?_
      refine lv_iconst (v := 1) hx hb d_Model_keep_55 (by decide) ?_
      refine va_zast hx hb hK hP hD hS 1 4 rfl rfl (i := 1) (z_in rfl) d_Model_keep_56 (fun H locs hP hD hS => ?_)
      have hP : va_P G.1 classes [(b0, .inr (12, [.int 0, .ref b2, .ref b3, .ref b4, .ref b5, .int 0, .ref b6, .int 0, .int 0, .int 0, .int 0, .ref b7, .ref b8, .ref b9, .int 0, .ref b10, .ref b11, .ref b12, .ref b13, .ref b14, .ref b15, .ref b16, .ref b17, .ref b18, .ref b19, .ref b20, .ref b21, .int 0, .ref b22, .ref b23, .int 0, .int 0, .int 0, .int 0, .ref b24, .ref b25, .ref b26, .ref b27, .ref b28, .ref b29, .ref b30, .int 0, .ref b31, .ref b32, .int 0, .ref b33, .ref b34, .ref b35, .ref b36, .ref b37, .int 0, .ref b38, .ref b39, .ref b40])), (b4, .inl (G.2 4, 2, .inl (upd (fun _ => 0) 1 1))), (b2, .inl (G.2 0, 503, .inl (upd (fun _ => 0) 501 1))), (b3, .inl (G.2 0, 1006, .inl g_14))] H := hP
      have hD := z_tie hP hD rfl
      refine lv_iconst (v := 1) hx hb d_Model_keep_57 (by decide) ?_
      exact z_zret hx hb hr hlocks rfl hP hD hS (Nat.le_of_ble_eq_true rfl) (Nat.le_of_ble_eq_true rfl) d_Model_keep_58 (congrArg (fun z => some (Value.int z)) (by first | decide +kernel | (simp only [a_keep, li_1]; (first | rfl | (repeat (first | rw [if_pos (by omega)] | rw [if_neg (by omega)]))))))
    | succ k_13 ih =>
      intro i_12 g_14 H locs ls hik hP hD hS hl
      have hilt : i_12 < 503 := by omega
      refine lv_iload_n hx hb d_Model_keep_19 rfl (lv_at hl 0 rfl) ?_
      refine lv_sipush (v := 503) hx hb d_Model_keep_20 (by decide) ?_
      refine lv_icmp_ge (tgt := 50) hx hb d_Model_keep_23 (by decide) (fun hc => absurd hc (nI_ge hilt (by decide))) (fun _ => ?_)
      refine lv_aload_n hx hb d_Model_keep_26 rfl (lv_at hl 1 rfl) ?_
      refine va_get (D := G.1) (ci := 12) (v := .ref b3) (C := R_Model) (T := F_Model) (N := 54) hx hb hts i_Model hown hK hP 0 rfl rfl 2 (by decide) (hts _ q1115) (fun _ h9 => h9) rfl d_Model_keep_27 ?_
      refine lv_sipush (v := 503) hx hb d_Model_keep_30 (by decide) ?_
      refine lv_iload_n hx hb d_Model_keep_33 rfl (lv_at hl 2 rfl) ?_
      refine lv_imul hx hb d_Model_keep_34 ?_
      refine z_topi (y := 503) (by decide +kernel) ?_
      refine lv_iload_n hx hb d_Model_keep_35 rfl (lv_at hl 0 rfl) ?_
      refine lv_iadd hx hb d_Model_keep_36 ?_
      refine lv_topi (fun v_15 ev_15 => ?_)
      obtain rfl : v_15 = (nI (503 + i_12)) := (by rw [ev_15]; exact nI_add (503) (i_12))
      refine lv_aload_n hx hb d_Model_keep_37 rfl (lv_at hl 1 rfl) ?_
      refine va_get (D := G.1) (ci := 12) (v := .ref b2) (C := R_Model) (T := F_Model) (N := 54) hx hb hts i_Model hown hK hP 0 rfl rfl 1 (by decide) (hts _ q1114) (fun _ h9 => h9) rfl d_Model_keep_38 ?_
      refine lv_iload_n hx hb d_Model_keep_41 rfl (lv_at hl 0 rfl) ?_
      refine va_iald hx hb hK hP 2 0 rfl rfl (z_inN (by omega) (by decide)) d_Model_keep_42 ?_
      refine z_topi (y := ((upd (fun _ => 0) 501 1) (i_12))) (by rw [nI_clamp (by omega)]) ?_
      refine va_iast hx hb hK hP hD hS 3 0 rfl rfl (z_inN (by omega) (by decide)) d_Model_keep_43 (fun H locs hP hD hS => ?_)
      rw [nI_clamp (by omega)] at hP hD
      have hP : va_P G.1 classes [(b0, .inr (12, [.int 0, .ref b2, .ref b3, .ref b4, .ref b5, .int 0, .ref b6, .int 0, .int 0, .int 0, .int 0, .ref b7, .ref b8, .ref b9, .int 0, .ref b10, .ref b11, .ref b12, .ref b13, .ref b14, .ref b15, .ref b16, .ref b17, .ref b18, .ref b19, .ref b20, .ref b21, .int 0, .ref b22, .ref b23, .int 0, .int 0, .int 0, .int 0, .ref b24, .ref b25, .ref b26, .ref b27, .ref b28, .ref b29, .ref b30, .int 0, .ref b31, .ref b32, .int 0, .ref b33, .ref b34, .ref b35, .ref b36, .ref b37, .int 0, .ref b38, .ref b39, .ref b40])), (b4, .inl (G.2 4, 2, .inl (fun _ => 0))), (b2, .inl (G.2 0, 503, .inl (upd (fun _ => 0) 501 1))), (b3, .inl (G.2 0, 1006, .inl (upd g_14 ((503 + i_12)) ((upd (fun _ => 0) 501 1) (i_12)))))] H := hP
      have hD := z_tie hP hD rfl
      refine lv_iinc (v := (nI (i_12 + 1))) (lv' := [(2, .int (nI (i_12 + 1))), (0, .ref b0), (1, .int 1)]) hx hb d_Model_keep_44 hl (k := 0) rfl (nI_1 i_12) (by decide) rfl (fun ls hl => ?_)
      refine lv_goto (tgt := 19) hx hb d_Model_keep_47 (by decide) ?_
      exact ih (i_12 + 1) ((upd g_14 ((503 + i_12)) ((upd (fun _ => 0) 501 1) (i_12)))) _ _ _ (by omega)  hP hD hS (lv_sub hl [0, 1, 2] rfl)
theorem d_Model_again_0 : decode prog_14_method_93_code 0 = .ok (.aload_n 0, 1) := by decide +kernel
theorem d_Model_again_1 : decode prog_14_method_93_code 1 = .ok (.iconst 0, 1) := by decide +kernel
theorem d_Model_again_2 : decode prog_14_method_93_code 2 = .ok (.putfield 1, 3) := by decide +kernel
theorem d_Model_again_5 : decode prog_14_method_93_code 5 = .ok (.iload_n 1, 1) := by decide +kernel
theorem d_Model_again_6 : decode prog_14_method_93_code 6 = .ok (.i2l, 1) := by decide +kernel
theorem d_Model_again_7 : decode prog_14_method_93_code 7 = .ok (.lconst 0, 1) := by decide +kernel
theorem d_Model_again_8 : decode prog_14_method_93_code 8 = .ok (.lconst 1, 1) := by decide +kernel
theorem d_Model_again_9 : decode prog_14_method_93_code 9 = .ok (.invokestatic 138, 3) := by decide +kernel
theorem d_Model_again_12 : decode prog_14_method_93_code 12 = .ok (.ifCond .eq 12, 3) := by decide +kernel
theorem d_Model_again_15 : decode prog_14_method_93_code 15 = .ok (.aload_n 0, 1) := by decide +kernel
theorem d_Model_again_16 : decode prog_14_method_93_code 16 = .ok (.getfield 20, 3) := by decide +kernel
theorem d_Model_again_19 : decode prog_14_method_93_code 19 = .ok (.iload_n 1, 1) := by decide +kernel
theorem d_Model_again_20 : decode prog_14_method_93_code 20 = .ok (.baload, 1) := by decide +kernel
theorem d_Model_again_21 : decode prog_14_method_93_code 21 = .ok (.ifCond .ne 5, 3) := by decide +kernel
theorem d_Model_again_24 : decode prog_14_method_93_code 24 = .ok (.iconst 0, 1) := by decide +kernel
theorem d_Model_again_25 : decode prog_14_method_93_code 25 = .ok (.ireturn, 1) := by decide +kernel
abbrev m_t_Model_again : Room := { frames := 1, cells := 0, slots := 0, locals := 25 }
set_option maxHeartbeats 4000000 in
set_option maxRecDepth 100000 in
theorem t_Model_again (l : Launch) (G : zG) (b0 : Nat) (p0 : Int32) (b2 : Nat) (b3 : Nat) (b4 : Nat) (b5 : Nat) (b6 : Nat) (b7 : Nat) (b8 : Nat) (b9 : Nat) (b10 : Nat) (b11 : Nat) (b12 : Nat) (b13 : Nat) (b14 : Nat) (b15 : Nat) (b16 : Nat) (b17 : Nat) (b18 : Nat) (b19 : Nat) (b20 : Nat) (b21 : Nat) (b22 : Nat) (b23 : Nat) (b24 : Nat) (b25 : Nat) (b26 : Nat) (b27 : Nat) (b28 : Nat) (b29 : Nat) (b30 : Nat) (b31 : Nat) (b32 : Nat) (b33 : Nat) (b34 : Nat) (b35 : Nat) (b36 : Nat) (b37 : Nat) (b38 : Nat) (b39 : Nat) (b40 : Nat)  : zM l G y_Model_again prog_14_method_93_code 3 (Option.some Jvm.ClassFile.FieldType.boolean) m_t_Model_again [.ref b0, .int p0] [(b0, .inr (12, [.int 0, .ref b2, .ref b3, .ref b4, .ref b5, .int 0, .ref b6, .int 0, .int 0, .int 0, .int 0, .ref b7, .ref b8, .ref b9, .int 0, .ref b10, .ref b11, .ref b12, .ref b13, .ref b14, .ref b15, .ref b16, .ref b17, .ref b18, .ref b19, .ref b20, .ref b21, .int 0, .ref b22, .ref b23, .int 0, .int 0, .int 0, .int 0, .ref b24, .ref b25, .ref b26, .ref b27, .ref b28, .ref b29, .ref b30, .int 0, .ref b31, .ref b32, .int 0, .ref b33, .ref b34, .ref b35, .ref b36, .ref b37, .int 0, .ref b38, .ref b39, .ref b40])), (b4, .inl (G.2 4, 2, .inl (fun _ => 0)))] (fun v _ => v = some (.int (a_again p0))) := by
  refine z_start (by decide +kernel) (Nat.le_of_ble_eq_true rfl) ?_
  intro p e s m below meth c A Z hr hnm hA hP hD hS ls hl
  have Z : zC p s m _ meth c prog_14_method_93_code 3 "TraceMachinesModel" G := Z
  obtain ⟨hx, hb, hml, hown, hts, hK, hN, hlocks⟩ := id Z
  have hl : lv_has ls 3 [(0, .ref b0), (1, .int p0)] := hl
  refine lv_aload_n hx hb d_Model_again_0 rfl (lv_at hl 0 rfl) ?_
  refine lv_iconst (v := 0) hx hb d_Model_again_1 (by decide) ?_
  refine va_put (D := G.1) (ci := 12) (v := .int 0) (ty := .int) (C := R_Model) (T := F_Model) (N := 54) hx hb hts i_Model t_Model t_Model_ok n_Model hown hK hP hD hS 0 rfl rfl 0 (by decide) (hts _ q1113) (fun _ h9 => h9) rfl (by decide +kernel) rfl rfl (Nat.le_of_ble_eq_true rfl) d_Model_again_2 (fun H locs hP hD hS => ?_)
  have hP : va_P G.1 classes [(b0, .inr (12, [.int 0, .ref b2, .ref b3, .ref b4, .ref b5, .int 0, .ref b6, .int 0, .int 0, .int 0, .int 0, .ref b7, .ref b8, .ref b9, .int 0, .ref b10, .ref b11, .ref b12, .ref b13, .ref b14, .ref b15, .ref b16, .ref b17, .ref b18, .ref b19, .ref b20, .ref b21, .int 0, .ref b22, .ref b23, .int 0, .int 0, .int 0, .int 0, .ref b24, .ref b25, .ref b26, .ref b27, .ref b28, .ref b29, .ref b30, .int 0, .ref b31, .ref b32, .int 0, .ref b33, .ref b34, .ref b35, .ref b36, .ref b37, .int 0, .ref b38, .ref b39, .ref b40])), (b4, .inl (G.2 4, 2, .inl (fun _ => 0)))] H := hP
  have hD := z_tie hP hD rfl
  refine lv_iload_n hx hb d_Model_again_5 rfl (lv_at hl 1 rfl) ?_
  refine lv_i2l (v := p0.toInt64) hx hb d_Model_again_6 rfl ?_
  refine lv_lconst (v := 0) hx hb d_Model_again_7 (by decide) ?_
  refine lv_lconst (v := 1) hx hb d_Model_again_8 (by decide) ?_
  refine z_callS (index := 138) (As := [.long p0.toInt64, .long 0, .long 1]) (rest := []) (wr := [(b0, .inr (12, [.int 0, .ref b2, .ref b3, .ref b4, .ref b5, .int 0, .ref b6, .int 0, .int 0, .int 0, .int 0, .ref b7, .ref b8, .ref b9, .int 0, .ref b10, .ref b11, .ref b12, .ref b13, .ref b14, .ref b15, .ref b16, .ref b17, .ref b18, .ref b19, .ref b20, .ref b21, .int 0, .ref b22, .ref b23, .int 0, .int 0, .int 0, .int 0, .ref b24, .ref b25, .ref b26, .ref b27, .ref b28, .ref b29, .ref b30, .int 0, .ref b31, .ref b32, .int 0, .ref b33, .ref b34, .ref b35, .ref b36, .ref b37, .int 0, .ref b38, .ref b39, .ref b40])), (b4, .inl (G.2 4, 2, .inl (fun _ => 0)))]) Z (c6_Model_in l G (p0.toInt64)) hl.1 q1285 q1286 q14 q1287 ⟨by decide, by decide, by show _ = some 3; decide +kernel⟩ ⟨Nat.le_of_ble_eq_true rfl, Nat.le_of_ble_eq_true rfl⟩ ⟨Nat.le_of_ble_eq_true rfl, Nat.le_of_ble_eq_true rfl⟩ rfl (Nat.le_of_ble_eq_true rfl) d_Model_again_9 hP hD hS hA [] [0, 1] rfl rfl rfl rfl (by decide) (fun v w1 H locs hw_1 hP hD hS => ?_)
  rcases hw_1 with ⟨rfl, rfl, hq_2⟩ | ⟨rfl, rfl, hq_3, hq_4⟩ | ⟨rfl, rfl, hq_5, hq_6⟩
  · try simp only [Int32.toInt_toInt64, ll_0] at hq_2
    have hP : va_P G.1 classes [(b0, .inr (12, [.int 0, .ref b2, .ref b3, .ref b4, .ref b5, .int 0, .ref b6, .int 0, .int 0, .int 0, .int 0, .ref b7, .ref b8, .ref b9, .int 0, .ref b10, .ref b11, .ref b12, .ref b13, .ref b14, .ref b15, .ref b16, .ref b17, .ref b18, .ref b19, .ref b20, .ref b21, .int 0, .ref b22, .ref b23, .int 0, .int 0, .int 0, .int 0, .ref b24, .ref b25, .ref b26, .ref b27, .ref b28, .ref b29, .ref b30, .int 0, .ref b31, .ref b32, .int 0, .ref b33, .ref b34, .ref b35, .ref b36, .ref b37, .int 0, .ref b38, .ref b39, .ref b40])), (b4, .inl (G.2 4, 2, .inl (fun _ => 0)))] H := hP
    have hD := z_tie hP hD rfl
    refine W.widen (k := 0) (n := 0) (Nat.le_of_ble_eq_true rfl) (Nat.le_of_ble_eq_true rfl) ?_
    refine lv_if_eq (tgt := 24) hx hb d_Model_again_12 (by decide) (fun _ => ?_) (fun hc => absurd hc (by decide +kernel))
    refine lv_iconst (v := 0) hx hb d_Model_again_24 (by decide) ?_
    exact z_zret hx hb hr hlocks rfl hP hD hS (Nat.le_of_ble_eq_true rfl) (Nat.le_of_ble_eq_true rfl) d_Model_again_25 (congrArg (fun z => some (Value.int z)) (by unfold a_again; (first | rfl | (repeat (first | rw [if_pos (by omega)] | rw [if_neg (by omega)])))))
  · try simp only [Int32.toInt_toInt64, ll_0] at hq_3
    try simp only [Int32.toInt_toInt64, ll_1] at hq_4
    have hP : va_P G.1 classes [(b0, .inr (12, [.int 0, .ref b2, .ref b3, .ref b4, .ref b5, .int 0, .ref b6, .int 0, .int 0, .int 0, .int 0, .ref b7, .ref b8, .ref b9, .int 0, .ref b10, .ref b11, .ref b12, .ref b13, .ref b14, .ref b15, .ref b16, .ref b17, .ref b18, .ref b19, .ref b20, .ref b21, .int 0, .ref b22, .ref b23, .int 0, .int 0, .int 0, .int 0, .ref b24, .ref b25, .ref b26, .ref b27, .ref b28, .ref b29, .ref b30, .int 0, .ref b31, .ref b32, .int 0, .ref b33, .ref b34, .ref b35, .ref b36, .ref b37, .int 0, .ref b38, .ref b39, .ref b40])), (b4, .inl (G.2 4, 2, .inl (fun _ => 0)))] H := hP
    have hD := z_tie hP hD rfl
    refine W.widen (k := 0) (n := 0) (Nat.le_of_ble_eq_true rfl) (Nat.le_of_ble_eq_true rfl) ?_
    refine lv_if_eq (tgt := 24) hx hb d_Model_again_12 (by decide) (fun _ => ?_) (fun hc => absurd hc (by decide +kernel))
    refine lv_iconst (v := 0) hx hb d_Model_again_24 (by decide) ?_
    exact z_zret hx hb hr hlocks rfl hP hD hS (Nat.le_of_ble_eq_true rfl) (Nat.le_of_ble_eq_true rfl) d_Model_again_25 (congrArg (fun z => some (Value.int z)) (by unfold a_again; (first | rfl | (repeat (first | rw [if_pos (by omega)] | rw [if_neg (by omega)])))))
  · try simp only [Int32.toInt_toInt64, ll_0] at hq_5
    try simp only [Int32.toInt_toInt64, ll_1] at hq_6
    have hP : va_P G.1 classes [(b0, .inr (12, [.int 0, .ref b2, .ref b3, .ref b4, .ref b5, .int 0, .ref b6, .int 0, .int 0, .int 0, .int 0, .ref b7, .ref b8, .ref b9, .int 0, .ref b10, .ref b11, .ref b12, .ref b13, .ref b14, .ref b15, .ref b16, .ref b17, .ref b18, .ref b19, .ref b20, .ref b21, .int 0, .ref b22, .ref b23, .int 0, .int 0, .int 0, .int 0, .ref b24, .ref b25, .ref b26, .ref b27, .ref b28, .ref b29, .ref b30, .int 0, .ref b31, .ref b32, .int 0, .ref b33, .ref b34, .ref b35, .ref b36, .ref b37, .int 0, .ref b38, .ref b39, .ref b40])), (b4, .inl (G.2 4, 2, .inl (fun _ => 0)))] H := hP
    have hD := z_tie hP hD rfl
    refine W.widen (k := 0) (n := 0) (Nat.le_of_ble_eq_true rfl) (Nat.le_of_ble_eq_true rfl) ?_
    refine lv_if_eq (tgt := 24) hx hb d_Model_again_12 (by decide) (fun hc => absurd hc (by decide +kernel)) (fun _ => ?_)
    refine lv_aload_n hx hb d_Model_again_15 rfl (lv_at hl 0 rfl) ?_
    refine va_get (D := G.1) (ci := 12) (v := .ref b4) (C := R_Model) (T := F_Model) (N := 54) hx hb hts i_Model hown hK hP 0 rfl rfl 3 (by decide) (hts _ q1116) (fun _ h9 => h9) rfl d_Model_again_16 ?_
    refine lv_iload_n hx hb d_Model_again_19 rfl (lv_at hl 1 rfl) ?_
    by_cases hs_7 : p0 = 0
    · subst hs_7
      refine va_zald hx hb hK hP 1 4 rfl rfl (i := 0) (z_in rfl) d_Model_again_20 ?_
      refine z_topi (y := 0) rfl ?_
      refine lv_if_ne (tgt := 26) hx hb d_Model_again_21 (by decide) (fun hc => absurd hc (by decide +kernel)) (fun _ => ?_)
      refine lv_iconst (v := 0) hx hb d_Model_again_24 (by decide) ?_
      exact z_zret hx hb hr hlocks rfl hP hD hS (Nat.le_of_ble_eq_true rfl) (Nat.le_of_ble_eq_true rfl) d_Model_again_25 (congrArg (fun z => some (Value.int z)) (by first | decide +kernel | (simp only [a_again, li_0]; (first | rfl | (repeat (first | rw [if_pos (by omega)] | rw [if_neg (by omega)]))))))
    simp only [fa_lt, fa_le, fa_eq, Int32.toInt_toInt64, li_0] at hs_7
    obtain rfl : p0 = 1 := by simp only [fa_lt, fa_le, fa_eq, Int32.toInt_toInt64, li_1]; omega
    refine va_zald hx hb hK hP 1 4 rfl rfl (i := 1) (z_in rfl) d_Model_again_20 ?_
    refine z_topi (y := 0) rfl ?_
    refine lv_if_ne (tgt := 26) hx hb d_Model_again_21 (by decide) (fun hc => absurd hc (by decide +kernel)) (fun _ => ?_)
    refine lv_iconst (v := 0) hx hb d_Model_again_24 (by decide) ?_
    exact z_zret hx hb hr hlocks rfl hP hD hS (Nat.le_of_ble_eq_true rfl) (Nat.le_of_ble_eq_true rfl) d_Model_again_25 (congrArg (fun z => some (Value.int z)) (by first | decide +kernel | (simp only [a_again, li_1]; (first | rfl | (repeat (first | rw [if_pos (by omega)] | rw [if_neg (by omega)]))))))
theorem d_Model_count_0 : decode prog_14_method_96_code 0 = .ok (.aload_n 0, 1) := by decide +kernel
theorem d_Model_count_1 : decode prog_14_method_96_code 1 = .ok (.iconst 0, 1) := by decide +kernel
theorem d_Model_count_2 : decode prog_14_method_96_code 2 = .ok (.putfield 1, 3) := by decide +kernel
theorem d_Model_count_5 : decode prog_14_method_96_code 5 = .ok (.aload_n 0, 1) := by decide +kernel
theorem d_Model_count_6 : decode prog_14_method_96_code 6 = .ok (.invokevirtual 254, 3) := by decide +kernel
theorem d_Model_count_9 : decode prog_14_method_96_code 9 = .ok (.iload_n 1, 1) := by decide +kernel
theorem d_Model_count_10 : decode prog_14_method_96_code 10 = .ok (.tableswitch 129 0 9 #[54, 59, 64, 82, 89, 96, 101, 110, 119, 124], 54) := by decide +kernel
theorem d_Model_count_64 : decode prog_14_method_96_code 64 = .ok (.aload_n 0, 1) := by decide +kernel
theorem d_Model_count_65 : decode prog_14_method_96_code 65 = .ok (.invokevirtual 134, 3) := by decide +kernel
theorem d_Model_count_68 : decode prog_14_method_96_code 68 = .ok (.ireturn, 1) := by decide +kernel
theorem d_Model_count_69 : decode prog_14_method_96_code 69 = .ok (.aload_n 0, 1) := by decide +kernel
theorem d_Model_count_70 : decode prog_14_method_96_code 70 = .ok (.invokevirtual 421, 3) := by decide +kernel
theorem d_Model_callsOfAll_0 : decode prog_14_method_94_code 0 = .ok (.iconst 0, 1) := by decide +kernel
theorem d_Model_callsOfAll_1 : decode prog_14_method_94_code 1 = .ok (.istore_n 1, 1) := by decide +kernel
theorem d_Model_callsOfAll_2 : decode prog_14_method_94_code 2 = .ok (.iconst 0, 1) := by decide +kernel
theorem d_Model_callsOfAll_3 : decode prog_14_method_94_code 3 = .ok (.istore_n 2, 1) := by decide +kernel
theorem d_Model_callsOfAll_4 : decode prog_14_method_94_code 4 = .ok (.iload_n 2, 1) := by decide +kernel
theorem d_Model_callsOfAll_5 : decode prog_14_method_94_code 5 = .ok (.aload_n 0, 1) := by decide +kernel
theorem d_Model_callsOfAll_6 : decode prog_14_method_94_code 6 = .ok (.invokevirtual 134, 3) := by decide +kernel
theorem d_Model_callsOfAll_9 : decode prog_14_method_94_code 9 = .ok (.if_icmp .ge 17, 3) := by decide +kernel
theorem d_Model_callsOfAll_26 : decode prog_14_method_94_code 26 = .ok (.iload_n 1, 1) := by decide +kernel
theorem d_Model_callsOfAll_27 : decode prog_14_method_94_code 27 = .ok (.ireturn, 1) := by decide +kernel
abbrev m_c1_Model_callsOfAll : Room := { frames := 1, cells := 0, slots := 0, locals := 20 }
set_option maxHeartbeats 4000000 in
set_option maxRecDepth 100000 in
theorem c1_Model_callsOfAll (l : Launch) (G : zG) (b0 : Nat) (b1 : Nat) (b2 : Nat) (b3 : Nat) (b4 : Nat) (b5 : Nat) (b6 : Nat) (b7 : Nat) (b8 : Nat) (b9 : Nat) (b10 : Nat) (b11 : Nat) (b12 : Nat) (b13 : Nat) (b14 : Nat) (b15 : Nat) (b16 : Nat) (b17 : Nat) (b18 : Nat) (b19 : Nat) (b20 : Nat) (b21 : Nat) (b22 : Nat) (b23 : Nat) (b24 : Nat) (b25 : Nat) (b26 : Nat) (b27 : Nat) (b28 : Nat) (b29 : Nat) (b30 : Nat) (b31 : Nat) (b32 : Nat) (b33 : Nat) (b34 : Nat) (b35 : Nat) (b36 : Nat) (b37 : Nat) (b38 : Nat) (b39 : Nat)  : zM l G y_Model_callsOfAll prog_14_method_94_code 3 (Option.some Jvm.ClassFile.FieldType.int) m_c1_Model_callsOfAll [.ref b0] [(b0, .inr (12, [.int 0, .ref b1, .ref b2, .ref b3, .ref b4, .int 0, .ref b5, .int 0, .int 0, .int 0, .int 0, .ref b6, .ref b7, .ref b8, .int 0, .ref b9, .ref b10, .ref b11, .ref b12, .ref b13, .ref b14, .ref b15, .ref b16, .ref b17, .ref b18, .ref b19, .ref b20, .int 0, .ref b21, .ref b22, .int 0, .int 0, .int 0, .int 0, .ref b23, .ref b24, .ref b25, .ref b26, .ref b27, .ref b28, .ref b29, .int 0, .ref b30, .ref b31, .int 0, .ref b32, .ref b33, .ref b34, .ref b35, .ref b36, .int 0, .ref b37, .ref b38, .ref b39])), (b1, .inl (G.2 0, 503, .inl (upd (fun _ => 0) 501 1)))] (fun v w => (v = some (.int 0) ∧ w = [(b0, .inr (12, [.int 0, .ref b1, .ref b2, .ref b3, .ref b4, .int 0, .ref b5, .int 0, .int 0, .int 0, .int 0, .ref b6, .ref b7, .ref b8, .int 0, .ref b9, .ref b10, .ref b11, .ref b12, .ref b13, .ref b14, .ref b15, .ref b16, .ref b17, .ref b18, .ref b19, .ref b20, .int 0, .ref b21, .ref b22, .int 0, .int 0, .int 0, .int 0, .ref b23, .ref b24, .ref b25, .ref b26, .ref b27, .ref b28, .ref b29, .int 0, .ref b30, .ref b31, .int 0, .ref b32, .ref b33, .ref b34, .ref b35, .ref b36, .int 0, .ref b37, .ref b38, .ref b39])), (b1, .inl (G.2 0, 503, .inl (upd (fun _ => 0) 501 1)))])) := by
  refine z_start (by decide +kernel) (Nat.le_of_ble_eq_true rfl) ?_
  intro p e s m below meth c A Z hr hnm hA hP hD hS ls hl
  have Z : zC p s m _ meth c prog_14_method_94_code 3 "TraceMachinesModel" G := Z
  obtain ⟨hx, hb, hml, hown, hts, hK, hN, hlocks⟩ := id Z
  have hl : lv_has ls 3 [(0, .ref b0)] := hl
  refine lv_iconst (v := 0) hx hb d_Model_callsOfAll_0 (by decide) ?_
  refine lv_istore_n (lv' := [(1, .int 0), (0, .ref b0)]) hx hb d_Model_callsOfAll_1 rfl hl (by decide) rfl (fun ls hl => ?_)
  refine lv_iconst (v := 0) hx hb d_Model_callsOfAll_2 (by decide) ?_
  refine lv_istore_n (lv' := [(2, .int 0), (1, .int 0), (0, .ref b0)]) hx hb d_Model_callsOfAll_3 rfl hl (by decide) rfl (fun ls hl => ?_)
  refine lv_iload_n hx hb d_Model_callsOfAll_4 rfl (lv_at hl 0 rfl) ?_
  refine lv_aload_n hx hb d_Model_callsOfAll_5 rfl (lv_at hl 2 rfl) ?_
  refine z_callV (index := 134) (As := []) (rest := [.int 0]) (wr := []) Z (c2_Model_many l G (b0) (b1) (b2) (b3) (b4) (b5) (b6) (b7) (b8) (b9) (b10) (b11) (b12) (b13) (b14) (b15) (b16) (b17) (b18) (b19) (b20) (b21) (b22) (b23) (b24) (b25) (b26) (b27) (b28) (b29) (b30) (b31) (b32) (b33) (b34) (b35) (b36) (b37) (b38) (b39)) hl.1 q1324 q1326 qs51 q14 q1327 ⟨by decide, by decide, by show _ = some 0; decide +kernel⟩ ⟨Nat.le_of_ble_eq_true rfl, Nat.le_of_ble_eq_true rfl⟩ ⟨Nat.le_of_ble_eq_true rfl, Nat.le_of_ble_eq_true rfl⟩ rfl (Nat.le_of_ble_eq_true rfl) d_Model_callsOfAll_6 hP hD hS hA 0 12 rfl rfl rfl [0, 1] [] rfl rfl rfl rfl (by decide) (fun v w1 H locs hw_1 hP hD hS => ?_)
  obtain ⟨rfl, rfl⟩ := hw_1
  have hP : va_P G.1 classes [(b0, .inr (12, [.int 0, .ref b1, .ref b2, .ref b3, .ref b4, .int 0, .ref b5, .int 0, .int 0, .int 0, .int 0, .ref b6, .ref b7, .ref b8, .int 0, .ref b9, .ref b10, .ref b11, .ref b12, .ref b13, .ref b14, .ref b15, .ref b16, .ref b17, .ref b18, .ref b19, .ref b20, .int 0, .ref b21, .ref b22, .int 0, .int 0, .int 0, .int 0, .ref b23, .ref b24, .ref b25, .ref b26, .ref b27, .ref b28, .ref b29, .int 0, .ref b30, .ref b31, .int 0, .ref b32, .ref b33, .ref b34, .ref b35, .ref b36, .int 0, .ref b37, .ref b38, .ref b39])), (b1, .inl (G.2 0, 503, .inl (upd (fun _ => 0) 501 1)))] H := hP
  have hD := z_tie hP hD rfl
  refine W.widen (k := 0) (n := 0) (Nat.le_of_ble_eq_true rfl) (Nat.le_of_ble_eq_true rfl) ?_
  refine lv_icmp_ge (tgt := 26) hx hb d_Model_callsOfAll_9 (by decide) (fun _ => ?_) (fun hc => absurd hc (by decide +kernel))
  refine lv_iload_n hx hb d_Model_callsOfAll_26 rfl (lv_at hl 1 rfl) ?_
  exact z_iret hx hb hr hlocks hP hD hS (Nat.le_of_ble_eq_true rfl) (Nat.le_of_ble_eq_true rfl) d_Model_callsOfAll_27 ⟨rfl, rfl⟩
theorem d_Model_count_73 : decode prog_14_method_96_code 73 = .ok (.ireturn, 1) := by decide +kernel
theorem d_Model_count_74 : decode prog_14_method_96_code 74 = .ok (.aload_n 0, 1) := by decide +kernel
theorem d_Model_count_75 : decode prog_14_method_96_code 75 = .ok (.invokevirtual 134, 3) := by decide +kernel
theorem d_Model_count_78 : decode prog_14_method_96_code 78 = .ok (.ifCond .ne 7, 3) := by decide +kernel
theorem d_Model_count_81 : decode prog_14_method_96_code 81 = .ok (.iconst 0, 1) := by decide +kernel
theorem d_Model_count_82 : decode prog_14_method_96_code 82 = .ok (.goto 9, 3) := by decide +kernel
theorem d_Model_count_91 : decode prog_14_method_96_code 91 = .ok (.ireturn, 1) := by decide +kernel
theorem d_Model_count_92 : decode prog_14_method_96_code 92 = .ok (.aload_n 0, 1) := by decide +kernel
theorem d_Model_count_93 : decode prog_14_method_96_code 93 = .ok (.getfield 58, 3) := by decide +kernel
theorem d_Model_count_96 : decode prog_14_method_96_code 96 = .ok (.iconst 0, 1) := by decide +kernel
theorem d_Model_count_97 : decode prog_14_method_96_code 97 = .ok (.iaload, 1) := by decide +kernel
theorem d_Model_count_98 : decode prog_14_method_96_code 98 = .ok (.ireturn, 1) := by decide +kernel
theorem d_Model_count_99 : decode prog_14_method_96_code 99 = .ok (.aload_n 0, 1) := by decide +kernel
theorem d_Model_count_100 : decode prog_14_method_96_code 100 = .ok (.getfield 70, 3) := by decide +kernel
theorem d_Model_count_103 : decode prog_14_method_96_code 103 = .ok (.iconst 0, 1) := by decide +kernel
theorem d_Model_count_104 : decode prog_14_method_96_code 104 = .ok (.iaload, 1) := by decide +kernel
theorem d_Model_count_105 : decode prog_14_method_96_code 105 = .ok (.ireturn, 1) := by decide +kernel
theorem d_Model_count_106 : decode prog_14_method_96_code 106 = .ok (.aload_n 0, 1) := by decide +kernel
theorem d_Model_count_107 : decode prog_14_method_96_code 107 = .ok (.invokevirtual 424, 3) := by decide +kernel
theorem d_Model_finals_0 : decode prog_14_method_95_code 0 = .ok (.iconst 0, 1) := by decide +kernel
theorem d_Model_finals_1 : decode prog_14_method_95_code 1 = .ok (.istore_n 1, 1) := by decide +kernel
theorem d_Model_finals_2 : decode prog_14_method_95_code 2 = .ok (.iconst 0, 1) := by decide +kernel
theorem d_Model_finals_3 : decode prog_14_method_95_code 3 = .ok (.istore_n 2, 1) := by decide +kernel
theorem d_Model_finals_4 : decode prog_14_method_95_code 4 = .ok (.iload_n 2, 1) := by decide +kernel
theorem d_Model_finals_5 : decode prog_14_method_95_code 5 = .ok (.aload_n 0, 1) := by decide +kernel
theorem d_Model_finals_6 : decode prog_14_method_95_code 6 = .ok (.getfield 58, 3) := by decide +kernel
theorem d_Model_finals_9 : decode prog_14_method_95_code 9 = .ok (.iconst 0, 1) := by decide +kernel
theorem d_Model_finals_10 : decode prog_14_method_95_code 10 = .ok (.iaload, 1) := by decide +kernel
theorem d_Model_finals_11 : decode prog_14_method_95_code 11 = .ok (.if_icmp .ge 26, 3) := by decide +kernel
theorem d_Model_finals_37 : decode prog_14_method_95_code 37 = .ok (.iload_n 1, 1) := by decide +kernel
theorem d_Model_finals_38 : decode prog_14_method_95_code 38 = .ok (.ireturn, 1) := by decide +kernel
abbrev m_c1_Model_finals : Room := { frames := 0, cells := 0, slots := 0, locals := 0 }
set_option maxHeartbeats 4000000 in
set_option maxRecDepth 100000 in
theorem c1_Model_finals (l : Launch) (G : zG) (b0 : Nat) (b1 : Nat) (b2 : Nat) (b3 : Nat) (b4 : Nat) (b5 : Nat) (b6 : Nat) (b7 : Nat) (b8 : Nat) (b9 : Nat) (b10 : Nat) (b11 : Nat) (b12 : Nat) (b13 : Nat) (b14 : Nat) (b15 : Nat) (b16 : Nat) (b17 : Nat) (b18 : Nat) (b19 : Nat) (b20 : Nat) (b21 : Nat) (b22 : Nat) (b23 : Nat) (b24 : Nat) (b25 : Nat) (b26 : Nat) (b27 : Nat) (b28 : Nat) (b29 : Nat) (b30 : Nat) (b31 : Nat) (b32 : Nat) (b33 : Nat) (b34 : Nat) (b35 : Nat) (b36 : Nat) (b37 : Nat) (b38 : Nat) (b39 : Nat)  : zM l G y_Model_finals prog_14_method_95_code 3 (Option.some Jvm.ClassFile.FieldType.int) m_c1_Model_finals [.ref b0] [(b0, .inr (12, [.int 0, .ref b1, .ref b2, .ref b3, .ref b4, .int 0, .ref b5, .int 0, .int 0, .int 0, .int 0, .ref b6, .ref b7, .ref b8, .int 0, .ref b9, .ref b10, .ref b11, .ref b12, .ref b13, .ref b14, .ref b15, .ref b16, .ref b17, .ref b18, .ref b19, .ref b20, .int 0, .ref b21, .ref b22, .int 0, .int 0, .int 0, .int 0, .ref b23, .ref b24, .ref b25, .ref b26, .ref b27, .ref b28, .ref b29, .int 0, .ref b30, .ref b31, .int 0, .ref b32, .ref b33, .ref b34, .ref b35, .ref b36, .int 0, .ref b37, .ref b38, .ref b39])), (b15, .inl (G.2 0, 2, .inl (upd (fun _ => 0) 0 0)))] (fun v w => (v = some (.int 0) ∧ w = [(b0, .inr (12, [.int 0, .ref b1, .ref b2, .ref b3, .ref b4, .int 0, .ref b5, .int 0, .int 0, .int 0, .int 0, .ref b6, .ref b7, .ref b8, .int 0, .ref b9, .ref b10, .ref b11, .ref b12, .ref b13, .ref b14, .ref b15, .ref b16, .ref b17, .ref b18, .ref b19, .ref b20, .int 0, .ref b21, .ref b22, .int 0, .int 0, .int 0, .int 0, .ref b23, .ref b24, .ref b25, .ref b26, .ref b27, .ref b28, .ref b29, .int 0, .ref b30, .ref b31, .int 0, .ref b32, .ref b33, .ref b34, .ref b35, .ref b36, .int 0, .ref b37, .ref b38, .ref b39])), (b15, .inl (G.2 0, 2, .inl (upd (fun _ => 0) 0 0)))])) := by
  refine z_start (by decide +kernel) (Nat.le_of_ble_eq_true rfl) ?_
  intro p e s m below meth c A Z hr hnm hA hP hD hS ls hl
  have Z : zC p s m _ meth c prog_14_method_95_code 3 "TraceMachinesModel" G := Z
  obtain ⟨hx, hb, hml, hown, hts, hK, hN, hlocks⟩ := id Z
  have hl : lv_has ls 3 [(0, .ref b0)] := hl
  refine lv_iconst (v := 0) hx hb d_Model_finals_0 (by decide) ?_
  refine lv_istore_n (lv' := [(1, .int 0), (0, .ref b0)]) hx hb d_Model_finals_1 rfl hl (by decide) rfl (fun ls hl => ?_)
  refine lv_iconst (v := 0) hx hb d_Model_finals_2 (by decide) ?_
  refine lv_istore_n (lv' := [(2, .int 0), (1, .int 0), (0, .ref b0)]) hx hb d_Model_finals_3 rfl hl (by decide) rfl (fun ls hl => ?_)
  refine lv_iload_n hx hb d_Model_finals_4 rfl (lv_at hl 0 rfl) ?_
  refine lv_aload_n hx hb d_Model_finals_5 rfl (lv_at hl 2 rfl) ?_
  refine va_get (D := G.1) (ci := 12) (v := .ref b15) (C := R_Model) (T := F_Model) (N := 54) hx hb hts i_Model hown hK hP 0 rfl rfl 21 (by decide) (hts _ q1134) (fun _ h9 => h9) rfl d_Model_finals_6 ?_
  refine lv_iconst (v := 0) hx hb d_Model_finals_9 (by decide) ?_
  refine va_iald hx hb hK hP 1 0 rfl rfl (i := 0) (z_in rfl) d_Model_finals_10 ?_
  refine z_topi (y := 0) rfl ?_
  refine lv_icmp_ge (tgt := 37) hx hb d_Model_finals_11 (by decide) (fun _ => ?_) (fun hc => absurd hc (by decide +kernel))
  refine lv_iload_n hx hb d_Model_finals_37 rfl (lv_at hl 1 rfl) ?_
  exact z_iret hx hb hr hlocks hP hD hS (Nat.le_of_ble_eq_true rfl) (Nat.le_of_ble_eq_true rfl) d_Model_finals_38 ⟨rfl, rfl⟩
theorem d_Model_count_110 : decode prog_14_method_96_code 110 = .ok (.ireturn, 1) := by decide +kernel
theorem d_Model_count_111 : decode prog_14_method_96_code 111 = .ok (.aload_n 0, 1) := by decide +kernel
theorem d_Model_count_112 : decode prog_14_method_96_code 112 = .ok (.getfield 13, 3) := by decide +kernel
theorem d_Model_count_115 : decode prog_14_method_96_code 115 = .ok (.sipush 501, 3) := by decide +kernel
theorem d_Model_count_118 : decode prog_14_method_96_code 118 = .ok (.iaload, 1) := by decide +kernel
theorem d_Model_count_119 : decode prog_14_method_96_code 119 = .ok (.ireturn, 1) := by decide +kernel
theorem d_Model_count_120 : decode prog_14_method_96_code 120 = .ok (.aload_n 0, 1) := by decide +kernel
theorem d_Model_count_121 : decode prog_14_method_96_code 121 = .ok (.getfield 13, 3) := by decide +kernel
theorem d_Model_count_124 : decode prog_14_method_96_code 124 = .ok (.sipush 502, 3) := by decide +kernel
theorem d_Model_count_127 : decode prog_14_method_96_code 127 = .ok (.iaload, 1) := by decide +kernel
theorem d_Model_count_128 : decode prog_14_method_96_code 128 = .ok (.ireturn, 1) := by decide +kernel
theorem d_Model_count_129 : decode prog_14_method_96_code 129 = .ok (.aload_n 0, 1) := by decide +kernel
theorem d_Model_count_130 : decode prog_14_method_96_code 130 = .ok (.getfield 142, 3) := by decide +kernel
theorem d_Model_count_133 : decode prog_14_method_96_code 133 = .ok (.ireturn, 1) := by decide +kernel
theorem d_Model_count_134 : decode prog_14_method_96_code 134 = .ok (.aload_n 0, 1) := by decide +kernel
theorem d_Model_count_135 : decode prog_14_method_96_code 135 = .ok (.getfield 179, 3) := by decide +kernel
theorem d_Model_count_138 : decode prog_14_method_96_code 138 = .ok (.ireturn, 1) := by decide +kernel
theorem d_Model_count_139 : decode prog_14_method_96_code 139 = .ok (.iconst (-1), 1) := by decide +kernel
theorem d_Model_count_140 : decode prog_14_method_96_code 140 = .ok (.ireturn, 1) := by decide +kernel
abbrev m_t_Model_count : Room := { frames := 4, cells := 0, slots := 0, locals := 94 }
set_option maxHeartbeats 4000000 in
set_option maxRecDepth 100000 in
theorem t_Model_count (l : Launch) (G : zG) (b0 : Nat) (p0 : Int32) (b2 : Nat) (b3 : Nat) (b4 : Nat) (b5 : Nat) (b6 : Nat) (b7 : Nat) (b8 : Nat) (b9 : Nat) (b10 : Nat) (b11 : Nat) (b12 : Nat) (b13 : Nat) (b14 : Nat) (b15 : Nat) (b16 : Nat) (b17 : Nat) (b18 : Nat) (b19 : Nat) (b20 : Nat) (b21 : Nat) (b22 : Nat) (b23 : Nat) (b24 : Nat) (b25 : Nat) (b26 : Nat) (b27 : Nat) (b28 : Nat) (b29 : Nat) (b30 : Nat) (b31 : Nat) (b32 : Nat) (b33 : Nat) (b34 : Nat) (b35 : Nat) (b36 : Nat) (b37 : Nat) (b38 : Nat) (b39 : Nat) (b40 : Nat)  : zM l G y_Model_count prog_14_method_96_code 2 (Option.some Jvm.ClassFile.FieldType.int) m_t_Model_count [.ref b0, .int p0] [(b0, .inr (12, [.int 0, .ref b2, .ref b3, .ref b4, .ref b5, .int 0, .ref b6, .int 0, .int 0, .int 0, .int 0, .ref b7, .ref b8, .ref b9, .int 0, .ref b10, .ref b11, .ref b12, .ref b13, .ref b14, .ref b15, .ref b16, .ref b17, .ref b18, .ref b19, .ref b20, .ref b21, .int 0, .ref b22, .ref b23, .int 0, .int 0, .int 0, .int 0, .ref b24, .ref b25, .ref b26, .ref b27, .ref b28, .ref b29, .ref b30, .int 0, .ref b31, .ref b32, .int 0, .ref b33, .ref b34, .ref b35, .ref b36, .ref b37, .int 0, .ref b38, .ref b39, .ref b40])), (b2, .inl (G.2 0, 503, .inl (upd (fun _ => 0) 501 1))), (b10, .inl (G.2 0, 2, .inl (fun _ => 0))), (b11, .inl (G.2 0, 4820, .inl (fun _ => 0))), (b14, .inl (G.2 0, 482, .inl (fun _ => 0))), (b16, .inl (G.2 0, 2, .inl (fun _ => 0))), (b20, .inl (G.2 0, 2, .inl (fun _ => 0)))] (fun v _ => v = some (.int (a_count p0))) := by
  refine z_start (by decide +kernel) (Nat.le_of_ble_eq_true rfl) ?_
  intro p e s m below meth c A Z hr hnm hA hP hD hS ls hl
  have Z : zC p s m _ meth c prog_14_method_96_code 2 "TraceMachinesModel" G := Z
  obtain ⟨hx, hb, hml, hown, hts, hK, hN, hlocks⟩ := id Z
  have hl : lv_has ls 2 [(0, .ref b0), (1, .int p0)] := hl
  refine lv_aload_n hx hb d_Model_count_0 rfl (lv_at hl 0 rfl) ?_
  refine lv_iconst (v := 0) hx hb d_Model_count_1 (by decide) ?_
  refine va_put (D := G.1) (ci := 12) (v := .int 0) (ty := .int) (C := R_Model) (T := F_Model) (N := 54) hx hb hts i_Model t_Model t_Model_ok n_Model hown hK hP hD hS 0 rfl rfl 0 (by decide) (hts _ q1113) (fun _ h9 => h9) rfl (by decide +kernel) rfl rfl (Nat.le_of_ble_eq_true rfl) d_Model_count_2 (fun H locs hP hD hS => ?_)
  have hP : va_P G.1 classes [(b0, .inr (12, [.int 0, .ref b2, .ref b3, .ref b4, .ref b5, .int 0, .ref b6, .int 0, .int 0, .int 0, .int 0, .ref b7, .ref b8, .ref b9, .int 0, .ref b10, .ref b11, .ref b12, .ref b13, .ref b14, .ref b15, .ref b16, .ref b17, .ref b18, .ref b19, .ref b20, .ref b21, .int 0, .ref b22, .ref b23, .int 0, .int 0, .int 0, .int 0, .ref b24, .ref b25, .ref b26, .ref b27, .ref b28, .ref b29, .ref b30, .int 0, .ref b31, .ref b32, .int 0, .ref b33, .ref b34, .ref b35, .ref b36, .ref b37, .int 0, .ref b38, .ref b39, .ref b40])), (b2, .inl (G.2 0, 503, .inl (upd (fun _ => 0) 501 1))), (b10, .inl (G.2 0, 2, .inl (fun _ => 0))), (b11, .inl (G.2 0, 4820, .inl (fun _ => 0))), (b14, .inl (G.2 0, 482, .inl (fun _ => 0))), (b16, .inl (G.2 0, 2, .inl (fun _ => 0))), (b20, .inl (G.2 0, 2, .inl (fun _ => 0)))] H := hP
  have hD := z_tie hP hD rfl
  refine lv_aload_n hx hb d_Model_count_5 rfl (lv_at hl 0 rfl) ?_
  refine z_callV (index := 254) (As := []) (rest := []) (wr := []) Z (c1_Model_lay1 l G (b0) (b2) (b3) (b4) (b5) (b6) (b7) (b8) (b9) (b10) (b11) (b12) (b13) (b14) (b15) (b16) (b17) (b18) (b19) (b20) (b21) (b22) (b23) (b24) (b25) (b26) (b27) (b28) (b29) (b30) (b31) (b32) (b33) (b34) (b35) (b36) (b37) (b38) (b39) (b40)) hl.1 q1360 q1362 qs55 q14 q1363 ⟨by decide, by decide, by show _ = some 0; decide +kernel⟩ ⟨Nat.le_of_ble_eq_true rfl, Nat.le_of_ble_eq_true rfl⟩ ⟨Nat.le_of_ble_eq_true rfl, Nat.le_of_ble_eq_true rfl⟩ rfl (Nat.le_of_ble_eq_true rfl) d_Model_count_6 hP hD hS hA 0 12 rfl rfl rfl [0, 1, 2, 3, 4, 5, 6] [] rfl rfl rfl rfl (by decide) (fun v w1 H locs hw_1 hP hD hS => ?_)
  obtain ⟨rfl, rfl⟩ := hw_1
  have hP : va_P G.1 classes [(b20, .inl (G.2 0, 2, .inl (upd (fun _ => 0) 0 0))), (b11, .inl (G.2 0, 4820, .inl (upd (upd (upd (upd (upd (upd (upd (upd (upd (upd (fun _ => 0) 0 (-1)) 1 (-1)) 2 (-1)) 3 (-1)) 4 (-1)) 5 (-1)) 6 (-1)) 7 (-1)) 8 (-1)) 9 (-1)))), (b14, .inl (G.2 0, 482, .inl (upd (upd (fun _ => 0) 0 0) 0 0))), (b16, .inl (G.2 0, 2, .inl (upd (fun _ => 0) 0 0))), (b10, .inl (G.2 0, 2, .inl (upd (upd (fun _ => 0) 0 0) 0 1))), (b0, .inr (12, [.int 0, .ref b2, .ref b3, .ref b4, .ref b5, .int 0, .ref b6, .int 0, .int 0, .int 0, .int 0, .ref b7, .ref b8, .ref b9, .int 0, .ref b10, .ref b11, .ref b12, .ref b13, .ref b14, .ref b15, .ref b16, .ref b17, .ref b18, .ref b19, .ref b20, .ref b21, .int 0, .ref b22, .ref b23, .int 0, .int 0, .int 0, .int 0, .ref b24, .ref b25, .ref b26, .ref b27, .ref b28, .ref b29, .ref b30, .int 0, .ref b31, .ref b32, .int 0, .ref b33, .ref b34, .ref b35, .ref b36, .ref b37, .int 0, .ref b38, .ref b39, .ref b40])), (b2, .inl (G.2 0, 503, .inl (upd (fun _ => 0) 501 1)))] H := hP
  have hD := z_tie hP hD rfl
  refine W.widen (k := 0) (n := 0) (Nat.le_of_ble_eq_true rfl) (Nat.le_of_ble_eq_true rfl) ?_
  refine lv_iload_n hx hb d_Model_count_9 rfl (lv_at hl 1 rfl) ?_
  by_cases hs_2 : p0 = 0
  · subst hs_2
    refine lv_tableIn (off := 54) (tgt := 64) hx hb d_Model_count_10 (by decide +kernel) (by decide +kernel) rfl (by decide) ?_
    refine lv_aload_n hx hb d_Model_count_64 rfl (lv_at hl 0 rfl) ?_
    refine z_callV (index := 134) (As := []) (rest := []) (wr := [(b20, .inl (G.2 0, 2, .inl (upd (fun _ => 0) 0 0))), (b11, .inl (G.2 0, 4820, .inl (upd (upd (upd (upd (upd (upd (upd (upd (upd (upd (fun _ => 0) 0 (-1)) 1 (-1)) 2 (-1)) 3 (-1)) 4 (-1)) 5 (-1)) 6 (-1)) 7 (-1)) 8 (-1)) 9 (-1)))), (b14, .inl (G.2 0, 482, .inl (upd (upd (fun _ => 0) 0 0) 0 0))), (b16, .inl (G.2 0, 2, .inl (upd (fun _ => 0) 0 0))), (b10, .inl (G.2 0, 2, .inl (upd (upd (fun _ => 0) 0 0) 0 1)))]) Z (c2_Model_many l G (b0) (b2) (b3) (b4) (b5) (b6) (b7) (b8) (b9) (b10) (b11) (b12) (b13) (b14) (b15) (b16) (b17) (b18) (b19) (b20) (b21) (b22) (b23) (b24) (b25) (b26) (b27) (b28) (b29) (b30) (b31) (b32) (b33) (b34) (b35) (b36) (b37) (b38) (b39) (b40)) hl.1 q1324 q1326 qs51 q14 q1327 ⟨by decide, by decide, by show _ = some 0; decide +kernel⟩ ⟨Nat.le_of_ble_eq_true rfl, Nat.le_of_ble_eq_true rfl⟩ ⟨Nat.le_of_ble_eq_true rfl, Nat.le_of_ble_eq_true rfl⟩ rfl (Nat.le_of_ble_eq_true rfl) d_Model_count_65 hP hD hS hA 5 12 rfl rfl rfl [5, 6] [0, 1, 2, 3, 4] rfl rfl rfl rfl (by decide) (fun v w1 H locs hw_3 hP hD hS => ?_)
    obtain ⟨rfl, rfl⟩ := hw_3
    have hP : va_P G.1 classes [(b20, .inl (G.2 0, 2, .inl (upd (fun _ => 0) 0 0))), (b11, .inl (G.2 0, 4820, .inl (upd (upd (upd (upd (upd (upd (upd (upd (upd (upd (fun _ => 0) 0 (-1)) 1 (-1)) 2 (-1)) 3 (-1)) 4 (-1)) 5 (-1)) 6 (-1)) 7 (-1)) 8 (-1)) 9 (-1)))), (b14, .inl (G.2 0, 482, .inl (upd (upd (fun _ => 0) 0 0) 0 0))), (b16, .inl (G.2 0, 2, .inl (upd (fun _ => 0) 0 0))), (b10, .inl (G.2 0, 2, .inl (upd (upd (fun _ => 0) 0 0) 0 1))), (b0, .inr (12, [.int 0, .ref b2, .ref b3, .ref b4, .ref b5, .int 0, .ref b6, .int 0, .int 0, .int 0, .int 0, .ref b7, .ref b8, .ref b9, .int 0, .ref b10, .ref b11, .ref b12, .ref b13, .ref b14, .ref b15, .ref b16, .ref b17, .ref b18, .ref b19, .ref b20, .ref b21, .int 0, .ref b22, .ref b23, .int 0, .int 0, .int 0, .int 0, .ref b24, .ref b25, .ref b26, .ref b27, .ref b28, .ref b29, .ref b30, .int 0, .ref b31, .ref b32, .int 0, .ref b33, .ref b34, .ref b35, .ref b36, .ref b37, .int 0, .ref b38, .ref b39, .ref b40])), (b2, .inl (G.2 0, 503, .inl (upd (fun _ => 0) 501 1)))] H := hP
    have hD := z_tie hP hD rfl
    refine W.widen (k := 0) (n := 0) (Nat.le_of_ble_eq_true rfl) (Nat.le_of_ble_eq_true rfl) ?_
    exact z_iret hx hb hr hlocks hP hD hS (Nat.le_of_ble_eq_true rfl) (Nat.le_of_ble_eq_true rfl) d_Model_count_68 (congrArg (fun z => some (Value.int z)) (by first | decide +kernel | (simp only [a_count, li_0]; (first | rfl | (repeat (first | rw [if_pos (by omega)] | rw [if_neg (by omega)]))))))
  simp only [fa_lt, fa_le, fa_eq, Int32.toInt_toInt64, li_0] at hs_2
  by_cases hs_4 : p0 = 1
  · subst hs_4
    refine lv_tableIn (off := 59) (tgt := 69) hx hb d_Model_count_10 (by decide +kernel) (by decide +kernel) rfl (by decide) ?_
    refine lv_aload_n hx hb d_Model_count_69 rfl (lv_at hl 0 rfl) ?_
    refine z_callV (index := 421) (As := []) (rest := []) (wr := [(b20, .inl (G.2 0, 2, .inl (upd (fun _ => 0) 0 0))), (b11, .inl (G.2 0, 4820, .inl (upd (upd (upd (upd (upd (upd (upd (upd (upd (upd (fun _ => 0) 0 (-1)) 1 (-1)) 2 (-1)) 3 (-1)) 4 (-1)) 5 (-1)) 6 (-1)) 7 (-1)) 8 (-1)) 9 (-1)))), (b14, .inl (G.2 0, 482, .inl (upd (upd (fun _ => 0) 0 0) 0 0))), (b16, .inl (G.2 0, 2, .inl (upd (fun _ => 0) 0 0))), (b10, .inl (G.2 0, 2, .inl (upd (upd (fun _ => 0) 0 0) 0 1)))]) Z (c1_Model_callsOfAll l G (b0) (b2) (b3) (b4) (b5) (b6) (b7) (b8) (b9) (b10) (b11) (b12) (b13) (b14) (b15) (b16) (b17) (b18) (b19) (b20) (b21) (b22) (b23) (b24) (b25) (b26) (b27) (b28) (b29) (b30) (b31) (b32) (b33) (b34) (b35) (b36) (b37) (b38) (b39) (b40)) hl.1 q1655 q1657 qs102 q14 q1658 ⟨by decide, by decide, by show _ = some 0; decide +kernel⟩ ⟨Nat.le_of_ble_eq_true rfl, Nat.le_of_ble_eq_true rfl⟩ ⟨Nat.le_of_ble_eq_true rfl, Nat.le_of_ble_eq_true rfl⟩ rfl (Nat.le_of_ble_eq_true rfl) d_Model_count_70 hP hD hS hA 5 12 rfl rfl rfl [5, 6] [0, 1, 2, 3, 4] rfl rfl rfl rfl (by decide) (fun v w1 H locs hw_5 hP hD hS => ?_)
    obtain ⟨rfl, rfl⟩ := hw_5
    have hP : va_P G.1 classes [(b20, .inl (G.2 0, 2, .inl (upd (fun _ => 0) 0 0))), (b11, .inl (G.2 0, 4820, .inl (upd (upd (upd (upd (upd (upd (upd (upd (upd (upd (fun _ => 0) 0 (-1)) 1 (-1)) 2 (-1)) 3 (-1)) 4 (-1)) 5 (-1)) 6 (-1)) 7 (-1)) 8 (-1)) 9 (-1)))), (b14, .inl (G.2 0, 482, .inl (upd (upd (fun _ => 0) 0 0) 0 0))), (b16, .inl (G.2 0, 2, .inl (upd (fun _ => 0) 0 0))), (b10, .inl (G.2 0, 2, .inl (upd (upd (fun _ => 0) 0 0) 0 1))), (b0, .inr (12, [.int 0, .ref b2, .ref b3, .ref b4, .ref b5, .int 0, .ref b6, .int 0, .int 0, .int 0, .int 0, .ref b7, .ref b8, .ref b9, .int 0, .ref b10, .ref b11, .ref b12, .ref b13, .ref b14, .ref b15, .ref b16, .ref b17, .ref b18, .ref b19, .ref b20, .ref b21, .int 0, .ref b22, .ref b23, .int 0, .int 0, .int 0, .int 0, .ref b24, .ref b25, .ref b26, .ref b27, .ref b28, .ref b29, .ref b30, .int 0, .ref b31, .ref b32, .int 0, .ref b33, .ref b34, .ref b35, .ref b36, .ref b37, .int 0, .ref b38, .ref b39, .ref b40])), (b2, .inl (G.2 0, 503, .inl (upd (fun _ => 0) 501 1)))] H := hP
    have hD := z_tie hP hD rfl
    refine W.widen (k := 0) (n := 0) (Nat.le_of_ble_eq_true rfl) (Nat.le_of_ble_eq_true rfl) ?_
    exact z_iret hx hb hr hlocks hP hD hS (Nat.le_of_ble_eq_true rfl) (Nat.le_of_ble_eq_true rfl) d_Model_count_73 (congrArg (fun z => some (Value.int z)) (by first | decide +kernel | (simp only [a_count, li_1]; (first | rfl | (repeat (first | rw [if_pos (by omega)] | rw [if_neg (by omega)]))))))
  simp only [fa_lt, fa_le, fa_eq, Int32.toInt_toInt64, li_1] at hs_4
  by_cases hs_6 : p0 = 2
  · subst hs_6
    refine lv_tableIn (off := 64) (tgt := 74) hx hb d_Model_count_10 (by decide +kernel) (by decide +kernel) rfl (by decide) ?_
    refine lv_aload_n hx hb d_Model_count_74 rfl (lv_at hl 0 rfl) ?_
    refine z_callV (index := 134) (As := []) (rest := []) (wr := [(b20, .inl (G.2 0, 2, .inl (upd (fun _ => 0) 0 0))), (b11, .inl (G.2 0, 4820, .inl (upd (upd (upd (upd (upd (upd (upd (upd (upd (upd (fun _ => 0) 0 (-1)) 1 (-1)) 2 (-1)) 3 (-1)) 4 (-1)) 5 (-1)) 6 (-1)) 7 (-1)) 8 (-1)) 9 (-1)))), (b14, .inl (G.2 0, 482, .inl (upd (upd (fun _ => 0) 0 0) 0 0))), (b16, .inl (G.2 0, 2, .inl (upd (fun _ => 0) 0 0))), (b10, .inl (G.2 0, 2, .inl (upd (upd (fun _ => 0) 0 0) 0 1)))]) Z (c2_Model_many l G (b0) (b2) (b3) (b4) (b5) (b6) (b7) (b8) (b9) (b10) (b11) (b12) (b13) (b14) (b15) (b16) (b17) (b18) (b19) (b20) (b21) (b22) (b23) (b24) (b25) (b26) (b27) (b28) (b29) (b30) (b31) (b32) (b33) (b34) (b35) (b36) (b37) (b38) (b39) (b40)) hl.1 q1324 q1326 qs51 q14 q1327 ⟨by decide, by decide, by show _ = some 0; decide +kernel⟩ ⟨Nat.le_of_ble_eq_true rfl, Nat.le_of_ble_eq_true rfl⟩ ⟨Nat.le_of_ble_eq_true rfl, Nat.le_of_ble_eq_true rfl⟩ rfl (Nat.le_of_ble_eq_true rfl) d_Model_count_75 hP hD hS hA 5 12 rfl rfl rfl [5, 6] [0, 1, 2, 3, 4] rfl rfl rfl rfl (by decide) (fun v w1 H locs hw_7 hP hD hS => ?_)
    obtain ⟨rfl, rfl⟩ := hw_7
    have hP : va_P G.1 classes [(b20, .inl (G.2 0, 2, .inl (upd (fun _ => 0) 0 0))), (b11, .inl (G.2 0, 4820, .inl (upd (upd (upd (upd (upd (upd (upd (upd (upd (upd (fun _ => 0) 0 (-1)) 1 (-1)) 2 (-1)) 3 (-1)) 4 (-1)) 5 (-1)) 6 (-1)) 7 (-1)) 8 (-1)) 9 (-1)))), (b14, .inl (G.2 0, 482, .inl (upd (upd (fun _ => 0) 0 0) 0 0))), (b16, .inl (G.2 0, 2, .inl (upd (fun _ => 0) 0 0))), (b10, .inl (G.2 0, 2, .inl (upd (upd (fun _ => 0) 0 0) 0 1))), (b0, .inr (12, [.int 0, .ref b2, .ref b3, .ref b4, .ref b5, .int 0, .ref b6, .int 0, .int 0, .int 0, .int 0, .ref b7, .ref b8, .ref b9, .int 0, .ref b10, .ref b11, .ref b12, .ref b13, .ref b14, .ref b15, .ref b16, .ref b17, .ref b18, .ref b19, .ref b20, .ref b21, .int 0, .ref b22, .ref b23, .int 0, .int 0, .int 0, .int 0, .ref b24, .ref b25, .ref b26, .ref b27, .ref b28, .ref b29, .ref b30, .int 0, .ref b31, .ref b32, .int 0, .ref b33, .ref b34, .ref b35, .ref b36, .ref b37, .int 0, .ref b38, .ref b39, .ref b40])), (b2, .inl (G.2 0, 503, .inl (upd (fun _ => 0) 501 1)))] H := hP
    have hD := z_tie hP hD rfl
    refine W.widen (k := 0) (n := 0) (Nat.le_of_ble_eq_true rfl) (Nat.le_of_ble_eq_true rfl) ?_
    refine lv_if_ne (tgt := 85) hx hb d_Model_count_78 (by decide) (fun hc => absurd hc (by decide +kernel)) (fun _ => ?_)
    refine lv_iconst (v := 0) hx hb d_Model_count_81 (by decide) ?_
    refine lv_goto (tgt := 91) hx hb d_Model_count_82 (by decide) ?_
    exact z_iret hx hb hr hlocks hP hD hS (Nat.le_of_ble_eq_true rfl) (Nat.le_of_ble_eq_true rfl) d_Model_count_91 (congrArg (fun z => some (Value.int z)) (by first | decide +kernel | (simp only [a_count, li_2]; (first | rfl | (repeat (first | rw [if_pos (by omega)] | rw [if_neg (by omega)]))))))
  simp only [fa_lt, fa_le, fa_eq, Int32.toInt_toInt64, li_2] at hs_6
  by_cases hs_8 : p0 = 3
  · subst hs_8
    refine lv_tableIn (off := 82) (tgt := 92) hx hb d_Model_count_10 (by decide +kernel) (by decide +kernel) rfl (by decide) ?_
    refine lv_aload_n hx hb d_Model_count_92 rfl (lv_at hl 0 rfl) ?_
    refine va_get (D := G.1) (ci := 12) (v := .ref b16) (C := R_Model) (T := F_Model) (N := 54) hx hb hts i_Model hown hK hP 5 rfl rfl 21 (by decide) (hts _ q1134) (fun _ h9 => h9) rfl d_Model_count_93 ?_
    refine lv_iconst (v := 0) hx hb d_Model_count_96 (by decide) ?_
    refine va_iald hx hb hK hP 3 0 rfl rfl (i := 0) (z_in rfl) d_Model_count_97 ?_
    refine z_topi (y := 0) rfl ?_
    exact z_iret hx hb hr hlocks hP hD hS (Nat.le_of_ble_eq_true rfl) (Nat.le_of_ble_eq_true rfl) d_Model_count_98 (congrArg (fun z => some (Value.int z)) (by first | decide +kernel | (simp only [a_count, li_3]; (first | rfl | (repeat (first | rw [if_pos (by omega)] | rw [if_neg (by omega)]))))))
  simp only [fa_lt, fa_le, fa_eq, Int32.toInt_toInt64, li_3] at hs_8
  by_cases hs_9 : p0 = 4
  · subst hs_9
    refine lv_tableIn (off := 89) (tgt := 99) hx hb d_Model_count_10 (by decide +kernel) (by decide +kernel) rfl (by decide) ?_
    refine lv_aload_n hx hb d_Model_count_99 rfl (lv_at hl 0 rfl) ?_
    refine va_get (D := G.1) (ci := 12) (v := .ref b20) (C := R_Model) (T := F_Model) (N := 54) hx hb hts i_Model hown hK hP 5 rfl rfl 25 (by decide) (hts _ q1138) (fun _ h9 => h9) rfl d_Model_count_100 ?_
    refine lv_iconst (v := 0) hx hb d_Model_count_103 (by decide) ?_
    refine va_iald hx hb hK hP 0 0 rfl rfl (i := 0) (z_in rfl) d_Model_count_104 ?_
    refine z_topi (y := 0) rfl ?_
    exact z_iret hx hb hr hlocks hP hD hS (Nat.le_of_ble_eq_true rfl) (Nat.le_of_ble_eq_true rfl) d_Model_count_105 (congrArg (fun z => some (Value.int z)) (by first | decide +kernel | (simp only [a_count, li_4]; (first | rfl | (repeat (first | rw [if_pos (by omega)] | rw [if_neg (by omega)]))))))
  simp only [fa_lt, fa_le, fa_eq, Int32.toInt_toInt64, li_4] at hs_9
  by_cases hs_10 : p0 = 5
  · subst hs_10
    refine lv_tableIn (off := 96) (tgt := 106) hx hb d_Model_count_10 (by decide +kernel) (by decide +kernel) rfl (by decide) ?_
    refine lv_aload_n hx hb d_Model_count_106 rfl (lv_at hl 0 rfl) ?_
    refine z_callV (index := 424) (As := []) (rest := []) (wr := [(b20, .inl (G.2 0, 2, .inl (upd (fun _ => 0) 0 0))), (b11, .inl (G.2 0, 4820, .inl (upd (upd (upd (upd (upd (upd (upd (upd (upd (upd (fun _ => 0) 0 (-1)) 1 (-1)) 2 (-1)) 3 (-1)) 4 (-1)) 5 (-1)) 6 (-1)) 7 (-1)) 8 (-1)) 9 (-1)))), (b14, .inl (G.2 0, 482, .inl (upd (upd (fun _ => 0) 0 0) 0 0))), (b10, .inl (G.2 0, 2, .inl (upd (upd (fun _ => 0) 0 0) 0 1))), (b2, .inl (G.2 0, 503, .inl (upd (fun _ => 0) 501 1)))]) Z (c1_Model_finals l G (b0) (b2) (b3) (b4) (b5) (b6) (b7) (b8) (b9) (b10) (b11) (b12) (b13) (b14) (b15) (b16) (b17) (b18) (b19) (b20) (b21) (b22) (b23) (b24) (b25) (b26) (b27) (b28) (b29) (b30) (b31) (b32) (b33) (b34) (b35) (b36) (b37) (b38) (b39) (b40)) hl.1 q1659 q1661 qs103 q14 q1662 ⟨by decide, by decide, by show _ = some 0; decide +kernel⟩ ⟨Nat.le_of_ble_eq_true rfl, Nat.le_of_ble_eq_true rfl⟩ ⟨Nat.le_of_ble_eq_true rfl, Nat.le_of_ble_eq_true rfl⟩ rfl (Nat.le_of_ble_eq_true rfl) d_Model_count_107 hP hD hS hA 5 12 rfl rfl rfl [5, 3] [0, 1, 2, 4, 6] rfl rfl rfl rfl (by decide) (fun v w1 H locs hw_11 hP hD hS => ?_)
    obtain ⟨rfl, rfl⟩ := hw_11
    have hP : va_P G.1 classes [(b20, .inl (G.2 0, 2, .inl (upd (fun _ => 0) 0 0))), (b11, .inl (G.2 0, 4820, .inl (upd (upd (upd (upd (upd (upd (upd (upd (upd (upd (fun _ => 0) 0 (-1)) 1 (-1)) 2 (-1)) 3 (-1)) 4 (-1)) 5 (-1)) 6 (-1)) 7 (-1)) 8 (-1)) 9 (-1)))), (b14, .inl (G.2 0, 482, .inl (upd (upd (fun _ => 0) 0 0) 0 0))), (b10, .inl (G.2 0, 2, .inl (upd (upd (fun _ => 0) 0 0) 0 1))), (b2, .inl (G.2 0, 503, .inl (upd (fun _ => 0) 501 1))), (b0, .inr (12, [.int 0, .ref b2, .ref b3, .ref b4, .ref b5, .int 0, .ref b6, .int 0, .int 0, .int 0, .int 0, .ref b7, .ref b8, .ref b9, .int 0, .ref b10, .ref b11, .ref b12, .ref b13, .ref b14, .ref b15, .ref b16, .ref b17, .ref b18, .ref b19, .ref b20, .ref b21, .int 0, .ref b22, .ref b23, .int 0, .int 0, .int 0, .int 0, .ref b24, .ref b25, .ref b26, .ref b27, .ref b28, .ref b29, .ref b30, .int 0, .ref b31, .ref b32, .int 0, .ref b33, .ref b34, .ref b35, .ref b36, .ref b37, .int 0, .ref b38, .ref b39, .ref b40])), (b16, .inl (G.2 0, 2, .inl (upd (fun _ => 0) 0 0)))] H := hP
    have hD := z_tie hP hD rfl
    refine W.widen (k := 0) (n := 0) (Nat.le_of_ble_eq_true rfl) (Nat.le_of_ble_eq_true rfl) ?_
    exact z_iret hx hb hr hlocks hP hD hS (Nat.le_of_ble_eq_true rfl) (Nat.le_of_ble_eq_true rfl) d_Model_count_110 (congrArg (fun z => some (Value.int z)) (by first | decide +kernel | (simp only [a_count, li_5]; (first | rfl | (repeat (first | rw [if_pos (by omega)] | rw [if_neg (by omega)]))))))
  simp only [fa_lt, fa_le, fa_eq, Int32.toInt_toInt64, li_5] at hs_10
  by_cases hs_12 : p0 = 6
  · subst hs_12
    refine lv_tableIn (off := 101) (tgt := 111) hx hb d_Model_count_10 (by decide +kernel) (by decide +kernel) rfl (by decide) ?_
    refine lv_aload_n hx hb d_Model_count_111 rfl (lv_at hl 0 rfl) ?_
    refine va_get (D := G.1) (ci := 12) (v := .ref b2) (C := R_Model) (T := F_Model) (N := 54) hx hb hts i_Model hown hK hP 5 rfl rfl 1 (by decide) (hts _ q1114) (fun _ h9 => h9) rfl d_Model_count_112 ?_
    refine lv_sipush (v := 501) hx hb d_Model_count_115 (by decide) ?_
    refine va_iald hx hb hK hP 6 0 rfl rfl (i := 501) (z_in rfl) d_Model_count_118 ?_
    refine z_topi (y := 1) rfl ?_
    exact z_iret hx hb hr hlocks hP hD hS (Nat.le_of_ble_eq_true rfl) (Nat.le_of_ble_eq_true rfl) d_Model_count_119 (congrArg (fun z => some (Value.int z)) (by first | decide +kernel | (simp only [a_count, li_6]; (first | rfl | (repeat (first | rw [if_pos (by omega)] | rw [if_neg (by omega)]))))))
  simp only [fa_lt, fa_le, fa_eq, Int32.toInt_toInt64, li_6] at hs_12
  by_cases hs_13 : p0 = 7
  · subst hs_13
    refine lv_tableIn (off := 110) (tgt := 120) hx hb d_Model_count_10 (by decide +kernel) (by decide +kernel) rfl (by decide) ?_
    refine lv_aload_n hx hb d_Model_count_120 rfl (lv_at hl 0 rfl) ?_
    refine va_get (D := G.1) (ci := 12) (v := .ref b2) (C := R_Model) (T := F_Model) (N := 54) hx hb hts i_Model hown hK hP 5 rfl rfl 1 (by decide) (hts _ q1114) (fun _ h9 => h9) rfl d_Model_count_121 ?_
    refine lv_sipush (v := 502) hx hb d_Model_count_124 (by decide) ?_
    refine va_iald hx hb hK hP 6 0 rfl rfl (i := 502) (z_in rfl) d_Model_count_127 ?_
    refine z_topi (y := 0) rfl ?_
    exact z_iret hx hb hr hlocks hP hD hS (Nat.le_of_ble_eq_true rfl) (Nat.le_of_ble_eq_true rfl) d_Model_count_128 (congrArg (fun z => some (Value.int z)) (by first | decide +kernel | (simp only [a_count, li_7]; (first | rfl | (repeat (first | rw [if_pos (by omega)] | rw [if_neg (by omega)]))))))
  simp only [fa_lt, fa_le, fa_eq, Int32.toInt_toInt64, li_7] at hs_13
  by_cases hs_14 : p0 = 8
  · subst hs_14
    refine lv_tableIn (off := 119) (tgt := 129) hx hb d_Model_count_10 (by decide +kernel) (by decide +kernel) rfl (by decide) ?_
    refine lv_aload_n hx hb d_Model_count_129 rfl (lv_at hl 0 rfl) ?_
    refine va_get (D := G.1) (ci := 12) (v := .int 0) (C := R_Model) (T := F_Model) (N := 54) hx hb hts i_Model hown hK hP 5 rfl rfl 7 (by decide) (hts _ q1120) (fun _ h9 => h9) rfl d_Model_count_130 ?_
    exact z_iret hx hb hr hlocks hP hD hS (Nat.le_of_ble_eq_true rfl) (Nat.le_of_ble_eq_true rfl) d_Model_count_133 (congrArg (fun z => some (Value.int z)) (by first | decide +kernel | (simp only [a_count, li_8]; (first | rfl | (repeat (first | rw [if_pos (by omega)] | rw [if_neg (by omega)]))))))
  simp only [fa_lt, fa_le, fa_eq, Int32.toInt_toInt64, li_8] at hs_14
  by_cases hs_15 : p0 = 9
  · subst hs_15
    refine lv_tableIn (off := 124) (tgt := 134) hx hb d_Model_count_10 (by decide +kernel) (by decide +kernel) rfl (by decide) ?_
    refine lv_aload_n hx hb d_Model_count_134 rfl (lv_at hl 0 rfl) ?_
    refine va_get (D := G.1) (ci := 12) (v := .int 0) (C := R_Model) (T := F_Model) (N := 54) hx hb hts i_Model hown hK hP 5 rfl rfl 5 (by decide) (hts _ q1118) (fun _ h9 => h9) rfl d_Model_count_135 ?_
    exact z_iret hx hb hr hlocks hP hD hS (Nat.le_of_ble_eq_true rfl) (Nat.le_of_ble_eq_true rfl) d_Model_count_138 (congrArg (fun z => some (Value.int z)) (by first | decide +kernel | (simp only [a_count, li_9]; (first | rfl | (repeat (first | rw [if_pos (by omega)] | rw [if_neg (by omega)]))))))
  simp only [fa_lt, fa_le, fa_eq, Int32.toInt_toInt64, li_9] at hs_15
  refine lv_tableOut (tgt := 139) hx hb d_Model_count_10 (by omega) (by decide) ?_
  refine lv_iconst (v := (-1)) hx hb d_Model_count_139 (by decide) ?_
  exact z_iret hx hb hr hlocks hP hD hS (Nat.le_of_ble_eq_true rfl) (Nat.le_of_ble_eq_true rfl) d_Model_count_140 (congrArg (fun z => some (Value.int z)) (by unfold a_count; (first | rfl | (repeat (first | rw [if_pos (by omega)] | rw [if_neg (by omega)])))))
